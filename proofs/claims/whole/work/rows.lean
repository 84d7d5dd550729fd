section
-- ===== PART A: goes FIRST, ahead of the names: the tables' words, and 'selects' of the private methods out of them =====
/-- a private method of a class that the tables say can be made, by its rows of tables_1 -/
def lw_okq (q : MethodName × Nat) : Prop := (q.1.cls ≠ "java/lang/invoke/MethodHandle" ∧ q.1.cls ≠ "java/lang/invoke/VarHandle") ∧ Cond.instantiable q.1.cls q.2 ∈ tables_1 ∧ Cond.privateMethod q.1 ∈ tables_1 ∧ Cond.instanceMethod q.1 ∈ tables_1
theorem lw_p0 : lw_okq (⟨"DoorStars", "refused", "(I)I"⟩, 16) := ⟨⟨by decide +kernel, by decide +kernel⟩, List.mem_of_getElem? (i := 16) (by decide +kernel), List.mem_of_getElem? (i := 350) (by decide +kernel), List.mem_of_getElem? (i := 351) (by decide +kernel)⟩
theorem lw_p1 : lw_okq (⟨"DoorStars", "isKin", "(II)Z"⟩, 16) := ⟨⟨by decide +kernel, by decide +kernel⟩, List.mem_of_getElem? (i := 16) (by decide +kernel), List.mem_of_getElem? (i := 433) (by decide +kernel), List.mem_of_getElem? (i := 434) (by decide +kernel)⟩
theorem lw_p2 : lw_okq (⟨"DoorStars", "starOf", "(III)I"⟩, 16) := ⟨⟨by decide +kernel, by decide +kernel⟩, List.mem_of_getElem? (i := 16) (by decide +kernel), List.mem_of_getElem? (i := 538) (by decide +kernel), List.mem_of_getElem? (i := 539) (by decide +kernel)⟩
theorem lw_p3 : lw_okq (⟨"DoorStars$Tables", "inForceOn", "(I)I"⟩, 3) := ⟨⟨by decide +kernel, by decide +kernel⟩, List.mem_of_getElem? (i := 135) (by decide +kernel), List.mem_of_getElem? (i := 550) (by decide +kernel), List.mem_of_getElem? (i := 551) (by decide +kernel)⟩
theorem lw_p4 : lw_okq (⟨"DoorStars", "riskOf", "(I)I"⟩, 16) := ⟨⟨by decide +kernel, by decide +kernel⟩, List.mem_of_getElem? (i := 16) (by decide +kernel), List.mem_of_getElem? (i := 582) (by decide +kernel), List.mem_of_getElem? (i := 583) (by decide +kernel)⟩
theorem lw_p5 : lw_okq (⟨"DoorStars", "dueOf", "(II)I"⟩, 16) := ⟨⟨by decide +kernel, by decide +kernel⟩, List.mem_of_getElem? (i := 16) (by decide +kernel), List.mem_of_getElem? (i := 594) (by decide +kernel), List.mem_of_getElem? (i := 595) (by decide +kernel)⟩
theorem lw_p6 : lw_okq (⟨"DoorStars", "planWeek", "(I)I"⟩, 16) := ⟨⟨by decide +kernel, by decide +kernel⟩, List.mem_of_getElem? (i := 16) (by decide +kernel), List.mem_of_getElem? (i := 616) (by decide +kernel), List.mem_of_getElem? (i := 617) (by decide +kernel)⟩
theorem lw_p7 : lw_okq (⟨"DoorStars", "dearestToLeave", "()I"⟩, 16) := ⟨⟨by decide +kernel, by decide +kernel⟩, List.mem_of_getElem? (i := 16) (by decide +kernel), List.mem_of_getElem? (i := 620) (by decide +kernel), List.mem_of_getElem? (i := 621) (by decide +kernel)⟩
theorem lw_p8 : lw_okq (⟨"DoorStars", "dearestBeside", "(I)I"⟩, 16) := ⟨⟨by decide +kernel, by decide +kernel⟩, List.mem_of_getElem? (i := 16) (by decide +kernel), List.mem_of_getElem? (i := 624) (by decide +kernel), List.mem_of_getElem? (i := 625) (by decide +kernel)⟩
theorem lw_p9 : lw_okq (⟨"DoorStars", "enterWeek", "(II)V"⟩, 16) := ⟨⟨by decide +kernel, by decide +kernel⟩, List.mem_of_getElem? (i := 16) (by decide +kernel), List.mem_of_getElem? (i := 635) (by decide +kernel), List.mem_of_getElem? (i := 636) (by decide +kernel)⟩
theorem lw_p10 : lw_okq (⟨"DoorStars", "handsFree", "(II)I"⟩, 16) := ⟨⟨by decide +kernel, by decide +kernel⟩, List.mem_of_getElem? (i := 16) (by decide +kernel), List.mem_of_getElem? (i := 639) (by decide +kernel), List.mem_of_getElem? (i := 640) (by decide +kernel)⟩
theorem lw_p11 : lw_okq (⟨"DoorStars$Week", "fillBound", "()V"⟩, 12) := ⟨⟨by decide +kernel, by decide +kernel⟩, List.mem_of_getElem? (i := 151) (by decide +kernel), List.mem_of_getElem? (i := 655) (by decide +kernel), List.mem_of_getElem? (i := 656) (by decide +kernel)⟩
theorem lw_p12 : lw_okq (⟨"DoorStars$Week", "leastFrom", "(I)I"⟩, 12) := ⟨⟨by decide +kernel, by decide +kernel⟩, List.mem_of_getElem? (i := 151) (by decide +kernel), List.mem_of_getElem? (i := 665) (by decide +kernel), List.mem_of_getElem? (i := 666) (by decide +kernel)⟩
theorem lw_p13 : lw_okq (⟨"DoorStars$Week", "fillSums", "([III)V"⟩, 12) := ⟨⟨by decide +kernel, by decide +kernel⟩, List.mem_of_getElem? (i := 151) (by decide +kernel), List.mem_of_getElem? (i := 669) (by decide +kernel), List.mem_of_getElem? (i := 670) (by decide +kernel)⟩
theorem lw_p14 : lw_okq (⟨"DoorStars$Week", "priceOf", "(II)I"⟩, 12) := ⟨⟨by decide +kernel, by decide +kernel⟩, List.mem_of_getElem? (i := 151) (by decide +kernel), List.mem_of_getElem? (i := 673) (by decide +kernel), List.mem_of_getElem? (i := 674) (by decide +kernel)⟩
theorem lw_p15 : lw_okq (⟨"DoorStars$Week", "barWhatFitsNot", "(III)V"⟩, 12) := ⟨⟨by decide +kernel, by decide +kernel⟩, List.mem_of_getElem? (i := 151) (by decide +kernel), List.mem_of_getElem? (i := 677) (by decide +kernel), List.mem_of_getElem? (i := 678) (by decide +kernel)⟩
def lw_privs_1 : List (MethodName × Nat) := [(⟨"DoorStars", "refused", "(I)I"⟩, 16), (⟨"DoorStars", "isKin", "(II)Z"⟩, 16), (⟨"DoorStars", "starOf", "(III)I"⟩, 16), (⟨"DoorStars$Tables", "inForceOn", "(I)I"⟩, 3), (⟨"DoorStars", "riskOf", "(I)I"⟩, 16), (⟨"DoorStars", "dueOf", "(II)I"⟩, 16), (⟨"DoorStars", "planWeek", "(I)I"⟩, 16), (⟨"DoorStars", "dearestToLeave", "()I"⟩, 16), (⟨"DoorStars", "dearestBeside", "(I)I"⟩, 16), (⟨"DoorStars", "enterWeek", "(II)V"⟩, 16), (⟨"DoorStars", "handsFree", "(II)I"⟩, 16), (⟨"DoorStars$Week", "fillBound", "()V"⟩, 12), (⟨"DoorStars$Week", "leastFrom", "(I)I"⟩, 12), (⟨"DoorStars$Week", "fillSums", "([III)V"⟩, 12), (⟨"DoorStars$Week", "priceOf", "(II)I"⟩, 12), (⟨"DoorStars$Week", "barWhatFitsNot", "(III)V"⟩, 12)]
theorem lw_r1 : ∀ q ∈ lw_privs_1, lw_okq q := List.forall_mem_cons.mpr ⟨lw_p0, List.forall_mem_cons.mpr ⟨lw_p1, List.forall_mem_cons.mpr ⟨lw_p2, List.forall_mem_cons.mpr ⟨lw_p3, List.forall_mem_cons.mpr ⟨lw_p4, List.forall_mem_cons.mpr ⟨lw_p5, List.forall_mem_cons.mpr ⟨lw_p6, List.forall_mem_cons.mpr ⟨lw_p7, List.forall_mem_cons.mpr ⟨lw_p8, List.forall_mem_cons.mpr ⟨lw_p9, List.forall_mem_cons.mpr ⟨lw_p10, List.forall_mem_cons.mpr ⟨lw_p11, List.forall_mem_cons.mpr ⟨lw_p12, List.forall_mem_cons.mpr ⟨lw_p13, List.forall_mem_cons.mpr ⟨lw_p14, List.forall_mem_cons.mpr ⟨lw_p15, fun _ h => absurd h List.not_mem_nil⟩⟩⟩⟩⟩⟩⟩⟩⟩⟩⟩⟩⟩⟩⟩⟩
theorem lw_p16 : lw_okq (⟨"DoorStars$Week", "roomOf", "(II)I"⟩, 12) := ⟨⟨by decide +kernel, by decide +kernel⟩, List.mem_of_getElem? (i := 151) (by decide +kernel), List.mem_of_getElem? (i := 681) (by decide +kernel), List.mem_of_getElem? (i := 682) (by decide +kernel)⟩
theorem lw_p17 : lw_okq (⟨"DoorStars$Week", "leastWithDay", "(I)I"⟩, 12) := ⟨⟨by decide +kernel, by decide +kernel⟩, List.mem_of_getElem? (i := 151) (by decide +kernel), List.mem_of_getElem? (i := 686) (by decide +kernel), List.mem_of_getElem? (i := 687) (by decide +kernel)⟩
theorem lw_p18 : lw_okq (⟨"DoorStars$Week", "settle", "(II)I"⟩, 12) := ⟨⟨by decide +kernel, by decide +kernel⟩, List.mem_of_getElem? (i := 151) (by decide +kernel), List.mem_of_getElem? (i := 690) (by decide +kernel), List.mem_of_getElem? (i := 691) (by decide +kernel)⟩
theorem lw_p19 : lw_okq (⟨"DoorStars$Week", "mayTake", "(III)Z"⟩, 12) := ⟨⟨by decide +kernel, by decide +kernel⟩, List.mem_of_getElem? (i := 151) (by decide +kernel), List.mem_of_getElem? (i := 694) (by decide +kernel), List.mem_of_getElem? (i := 695) (by decide +kernel)⟩
theorem lw_p20 : lw_okq (⟨"DoorStars$Week", "changeRoom", "(III)V"⟩, 12) := ⟨⟨by decide +kernel, by decide +kernel⟩, List.mem_of_getElem? (i := 151) (by decide +kernel), List.mem_of_getElem? (i := 698) (by decide +kernel), List.mem_of_getElem? (i := 699) (by decide +kernel)⟩
theorem lw_p21 : lw_okq (⟨"DoorStars$Week", "choose", "(III)I"⟩, 12) := ⟨⟨by decide +kernel, by decide +kernel⟩, List.mem_of_getElem? (i := 151) (by decide +kernel), List.mem_of_getElem? (i := 702) (by decide +kernel), List.mem_of_getElem? (i := 703) (by decide +kernel)⟩
theorem lw_p22 : lw_okq (⟨"DoorStars$Habits", "isDouble", "(II)Z"⟩, 6) := ⟨⟨by decide +kernel, by decide +kernel⟩, List.mem_of_getElem? (i := 194) (by decide +kernel), List.mem_of_getElem? (i := 727) (by decide +kernel), List.mem_of_getElem? (i := 728) (by decide +kernel)⟩
theorem lw_p23 : lw_okq (⟨"DoorStars", "refusedLong", "(I)J"⟩, 16) := ⟨⟨by decide +kernel, by decide +kernel⟩, List.mem_of_getElem? (i := 16) (by decide +kernel), List.mem_of_getElem? (i := 745) (by decide +kernel), List.mem_of_getElem? (i := 746) (by decide +kernel)⟩
theorem lw_p24 : lw_okq (⟨"DoorStars$Habits", "addDouble", "(II)V"⟩, 6) := ⟨⟨by decide +kernel, by decide +kernel⟩, List.mem_of_getElem? (i := 194) (by decide +kernel), List.mem_of_getElem? (i := 763) (by decide +kernel), List.mem_of_getElem? (i := 764) (by decide +kernel)⟩
theorem lw_p25 : lw_okq (⟨"DoorStars$Habits", "spreadJoins", "()V"⟩, 6) := ⟨⟨by decide +kernel, by decide +kernel⟩, List.mem_of_getElem? (i := 194) (by decide +kernel), List.mem_of_getElem? (i := 767) (by decide +kernel), List.mem_of_getElem? (i := 768) (by decide +kernel)⟩
theorem lw_p26 : lw_okq (⟨"DoorStars$Habits", "isLowest", "(I)Z"⟩, 6) := ⟨⟨by decide +kernel, by decide +kernel⟩, List.mem_of_getElem? (i := 194) (by decide +kernel), List.mem_of_getElem? (i := 771) (by decide +kernel), List.mem_of_getElem? (i := 772) (by decide +kernel)⟩
theorem lw_p27 : lw_okq (⟨"DoorStars$Habits", "setToZero", "(I)V"⟩, 6) := ⟨⟨by decide +kernel, by decide +kernel⟩, List.mem_of_getElem? (i := 194) (by decide +kernel), List.mem_of_getElem? (i := 775) (by decide +kernel), List.mem_of_getElem? (i := 776) (by decide +kernel)⟩
theorem lw_p28 : lw_okq (⟨"DoorStars", "evenScore", "(I)V"⟩, 16) := ⟨⟨by decide +kernel, by decide +kernel⟩, List.mem_of_getElem? (i := 16) (by decide +kernel), List.mem_of_getElem? (i := 808) (by decide +kernel), List.mem_of_getElem? (i := 809) (by decide +kernel)⟩
theorem lw_p29 : lw_okq (⟨"DoorStars", "isOtherWhenEvened", "(I)Z"⟩, 16) := ⟨⟨by decide +kernel, by decide +kernel⟩, List.mem_of_getElem? (i := 16) (by decide +kernel), List.mem_of_getElem? (i := 819) (by decide +kernel), List.mem_of_getElem? (i := 820) (by decide +kernel)⟩
theorem lw_p30 : lw_okq (⟨"DoorStars", "dealSeats", "(II)V"⟩, 16) := ⟨⟨by decide +kernel, by decide +kernel⟩, List.mem_of_getElem? (i := 16) (by decide +kernel), List.mem_of_getElem? (i := 827) (by decide +kernel), List.mem_of_getElem? (i := 828) (by decide +kernel)⟩
theorem lw_p31 : lw_okq (⟨"DoorStars$Complaints", "weighAll", "(I)I"⟩, 8) := ⟨⟨by decide +kernel, by decide +kernel⟩, List.mem_of_getElem? (i := 233) (by decide +kernel), List.mem_of_getElem? (i := 871) (by decide +kernel), List.mem_of_getElem? (i := 872) (by decide +kernel)⟩
def lw_privs_2 : List (MethodName × Nat) := [(⟨"DoorStars$Week", "roomOf", "(II)I"⟩, 12), (⟨"DoorStars$Week", "leastWithDay", "(I)I"⟩, 12), (⟨"DoorStars$Week", "settle", "(II)I"⟩, 12), (⟨"DoorStars$Week", "mayTake", "(III)Z"⟩, 12), (⟨"DoorStars$Week", "changeRoom", "(III)V"⟩, 12), (⟨"DoorStars$Week", "choose", "(III)I"⟩, 12), (⟨"DoorStars$Habits", "isDouble", "(II)Z"⟩, 6), (⟨"DoorStars", "refusedLong", "(I)J"⟩, 16), (⟨"DoorStars$Habits", "addDouble", "(II)V"⟩, 6), (⟨"DoorStars$Habits", "spreadJoins", "()V"⟩, 6), (⟨"DoorStars$Habits", "isLowest", "(I)Z"⟩, 6), (⟨"DoorStars$Habits", "setToZero", "(I)V"⟩, 6), (⟨"DoorStars", "evenScore", "(I)V"⟩, 16), (⟨"DoorStars", "isOtherWhenEvened", "(I)Z"⟩, 16), (⟨"DoorStars", "dealSeats", "(II)V"⟩, 16), (⟨"DoorStars$Complaints", "weighAll", "(I)I"⟩, 8)]
theorem lw_r2 : ∀ q ∈ lw_privs_2, lw_okq q := List.forall_mem_cons.mpr ⟨lw_p16, List.forall_mem_cons.mpr ⟨lw_p17, List.forall_mem_cons.mpr ⟨lw_p18, List.forall_mem_cons.mpr ⟨lw_p19, List.forall_mem_cons.mpr ⟨lw_p20, List.forall_mem_cons.mpr ⟨lw_p21, List.forall_mem_cons.mpr ⟨lw_p22, List.forall_mem_cons.mpr ⟨lw_p23, List.forall_mem_cons.mpr ⟨lw_p24, List.forall_mem_cons.mpr ⟨lw_p25, List.forall_mem_cons.mpr ⟨lw_p26, List.forall_mem_cons.mpr ⟨lw_p27, List.forall_mem_cons.mpr ⟨lw_p28, List.forall_mem_cons.mpr ⟨lw_p29, List.forall_mem_cons.mpr ⟨lw_p30, List.forall_mem_cons.mpr ⟨lw_p31, fun _ h => absurd h List.not_mem_nil⟩⟩⟩⟩⟩⟩⟩⟩⟩⟩⟩⟩⟩⟩⟩⟩
theorem lw_p32 : lw_okq (⟨"DoorStars$Complaints", "weightOf", "(II)I"⟩, 8) := ⟨⟨by decide +kernel, by decide +kernel⟩, List.mem_of_getElem? (i := 233) (by decide +kernel), List.mem_of_getElem? (i := 876) (by decide +kernel), List.mem_of_getElem? (i := 877) (by decide +kernel)⟩
theorem lw_p33 : lw_okq (⟨"DoorStars$Kitchens", "shutPast", "(II)I"⟩, 11) := ⟨⟨by decide +kernel, by decide +kernel⟩, List.mem_of_getElem? (i := 57) (by decide +kernel), List.mem_of_getElem? (i := 888) (by decide +kernel), List.mem_of_getElem? (i := 889) (by decide +kernel)⟩
theorem lw_p34 : lw_okq (⟨"DoorStars$Kitchens", "nextShut", "(II)I"⟩, 11) := ⟨⟨by decide +kernel, by decide +kernel⟩, List.mem_of_getElem? (i := 57) (by decide +kernel), List.mem_of_getElem? (i := 892) (by decide +kernel), List.mem_of_getElem? (i := 893) (by decide +kernel)⟩
theorem lw_p35 : lw_okq (⟨"DoorStars$Trial", "startedSize", "()I"⟩, 6) := ⟨⟨by decide +kernel, by decide +kernel⟩, List.mem_of_getElem? (i := 266) (by decide +kernel), List.mem_of_getElem? (i := 931) (by decide +kernel), List.mem_of_getElem? (i := 932) (by decide +kernel)⟩
theorem lw_p36 : lw_okq (⟨"DoorStars$Trial", "neverSize", "()I"⟩, 6) := ⟨⟨by decide +kernel, by decide +kernel⟩, List.mem_of_getElem? (i := 266) (by decide +kernel), List.mem_of_getElem? (i := 938) (by decide +kernel), List.mem_of_getElem? (i := 939) (by decide +kernel)⟩
theorem lw_p37 : lw_okq (⟨"DoorStars$Trial", "fillRises", "()V"⟩, 6) := ⟨⟨by decide +kernel, by decide +kernel⟩, List.mem_of_getElem? (i := 266) (by decide +kernel), List.mem_of_getElem? (i := 946) (by decide +kernel), List.mem_of_getElem? (i := 947) (by decide +kernel)⟩
theorem lw_p38 : lw_okq (⟨"DoorStars$Trial", "effectBy", "([I)J"⟩, 6) := ⟨⟨by decide +kernel, by decide +kernel⟩, List.mem_of_getElem? (i := 266) (by decide +kernel), List.mem_of_getElem? (i := 951) (by decide +kernel), List.mem_of_getElem? (i := 952) (by decide +kernel)⟩
theorem lw_p39 : lw_okq (⟨"DoorStars$Trial", "neverRise", "([II)J"⟩, 6) := ⟨⟨by decide +kernel, by decide +kernel⟩, List.mem_of_getElem? (i := 266) (by decide +kernel), List.mem_of_getElem? (i := 955) (by decide +kernel), List.mem_of_getElem? (i := 956) (by decide +kernel)⟩
theorem lw_p40 : lw_okq (⟨"DoorStars$Trial", "deal", "(I)V"⟩, 6) := ⟨⟨by decide +kernel, by decide +kernel⟩, List.mem_of_getElem? (i := 266) (by decide +kernel), List.mem_of_getElem? (i := 968) (by decide +kernel), List.mem_of_getElem? (i := 969) (by decide +kernel)⟩
theorem lw_p41 : lw_okq (⟨"DoorStars", "refusalsOf", "(I)I"⟩, 16) := ⟨⟨by decide +kernel, by decide +kernel⟩, List.mem_of_getElem? (i := 16) (by decide +kernel), List.mem_of_getElem? (i := 999) (by decide +kernel), List.mem_of_getElem? (i := 1000) (by decide +kernel)⟩
theorem lw_p42 : lw_okq (⟨"DoorStarsModel", "refuse", "(I)I"⟩, 62) := ⟨⟨by decide +kernel, by decide +kernel⟩, List.mem_of_getElem? (i := 1003) (by decide +kernel), List.mem_of_getElem? (i := 1200) (by decide +kernel), List.mem_of_getElem? (i := 1201) (by decide +kernel)⟩
theorem lw_p43 : lw_okq (⟨"DoorStarsModel", "isCode", "(I)Z"⟩, 62) := ⟨⟨by decide +kernel, by decide +kernel⟩, List.mem_of_getElem? (i := 1003) (by decide +kernel), List.mem_of_getElem? (i := 1215) (by decide +kernel), List.mem_of_getElem? (i := 1216) (by decide +kernel)⟩
theorem lw_p44 : lw_okq (⟨"DoorStarsModel", "standsFor", "(II)I"⟩, 62) := ⟨⟨by decide +kernel, by decide +kernel⟩, List.mem_of_getElem? (i := 1003) (by decide +kernel), List.mem_of_getElem? (i := 1226) (by decide +kernel), List.mem_of_getElem? (i := 1227) (by decide +kernel)⟩
theorem lw_p45 : lw_okq (⟨"DoorStarsModel", "isKitchen", "(I)Z"⟩, 62) := ⟨⟨by decide +kernel, by decide +kernel⟩, List.mem_of_getElem? (i := 1003) (by decide +kernel), List.mem_of_getElem? (i := 1242) (by decide +kernel), List.mem_of_getElem? (i := 1243) (by decide +kernel)⟩
theorem lw_p46 : lw_okq (⟨"DoorStarsModel", "isLook", "(I)Z"⟩, 62) := ⟨⟨by decide +kernel, by decide +kernel⟩, List.mem_of_getElem? (i := 1003) (by decide +kernel), List.mem_of_getElem? (i := 1262) (by decide +kernel), List.mem_of_getElem? (i := 1263) (by decide +kernel)⟩
theorem lw_p47 : lw_okq (⟨"DoorStarsModel", "scoreOf", "(II)I"⟩, 62) := ⟨⟨by decide +kernel, by decide +kernel⟩, List.mem_of_getElem? (i := 1003) (by decide +kernel), List.mem_of_getElem? (i := 1270) (by decide +kernel), List.mem_of_getElem? (i := 1271) (by decide +kernel)⟩
def lw_privs_3 : List (MethodName × Nat) := [(⟨"DoorStars$Complaints", "weightOf", "(II)I"⟩, 8), (⟨"DoorStars$Kitchens", "shutPast", "(II)I"⟩, 11), (⟨"DoorStars$Kitchens", "nextShut", "(II)I"⟩, 11), (⟨"DoorStars$Trial", "startedSize", "()I"⟩, 6), (⟨"DoorStars$Trial", "neverSize", "()I"⟩, 6), (⟨"DoorStars$Trial", "fillRises", "()V"⟩, 6), (⟨"DoorStars$Trial", "effectBy", "([I)J"⟩, 6), (⟨"DoorStars$Trial", "neverRise", "([II)J"⟩, 6), (⟨"DoorStars$Trial", "deal", "(I)V"⟩, 6), (⟨"DoorStars", "refusalsOf", "(I)I"⟩, 16), (⟨"DoorStarsModel", "refuse", "(I)I"⟩, 62), (⟨"DoorStarsModel", "isCode", "(I)Z"⟩, 62), (⟨"DoorStarsModel", "standsFor", "(II)I"⟩, 62), (⟨"DoorStarsModel", "isKitchen", "(I)Z"⟩, 62), (⟨"DoorStarsModel", "isLook", "(I)Z"⟩, 62), (⟨"DoorStarsModel", "scoreOf", "(II)I"⟩, 62)]
theorem lw_r3 : ∀ q ∈ lw_privs_3, lw_okq q := List.forall_mem_cons.mpr ⟨lw_p32, List.forall_mem_cons.mpr ⟨lw_p33, List.forall_mem_cons.mpr ⟨lw_p34, List.forall_mem_cons.mpr ⟨lw_p35, List.forall_mem_cons.mpr ⟨lw_p36, List.forall_mem_cons.mpr ⟨lw_p37, List.forall_mem_cons.mpr ⟨lw_p38, List.forall_mem_cons.mpr ⟨lw_p39, List.forall_mem_cons.mpr ⟨lw_p40, List.forall_mem_cons.mpr ⟨lw_p41, List.forall_mem_cons.mpr ⟨lw_p42, List.forall_mem_cons.mpr ⟨lw_p43, List.forall_mem_cons.mpr ⟨lw_p44, List.forall_mem_cons.mpr ⟨lw_p45, List.forall_mem_cons.mpr ⟨lw_p46, List.forall_mem_cons.mpr ⟨lw_p47, fun _ h => absurd h List.not_mem_nil⟩⟩⟩⟩⟩⟩⟩⟩⟩⟩⟩⟩⟩⟩⟩⟩
theorem lw_p48 : lw_okq (⟨"DoorStarsModel", "starOf", "(III)I"⟩, 62) := ⟨⟨by decide +kernel, by decide +kernel⟩, List.mem_of_getElem? (i := 1003) (by decide +kernel), List.mem_of_getElem? (i := 1282) (by decide +kernel), List.mem_of_getElem? (i := 1283) (by decide +kernel)⟩
theorem lw_p49 : lw_okq (⟨"DoorStarsModel", "lookOn", "(III)I"⟩, 62) := ⟨⟨by decide +kernel, by decide +kernel⟩, List.mem_of_getElem? (i := 1003) (by decide +kernel), List.mem_of_getElem? (i := 1286) (by decide +kernel), List.mem_of_getElem? (i := 1287) (by decide +kernel)⟩
theorem lw_p50 : lw_okq (⟨"DoorStarsModel", "countsBy", "(II)Z"⟩, 62) := ⟨⟨by decide +kernel, by decide +kernel⟩, List.mem_of_getElem? (i := 1003) (by decide +kernel), List.mem_of_getElem? (i := 1290) (by decide +kernel), List.mem_of_getElem? (i := 1291) (by decide +kernel)⟩
theorem lw_p51 : lw_okq (⟨"DoorStarsModel", "starBy", "(JJI)I"⟩, 62) := ⟨⟨by decide +kernel, by decide +kernel⟩, List.mem_of_getElem? (i := 1003) (by decide +kernel), List.mem_of_getElem? (i := 1294) (by decide +kernel), List.mem_of_getElem? (i := 1295) (by decide +kernel)⟩
theorem lw_p52 : lw_okq (⟨"DoorStarsModel", "riskOf", "(I)I"⟩, 62) := ⟨⟨by decide +kernel, by decide +kernel⟩, List.mem_of_getElem? (i := 1003) (by decide +kernel), List.mem_of_getElem? (i := 1314) (by decide +kernel), List.mem_of_getElem? (i := 1315) (by decide +kernel)⟩
theorem lw_p53 : lw_okq (⟨"DoorStarsModel", "dueOf", "(I)I"⟩, 62) := ⟨⟨by decide +kernel, by decide +kernel⟩, List.mem_of_getElem? (i := 1003) (by decide +kernel), List.mem_of_getElem? (i := 1318) (by decide +kernel), List.mem_of_getElem? (i := 1319) (by decide +kernel)⟩
theorem lw_p54 : lw_okq (⟨"DoorStarsModel", "costOf", "(II)I"⟩, 62) := ⟨⟨by decide +kernel, by decide +kernel⟩, List.mem_of_getElem? (i := 1003) (by decide +kernel), List.mem_of_getElem? (i := 1326) (by decide +kernel), List.mem_of_getElem? (i := 1327) (by decide +kernel)⟩
theorem lw_p55 : lw_okq (⟨"DoorStarsModel", "wrongRounds", "(I)I"⟩, 62) := ⟨⟨by decide +kernel, by decide +kernel⟩, List.mem_of_getElem? (i := 1003) (by decide +kernel), List.mem_of_getElem? (i := 1338) (by decide +kernel), List.mem_of_getElem? (i := 1339) (by decide +kernel)⟩
theorem lw_p56 : lw_okq (⟨"DoorStarsModel", "findRounds", "(I)I"⟩, 62) := ⟨⟨by decide +kernel, by decide +kernel⟩, List.mem_of_getElem? (i := 1003) (by decide +kernel), List.mem_of_getElem? (i := 1342) (by decide +kernel), List.mem_of_getElem? (i := 1343) (by decide +kernel)⟩
theorem lw_p57 : lw_okq (⟨"DoorStarsModel", "ask", "()V"⟩, 62) := ⟨⟨by decide +kernel, by decide +kernel⟩, List.mem_of_getElem? (i := 1003) (by decide +kernel), List.mem_of_getElem? (i := 1346) (by decide +kernel), List.mem_of_getElem? (i := 1347) (by decide +kernel)⟩
theorem lw_p58 : lw_okq (⟨"DoorStarsModel", "use", "(II)V"⟩, 62) := ⟨⟨by decide +kernel, by decide +kernel⟩, List.mem_of_getElem? (i := 1003) (by decide +kernel), List.mem_of_getElem? (i := 1350) (by decide +kernel), List.mem_of_getElem? (i := 1351) (by decide +kernel)⟩
theorem lw_p59 : lw_okq (⟨"DoorStarsModel", "mayTake", "(III)Z"⟩, 62) := ⟨⟨by decide +kernel, by decide +kernel⟩, List.mem_of_getElem? (i := 1003) (by decide +kernel), List.mem_of_getElem? (i := 1354) (by decide +kernel), List.mem_of_getElem? (i := 1355) (by decide +kernel)⟩
theorem lw_p60 : lw_okq (⟨"DoorStarsModel", "isDouble", "(II)Z"⟩, 62) := ⟨⟨by decide +kernel, by decide +kernel⟩, List.mem_of_getElem? (i := 1003) (by decide +kernel), List.mem_of_getElem? (i := 1369) (by decide +kernel), List.mem_of_getElem? (i := 1370) (by decide +kernel)⟩
theorem lw_p61 : lw_okq (⟨"DoorStarsModel", "refuseFar", "(I)J"⟩, 62) := ⟨⟨by decide +kernel, by decide +kernel⟩, List.mem_of_getElem? (i := 1003) (by decide +kernel), List.mem_of_getElem? (i := 1377) (by decide +kernel), List.mem_of_getElem? (i := 1378) (by decide +kernel)⟩
theorem lw_p62 : lw_okq (⟨"DoorStarsModel", "findHabit", "(I)V"⟩, 62) := ⟨⟨by decide +kernel, by decide +kernel⟩, List.mem_of_getElem? (i := 1003) (by decide +kernel), List.mem_of_getElem? (i := 1382) (by decide +kernel), List.mem_of_getElem? (i := 1383) (by decide +kernel)⟩
theorem lw_p63 : lw_okq (⟨"DoorStarsModel", "findDoubles", "()V"⟩, 62) := ⟨⟨by decide +kernel, by decide +kernel⟩, List.mem_of_getElem? (i := 1003) (by decide +kernel), List.mem_of_getElem? (i := 1386) (by decide +kernel), List.mem_of_getElem? (i := 1387) (by decide +kernel)⟩
def lw_privs_4 : List (MethodName × Nat) := [(⟨"DoorStarsModel", "starOf", "(III)I"⟩, 62), (⟨"DoorStarsModel", "lookOn", "(III)I"⟩, 62), (⟨"DoorStarsModel", "countsBy", "(II)Z"⟩, 62), (⟨"DoorStarsModel", "starBy", "(JJI)I"⟩, 62), (⟨"DoorStarsModel", "riskOf", "(I)I"⟩, 62), (⟨"DoorStarsModel", "dueOf", "(I)I"⟩, 62), (⟨"DoorStarsModel", "costOf", "(II)I"⟩, 62), (⟨"DoorStarsModel", "wrongRounds", "(I)I"⟩, 62), (⟨"DoorStarsModel", "findRounds", "(I)I"⟩, 62), (⟨"DoorStarsModel", "ask", "()V"⟩, 62), (⟨"DoorStarsModel", "use", "(II)V"⟩, 62), (⟨"DoorStarsModel", "mayTake", "(III)Z"⟩, 62), (⟨"DoorStarsModel", "isDouble", "(II)Z"⟩, 62), (⟨"DoorStarsModel", "refuseFar", "(I)J"⟩, 62), (⟨"DoorStarsModel", "findHabit", "(I)V"⟩, 62), (⟨"DoorStarsModel", "findDoubles", "()V"⟩, 62)]
theorem lw_r4 : ∀ q ∈ lw_privs_4, lw_okq q := List.forall_mem_cons.mpr ⟨lw_p48, List.forall_mem_cons.mpr ⟨lw_p49, List.forall_mem_cons.mpr ⟨lw_p50, List.forall_mem_cons.mpr ⟨lw_p51, List.forall_mem_cons.mpr ⟨lw_p52, List.forall_mem_cons.mpr ⟨lw_p53, List.forall_mem_cons.mpr ⟨lw_p54, List.forall_mem_cons.mpr ⟨lw_p55, List.forall_mem_cons.mpr ⟨lw_p56, List.forall_mem_cons.mpr ⟨lw_p57, List.forall_mem_cons.mpr ⟨lw_p58, List.forall_mem_cons.mpr ⟨lw_p59, List.forall_mem_cons.mpr ⟨lw_p60, List.forall_mem_cons.mpr ⟨lw_p61, List.forall_mem_cons.mpr ⟨lw_p62, List.forall_mem_cons.mpr ⟨lw_p63, fun _ h => absurd h List.not_mem_nil⟩⟩⟩⟩⟩⟩⟩⟩⟩⟩⟩⟩⟩⟩⟩⟩
theorem lw_p64 : lw_okq (⟨"DoorStarsModel", "isJoined", "(I)Z"⟩, 62) := ⟨⟨by decide +kernel, by decide +kernel⟩, List.mem_of_getElem? (i := 1003) (by decide +kernel), List.mem_of_getElem? (i := 1390) (by decide +kernel), List.mem_of_getElem? (i := 1391) (by decide +kernel)⟩
theorem lw_p65 : lw_okq (⟨"DoorStarsModel", "determinant", "(I)J"⟩, 62) := ⟨⟨by decide +kernel, by decide +kernel⟩, List.mem_of_getElem? (i := 1003) (by decide +kernel), List.mem_of_getElem? (i := 1394) (by decide +kernel), List.mem_of_getElem? (i := 1395) (by decide +kernel)⟩
theorem lw_p66 : lw_okq (⟨"DoorStarsModel", "entry", "(III)J"⟩, 62) := ⟨⟨by decide +kernel, by decide +kernel⟩, List.mem_of_getElem? (i := 1003) (by decide +kernel), List.mem_of_getElem? (i := 1398) (by decide +kernel), List.mem_of_getElem? (i := 1399) (by decide +kernel)⟩
theorem lw_p67 : lw_okq (⟨"DoorStarsModel", "findEvened", "(I)V"⟩, 62) := ⟨⟨by decide +kernel, by decide +kernel⟩, List.mem_of_getElem? (i := 1003) (by decide +kernel), List.mem_of_getElem? (i := 1409) (by decide +kernel), List.mem_of_getElem? (i := 1410) (by decide +kernel)⟩
theorem lw_p68 : lw_okq (⟨"DoorStarsModel", "weightOf", "(II)I"⟩, 62) := ⟨⟨by decide +kernel, by decide +kernel⟩, List.mem_of_getElem? (i := 1003) (by decide +kernel), List.mem_of_getElem? (i := 1433) (by decide +kernel), List.mem_of_getElem? (i := 1434) (by decide +kernel)⟩
theorem lw_p69 : lw_okq (⟨"DoorStarsModel", "weightsOf", "(I)I"⟩, 62) := ⟨⟨by decide +kernel, by decide +kernel⟩, List.mem_of_getElem? (i := 1003) (by decide +kernel), List.mem_of_getElem? (i := 1437) (by decide +kernel), List.mem_of_getElem? (i := 1438) (by decide +kernel)⟩
theorem lw_p70 : lw_okq (⟨"DoorStarsModel", "joinedTo", "(I)I"⟩, 62) := ⟨⟨by decide +kernel, by decide +kernel⟩, List.mem_of_getElem? (i := 1003) (by decide +kernel), List.mem_of_getElem? (i := 1445) (by decide +kernel), List.mem_of_getElem? (i := 1446) (by decide +kernel)⟩
theorem lw_p71 : lw_okq (⟨"DoorStarsModel", "findTrue", "()Z"⟩, 62) := ⟨⟨by decide +kernel, by decide +kernel⟩, List.mem_of_getElem? (i := 1003) (by decide +kernel), List.mem_of_getElem? (i := 1462) (by decide +kernel), List.mem_of_getElem? (i := 1463) (by decide +kernel)⟩
theorem lw_p72 : lw_okq (⟨"DoorStarsModel", "findEffect", "()Z"⟩, 62) := ⟨⟨by decide +kernel, by decide +kernel⟩, List.mem_of_getElem? (i := 1003) (by decide +kernel), List.mem_of_getElem? (i := 1466) (by decide +kernel), List.mem_of_getElem? (i := 1467) (by decide +kernel)⟩
theorem lw_p73 : lw_okq (⟨"DoorStarsModel", "casesOf", "(IIZ)J"⟩, 62) := ⟨⟨by decide +kernel, by decide +kernel⟩, List.mem_of_getElem? (i := 1003) (by decide +kernel), List.mem_of_getElem? (i := 1470) (by decide +kernel), List.mem_of_getElem? (i := 1471) (by decide +kernel)⟩
theorem lw_p74 : lw_okq (⟨"DoorStarsModel", "addEffect", "(JJ)V"⟩, 62) := ⟨⟨by decide +kernel, by decide +kernel⟩, List.mem_of_getElem? (i := 1003) (by decide +kernel), List.mem_of_getElem? (i := 1474) (by decide +kernel), List.mem_of_getElem? (i := 1475) (by decide +kernel)⟩
theorem lw_p75 : lw_okq (⟨"DoorStarsModel", "findChance", "()I"⟩, 62) := ⟨⟨by decide +kernel, by decide +kernel⟩, List.mem_of_getElem? (i := 1003) (by decide +kernel), List.mem_of_getElem? (i := 1483) (by decide +kernel), List.mem_of_getElem? (i := 1484) (by decide +kernel)⟩
def lw_privs_5 : List (MethodName × Nat) := [(⟨"DoorStarsModel", "isJoined", "(I)Z"⟩, 62), (⟨"DoorStarsModel", "determinant", "(I)J"⟩, 62), (⟨"DoorStarsModel", "entry", "(III)J"⟩, 62), (⟨"DoorStarsModel", "findEvened", "(I)V"⟩, 62), (⟨"DoorStarsModel", "weightOf", "(II)I"⟩, 62), (⟨"DoorStarsModel", "weightsOf", "(I)I"⟩, 62), (⟨"DoorStarsModel", "joinedTo", "(I)I"⟩, 62), (⟨"DoorStarsModel", "findTrue", "()Z"⟩, 62), (⟨"DoorStarsModel", "findEffect", "()Z"⟩, 62), (⟨"DoorStarsModel", "casesOf", "(IIZ)J"⟩, 62), (⟨"DoorStarsModel", "addEffect", "(JJ)V"⟩, 62), (⟨"DoorStarsModel", "findChance", "()I"⟩, 62)]
theorem lw_r5 : ∀ q ∈ lw_privs_5, lw_okq q := List.forall_mem_cons.mpr ⟨lw_p64, List.forall_mem_cons.mpr ⟨lw_p65, List.forall_mem_cons.mpr ⟨lw_p66, List.forall_mem_cons.mpr ⟨lw_p67, List.forall_mem_cons.mpr ⟨lw_p68, List.forall_mem_cons.mpr ⟨lw_p69, List.forall_mem_cons.mpr ⟨lw_p70, List.forall_mem_cons.mpr ⟨lw_p71, List.forall_mem_cons.mpr ⟨lw_p72, List.forall_mem_cons.mpr ⟨lw_p73, List.forall_mem_cons.mpr ⟨lw_p74, List.forall_mem_cons.mpr ⟨lw_p75, fun _ h => absurd h List.not_mem_nil⟩⟩⟩⟩⟩⟩⟩⟩⟩⟩⟩⟩
def lw_privs : List (MethodName × Nat) := lw_privs_1 ++ (lw_privs_2 ++ (lw_privs_3 ++ (lw_privs_4 ++ (lw_privs_5))))
def lw_tbl : List Cond := k2_sels lw_privs ++ tables_1
theorem lw_privs_ok : ∀ q ∈ lw_privs, lw_okq q := by
  show ∀ q ∈ lw_privs_1 ++ (lw_privs_2 ++ (lw_privs_3 ++ (lw_privs_4 ++ (lw_privs_5)))), lw_okq q
  exact List.forall_mem_append.mpr ⟨lw_r1, List.forall_mem_append.mpr ⟨lw_r2, List.forall_mem_append.mpr ⟨lw_r3, List.forall_mem_append.mpr ⟨lw_r4, lw_r5⟩⟩⟩⟩
end
section
def RX0 : String := "DoorStars$Codes"
def TX0 : u_T := fun k => match k with
  | 0 => ("DoorStars$Codes", "groups", "[I", true)
  | 1 => ("DoorStars$Codes", "points", "[I", true)
  | 2 => ("DoorStars$Codes", "fromDays", "[I", true)
  | 3 => ("DoorStars$Codes", "intos", "[I", true)
  | 4 => ("DoorStars$Codes", "turnDays", "[I", true)
  | 5 => ("DoorStars$Codes", "mosts", "[I", true)
  | _ => ("DoorStars$Codes", "size", "I", false)
def tyX0 : Nat → FieldType := fun k => match k with
  | 0 => .array .int
  | 1 => .array .int
  | 2 => .array .int
  | 3 => .array .int
  | 4 => .array .int
  | 5 => .array .int
  | _ => .int
abbrev wsX00 : List Cond := u_ws RX0 TX0 7
theorem nmX0 : ∀ a, a < 7 → ∀ b, b < 7 → a ≠ b → (TX0 a).2.1 ≠ (TX0 b).2.1 := by decide +kernel
theorem tyX0_ok : ∀ k, k < 7 → parseFieldDescriptor (TX0 k).2.2.1 = some (tyX0 k) := by decide +kernel
abbrev cX0_init : ByteArray := prog_2_method_1_code
def yX0_init : MethodName := ⟨RX0, "<init>", "()V"⟩
abbrev cX0_size : ByteArray := prog_2_method_2_code
def yX0_size : MethodName := ⟨RX0, "size", "()I"⟩
abbrev cX0_isFull : ByteArray := prog_2_method_3_code
def yX0_isFull : MethodName := ⟨RX0, "isFull", "()Z"⟩
abbrev cX0_has : ByteArray := prog_2_method_4_code
def yX0_has : MethodName := ⟨RX0, "has", "(I)Z"⟩
abbrev cX0_add : ByteArray := prog_2_method_5_code
def yX0_add : MethodName := ⟨RX0, "add", "(III)I"⟩
abbrev cX0_isInForce : ByteArray := prog_2_method_6_code
def yX0_isInForce : MethodName := ⟨RX0, "isInForce", "(II)Z"⟩
abbrev cX0_isTurned : ByteArray := prog_2_method_7_code
def yX0_isTurned : MethodName := ⟨RX0, "isTurned", "(I)Z"⟩
abbrev cX0_turnInto : ByteArray := prog_2_method_8_code
def yX0_turnInto : MethodName := ⟨RX0, "turnInto", "(III)V"⟩
abbrev cX0_standingFor : ByteArray := prog_2_method_9_code
def yX0_standingFor : MethodName := ⟨RX0, "standingFor", "(II)I"⟩
abbrev cX0_groupOf : ByteArray := prog_2_method_10_code
def yX0_groupOf : MethodName := ⟨RX0, "groupOf", "(I)I"⟩
abbrev cX0_pointsOf : ByteArray := prog_2_method_11_code
def yX0_pointsOf : MethodName := ⟨RX0, "pointsOf", "(I)I"⟩
abbrev cX0_mostOf : ByteArray := prog_2_method_12_code
def yX0_mostOf : MethodName := ⟨RX0, "mostOf", "(I)I"⟩
abbrev cX0_changeMost : ByteArray := prog_2_method_13_code
def yX0_changeMost : MethodName := ⟨RX0, "changeMost", "(II)I"⟩
def RX1 : String := "DoorStars$Complaints"
def TX1 : u_T := fun k => match k with
  | 0 => ("DoorStars$Complaints", "kitchens", "LDoorStars$Kitchens;", true)
  | 1 => ("DoorStars$Complaints", "streets", "[I", true)
  | 2 => ("DoorStars$Complaints", "fromDays", "[I", true)
  | 3 => ("DoorStars$Complaints", "toDays", "[I", true)
  | 4 => ("DoorStars$Complaints", "dishes", "[I", true)
  | 5 => ("DoorStars$Complaints", "weights", "[I", true)
  | 6 => ("DoorStars$Complaints", "share", "LDoorStars$Fraction;", true)
  | _ => ("DoorStars$Complaints", "size", "I", false)
def tyX1 : Nat → FieldType := fun k => match k with
  | 0 => .object "DoorStars$Kitchens"
  | 1 => .array .int
  | 2 => .array .int
  | 3 => .array .int
  | 4 => .array .int
  | 5 => .array .int
  | 6 => .object "DoorStars$Fraction"
  | _ => .int
abbrev wsX10 : List Cond := u_ws RX1 TX1 8
theorem nmX1 : ∀ a, a < 8 → ∀ b, b < 8 → a ≠ b → (TX1 a).2.1 ≠ (TX1 b).2.1 := by decide +kernel
theorem tyX1_ok : ∀ k, k < 8 → parseFieldDescriptor (TX1 k).2.2.1 = some (tyX1 k) := by decide +kernel
abbrev cX1_init : ByteArray := prog_3_method_1_code
def yX1_init : MethodName := ⟨RX1, "<init>", "(LDoorStars$Kitchens;)V"⟩
abbrev cX1_size : ByteArray := prog_3_method_2_code
def yX1_size : MethodName := ⟨RX1, "size", "()I"⟩
abbrev cX1_isFull : ByteArray := prog_3_method_3_code
def yX1_isFull : MethodName := ⟨RX1, "isFull", "()Z"⟩
abbrev cX1_has : ByteArray := prog_3_method_4_code
def yX1_has : MethodName := ⟨RX1, "has", "(I)Z"⟩
abbrev cX1_add : ByteArray := prog_3_method_5_code
def yX1_add : MethodName := ⟨RX1, "add", "(IIII)I"⟩
abbrev cX1_shareOf : ByteArray := prog_3_method_6_code
def yX1_shareOf : MethodName := ⟨RX1, "shareOf", "(II)LDoorStars$Fraction;"⟩
abbrev cX1_kitchenOf : ByteArray := prog_3_method_7_code
def yX1_kitchenOf : MethodName := ⟨RX1, "kitchenOf", "(I)I"⟩
abbrev cX1_joinedSize : ByteArray := prog_3_method_8_code
def yX1_joinedSize : MethodName := ⟨RX1, "joinedSize", "()I"⟩
abbrev cX1_weighAll : ByteArray := prog_3_method_9_code
def yX1_weighAll : MethodName := ⟨RX1, "weighAll", "(I)I"⟩
abbrev cX1_weightOf : ByteArray := prog_3_method_10_code
def yX1_weightOf : MethodName := ⟨RX1, "weightOf", "(II)I"⟩
def RX2 : String := "DoorStars$Fraction"
def TX2 : u_T := fun k => match k with
  | 0 => ("DoorStars$Fraction", "above", "J", false)
  | _ => ("DoorStars$Fraction", "below", "J", false)
def tyX2 : Nat → FieldType := fun k => match k with
  | 0 => .long
  | _ => .long
abbrev wsX20 : List Cond := u_ws RX2 TX2 2
theorem nmX2 : ∀ a, a < 2 → ∀ b, b < 2 → a ≠ b → (TX2 a).2.1 ≠ (TX2 b).2.1 := by decide +kernel
theorem tyX2_ok : ∀ k, k < 2 → parseFieldDescriptor (TX2 k).2.2.1 = some (tyX2 k) := by decide +kernel
abbrev cX2_init : ByteArray := prog_4_method_1_code
def yX2_init : MethodName := ⟨RX2, "<init>", "()V"⟩
abbrev cX2_put : ByteArray := prog_4_method_2_code
def yX2_put : MethodName := ⟨RX2, "put", "(JJ)V"⟩
abbrev cX2_piece : ByteArray := prog_4_method_3_code
def yX2_piece : MethodName := ⟨RX2, "piece", "(I)J"⟩
abbrev cX2_commonDivisor : ByteArray := prog_4_method_4_code
def yX2_commonDivisor : MethodName := ⟨RX2, "commonDivisor", "(JJ)J"⟩
def RX3 : String := "DoorStars$Habits"
def TX3 : u_T := fun k => match k with
  | 0 => ("DoorStars$Habits", "looks", "LDoorStars$Looks;", true)
  | 1 => ("DoorStars$Habits", "scores", "[I", true)
  | 2 => ("DoorStars$Habits", "matrix", "[J", true)
  | 3 => ("DoorStars$Habits", "right", "[J", true)
  | 4 => ("DoorStars$Habits", "joins", "[I", true)
  | _ => ("DoorStars$Habits", "habit", "LDoorStars$Fraction;", true)
def tyX3 : Nat → FieldType := fun k => match k with
  | 0 => .object "DoorStars$Looks"
  | 1 => .array .int
  | 2 => .array .long
  | 3 => .array .long
  | 4 => .array .int
  | _ => .object "DoorStars$Fraction"
abbrev wsX30 : List Cond := u_ws RX3 TX3 6
theorem nmX3 : ∀ a, a < 6 → ∀ b, b < 6 → a ≠ b → (TX3 a).2.1 ≠ (TX3 b).2.1 := by decide +kernel
theorem tyX3_ok : ∀ k, k < 6 → parseFieldDescriptor (TX3 k).2.2.1 = some (tyX3 k) := by decide +kernel
abbrev cX3_init : ByteArray := prog_5_method_1_code
def yX3_init : MethodName := ⟨RX3, "<init>", "(LDoorStars$Looks;)V"⟩
abbrev cX3_doublesNow : ByteArray := prog_5_method_2_code
def yX3_doublesNow : MethodName := ⟨RX3, "doublesNow", "()I"⟩
abbrev cX3_learn : ByteArray := prog_5_method_3_code
def yX3_learn : MethodName := ⟨RX3, "learn", "()V"⟩
abbrev cX3_isInDouble : ByteArray := prog_5_method_4_code
def yX3_isInDouble : MethodName := ⟨RX3, "isInDouble", "(I)Z"⟩
abbrev cX3_habitOf : ByteArray := prog_5_method_5_code
def yX3_habitOf : MethodName := ⟨RX3, "habitOf", "(I)LDoorStars$Fraction;"⟩
abbrev cX3_isDouble : ByteArray := prog_5_method_6_code
def yX3_isDouble : MethodName := ⟨RX3, "isDouble", "(II)Z"⟩
abbrev cX3_addDouble : ByteArray := prog_5_method_7_code
def yX3_addDouble : MethodName := ⟨RX3, "addDouble", "(II)V"⟩
abbrev cX3_spreadJoins : ByteArray := prog_5_method_8_code
def yX3_spreadJoins : MethodName := ⟨RX3, "spreadJoins", "()V"⟩
abbrev cX3_isLowest : ByteArray := prog_5_method_9_code
def yX3_isLowest : MethodName := ⟨RX3, "isLowest", "(I)Z"⟩
abbrev cX3_setToZero : ByteArray := prog_5_method_10_code
def yX3_setToZero : MethodName := ⟨RX3, "setToZero", "(I)V"⟩
abbrev cX3_determinant : ByteArray := prog_5_method_11_code
def yX3_determinant : MethodName := ⟨RX3, "determinant", "([J[JIII)J"⟩
def RX4 : String := "DoorStars$Kitchens"
def TX4 : u_T := fun k => match k with
  | 0 => ("DoorStars$Kitchens", "kinds", "[I", true)
  | 1 => ("DoorStars$Kitchens", "streets", "[I", true)
  | 2 => ("DoorStars$Kitchens", "mouths", "[I", true)
  | 3 => ("DoorStars$Kitchens", "owners", "[I", true)
  | 4 => ("DoorStars$Kitchens", "dishSets", "[I", true)
  | 5 => ("DoorStars$Kitchens", "shown", "[I", true)
  | 6 => ("DoorStars$Kitchens", "hards", "[Z", true)
  | 7 => ("DoorStars$Kitchens", "shutSizes", "[I", true)
  | 8 => ("DoorStars$Kitchens", "shutFroms", "[I", true)
  | 9 => ("DoorStars$Kitchens", "shutTos", "[I", true)
  | _ => ("DoorStars$Kitchens", "size", "I", false)
def tyX4 : Nat → FieldType := fun k => match k with
  | 0 => .array .int
  | 1 => .array .int
  | 2 => .array .int
  | 3 => .array .int
  | 4 => .array .int
  | 5 => .array .int
  | 6 => .array .boolean
  | 7 => .array .int
  | 8 => .array .int
  | 9 => .array .int
  | _ => .int
abbrev wsX40 : List Cond := u_ws RX4 TX4 11
theorem nmX4 : ∀ a, a < 11 → ∀ b, b < 11 → a ≠ b → (TX4 a).2.1 ≠ (TX4 b).2.1 := by decide +kernel
theorem tyX4_ok : ∀ k, k < 11 → parseFieldDescriptor (TX4 k).2.2.1 = some (tyX4 k) := by decide +kernel
abbrev cX4_init : ByteArray := prog_6_method_1_code
def yX4_init : MethodName := ⟨RX4, "<init>", "()V"⟩
abbrev cX4_size : ByteArray := prog_6_method_2_code
def yX4_size : MethodName := ⟨RX4, "size", "()I"⟩
abbrev cX4_isFull : ByteArray := prog_6_method_3_code
def yX4_isFull : MethodName := ⟨RX4, "isFull", "()Z"⟩
abbrev cX4_has : ByteArray := prog_6_method_4_code
def yX4_has : MethodName := ⟨RX4, "has", "(I)Z"⟩
abbrev cX4_add : ByteArray := prog_6_method_5_code
def yX4_add : MethodName := ⟨RX4, "add", "(IIIII)I"⟩
abbrev cX4_kindOf : ByteArray := prog_6_method_6_code
def yX4_kindOf : MethodName := ⟨RX4, "kindOf", "(I)I"⟩
abbrev cX4_mouthsOf : ByteArray := prog_6_method_7_code
def yX4_mouthsOf : MethodName := ⟨RX4, "mouthsOf", "(I)I"⟩
abbrev cX4_ownerOf : ByteArray := prog_6_method_8_code
def yX4_ownerOf : MethodName := ⟨RX4, "ownerOf", "(I)I"⟩
abbrev cX4_isMeant : ByteArray := prog_6_method_9_code
def yX4_isMeant : MethodName := ⟨RX4, "isMeant", "(III)Z"⟩
abbrev cX4_isHard : ByteArray := prog_6_method_10_code
def yX4_isHard : MethodName := ⟨RX4, "isHard", "(I)Z"⟩
abbrev cX4_changeHard : ByteArray := prog_6_method_11_code
def yX4_changeHard : MethodName := ⟨RX4, "changeHard", "(IZ)V"⟩
abbrev cX4_shownOn : ByteArray := prog_6_method_12_code
def yX4_shownOn : MethodName := ⟨RX4, "shownOn", "(I)I"⟩
abbrev cX4_changeShown : ByteArray := prog_6_method_13_code
def yX4_changeShown : MethodName := ⟨RX4, "changeShown", "(II)I"⟩
abbrev cX4_shutsOf : ByteArray := prog_6_method_14_code
def yX4_shutsOf : MethodName := ⟨RX4, "shutsOf", "(I)I"⟩
abbrev cX4_addShut : ByteArray := prog_6_method_15_code
def yX4_addShut : MethodName := ⟨RX4, "addShut", "(III)I"⟩
abbrev cX4_openDays : ByteArray := prog_6_method_16_code
def yX4_openDays : MethodName := ⟨RX4, "openDays", "(III)I"⟩
abbrev cX4_shutPast : ByteArray := prog_6_method_17_code
def yX4_shutPast : MethodName := ⟨RX4, "shutPast", "(II)I"⟩
abbrev cX4_nextShut : ByteArray := prog_6_method_18_code
def yX4_nextShut : MethodName := ⟨RX4, "nextShut", "(II)I"⟩
def RX5 : String := "DoorStars$Looks"
def TX5 : u_T := fun k => match k with
  | 0 => ("DoorStars$Looks", "codes", "LDoorStars$Codes;", true)
  | 1 => ("DoorStars$Looks", "kitchens", "[I", true)
  | 2 => ("DoorStars$Looks", "inspectors", "[I", true)
  | 3 => ("DoorStars$Looks", "days", "[I", true)
  | 4 => ("DoorStars$Looks", "knownDays", "[I", true)
  | 5 => ("DoorStars$Looks", "backDays", "[I", true)
  | 6 => ("DoorStars$Looks", "found", "[I", true)
  | 7 => ("DoorStars$Looks", "groupSums", "[I", true)
  | 8 => ("DoorStars$Looks", "size", "I", false)
  | _ => ("DoorStars$Looks", "takenBack", "I", false)
def tyX5 : Nat → FieldType := fun k => match k with
  | 0 => .object "DoorStars$Codes"
  | 1 => .array .int
  | 2 => .array .int
  | 3 => .array .int
  | 4 => .array .int
  | 5 => .array .int
  | 6 => .array .int
  | 7 => .array .int
  | 8 => .int
  | _ => .int
abbrev wsX50 : List Cond := u_ws RX5 TX5 10
theorem nmX5 : ∀ a, a < 10 → ∀ b, b < 10 → a ≠ b → (TX5 a).2.1 ≠ (TX5 b).2.1 := by decide +kernel
theorem tyX5_ok : ∀ k, k < 10 → parseFieldDescriptor (TX5 k).2.2.1 = some (tyX5 k) := by decide +kernel
abbrev cX5_init : ByteArray := prog_7_method_1_code
def yX5_init : MethodName := ⟨RX5, "<init>", "(LDoorStars$Codes;)V"⟩
abbrev cX5_size : ByteArray := prog_7_method_2_code
def yX5_size : MethodName := ⟨RX5, "size", "()I"⟩
abbrev cX5_takenBackSize : ByteArray := prog_7_method_3_code
def yX5_takenBackSize : MethodName := ⟨RX5, "takenBackSize", "()I"⟩
abbrev cX5_isFull : ByteArray := prog_7_method_4_code
def yX5_isFull : MethodName := ⟨RX5, "isFull", "()Z"⟩
abbrev cX5_has : ByteArray := prog_7_method_5_code
def yX5_has : MethodName := ⟨RX5, "has", "(I)Z"⟩
abbrev cX5_add : ByteArray := prog_7_method_6_code
def yX5_add : MethodName := ⟨RX5, "add", "(IIII)I"⟩
abbrev cX5_kitchenOf : ByteArray := prog_7_method_7_code
def yX5_kitchenOf : MethodName := ⟨RX5, "kitchenOf", "(I)I"⟩
abbrev cX5_inspectorOf : ByteArray := prog_7_method_8_code
def yX5_inspectorOf : MethodName := ⟨RX5, "inspectorOf", "(I)I"⟩
abbrev cX5_dayOf : ByteArray := prog_7_method_9_code
def yX5_dayOf : MethodName := ⟨RX5, "dayOf", "(I)I"⟩
abbrev cX5_isTakenBack : ByteArray := prog_7_method_10_code
def yX5_isTakenBack : MethodName := ⟨RX5, "isTakenBack", "(I)Z"⟩
abbrev cX5_takeBack : ByteArray := prog_7_method_11_code
def yX5_takeBack : MethodName := ⟨RX5, "takeBack", "(II)V"⟩
abbrev cX5_timesFound : ByteArray := prog_7_method_12_code
def yX5_timesFound : MethodName := ⟨RX5, "timesFound", "(II)I"⟩
abbrev cX5_addFound : ByteArray := prog_7_method_13_code
def yX5_addFound : MethodName := ⟨RX5, "addFound", "(III)I"⟩
abbrev cX5_latestOf : ByteArray := prog_7_method_14_code
def yX5_latestOf : MethodName := ⟨RX5, "latestOf", "(III)I"⟩
abbrev cX5_ownScore : ByteArray := prog_7_method_15_code
def yX5_ownScore : MethodName := ⟨RX5, "ownScore", "(I)I"⟩
abbrev cX5_scoreOn : ByteArray := prog_7_method_16_code
def yX5_scoreOn : MethodName := ⟨RX5, "scoreOn", "(II)I"⟩
def RX6 : String := "DoorStars$Tables"
def TX6 : u_T := fun k => match k with
  | 0 => ("DoorStars$Tables", "fromDays", "[I", true)
  | 1 => ("DoorStars$Tables", "bounds", "[I", true)
  | _ => ("DoorStars$Tables", "size", "I", false)
def tyX6 : Nat → FieldType := fun k => match k with
  | 0 => .array .int
  | 1 => .array .int
  | _ => .int
abbrev wsX60 : List Cond := u_ws RX6 TX6 3
theorem nmX6 : ∀ a, a < 3 → ∀ b, b < 3 → a ≠ b → (TX6 a).2.1 ≠ (TX6 b).2.1 := by decide +kernel
theorem tyX6_ok : ∀ k, k < 3 → parseFieldDescriptor (TX6 k).2.2.1 = some (tyX6 k) := by decide +kernel
abbrev cX6_init : ByteArray := prog_8_method_1_code
def yX6_init : MethodName := ⟨RX6, "<init>", "()V"⟩
abbrev cX6_size : ByteArray := prog_8_method_2_code
def yX6_size : MethodName := ⟨RX6, "size", "()I"⟩
abbrev cX6_isFull : ByteArray := prog_8_method_3_code
def yX6_isFull : MethodName := ⟨RX6, "isFull", "()Z"⟩
abbrev cX6_add : ByteArray := prog_8_method_4_code
def yX6_add : MethodName := ⟨RX6, "add", "(IIIII)I"⟩
abbrev cX6_starOn : ByteArray := prog_8_method_5_code
def yX6_starOn : MethodName := ⟨RX6, "starOn", "(IJJ)I"⟩
abbrev cX6_inForceOn : ByteArray := prog_8_method_6_code
def yX6_inForceOn : MethodName := ⟨RX6, "inForceOn", "(I)I"⟩
def RX7 : String := "DoorStars$Trial"
def TX7 : u_T := fun k => match k with
  | 0 => ("DoorStars$Trial", "begins", "[I", true)
  | 1 => ("DoorStars$Trial", "caseRows", "[I", true)
  | 2 => ("DoorStars$Trial", "rises", "[J", true)
  | 3 => ("DoorStars$Trial", "left", "[I", true)
  | 4 => ("DoorStars$Trial", "dealt", "[I", true)
  | _ => ("DoorStars$Trial", "effect", "LDoorStars$Fraction;", true)
def tyX7 : Nat → FieldType := fun k => match k with
  | 0 => .array .int
  | 1 => .array .int
  | 2 => .array .long
  | 3 => .array .int
  | 4 => .array .int
  | _ => .object "DoorStars$Fraction"
abbrev wsX70 : List Cond := u_ws RX7 TX7 6
theorem nmX7 : ∀ a, a < 6 → ∀ b, b < 6 → a ≠ b → (TX7 a).2.1 ≠ (TX7 b).2.1 := by decide +kernel
theorem tyX7_ok : ∀ k, k < 6 → parseFieldDescriptor (TX7 k).2.2.1 = some (tyX7 k) := by decide +kernel
abbrev cX7_init : ByteArray := prog_9_method_1_code
def yX7_init : MethodName := ⟨RX7, "<init>", "()V"⟩
abbrev cX7_changeBegan : ByteArray := prog_9_method_2_code
def yX7_changeBegan : MethodName := ⟨RX7, "changeBegan", "(II)I"⟩
abbrev cX7_changeCases : ByteArray := prog_9_method_3_code
def yX7_changeCases : MethodName := ⟨RX7, "changeCases", "(III)I"⟩
abbrev cX7_hasEffect : ByteArray := prog_9_method_4_code
def yX7_hasEffect : MethodName := ⟨RX7, "hasEffect", "()Z"⟩
abbrev cX7_trueEffect : ByteArray := prog_9_method_5_code
def yX7_trueEffect : MethodName := ⟨RX7, "trueEffect", "()LDoorStars$Fraction;"⟩
abbrev cX7_waysNoGreater : ByteArray := prog_9_method_6_code
def yX7_waysNoGreater : MethodName := ⟨RX7, "waysNoGreater", "()I"⟩
abbrev cX7_isStarted : ByteArray := prog_9_method_7_code
def yX7_isStarted : MethodName := ⟨RX7, "isStarted", "(I)Z"⟩
abbrev cX7_startedSize : ByteArray := prog_9_method_8_code
def yX7_startedSize : MethodName := ⟨RX7, "startedSize", "()I"⟩
abbrev cX7_neverSize : ByteArray := prog_9_method_9_code
def yX7_neverSize : MethodName := ⟨RX7, "neverSize", "()I"⟩
abbrev cX7_fillRises : ByteArray := prog_9_method_10_code
def yX7_fillRises : MethodName := ⟨RX7, "fillRises", "()V"⟩
abbrev cX7_effectBy : ByteArray := prog_9_method_11_code
def yX7_effectBy : MethodName := ⟨RX7, "effectBy", "([I)J"⟩
abbrev cX7_neverRise : ByteArray := prog_9_method_12_code
def yX7_neverRise : MethodName := ⟨RX7, "neverRise", "([II)J"⟩
abbrev cX7_deal : ByteArray := prog_9_method_13_code
def yX7_deal : MethodName := ⟨RX7, "deal", "(I)V"⟩
def RX8 : String := "DoorStars$Week"
def TX8 : u_T := fun k => match k with
  | 0 => ("DoorStars$Week", "entered", "[I", true)
  | 1 => ("DoorStars$Week", "needs", "[I", true)
  | 2 => ("DoorStars$Week", "free", "[I", true)
  | 3 => ("DoorStars$Week", "prices", "[I", true)
  | 4 => ("DoorStars$Week", "chosenDays", "[I", true)
  | 5 => ("DoorStars$Week", "chosenHands", "[I", true)
  | 6 => ("DoorStars$Week", "room", "[I", true)
  | 7 => ("DoorStars$Week", "bound", "[I", true)
  | 8 => ("DoorStars$Week", "dayPrices", "[I", true)
  | 9 => ("DoorStars$Week", "least", "[I", true)
  | 10 => ("DoorStars$Week", "size", "I", false)
  | _ => ("DoorStars$Week", "handSets", "I", false)
def tyX8 : Nat → FieldType := fun k => match k with
  | 0 => .array .int
  | 1 => .array .int
  | 2 => .array .int
  | 3 => .array .int
  | 4 => .array .int
  | 5 => .array .int
  | 6 => .array .int
  | 7 => .array .int
  | 8 => .array .int
  | 9 => .array .int
  | 10 => .int
  | _ => .int
abbrev wsX80 : List Cond := u_ws RX8 TX8 12
theorem nmX8 : ∀ a, a < 12 → ∀ b, b < 12 → a ≠ b → (TX8 a).2.1 ≠ (TX8 b).2.1 := by decide +kernel
theorem tyX8_ok : ∀ k, k < 12 → parseFieldDescriptor (TX8 k).2.2.1 = some (tyX8 k) := by decide +kernel
abbrev cX8_init : ByteArray := prog_10_method_1_code
def yX8_init : MethodName := ⟨RX8, "<init>", "()V"⟩
abbrev cX8_open : ByteArray := prog_10_method_2_code
def yX8_open : MethodName := ⟨RX8, "open", "(II)V"⟩
abbrev cX8_add : ByteArray := prog_10_method_3_code
def yX8_add : MethodName := ⟨RX8, "add", "(III)I"⟩
abbrev cX8_setPrice : ByteArray := prog_10_method_4_code
def yX8_setPrice : MethodName := ⟨RX8, "setPrice", "(III)V"⟩
abbrev cX8_dayAt : ByteArray := prog_10_method_5_code
def yX8_dayAt : MethodName := ⟨RX8, "dayAt", "(I)I"⟩
abbrev cX8_handsAt : ByteArray := prog_10_method_6_code
def yX8_handsAt : MethodName := ⟨RX8, "handsAt", "(I)I"⟩
abbrev cX8_settleAll : ByteArray := prog_10_method_7_code
def yX8_settleAll : MethodName := ⟨RX8, "settleAll", "()I"⟩
abbrev cX8_settle : ByteArray := prog_10_method_8_code
def yX8_settle : MethodName := ⟨RX8, "settle", "(II)I"⟩
abbrev cX8_choose : ByteArray := prog_10_method_9_code
def yX8_choose : MethodName := ⟨RX8, "choose", "(III)I"⟩
abbrev cX8_priceOf : ByteArray := prog_10_method_10_code
def yX8_priceOf : MethodName := ⟨RX8, "priceOf", "(II)I"⟩
abbrev cX8_mayTake : ByteArray := prog_10_method_11_code
def yX8_mayTake : MethodName := ⟨RX8, "mayTake", "(III)Z"⟩
abbrev cX8_changeRoom : ByteArray := prog_10_method_12_code
def yX8_changeRoom : MethodName := ⟨RX8, "changeRoom", "(III)V"⟩
abbrev cX8_fillBound : ByteArray := prog_10_method_13_code
def yX8_fillBound : MethodName := ⟨RX8, "fillBound", "()V"⟩
abbrev cX8_leastFrom : ByteArray := prog_10_method_14_code
def yX8_leastFrom : MethodName := ⟨RX8, "leastFrom", "(I)I"⟩
abbrev cX8_leastWithDay : ByteArray := prog_10_method_15_code
def yX8_leastWithDay : MethodName := ⟨RX8, "leastWithDay", "(I)I"⟩
abbrev cX8_fillSums : ByteArray := prog_10_method_16_code
def yX8_fillSums : MethodName := ⟨RX8, "fillSums", "([III)V"⟩
abbrev cX8_barWhatFitsNot : ByteArray := prog_10_method_17_code
def yX8_barWhatFitsNot : MethodName := ⟨RX8, "barWhatFitsNot", "(III)V"⟩
abbrev cX8_roomOf : ByteArray := prog_10_method_18_code
def yX8_roomOf : MethodName := ⟨RX8, "roomOf", "(II)I"⟩
def RX9 : String := "DoorStars"
def TX9 : u_T := fun k => match k with
  | 0 => ("DoorStars", "refusals", "[I", true)
  | 1 => ("DoorStars", "kinRows", "[Z", true)
  | 2 => ("DoorStars", "bases", "[I", true)
  | 3 => ("DoorStars", "lateCosts", "[I", true)
  | 4 => ("DoorStars", "seats", "[I", true)
  | 5 => ("DoorStars", "codes", "LDoorStars$Codes;", true)
  | 6 => ("DoorStars", "kitchens", "LDoorStars$Kitchens;", true)
  | 7 => ("DoorStars", "looks", "LDoorStars$Looks;", true)
  | 8 => ("DoorStars", "tables", "LDoorStars$Tables;", true)
  | 9 => ("DoorStars", "week", "LDoorStars$Week;", true)
  | 10 => ("DoorStars", "habits", "LDoorStars$Habits;", true)
  | 11 => ("DoorStars", "complaints", "LDoorStars$Complaints;", true)
  | 12 => ("DoorStars", "trial", "LDoorStars$Trial;", true)
  | 13 => ("DoorStars", "evenedScore", "LDoorStars$Fraction;", true)
  | 14 => ("DoorStars", "today", "I", false)
  | _ => ("DoorStars", "looksADay", "I", false)
def tyX9 : Nat → FieldType := fun k => match k with
  | 0 => .array .int
  | 1 => .array .boolean
  | 2 => .array .int
  | 3 => .array .int
  | 4 => .array .int
  | 5 => .object "DoorStars$Codes"
  | 6 => .object "DoorStars$Kitchens"
  | 7 => .object "DoorStars$Looks"
  | 8 => .object "DoorStars$Tables"
  | 9 => .object "DoorStars$Week"
  | 10 => .object "DoorStars$Habits"
  | 11 => .object "DoorStars$Complaints"
  | 12 => .object "DoorStars$Trial"
  | 13 => .object "DoorStars$Fraction"
  | 14 => .int
  | _ => .int
abbrev wsX90 : List Cond := u_ws RX9 TX9 16
theorem nmX9 : ∀ a, a < 16 → ∀ b, b < 16 → a ≠ b → (TX9 a).2.1 ≠ (TX9 b).2.1 := by decide +kernel
theorem tyX9_ok : ∀ k, k < 16 → parseFieldDescriptor (TX9 k).2.2.1 = some (tyX9 k) := by decide +kernel
abbrev cX9_init : ByteArray := prog_1_method_1_code
def yX9_init : MethodName := ⟨RX9, "<init>", "()V"⟩
abbrev cX9_days : ByteArray := prog_1_method_2_code
def yX9_days : MethodName := ⟨RX9, "days", "(I)I"⟩
abbrev cX9_code : ByteArray := prog_1_method_3_code
def yX9_code : MethodName := ⟨RX9, "code", "(III)I"⟩
abbrev cX9_turn : ByteArray := prog_1_method_4_code
def yX9_turn : MethodName := ⟨RX9, "turn", "(III)I"⟩
abbrev cX9_stands : ByteArray := prog_1_method_5_code
def yX9_stands : MethodName := ⟨RX9, "stands", "(II)I"⟩
abbrev cX9_most : ByteArray := prog_1_method_6_code
def yX9_most : MethodName := ⟨RX9, "most", "(II)I"⟩
abbrev cX9_kitchen : ByteArray := prog_1_method_7_code
def yX9_kitchen : MethodName := ⟨RX9, "kitchen", "(IIIII)I"⟩
abbrev cX9_hard : ByteArray := prog_1_method_8_code
def yX9_hard : MethodName := ⟨RX9, "hard", "(IZ)I"⟩
abbrev cX9_kin : ByteArray := prog_1_method_9_code
def yX9_kin : MethodName := ⟨RX9, "kin", "(IIZ)I"⟩
abbrev cX9_look : ByteArray := prog_1_method_10_code
def yX9_look : MethodName := ⟨RX9, "look", "(III)I"⟩
abbrev cX9_find : ByteArray := prog_1_method_11_code
def yX9_find : MethodName := ⟨RX9, "find", "(II)I"⟩
abbrev cX9_back : ByteArray := prog_1_method_12_code
def yX9_back : MethodName := ⟨RX9, "back", "(I)I"⟩
abbrev cX9_score : ByteArray := prog_1_method_13_code
def yX9_score : MethodName := ⟨RX9, "score", "(II)I"⟩
abbrev cX9_table : ByteArray := prog_1_method_14_code
def yX9_table : MethodName := ⟨RX9, "table", "(IIIII)I"⟩
abbrev cX9_star : ByteArray := prog_1_method_15_code
def yX9_star : MethodName := ⟨RX9, "star", "(III)I"⟩
abbrev cX9_show : ByteArray := prog_1_method_16_code
def yX9_show : MethodName := ⟨RX9, "show", "(II)I"⟩
abbrev cX9_falses : ByteArray := prog_1_method_17_code
def yX9_falses : MethodName := ⟨RX9, "falses", "()I"⟩
abbrev cX9_base : ByteArray := prog_1_method_18_code
def yX9_base : MethodName := ⟨RX9, "base", "(II)I"⟩
abbrev cX9_risk : ByteArray := prog_1_method_19_code
def yX9_risk : MethodName := ⟨RX9, "risk", "(II)I"⟩
abbrev cX9_delay : ByteArray := prog_1_method_20_code
def yX9_delay : MethodName := ⟨RX9, "delay", "(II)I"⟩
abbrev cX9_capacity : ByteArray := prog_1_method_21_code
def yX9_capacity : MethodName := ⟨RX9, "capacity", "(I)I"⟩
abbrev cX9_rounds : ByteArray := prog_1_method_22_code
def yX9_rounds : MethodName := ⟨RX9, "rounds", "(I)I"⟩
abbrev cX9_roundOf : ByteArray := prog_1_method_23_code
def yX9_roundOf : MethodName := ⟨RX9, "roundOf", "(III)I"⟩
abbrev cX9_doubles : ByteArray := prog_1_method_24_code
def yX9_doubles : MethodName := ⟨RX9, "doubles", "()I"⟩
abbrev cX9_habit : ByteArray := prog_1_method_25_code
def yX9_habit : MethodName := ⟨RX9, "habit", "(II)J"⟩
abbrev cX9_evened : ByteArray := prog_1_method_26_code
def yX9_evened : MethodName := ⟨RX9, "evened", "(II)J"⟩
abbrev cX9_others : ByteArray := prog_1_method_27_code
def yX9_others : MethodName := ⟨RX9, "others", "()I"⟩
abbrev cX9_swap : ByteArray := prog_1_method_28_code
def yX9_swap : MethodName := ⟨RX9, "swap", "(III)I"⟩
abbrev cX9_shut : ByteArray := prog_1_method_29_code
def yX9_shut : MethodName := ⟨RX9, "shut", "(III)I"⟩
abbrev cX9_complaint : ByteArray := prog_1_method_30_code
def yX9_complaint : MethodName := ⟨RX9, "complaint", "(IIII)I"⟩
abbrev cX9_part : ByteArray := prog_1_method_31_code
def yX9_part : MethodName := ⟨RX9, "part", "(III)I"⟩
abbrev cX9_joined : ByteArray := prog_1_method_32_code
def yX9_joined : MethodName := ⟨RX9, "joined", "(I)I"⟩
abbrev cX9_began : ByteArray := prog_1_method_33_code
def yX9_began : MethodName := ⟨RX9, "began", "(II)I"⟩
abbrev cX9_cases : ByteArray := prog_1_method_34_code
def yX9_cases : MethodName := ⟨RX9, "cases", "(III)I"⟩
abbrev cX9_effect : ByteArray := prog_1_method_35_code
def yX9_effect : MethodName := ⟨RX9, "effect", "(I)J"⟩
abbrev cX9_chance : ByteArray := prog_1_method_36_code
def yX9_chance : MethodName := ⟨RX9, "chance", "()I"⟩
abbrev cX9_helped : ByteArray := prog_1_method_37_code
def yX9_helped : MethodName := ⟨RX9, "helped", "()I"⟩
abbrev cX9_count : ByteArray := prog_1_method_38_code
def yX9_count : MethodName := ⟨RX9, "count", "(I)I"⟩
abbrev cX9_refused : ByteArray := prog_1_method_39_code
def yX9_refused : MethodName := ⟨RX9, "refused", "(I)I"⟩
abbrev cX9_refusedLong : ByteArray := prog_1_method_40_code
def yX9_refusedLong : MethodName := ⟨RX9, "refusedLong", "(I)J"⟩
abbrev cX9_refusalsOf : ByteArray := prog_1_method_41_code
def yX9_refusalsOf : MethodName := ⟨RX9, "refusalsOf", "(I)I"⟩
abbrev cX9_isWithin : ByteArray := prog_1_method_42_code
def yX9_isWithin : MethodName := ⟨RX9, "isWithin", "(II)Z"⟩
abbrev cX9_isKin : ByteArray := prog_1_method_43_code
def yX9_isKin : MethodName := ⟨RX9, "isKin", "(II)Z"⟩
abbrev cX9_starOf : ByteArray := prog_1_method_44_code
def yX9_starOf : MethodName := ⟨RX9, "starOf", "(III)I"⟩
abbrev cX9_riskOf : ByteArray := prog_1_method_45_code
def yX9_riskOf : MethodName := ⟨RX9, "riskOf", "(I)I"⟩
abbrev cX9_dueOf : ByteArray := prog_1_method_46_code
def yX9_dueOf : MethodName := ⟨RX9, "dueOf", "(II)I"⟩
abbrev cX9_delayCost : ByteArray := prog_1_method_47_code
def yX9_delayCost : MethodName := ⟨RX9, "delayCost", "(III)I"⟩
abbrev cX9_planWeek : ByteArray := prog_1_method_48_code
def yX9_planWeek : MethodName := ⟨RX9, "planWeek", "(I)I"⟩
abbrev cX9_dearestToLeave : ByteArray := prog_1_method_49_code
def yX9_dearestToLeave : MethodName := ⟨RX9, "dearestToLeave", "()I"⟩
abbrev cX9_dearestBeside : ByteArray := prog_1_method_50_code
def yX9_dearestBeside : MethodName := ⟨RX9, "dearestBeside", "(I)I"⟩
abbrev cX9_enterWeek : ByteArray := prog_1_method_51_code
def yX9_enterWeek : MethodName := ⟨RX9, "enterWeek", "(II)V"⟩
abbrev cX9_handsFree : ByteArray := prog_1_method_52_code
def yX9_handsFree : MethodName := ⟨RX9, "handsFree", "(II)I"⟩
abbrev cX9_evenScore : ByteArray := prog_1_method_53_code
def yX9_evenScore : MethodName := ⟨RX9, "evenScore", "(I)V"⟩
abbrev cX9_isOtherWhenEvened : ByteArray := prog_1_method_54_code
def yX9_isOtherWhenEvened : MethodName := ⟨RX9, "isOtherWhenEvened", "(I)Z"⟩
abbrev cX9_dealSeats : ByteArray := prog_1_method_55_code
def yX9_dealSeats : MethodName := ⟨RX9, "dealSeats", "(II)V"⟩
def RX10 : String := "DoorStarsModel"
def TX10 : u_T := fun k => match k with
  | 0 => ("DoorStarsModel", "day", "I", false)
  | 1 => ("DoorStarsModel", "codes", "I", false)
  | 2 => ("DoorStarsModel", "codeGroup", "[I", true)
  | 3 => ("DoorStarsModel", "codePoints", "[I", true)
  | 4 => ("DoorStarsModel", "codeDay", "[I", true)
  | 5 => ("DoorStarsModel", "codeInto", "[I", true)
  | 6 => ("DoorStarsModel", "turnDay", "[I", true)
  | 7 => ("DoorStarsModel", "most", "[I", true)
  | 8 => ("DoorStarsModel", "kitchens", "I", false)
  | 9 => ("DoorStarsModel", "kind", "[I", true)
  | 10 => ("DoorStarsModel", "street", "[I", true)
  | 11 => ("DoorStarsModel", "mouths", "[I", true)
  | 12 => ("DoorStarsModel", "owner", "[I", true)
  | 13 => ("DoorStarsModel", "dishes", "[I", true)
  | 14 => ("DoorStarsModel", "isHard", "[Z", true)
  | 15 => ("DoorStarsModel", "shown", "[I", true)
  | 16 => ("DoorStarsModel", "isKin", "[Z", true)
  | 17 => ("DoorStarsModel", "looks", "I", false)
  | 18 => ("DoorStarsModel", "lookKitchen", "[I", true)
  | 19 => ("DoorStarsModel", "lookBy", "[I", true)
  | 20 => ("DoorStarsModel", "lookDay", "[I", true)
  | 21 => ("DoorStarsModel", "lookKnown", "[I", true)
  | 22 => ("DoorStarsModel", "lookBack", "[I", true)
  | 23 => ("DoorStarsModel", "found", "[I", true)
  | 24 => ("DoorStarsModel", "refused", "[I", true)
  | 25 => ("DoorStarsModel", "inGroup", "[I", true)
  | 26 => ("DoorStarsModel", "tables", "I", false)
  | 27 => ("DoorStarsModel", "tableDay", "[I", true)
  | 28 => ("DoorStarsModel", "bound", "[I", true)
  | 29 => ("DoorStarsModel", "bases", "[I", true)
  | 30 => ("DoorStarsModel", "capacity", "I", false)
  | 31 => ("DoorStarsModel", "asked", "[I", true)
  | 32 => ("DoorStarsModel", "askedMany", "I", false)
  | 33 => ("DoorStarsModel", "costs", "[I", true)
  | 34 => ("DoorStarsModel", "leastOn", "[I", true)
  | 35 => ("DoorStarsModel", "way", "[I", true)
  | 36 => ("DoorStarsModel", "bestWay", "[I", true)
  | 37 => ("DoorStarsModel", "costAt", "[I", true)
  | 38 => ("DoorStarsModel", "used", "[I", true)
  | 39 => ("DoorStarsModel", "joins", "[J", true)
  | 40 => ("DoorStarsModel", "above", "[J", true)
  | 41 => ("DoorStarsModel", "set", "[I", true)
  | 42 => ("DoorStarsModel", "of", "[I", true)
  | 43 => ("DoorStarsModel", "ofMany", "I", false)
  | 44 => ("DoorStarsModel", "order", "[I", true)
  | 45 => ("DoorStarsModel", "habitTop", "J", false)
  | 46 => ("DoorStarsModel", "habitBelow", "J", false)
  | 47 => ("DoorStarsModel", "swapped", "[I", true)
  | 48 => ("DoorStarsModel", "shuts", "[I", true)
  | 49 => ("DoorStarsModel", "shutFrom", "[I", true)
  | 50 => ("DoorStarsModel", "shutTo", "[I", true)
  | 51 => ("DoorStarsModel", "complaints", "I", false)
  | 52 => ("DoorStarsModel", "compStreet", "[I", true)
  | 53 => ("DoorStarsModel", "compFrom", "[I", true)
  | 54 => ("DoorStarsModel", "compTo", "[I", true)
  | 55 => ("DoorStarsModel", "compDish", "[I", true)
  | 56 => ("DoorStarsModel", "months", "[I", true)
  | 57 => ("DoorStarsModel", "cases", "[I", true)
  | 58 => ("DoorStarsModel", "dealt", "[I", true)
  | 59 => ("DoorStarsModel", "effectTop", "J", false)
  | 60 => ("DoorStarsModel", "effectBelow", "J", false)
  | _ => ("DoorStarsModel", "place", "[I", true)
def tyX10 : Nat → FieldType := fun k => match k with
  | 0 => .int
  | 1 => .int
  | 2 => .array .int
  | 3 => .array .int
  | 4 => .array .int
  | 5 => .array .int
  | 6 => .array .int
  | 7 => .array .int
  | 8 => .int
  | 9 => .array .int
  | 10 => .array .int
  | 11 => .array .int
  | 12 => .array .int
  | 13 => .array .int
  | 14 => .array .boolean
  | 15 => .array .int
  | 16 => .array .boolean
  | 17 => .int
  | 18 => .array .int
  | 19 => .array .int
  | 20 => .array .int
  | 21 => .array .int
  | 22 => .array .int
  | 23 => .array .int
  | 24 => .array .int
  | 25 => .array .int
  | 26 => .int
  | 27 => .array .int
  | 28 => .array .int
  | 29 => .array .int
  | 30 => .int
  | 31 => .array .int
  | 32 => .int
  | 33 => .array .int
  | 34 => .array .int
  | 35 => .array .int
  | 36 => .array .int
  | 37 => .array .int
  | 38 => .array .int
  | 39 => .array .long
  | 40 => .array .long
  | 41 => .array .int
  | 42 => .array .int
  | 43 => .int
  | 44 => .array .int
  | 45 => .long
  | 46 => .long
  | 47 => .array .int
  | 48 => .array .int
  | 49 => .array .int
  | 50 => .array .int
  | 51 => .int
  | 52 => .array .int
  | 53 => .array .int
  | 54 => .array .int
  | 55 => .array .int
  | 56 => .array .int
  | 57 => .array .int
  | 58 => .array .int
  | 59 => .long
  | 60 => .long
  | _ => .array .int
abbrev wsX100 : List Cond := u_ws RX10 TX10 62
theorem nmX10 : ∀ a, a < 62 → ∀ b, b < 62 → a ≠ b → (TX10 a).2.1 ≠ (TX10 b).2.1 := by decide +kernel
theorem tyX10_ok : ∀ k, k < 62 → parseFieldDescriptor (TX10 k).2.2.1 = some (tyX10 k) := by decide +kernel
abbrev cX10_init : ByteArray := prog_12_method_1_code
def yX10_init : MethodName := ⟨RX10, "<init>", "()V"⟩
abbrev cX10_in : ByteArray := prog_12_method_3_code
def yX10_in : MethodName := ⟨RX10, "in", "(III)Z"⟩
abbrev cX10_refuse : ByteArray := prog_12_method_4_code
def yX10_refuse : MethodName := ⟨RX10, "refuse", "(I)I"⟩
abbrev cX10_refuseFar : ByteArray := prog_12_method_5_code
def yX10_refuseFar : MethodName := ⟨RX10, "refuseFar", "(I)J"⟩
abbrev cX10_divisor : ByteArray := prog_12_method_6_code
def yX10_divisor : MethodName := ⟨RX10, "divisor", "(JJ)J"⟩
abbrev cX10_wrongDay : ByteArray := prog_12_method_7_code
def yX10_wrongDay : MethodName := ⟨RX10, "wrongDay", "(I)I"⟩
abbrev cX10_isKitchen : ByteArray := prog_12_method_8_code
def yX10_isKitchen : MethodName := ⟨RX10, "isKitchen", "(I)Z"⟩
abbrev cX10_isLook : ByteArray := prog_12_method_9_code
def yX10_isLook : MethodName := ⟨RX10, "isLook", "(I)Z"⟩
abbrev cX10_days : ByteArray := prog_12_method_10_code
def yX10_days : MethodName := ⟨RX10, "days", "(I)I"⟩
abbrev cX10_code : ByteArray := prog_12_method_11_code
def yX10_code : MethodName := ⟨RX10, "code", "(III)I"⟩
abbrev cX10_isCode : ByteArray := prog_12_method_12_code
def yX10_isCode : MethodName := ⟨RX10, "isCode", "(I)Z"⟩
abbrev cX10_turn : ByteArray := prog_12_method_13_code
def yX10_turn : MethodName := ⟨RX10, "turn", "(III)I"⟩
abbrev cX10_standsFor : ByteArray := prog_12_method_14_code
def yX10_standsFor : MethodName := ⟨RX10, "standsFor", "(II)I"⟩
abbrev cX10_stands : ByteArray := prog_12_method_15_code
def yX10_stands : MethodName := ⟨RX10, "stands", "(II)I"⟩
abbrev cX10_most : ByteArray := prog_12_method_16_code
def yX10_most : MethodName := ⟨RX10, "most", "(II)I"⟩
abbrev cX10_kitchen : ByteArray := prog_12_method_17_code
def yX10_kitchen : MethodName := ⟨RX10, "kitchen", "(IIIII)I"⟩
abbrev cX10_hard : ByteArray := prog_12_method_18_code
def yX10_hard : MethodName := ⟨RX10, "hard", "(IZ)I"⟩
abbrev cX10_kin : ByteArray := prog_12_method_19_code
def yX10_kin : MethodName := ⟨RX10, "kin", "(IIZ)I"⟩
abbrev cX10_look : ByteArray := prog_12_method_20_code
def yX10_look : MethodName := ⟨RX10, "look", "(III)I"⟩
abbrev cX10_find : ByteArray := prog_12_method_21_code
def yX10_find : MethodName := ⟨RX10, "find", "(II)I"⟩
abbrev cX10_back : ByteArray := prog_12_method_22_code
def yX10_back : MethodName := ⟨RX10, "back", "(I)I"⟩
abbrev cX10_scoreOf : ByteArray := prog_12_method_23_code
def yX10_scoreOf : MethodName := ⟨RX10, "scoreOf", "(II)I"⟩
abbrev cX10_score : ByteArray := prog_12_method_24_code
def yX10_score : MethodName := ⟨RX10, "score", "(II)I"⟩
abbrev cX10_table : ByteArray := prog_12_method_25_code
def yX10_table : MethodName := ⟨RX10, "table", "(IIIII)I"⟩
abbrev cX10_starBy : ByteArray := prog_12_method_26_code
def yX10_starBy : MethodName := ⟨RX10, "starBy", "(JJI)I"⟩
abbrev cX10_countsBy : ByteArray := prog_12_method_27_code
def yX10_countsBy : MethodName := ⟨RX10, "countsBy", "(II)Z"⟩
abbrev cX10_lookOn : ByteArray := prog_12_method_28_code
def yX10_lookOn : MethodName := ⟨RX10, "lookOn", "(III)I"⟩
abbrev cX10_starOf : ByteArray := prog_12_method_29_code
def yX10_starOf : MethodName := ⟨RX10, "starOf", "(III)I"⟩
abbrev cX10_star : ByteArray := prog_12_method_30_code
def yX10_star : MethodName := ⟨RX10, "star", "(III)I"⟩
abbrev cX10_show : ByteArray := prog_12_method_31_code
def yX10_show : MethodName := ⟨RX10, "show", "(II)I"⟩
abbrev cX10_falses : ByteArray := prog_12_method_32_code
def yX10_falses : MethodName := ⟨RX10, "falses", "()I"⟩
abbrev cX10_base : ByteArray := prog_12_method_33_code
def yX10_base : MethodName := ⟨RX10, "base", "(II)I"⟩
abbrev cX10_riskOf : ByteArray := prog_12_method_34_code
def yX10_riskOf : MethodName := ⟨RX10, "riskOf", "(I)I"⟩
abbrev cX10_dueOf : ByteArray := prog_12_method_35_code
def yX10_dueOf : MethodName := ⟨RX10, "dueOf", "(I)I"⟩
abbrev cX10_risk : ByteArray := prog_12_method_36_code
def yX10_risk : MethodName := ⟨RX10, "risk", "(II)I"⟩
abbrev cX10_costOf : ByteArray := prog_12_method_37_code
def yX10_costOf : MethodName := ⟨RX10, "costOf", "(II)I"⟩
abbrev cX10_delay : ByteArray := prog_12_method_38_code
def yX10_delay : MethodName := ⟨RX10, "delay", "(II)I"⟩
abbrev cX10_capacity : ByteArray := prog_12_method_39_code
def yX10_capacity : MethodName := ⟨RX10, "capacity", "(I)I"⟩
abbrev cX10_ask : ByteArray := prog_12_method_40_code
def yX10_ask : MethodName := ⟨RX10, "ask", "()V"⟩
abbrev cX10_ones : ByteArray := prog_12_method_41_code
def yX10_ones : MethodName := ⟨RX10, "ones", "(I)I"⟩
abbrev cX10_mayTake : ByteArray := prog_12_method_42_code
def yX10_mayTake : MethodName := ⟨RX10, "mayTake", "(III)Z"⟩
abbrev cX10_use : ByteArray := prog_12_method_43_code
def yX10_use : MethodName := ⟨RX10, "use", "(II)V"⟩
abbrev cX10_findRounds : ByteArray := prog_12_method_44_code
def yX10_findRounds : MethodName := ⟨RX10, "findRounds", "(I)I"⟩
abbrev cX10_wrongRounds : ByteArray := prog_12_method_45_code
def yX10_wrongRounds : MethodName := ⟨RX10, "wrongRounds", "(I)I"⟩
abbrev cX10_rounds : ByteArray := prog_12_method_46_code
def yX10_rounds : MethodName := ⟨RX10, "rounds", "(I)I"⟩
abbrev cX10_roundOf : ByteArray := prog_12_method_47_code
def yX10_roundOf : MethodName := ⟨RX10, "roundOf", "(III)I"⟩
abbrev cX10_isDouble : ByteArray := prog_12_method_48_code
def yX10_isDouble : MethodName := ⟨RX10, "isDouble", "(II)Z"⟩
abbrev cX10_doubles : ByteArray := prog_12_method_49_code
def yX10_doubles : MethodName := ⟨RX10, "doubles", "()I"⟩
abbrev cX10_findDoubles : ByteArray := prog_12_method_50_code
def yX10_findDoubles : MethodName := ⟨RX10, "findDoubles", "()V"⟩
abbrev cX10_isJoined : ByteArray := prog_12_method_51_code
def yX10_isJoined : MethodName := ⟨RX10, "isJoined", "(I)Z"⟩
abbrev cX10_entry : ByteArray := prog_12_method_52_code
def yX10_entry : MethodName := ⟨RX10, "entry", "(III)J"⟩
abbrev cX10_determinant : ByteArray := prog_12_method_53_code
def yX10_determinant : MethodName := ⟨RX10, "determinant", "(I)J"⟩
abbrev cX10_findHabit : ByteArray := prog_12_method_54_code
def yX10_findHabit : MethodName := ⟨RX10, "findHabit", "(I)V"⟩
abbrev cX10_habit : ByteArray := prog_12_method_55_code
def yX10_habit : MethodName := ⟨RX10, "habit", "(II)J"⟩
abbrev cX10_findEvened : ByteArray := prog_12_method_56_code
def yX10_findEvened : MethodName := ⟨RX10, "findEvened", "(I)V"⟩
abbrev cX10_evened : ByteArray := prog_12_method_57_code
def yX10_evened : MethodName := ⟨RX10, "evened", "(II)J"⟩
abbrev cX10_others : ByteArray := prog_12_method_58_code
def yX10_others : MethodName := ⟨RX10, "others", "()I"⟩
abbrev cX10_swap : ByteArray := prog_12_method_59_code
def yX10_swap : MethodName := ⟨RX10, "swap", "(III)I"⟩
abbrev cX10_shut : ByteArray := prog_12_method_60_code
def yX10_shut : MethodName := ⟨RX10, "shut", "(III)I"⟩
abbrev cX10_complaint : ByteArray := prog_12_method_61_code
def yX10_complaint : MethodName := ⟨RX10, "complaint", "(IIII)I"⟩
abbrev cX10_weightOf : ByteArray := prog_12_method_62_code
def yX10_weightOf : MethodName := ⟨RX10, "weightOf", "(II)I"⟩
abbrev cX10_weightsOf : ByteArray := prog_12_method_63_code
def yX10_weightsOf : MethodName := ⟨RX10, "weightsOf", "(I)I"⟩
abbrev cX10_part : ByteArray := prog_12_method_64_code
def yX10_part : MethodName := ⟨RX10, "part", "(III)I"⟩
abbrev cX10_joinedTo : ByteArray := prog_12_method_65_code
def yX10_joinedTo : MethodName := ⟨RX10, "joinedTo", "(I)I"⟩
abbrev cX10_joined : ByteArray := prog_12_method_66_code
def yX10_joined : MethodName := ⟨RX10, "joined", "(I)I"⟩
abbrev cX10_began : ByteArray := prog_12_method_67_code
def yX10_began : MethodName := ⟨RX10, "began", "(II)I"⟩
abbrev cX10_cases : ByteArray := prog_12_method_68_code
def yX10_cases : MethodName := ⟨RX10, "cases", "(III)I"⟩
abbrev cX10_addEffect : ByteArray := prog_12_method_69_code
def yX10_addEffect : MethodName := ⟨RX10, "addEffect", "(JJ)V"⟩
abbrev cX10_casesOf : ByteArray := prog_12_method_70_code
def yX10_casesOf : MethodName := ⟨RX10, "casesOf", "(IIZ)J"⟩
abbrev cX10_findEffect : ByteArray := prog_12_method_71_code
def yX10_findEffect : MethodName := ⟨RX10, "findEffect", "()Z"⟩
abbrev cX10_findTrue : ByteArray := prog_12_method_72_code
def yX10_findTrue : MethodName := ⟨RX10, "findTrue", "()Z"⟩
abbrev cX10_effect : ByteArray := prog_12_method_73_code
def yX10_effect : MethodName := ⟨RX10, "effect", "(I)J"⟩
abbrev cX10_findChance : ByteArray := prog_12_method_74_code
def yX10_findChance : MethodName := ⟨RX10, "findChance", "()I"⟩
abbrev cX10_chance : ByteArray := prog_12_method_75_code
def yX10_chance : MethodName := ⟨RX10, "chance", "()I"⟩
abbrev cX10_helped : ByteArray := prog_12_method_76_code
def yX10_helped : MethodName := ⟨RX10, "helped", "()I"⟩
abbrev cX10_count : ByteArray := prog_12_method_77_code
def yX10_count : MethodName := ⟨RX10, "count", "(I)I"⟩
def RJ6 : String := "java/lang/Integer"
def TJ6 : u_T := fun k => match k with
  | _ => ("", "", "", false)
def tyJ6 : Nat → FieldType := fun k => match k with
  | _ => .int
abbrev cJ6_bitCount_0f7a4 : ByteArray := prog_13_method_49_code
def yJ6_bitCount_0f7a4 : MethodName := ⟨RJ6, "bitCount", "(I)I"⟩
def RJ9 : String := "java/lang/Math"
def TJ9 : u_T := fun k => match k with
  | _ => ("", "", "", false)
def tyJ9 : Nat → FieldType := fun k => match k with
  | _ => .int
abbrev cJ9_floorMod_7cf53 : ByteArray := prog_14_method_50_code
def yJ9_floorMod_7cf53 : MethodName := ⟨RJ9, "floorMod", "(II)I"⟩
abbrev cJ9_abs_067f4 : ByteArray := prog_14_method_61_code
def yJ9_abs_067f4 : MethodName := ⟨RJ9, "abs", "(J)J"⟩
abbrev cJ9_max_7cf53 : ByteArray := prog_14_method_65_code
def yJ9_max_7cf53 : MethodName := ⟨RJ9, "max", "(II)I"⟩
abbrev cJ9_min_7cf53 : ByteArray := prog_14_method_69_code
def yJ9_min_7cf53 : MethodName := ⟨RJ9, "min", "(II)I"⟩
def RJ7 : String := "java/util/Arrays"
def TJ7 : u_T := fun k => match k with
  | _ => ("", "", "", false)
def tyJ7 : Nat → FieldType := fun k => match k with
  | _ => .int
abbrev cJ7_fill_d0a16 : ByteArray := prog_15_method_101_code
def yJ7_fill_d0a16 : MethodName := ⟨RJ7, "fill", "([JJ)V"⟩
abbrev cJ7_fill_53178 : ByteArray := prog_15_method_103_code
def yJ7_fill_53178 : MethodName := ⟨RJ7, "fill", "([II)V"⟩
def RL : String := "DoorStarsLaw"
abbrev cL_law : ByteArray := code
def yL_law : MethodName := ⟨RL, "law", "([I)Z"⟩
abbrev vwCl : List vw_C := [(RX0, TX0, 7), (RX1, TX1, 8), (RX2, TX2, 2), (RX3, TX3, 6), (RX4, TX4, 11), (RX5, TX5, 10), (RX6, TX6, 3), (RX7, TX7, 6), (RX8, TX8, 12), (RX9, TX9, 16), (RX10, TX10, 62)]
end
section
theorem dX0_init_0 : decode cX0_init 0 = .ok (.aload_n 0, 1) := by decide +kernel
theorem dX0_init_1 : decode cX0_init 1 = .ok (.invokespecial 3, 3) := by decide +kernel
theorem dX0_init_4 : decode cX0_init 4 = .ok (.aload_n 0, 1) := by decide +kernel
theorem dX0_init_5 : decode cX0_init 5 = .ok (.bipush 40, 2) := by decide +kernel
theorem dX0_init_7 : decode cX0_init 7 = .ok (.newarray .int, 2) := by decide +kernel
theorem dX0_init_9 : decode cX0_init 9 = .ok (.putfield 9, 3) := by decide +kernel
theorem dX0_init_12 : decode cX0_init 12 = .ok (.aload_n 0, 1) := by decide +kernel
theorem dX0_init_13 : decode cX0_init 13 = .ok (.bipush 40, 2) := by decide +kernel
theorem dX0_init_15 : decode cX0_init 15 = .ok (.newarray .int, 2) := by decide +kernel
theorem dX0_init_17 : decode cX0_init 17 = .ok (.putfield 15, 3) := by decide +kernel
theorem dX0_init_20 : decode cX0_init 20 = .ok (.aload_n 0, 1) := by decide +kernel
theorem dX0_init_21 : decode cX0_init 21 = .ok (.bipush 40, 2) := by decide +kernel
theorem dX0_init_23 : decode cX0_init 23 = .ok (.newarray .int, 2) := by decide +kernel
theorem dX0_init_25 : decode cX0_init 25 = .ok (.putfield 18, 3) := by decide +kernel
theorem dX0_init_28 : decode cX0_init 28 = .ok (.aload_n 0, 1) := by decide +kernel
theorem dX0_init_29 : decode cX0_init 29 = .ok (.bipush 40, 2) := by decide +kernel
theorem dX0_init_31 : decode cX0_init 31 = .ok (.newarray .int, 2) := by decide +kernel
theorem dX0_init_33 : decode cX0_init 33 = .ok (.putfield 21, 3) := by decide +kernel
theorem dX0_init_36 : decode cX0_init 36 = .ok (.aload_n 0, 1) := by decide +kernel
theorem dX0_init_37 : decode cX0_init 37 = .ok (.bipush 40, 2) := by decide +kernel
theorem dX0_init_39 : decode cX0_init 39 = .ok (.newarray .int, 2) := by decide +kernel
theorem dX0_init_41 : decode cX0_init 41 = .ok (.putfield 24, 3) := by decide +kernel
theorem dX0_init_44 : decode cX0_init 44 = .ok (.aload_n 0, 1) := by decide +kernel
theorem dX0_init_45 : decode cX0_init 45 = .ok (.iconst 5, 1) := by decide +kernel
theorem dX0_init_46 : decode cX0_init 46 = .ok (.newarray .int, 2) := by decide +kernel
theorem dX0_init_48 : decode cX0_init 48 = .ok (.putfield 27, 3) := by decide +kernel
theorem dX0_init_51 : decode cX0_init 51 = .ok (.aload_n 0, 1) := by decide +kernel
theorem dX0_init_52 : decode cX0_init 52 = .ok (.iconst 0, 1) := by decide +kernel
theorem dX0_init_53 : decode cX0_init 53 = .ok (.putfield 30, 3) := by decide +kernel
theorem dX0_init_56 : decode cX0_init 56 = .ok (.aload_n 0, 1) := by decide +kernel
theorem dX0_init_57 : decode cX0_init 57 = .ok (.getfield 21, 3) := by decide +kernel
theorem dX0_init_60 : decode cX0_init 60 = .ok (.iconst (-1), 1) := by decide +kernel
theorem dX0_init_61 : decode cX0_init 61 = .ok (.invokestatic 34, 3) := by decide +kernel
theorem dX0_init_64 : decode cX0_init 64 = .ok (.aload_n 0, 1) := by decide +kernel
theorem dX0_init_65 : decode cX0_init 65 = .ok (.getfield 27, 3) := by decide +kernel
theorem dX0_init_68 : decode cX0_init 68 = .ok (.bipush 60, 2) := by decide +kernel
theorem dX0_init_70 : decode cX0_init 70 = .ok (.invokestatic 34, 3) := by decide +kernel
theorem dX0_init_73 : decode cX0_init 73 = .ok (.return_, 1) := by decide +kernel
theorem dX0_size_0 : decode cX0_size 0 = .ok (.aload_n 0, 1) := by decide +kernel
theorem dX0_size_1 : decode cX0_size 1 = .ok (.getfield 30, 3) := by decide +kernel
theorem dX0_size_4 : decode cX0_size 4 = .ok (.ireturn, 1) := by decide +kernel
theorem dX0_isFull_0 : decode cX0_isFull 0 = .ok (.aload_n 0, 1) := by decide +kernel
theorem dX0_isFull_1 : decode cX0_isFull 1 = .ok (.getfield 30, 3) := by decide +kernel
theorem dX0_isFull_4 : decode cX0_isFull 4 = .ok (.bipush 40, 2) := by decide +kernel
theorem dX0_isFull_6 : decode cX0_isFull 6 = .ok (.if_icmp .lt 7, 3) := by decide +kernel
theorem dX0_isFull_9 : decode cX0_isFull 9 = .ok (.iconst 1, 1) := by decide +kernel
theorem dX0_isFull_10 : decode cX0_isFull 10 = .ok (.goto 4, 3) := by decide +kernel
theorem dX0_isFull_13 : decode cX0_isFull 13 = .ok (.iconst 0, 1) := by decide +kernel
theorem dX0_isFull_14 : decode cX0_isFull 14 = .ok (.ireturn, 1) := by decide +kernel
theorem dX0_has_0 : decode cX0_has 0 = .ok (.iload_n 1, 1) := by decide +kernel
theorem dX0_has_1 : decode cX0_has 1 = .ok (.ifCond .lt 15, 3) := by decide +kernel
theorem dX0_has_4 : decode cX0_has 4 = .ok (.iload_n 1, 1) := by decide +kernel
theorem dX0_has_5 : decode cX0_has 5 = .ok (.aload_n 0, 1) := by decide +kernel
theorem dX0_has_6 : decode cX0_has 6 = .ok (.getfield 30, 3) := by decide +kernel
theorem dX0_has_9 : decode cX0_has 9 = .ok (.if_icmp .ge 7, 3) := by decide +kernel
theorem dX0_has_12 : decode cX0_has 12 = .ok (.iconst 1, 1) := by decide +kernel
theorem dX0_has_13 : decode cX0_has 13 = .ok (.goto 4, 3) := by decide +kernel
theorem dX0_has_16 : decode cX0_has 16 = .ok (.iconst 0, 1) := by decide +kernel
theorem dX0_has_17 : decode cX0_has 17 = .ok (.ireturn, 1) := by decide +kernel
theorem dX0_add_0 : decode cX0_add 0 = .ok (.aload_n 0, 1) := by decide +kernel
theorem dX0_add_1 : decode cX0_add 1 = .ok (.getfield 9, 3) := by decide +kernel
theorem dX0_add_4 : decode cX0_add 4 = .ok (.aload_n 0, 1) := by decide +kernel
theorem dX0_add_5 : decode cX0_add 5 = .ok (.getfield 30, 3) := by decide +kernel
theorem dX0_add_8 : decode cX0_add 8 = .ok (.iload_n 1, 1) := by decide +kernel
theorem dX0_add_9 : decode cX0_add 9 = .ok (.iastore, 1) := by decide +kernel
theorem dX0_add_10 : decode cX0_add 10 = .ok (.aload_n 0, 1) := by decide +kernel
theorem dX0_add_11 : decode cX0_add 11 = .ok (.getfield 15, 3) := by decide +kernel
theorem dX0_add_14 : decode cX0_add 14 = .ok (.aload_n 0, 1) := by decide +kernel
theorem dX0_add_15 : decode cX0_add 15 = .ok (.getfield 30, 3) := by decide +kernel
theorem dX0_add_18 : decode cX0_add 18 = .ok (.iload_n 2, 1) := by decide +kernel
theorem dX0_add_19 : decode cX0_add 19 = .ok (.iastore, 1) := by decide +kernel
theorem dX0_add_20 : decode cX0_add 20 = .ok (.aload_n 0, 1) := by decide +kernel
theorem dX0_add_21 : decode cX0_add 21 = .ok (.getfield 18, 3) := by decide +kernel
theorem dX0_add_24 : decode cX0_add 24 = .ok (.aload_n 0, 1) := by decide +kernel
theorem dX0_add_25 : decode cX0_add 25 = .ok (.getfield 30, 3) := by decide +kernel
theorem dX0_add_28 : decode cX0_add 28 = .ok (.iload_n 3, 1) := by decide +kernel
theorem dX0_add_29 : decode cX0_add 29 = .ok (.iastore, 1) := by decide +kernel
theorem dX0_add_30 : decode cX0_add 30 = .ok (.aload_n 0, 1) := by decide +kernel
theorem dX0_add_31 : decode cX0_add 31 = .ok (.dup, 1) := by decide +kernel
theorem dX0_add_32 : decode cX0_add 32 = .ok (.getfield 30, 3) := by decide +kernel
theorem dX0_add_35 : decode cX0_add 35 = .ok (.dup_x1, 1) := by decide +kernel
theorem dX0_add_36 : decode cX0_add 36 = .ok (.iconst 1, 1) := by decide +kernel
theorem dX0_add_37 : decode cX0_add 37 = .ok (.iadd, 1) := by decide +kernel
theorem dX0_add_38 : decode cX0_add 38 = .ok (.putfield 30, 3) := by decide +kernel
theorem dX0_add_41 : decode cX0_add 41 = .ok (.ireturn, 1) := by decide +kernel
theorem dX0_isInForce_0 : decode cX0_isInForce 0 = .ok (.aload_n 0, 1) := by decide +kernel
theorem dX0_isInForce_1 : decode cX0_isInForce 1 = .ok (.getfield 18, 3) := by decide +kernel
theorem dX0_isInForce_4 : decode cX0_isInForce 4 = .ok (.iload_n 1, 1) := by decide +kernel
theorem dX0_isInForce_5 : decode cX0_isInForce 5 = .ok (.iaload, 1) := by decide +kernel
theorem dX0_isInForce_6 : decode cX0_isInForce 6 = .ok (.iload_n 2, 1) := by decide +kernel
theorem dX0_isInForce_7 : decode cX0_isInForce 7 = .ok (.if_icmp .gt 7, 3) := by decide +kernel
theorem dX0_isInForce_10 : decode cX0_isInForce 10 = .ok (.iconst 1, 1) := by decide +kernel
theorem dX0_isInForce_11 : decode cX0_isInForce 11 = .ok (.goto 4, 3) := by decide +kernel
theorem dX0_isInForce_14 : decode cX0_isInForce 14 = .ok (.iconst 0, 1) := by decide +kernel
theorem dX0_isInForce_15 : decode cX0_isInForce 15 = .ok (.ireturn, 1) := by decide +kernel
theorem dX0_isTurned_0 : decode cX0_isTurned 0 = .ok (.aload_n 0, 1) := by decide +kernel
theorem dX0_isTurned_1 : decode cX0_isTurned 1 = .ok (.getfield 21, 3) := by decide +kernel
theorem dX0_isTurned_4 : decode cX0_isTurned 4 = .ok (.iload_n 1, 1) := by decide +kernel
theorem dX0_isTurned_5 : decode cX0_isTurned 5 = .ok (.iaload, 1) := by decide +kernel
theorem dX0_isTurned_6 : decode cX0_isTurned 6 = .ok (.iconst (-1), 1) := by decide +kernel
theorem dX0_isTurned_7 : decode cX0_isTurned 7 = .ok (.if_icmp .eq 7, 3) := by decide +kernel
theorem dX0_isTurned_10 : decode cX0_isTurned 10 = .ok (.iconst 1, 1) := by decide +kernel
theorem dX0_isTurned_11 : decode cX0_isTurned 11 = .ok (.goto 4, 3) := by decide +kernel
theorem dX0_isTurned_14 : decode cX0_isTurned 14 = .ok (.iconst 0, 1) := by decide +kernel
theorem dX0_isTurned_15 : decode cX0_isTurned 15 = .ok (.ireturn, 1) := by decide +kernel
theorem dX0_turnInto_0 : decode cX0_turnInto 0 = .ok (.aload_n 0, 1) := by decide +kernel
theorem dX0_turnInto_1 : decode cX0_turnInto 1 = .ok (.getfield 21, 3) := by decide +kernel
theorem dX0_turnInto_4 : decode cX0_turnInto 4 = .ok (.iload_n 1, 1) := by decide +kernel
theorem dX0_turnInto_5 : decode cX0_turnInto 5 = .ok (.iload_n 2, 1) := by decide +kernel
theorem dX0_turnInto_6 : decode cX0_turnInto 6 = .ok (.iastore, 1) := by decide +kernel
theorem dX0_turnInto_7 : decode cX0_turnInto 7 = .ok (.aload_n 0, 1) := by decide +kernel
theorem dX0_turnInto_8 : decode cX0_turnInto 8 = .ok (.getfield 24, 3) := by decide +kernel
theorem dX0_turnInto_11 : decode cX0_turnInto 11 = .ok (.iload_n 1, 1) := by decide +kernel
theorem dX0_turnInto_12 : decode cX0_turnInto 12 = .ok (.iload_n 3, 1) := by decide +kernel
theorem dX0_turnInto_13 : decode cX0_turnInto 13 = .ok (.iastore, 1) := by decide +kernel
theorem dX0_turnInto_14 : decode cX0_turnInto 14 = .ok (.return_, 1) := by decide +kernel
theorem dX0_standingFor_0 : decode cX0_standingFor 0 = .ok (.iload_n 1, 1) := by decide +kernel
theorem dX0_standingFor_1 : decode cX0_standingFor 1 = .ok (.istore_n 3, 1) := by decide +kernel
theorem dX0_standingFor_2 : decode cX0_standingFor 2 = .ok (.iconst 0, 1) := by decide +kernel
theorem dX0_standingFor_3 : decode cX0_standingFor 3 = .ok (.istore 4, 2) := by decide +kernel
theorem dX0_standingFor_5 : decode cX0_standingFor 5 = .ok (.iload 4, 2) := by decide +kernel
theorem dX0_standingFor_7 : decode cX0_standingFor 7 = .ok (.bipush 40, 2) := by decide +kernel
theorem dX0_standingFor_9 : decode cX0_standingFor 9 = .ok (.if_icmp .ge 39, 3) := by decide +kernel
theorem dX0_standingFor_12 : decode cX0_standingFor 12 = .ok (.aload_n 0, 1) := by decide +kernel
theorem dX0_standingFor_13 : decode cX0_standingFor 13 = .ok (.getfield 21, 3) := by decide +kernel
theorem dX0_standingFor_16 : decode cX0_standingFor 16 = .ok (.iload_n 3, 1) := by decide +kernel
theorem dX0_standingFor_17 : decode cX0_standingFor 17 = .ok (.iaload, 1) := by decide +kernel
theorem dX0_standingFor_18 : decode cX0_standingFor 18 = .ok (.iconst (-1), 1) := by decide +kernel
theorem dX0_standingFor_19 : decode cX0_standingFor 19 = .ok (.if_icmp .eq 29, 3) := by decide +kernel
theorem dX0_standingFor_22 : decode cX0_standingFor 22 = .ok (.aload_n 0, 1) := by decide +kernel
theorem dX0_standingFor_23 : decode cX0_standingFor 23 = .ok (.getfield 24, 3) := by decide +kernel
theorem dX0_standingFor_26 : decode cX0_standingFor 26 = .ok (.iload_n 3, 1) := by decide +kernel
theorem dX0_standingFor_27 : decode cX0_standingFor 27 = .ok (.iaload, 1) := by decide +kernel
theorem dX0_standingFor_28 : decode cX0_standingFor 28 = .ok (.iload_n 2, 1) := by decide +kernel
theorem dX0_standingFor_29 : decode cX0_standingFor 29 = .ok (.if_icmp .le 6, 3) := by decide +kernel
theorem dX0_standingFor_32 : decode cX0_standingFor 32 = .ok (.goto 16, 3) := by decide +kernel
theorem dX0_standingFor_35 : decode cX0_standingFor 35 = .ok (.aload_n 0, 1) := by decide +kernel
theorem dX0_standingFor_36 : decode cX0_standingFor 36 = .ok (.getfield 21, 3) := by decide +kernel
theorem dX0_standingFor_39 : decode cX0_standingFor 39 = .ok (.iload_n 3, 1) := by decide +kernel
theorem dX0_standingFor_40 : decode cX0_standingFor 40 = .ok (.iaload, 1) := by decide +kernel
theorem dX0_standingFor_41 : decode cX0_standingFor 41 = .ok (.istore_n 3, 1) := by decide +kernel
theorem dX0_standingFor_42 : decode cX0_standingFor 42 = .ok (.iinc 4 1, 3) := by decide +kernel
theorem dX0_standingFor_45 : decode cX0_standingFor 45 = .ok (.goto (-40), 3) := by decide +kernel
theorem dX0_standingFor_48 : decode cX0_standingFor 48 = .ok (.iload_n 3, 1) := by decide +kernel
theorem dX0_standingFor_49 : decode cX0_standingFor 49 = .ok (.ireturn, 1) := by decide +kernel
theorem dX0_groupOf_0 : decode cX0_groupOf 0 = .ok (.aload_n 0, 1) := by decide +kernel
theorem dX0_groupOf_1 : decode cX0_groupOf 1 = .ok (.getfield 9, 3) := by decide +kernel
theorem dX0_groupOf_4 : decode cX0_groupOf 4 = .ok (.iload_n 1, 1) := by decide +kernel
theorem dX0_groupOf_5 : decode cX0_groupOf 5 = .ok (.iaload, 1) := by decide +kernel
theorem dX0_groupOf_6 : decode cX0_groupOf 6 = .ok (.ireturn, 1) := by decide +kernel
theorem dX0_pointsOf_0 : decode cX0_pointsOf 0 = .ok (.aload_n 0, 1) := by decide +kernel
theorem dX0_pointsOf_1 : decode cX0_pointsOf 1 = .ok (.getfield 15, 3) := by decide +kernel
theorem dX0_pointsOf_4 : decode cX0_pointsOf 4 = .ok (.iload_n 1, 1) := by decide +kernel
theorem dX0_pointsOf_5 : decode cX0_pointsOf 5 = .ok (.iaload, 1) := by decide +kernel
theorem dX0_pointsOf_6 : decode cX0_pointsOf 6 = .ok (.ireturn, 1) := by decide +kernel
theorem dX0_mostOf_0 : decode cX0_mostOf 0 = .ok (.aload_n 0, 1) := by decide +kernel
theorem dX0_mostOf_1 : decode cX0_mostOf 1 = .ok (.getfield 27, 3) := by decide +kernel
theorem dX0_mostOf_4 : decode cX0_mostOf 4 = .ok (.iload_n 1, 1) := by decide +kernel
theorem dX0_mostOf_5 : decode cX0_mostOf 5 = .ok (.iaload, 1) := by decide +kernel
theorem dX0_mostOf_6 : decode cX0_mostOf 6 = .ok (.ireturn, 1) := by decide +kernel
theorem dX0_changeMost_0 : decode cX0_changeMost 0 = .ok (.aload_n 0, 1) := by decide +kernel
theorem dX0_changeMost_1 : decode cX0_changeMost 1 = .ok (.getfield 27, 3) := by decide +kernel
theorem dX0_changeMost_4 : decode cX0_changeMost 4 = .ok (.iload_n 1, 1) := by decide +kernel
theorem dX0_changeMost_5 : decode cX0_changeMost 5 = .ok (.iaload, 1) := by decide +kernel
theorem dX0_changeMost_6 : decode cX0_changeMost 6 = .ok (.istore_n 3, 1) := by decide +kernel
theorem dX0_changeMost_7 : decode cX0_changeMost 7 = .ok (.aload_n 0, 1) := by decide +kernel
theorem dX0_changeMost_8 : decode cX0_changeMost 8 = .ok (.getfield 27, 3) := by decide +kernel
theorem dX0_changeMost_11 : decode cX0_changeMost 11 = .ok (.iload_n 1, 1) := by decide +kernel
theorem dX0_changeMost_12 : decode cX0_changeMost 12 = .ok (.iload_n 2, 1) := by decide +kernel
theorem dX0_changeMost_13 : decode cX0_changeMost 13 = .ok (.iastore, 1) := by decide +kernel
theorem dX0_changeMost_14 : decode cX0_changeMost 14 = .ok (.iload_n 3, 1) := by decide +kernel
theorem dX0_changeMost_15 : decode cX0_changeMost 15 = .ok (.ireturn, 1) := by decide +kernel
theorem dX1_init_0 : decode cX1_init 0 = .ok (.aload_n 0, 1) := by decide +kernel
theorem dX1_init_1 : decode cX1_init 1 = .ok (.invokespecial 3, 3) := by decide +kernel
theorem dX1_init_4 : decode cX1_init 4 = .ok (.aload_n 0, 1) := by decide +kernel
theorem dX1_init_5 : decode cX1_init 5 = .ok (.bipush 20, 2) := by decide +kernel
theorem dX1_init_7 : decode cX1_init 7 = .ok (.newarray .int, 2) := by decide +kernel
theorem dX1_init_9 : decode cX1_init 9 = .ok (.putfield 9, 3) := by decide +kernel
theorem dX1_init_12 : decode cX1_init 12 = .ok (.aload_n 0, 1) := by decide +kernel
theorem dX1_init_13 : decode cX1_init 13 = .ok (.bipush 20, 2) := by decide +kernel
theorem dX1_init_15 : decode cX1_init 15 = .ok (.newarray .int, 2) := by decide +kernel
theorem dX1_init_17 : decode cX1_init 17 = .ok (.putfield 15, 3) := by decide +kernel
theorem dX1_init_20 : decode cX1_init 20 = .ok (.aload_n 0, 1) := by decide +kernel
theorem dX1_init_21 : decode cX1_init 21 = .ok (.bipush 20, 2) := by decide +kernel
theorem dX1_init_23 : decode cX1_init 23 = .ok (.newarray .int, 2) := by decide +kernel
theorem dX1_init_25 : decode cX1_init 25 = .ok (.putfield 18, 3) := by decide +kernel
theorem dX1_init_28 : decode cX1_init 28 = .ok (.aload_n 0, 1) := by decide +kernel
theorem dX1_init_29 : decode cX1_init 29 = .ok (.bipush 20, 2) := by decide +kernel
theorem dX1_init_31 : decode cX1_init 31 = .ok (.newarray .int, 2) := by decide +kernel
theorem dX1_init_33 : decode cX1_init 33 = .ok (.putfield 21, 3) := by decide +kernel
theorem dX1_init_36 : decode cX1_init 36 = .ok (.aload_n 0, 1) := by decide +kernel
theorem dX1_init_37 : decode cX1_init 37 = .ok (.bipush 20, 2) := by decide +kernel
theorem dX1_init_39 : decode cX1_init 39 = .ok (.newarray .int, 2) := by decide +kernel
theorem dX1_init_41 : decode cX1_init 41 = .ok (.putfield 24, 3) := by decide +kernel
theorem dX1_init_44 : decode cX1_init 44 = .ok (.aload_n 0, 1) := by decide +kernel
theorem dX1_init_45 : decode cX1_init 45 = .ok (.new 27, 3) := by decide +kernel
theorem dX1_init_48 : decode cX1_init 48 = .ok (.dup, 1) := by decide +kernel
theorem dX1_init_49 : decode cX1_init 49 = .ok (.invokespecial 29, 3) := by decide +kernel
theorem dX1_init_52 : decode cX1_init 52 = .ok (.putfield 30, 3) := by decide +kernel
theorem dX1_init_55 : decode cX1_init 55 = .ok (.aload_n 0, 1) := by decide +kernel
theorem dX1_init_56 : decode cX1_init 56 = .ok (.iconst 0, 1) := by decide +kernel
theorem dX1_init_57 : decode cX1_init 57 = .ok (.putfield 34, 3) := by decide +kernel
theorem dX1_init_60 : decode cX1_init 60 = .ok (.aload_n 0, 1) := by decide +kernel
theorem dX1_init_61 : decode cX1_init 61 = .ok (.aload_n 1, 1) := by decide +kernel
theorem dX1_init_62 : decode cX1_init 62 = .ok (.putfield 38, 3) := by decide +kernel
theorem dX1_init_65 : decode cX1_init 65 = .ok (.return_, 1) := by decide +kernel
theorem dX1_size_0 : decode cX1_size 0 = .ok (.aload_n 0, 1) := by decide +kernel
theorem dX1_size_1 : decode cX1_size 1 = .ok (.getfield 34, 3) := by decide +kernel
theorem dX1_size_4 : decode cX1_size 4 = .ok (.ireturn, 1) := by decide +kernel
theorem dX1_isFull_0 : decode cX1_isFull 0 = .ok (.aload_n 0, 1) := by decide +kernel
theorem dX1_isFull_1 : decode cX1_isFull 1 = .ok (.getfield 34, 3) := by decide +kernel
theorem dX1_isFull_4 : decode cX1_isFull 4 = .ok (.bipush 20, 2) := by decide +kernel
theorem dX1_isFull_6 : decode cX1_isFull 6 = .ok (.if_icmp .lt 7, 3) := by decide +kernel
theorem dX1_isFull_9 : decode cX1_isFull 9 = .ok (.iconst 1, 1) := by decide +kernel
theorem dX1_isFull_10 : decode cX1_isFull 10 = .ok (.goto 4, 3) := by decide +kernel
theorem dX1_isFull_13 : decode cX1_isFull 13 = .ok (.iconst 0, 1) := by decide +kernel
theorem dX1_isFull_14 : decode cX1_isFull 14 = .ok (.ireturn, 1) := by decide +kernel
theorem dX1_has_0 : decode cX1_has 0 = .ok (.iload_n 1, 1) := by decide +kernel
theorem dX1_has_1 : decode cX1_has 1 = .ok (.ifCond .lt 15, 3) := by decide +kernel
theorem dX1_has_4 : decode cX1_has 4 = .ok (.iload_n 1, 1) := by decide +kernel
theorem dX1_has_5 : decode cX1_has 5 = .ok (.aload_n 0, 1) := by decide +kernel
theorem dX1_has_6 : decode cX1_has 6 = .ok (.getfield 34, 3) := by decide +kernel
theorem dX1_has_9 : decode cX1_has 9 = .ok (.if_icmp .ge 7, 3) := by decide +kernel
theorem dX1_has_12 : decode cX1_has 12 = .ok (.iconst 1, 1) := by decide +kernel
theorem dX1_has_13 : decode cX1_has 13 = .ok (.goto 4, 3) := by decide +kernel
theorem dX1_has_16 : decode cX1_has 16 = .ok (.iconst 0, 1) := by decide +kernel
theorem dX1_has_17 : decode cX1_has 17 = .ok (.ireturn, 1) := by decide +kernel
theorem dX1_add_0 : decode cX1_add 0 = .ok (.aload_n 0, 1) := by decide +kernel
theorem dX1_add_1 : decode cX1_add 1 = .ok (.getfield 9, 3) := by decide +kernel
theorem dX1_add_4 : decode cX1_add 4 = .ok (.aload_n 0, 1) := by decide +kernel
theorem dX1_add_5 : decode cX1_add 5 = .ok (.getfield 34, 3) := by decide +kernel
theorem dX1_add_8 : decode cX1_add 8 = .ok (.iload_n 1, 1) := by decide +kernel
theorem dX1_add_9 : decode cX1_add 9 = .ok (.iastore, 1) := by decide +kernel
theorem dX1_add_10 : decode cX1_add 10 = .ok (.aload_n 0, 1) := by decide +kernel
theorem dX1_add_11 : decode cX1_add 11 = .ok (.getfield 15, 3) := by decide +kernel
theorem dX1_add_14 : decode cX1_add 14 = .ok (.aload_n 0, 1) := by decide +kernel
theorem dX1_add_15 : decode cX1_add 15 = .ok (.getfield 34, 3) := by decide +kernel
theorem dX1_add_18 : decode cX1_add 18 = .ok (.iload_n 2, 1) := by decide +kernel
theorem dX1_add_19 : decode cX1_add 19 = .ok (.iastore, 1) := by decide +kernel
theorem dX1_add_20 : decode cX1_add 20 = .ok (.aload_n 0, 1) := by decide +kernel
theorem dX1_add_21 : decode cX1_add 21 = .ok (.getfield 18, 3) := by decide +kernel
theorem dX1_add_24 : decode cX1_add 24 = .ok (.aload_n 0, 1) := by decide +kernel
theorem dX1_add_25 : decode cX1_add 25 = .ok (.getfield 34, 3) := by decide +kernel
theorem dX1_add_28 : decode cX1_add 28 = .ok (.iload_n 3, 1) := by decide +kernel
theorem dX1_add_29 : decode cX1_add 29 = .ok (.iastore, 1) := by decide +kernel
theorem dX1_add_30 : decode cX1_add 30 = .ok (.aload_n 0, 1) := by decide +kernel
theorem dX1_add_31 : decode cX1_add 31 = .ok (.getfield 21, 3) := by decide +kernel
theorem dX1_add_34 : decode cX1_add 34 = .ok (.aload_n 0, 1) := by decide +kernel
theorem dX1_add_35 : decode cX1_add 35 = .ok (.getfield 34, 3) := by decide +kernel
theorem dX1_add_38 : decode cX1_add 38 = .ok (.iload 4, 2) := by decide +kernel
theorem dX1_add_40 : decode cX1_add 40 = .ok (.iastore, 1) := by decide +kernel
theorem dX1_add_41 : decode cX1_add 41 = .ok (.aload_n 0, 1) := by decide +kernel
theorem dX1_add_42 : decode cX1_add 42 = .ok (.dup, 1) := by decide +kernel
theorem dX1_add_43 : decode cX1_add 43 = .ok (.getfield 34, 3) := by decide +kernel
theorem dX1_add_46 : decode cX1_add 46 = .ok (.dup_x1, 1) := by decide +kernel
theorem dX1_add_47 : decode cX1_add 47 = .ok (.iconst 1, 1) := by decide +kernel
theorem dX1_add_48 : decode cX1_add 48 = .ok (.iadd, 1) := by decide +kernel
theorem dX1_add_49 : decode cX1_add 49 = .ok (.putfield 34, 3) := by decide +kernel
theorem dX1_add_52 : decode cX1_add 52 = .ok (.ireturn, 1) := by decide +kernel
theorem dX1_shareOf_0 : decode cX1_shareOf 0 = .ok (.aload_n 0, 1) := by decide +kernel
theorem dX1_shareOf_1 : decode cX1_shareOf 1 = .ok (.iload_n 1, 1) := by decide +kernel
theorem dX1_shareOf_2 : decode cX1_shareOf 2 = .ok (.invokevirtual 42, 3) := by decide +kernel
theorem dX1_shareOf_5 : decode cX1_shareOf 5 = .ok (.istore_n 3, 1) := by decide +kernel
theorem dX1_shareOf_6 : decode cX1_shareOf 6 = .ok (.aload_n 0, 1) := by decide +kernel
theorem dX1_shareOf_7 : decode cX1_shareOf 7 = .ok (.getfield 30, 3) := by decide +kernel
theorem dX1_shareOf_10 : decode cX1_shareOf 10 = .ok (.aload_n 0, 1) := by decide +kernel
theorem dX1_shareOf_11 : decode cX1_shareOf 11 = .ok (.getfield 24, 3) := by decide +kernel
theorem dX1_shareOf_14 : decode cX1_shareOf 14 = .ok (.iload_n 2, 1) := by decide +kernel
theorem dX1_shareOf_15 : decode cX1_shareOf 15 = .ok (.iaload, 1) := by decide +kernel
theorem dX1_shareOf_16 : decode cX1_shareOf 16 = .ok (.i2l, 1) := by decide +kernel
theorem dX1_shareOf_17 : decode cX1_shareOf 17 = .ok (.iload_n 3, 1) := by decide +kernel
theorem dX1_shareOf_18 : decode cX1_shareOf 18 = .ok (.i2l, 1) := by decide +kernel
theorem dX1_shareOf_19 : decode cX1_shareOf 19 = .ok (.invokevirtual 46, 3) := by decide +kernel
theorem dX1_shareOf_22 : decode cX1_shareOf 22 = .ok (.aload_n 0, 1) := by decide +kernel
theorem dX1_shareOf_23 : decode cX1_shareOf 23 = .ok (.getfield 30, 3) := by decide +kernel
theorem dX1_shareOf_26 : decode cX1_shareOf 26 = .ok (.areturn, 1) := by decide +kernel
theorem dX1_kitchenOf_0 : decode cX1_kitchenOf 0 = .ok (.aload_n 0, 1) := by decide +kernel
theorem dX1_kitchenOf_1 : decode cX1_kitchenOf 1 = .ok (.iload_n 1, 1) := by decide +kernel
theorem dX1_kitchenOf_2 : decode cX1_kitchenOf 2 = .ok (.invokevirtual 42, 3) := by decide +kernel
theorem dX1_kitchenOf_5 : decode cX1_kitchenOf 5 = .ok (.istore_n 2, 1) := by decide +kernel
theorem dX1_kitchenOf_6 : decode cX1_kitchenOf 6 = .ok (.iconst 0, 1) := by decide +kernel
theorem dX1_kitchenOf_7 : decode cX1_kitchenOf 7 = .ok (.istore_n 3, 1) := by decide +kernel
theorem dX1_kitchenOf_8 : decode cX1_kitchenOf 8 = .ok (.iload_n 3, 1) := by decide +kernel
theorem dX1_kitchenOf_9 : decode cX1_kitchenOf 9 = .ok (.aload_n 0, 1) := by decide +kernel
theorem dX1_kitchenOf_10 : decode cX1_kitchenOf 10 = .ok (.getfield 38, 3) := by decide +kernel
theorem dX1_kitchenOf_13 : decode cX1_kitchenOf 13 = .ok (.invokevirtual 50, 3) := by decide +kernel
theorem dX1_kitchenOf_16 : decode cX1_kitchenOf 16 = .ok (.if_icmp .ge 23, 3) := by decide +kernel
theorem dX1_kitchenOf_19 : decode cX1_kitchenOf 19 = .ok (.iconst 2, 1) := by decide +kernel
theorem dX1_kitchenOf_20 : decode cX1_kitchenOf 20 = .ok (.aload_n 0, 1) := by decide +kernel
theorem dX1_kitchenOf_21 : decode cX1_kitchenOf 21 = .ok (.getfield 24, 3) := by decide +kernel
theorem dX1_kitchenOf_24 : decode cX1_kitchenOf 24 = .ok (.iload_n 3, 1) := by decide +kernel
theorem dX1_kitchenOf_25 : decode cX1_kitchenOf 25 = .ok (.iaload, 1) := by decide +kernel
theorem dX1_kitchenOf_26 : decode cX1_kitchenOf 26 = .ok (.imul, 1) := by decide +kernel
theorem dX1_kitchenOf_27 : decode cX1_kitchenOf 27 = .ok (.iload_n 2, 1) := by decide +kernel
theorem dX1_kitchenOf_28 : decode cX1_kitchenOf 28 = .ok (.if_icmp .le 5, 3) := by decide +kernel
theorem dX1_kitchenOf_31 : decode cX1_kitchenOf 31 = .ok (.iload_n 3, 1) := by decide +kernel
theorem dX1_kitchenOf_32 : decode cX1_kitchenOf 32 = .ok (.ireturn, 1) := by decide +kernel
theorem dX1_kitchenOf_33 : decode cX1_kitchenOf 33 = .ok (.iinc 3 1, 3) := by decide +kernel
theorem dX1_kitchenOf_36 : decode cX1_kitchenOf 36 = .ok (.goto (-28), 3) := by decide +kernel
theorem dX1_kitchenOf_39 : decode cX1_kitchenOf 39 = .ok (.bipush (-9), 2) := by decide +kernel
theorem dX1_kitchenOf_41 : decode cX1_kitchenOf 41 = .ok (.ireturn, 1) := by decide +kernel
theorem dX1_joinedSize_0 : decode cX1_joinedSize 0 = .ok (.iconst 0, 1) := by decide +kernel
theorem dX1_joinedSize_1 : decode cX1_joinedSize 1 = .ok (.istore_n 1, 1) := by decide +kernel
theorem dX1_joinedSize_2 : decode cX1_joinedSize 2 = .ok (.iconst 0, 1) := by decide +kernel
theorem dX1_joinedSize_3 : decode cX1_joinedSize 3 = .ok (.istore_n 2, 1) := by decide +kernel
theorem dX1_joinedSize_4 : decode cX1_joinedSize 4 = .ok (.iload_n 2, 1) := by decide +kernel
theorem dX1_joinedSize_5 : decode cX1_joinedSize 5 = .ok (.aload_n 0, 1) := by decide +kernel
theorem dX1_joinedSize_6 : decode cX1_joinedSize 6 = .ok (.getfield 34, 3) := by decide +kernel
theorem dX1_joinedSize_9 : decode cX1_joinedSize 9 = .ok (.if_icmp .ge 22, 3) := by decide +kernel
theorem dX1_joinedSize_12 : decode cX1_joinedSize 12 = .ok (.aload_n 0, 1) := by decide +kernel
theorem dX1_joinedSize_13 : decode cX1_joinedSize 13 = .ok (.iload_n 2, 1) := by decide +kernel
theorem dX1_joinedSize_14 : decode cX1_joinedSize 14 = .ok (.invokevirtual 55, 3) := by decide +kernel
theorem dX1_joinedSize_17 : decode cX1_joinedSize 17 = .ok (.bipush (-9), 2) := by decide +kernel
theorem dX1_joinedSize_19 : decode cX1_joinedSize 19 = .ok (.if_icmp .eq 6, 3) := by decide +kernel
theorem dX1_joinedSize_22 : decode cX1_joinedSize 22 = .ok (.iinc 1 1, 3) := by decide +kernel
theorem dX1_joinedSize_25 : decode cX1_joinedSize 25 = .ok (.iinc 2 1, 3) := by decide +kernel
theorem dX1_joinedSize_28 : decode cX1_joinedSize 28 = .ok (.goto (-24), 3) := by decide +kernel
theorem dX1_joinedSize_31 : decode cX1_joinedSize 31 = .ok (.iload_n 1, 1) := by decide +kernel
theorem dX1_joinedSize_32 : decode cX1_joinedSize 32 = .ok (.ireturn, 1) := by decide +kernel
theorem dX1_weighAll_0 : decode cX1_weighAll 0 = .ok (.iconst 0, 1) := by decide +kernel
theorem dX1_weighAll_1 : decode cX1_weighAll 1 = .ok (.istore_n 2, 1) := by decide +kernel
theorem dX1_weighAll_2 : decode cX1_weighAll 2 = .ok (.iconst 0, 1) := by decide +kernel
theorem dX1_weighAll_3 : decode cX1_weighAll 3 = .ok (.istore_n 3, 1) := by decide +kernel
theorem dX1_weighAll_4 : decode cX1_weighAll 4 = .ok (.iload_n 3, 1) := by decide +kernel
theorem dX1_weighAll_5 : decode cX1_weighAll 5 = .ok (.aload_n 0, 1) := by decide +kernel
theorem dX1_weighAll_6 : decode cX1_weighAll 6 = .ok (.getfield 38, 3) := by decide +kernel
theorem dX1_weighAll_9 : decode cX1_weighAll 9 = .ok (.invokevirtual 50, 3) := by decide +kernel
theorem dX1_weighAll_12 : decode cX1_weighAll 12 = .ok (.if_icmp .ge 30, 3) := by decide +kernel
theorem dX1_weighAll_15 : decode cX1_weighAll 15 = .ok (.aload_n 0, 1) := by decide +kernel
theorem dX1_weighAll_16 : decode cX1_weighAll 16 = .ok (.getfield 24, 3) := by decide +kernel
theorem dX1_weighAll_19 : decode cX1_weighAll 19 = .ok (.iload_n 3, 1) := by decide +kernel
theorem dX1_weighAll_20 : decode cX1_weighAll 20 = .ok (.aload_n 0, 1) := by decide +kernel
theorem dX1_weighAll_21 : decode cX1_weighAll 21 = .ok (.iload_n 1, 1) := by decide +kernel
theorem dX1_weighAll_22 : decode cX1_weighAll 22 = .ok (.iload_n 3, 1) := by decide +kernel
theorem dX1_weighAll_23 : decode cX1_weighAll 23 = .ok (.invokevirtual 58, 3) := by decide +kernel
theorem dX1_weighAll_26 : decode cX1_weighAll 26 = .ok (.iastore, 1) := by decide +kernel
theorem dX1_weighAll_27 : decode cX1_weighAll 27 = .ok (.iload_n 2, 1) := by decide +kernel
theorem dX1_weighAll_28 : decode cX1_weighAll 28 = .ok (.aload_n 0, 1) := by decide +kernel
theorem dX1_weighAll_29 : decode cX1_weighAll 29 = .ok (.getfield 24, 3) := by decide +kernel
theorem dX1_weighAll_32 : decode cX1_weighAll 32 = .ok (.iload_n 3, 1) := by decide +kernel
theorem dX1_weighAll_33 : decode cX1_weighAll 33 = .ok (.iaload, 1) := by decide +kernel
theorem dX1_weighAll_34 : decode cX1_weighAll 34 = .ok (.iadd, 1) := by decide +kernel
theorem dX1_weighAll_35 : decode cX1_weighAll 35 = .ok (.istore_n 2, 1) := by decide +kernel
theorem dX1_weighAll_36 : decode cX1_weighAll 36 = .ok (.iinc 3 1, 3) := by decide +kernel
theorem dX1_weighAll_39 : decode cX1_weighAll 39 = .ok (.goto (-35), 3) := by decide +kernel
theorem dX1_weighAll_42 : decode cX1_weighAll 42 = .ok (.iload_n 2, 1) := by decide +kernel
theorem dX1_weighAll_43 : decode cX1_weighAll 43 = .ok (.ireturn, 1) := by decide +kernel
theorem dX1_weightOf_0 : decode cX1_weightOf 0 = .ok (.aload_n 0, 1) := by decide +kernel
theorem dX1_weightOf_1 : decode cX1_weightOf 1 = .ok (.getfield 38, 3) := by decide +kernel
theorem dX1_weightOf_4 : decode cX1_weightOf 4 = .ok (.iload_n 2, 1) := by decide +kernel
theorem dX1_weightOf_5 : decode cX1_weightOf 5 = .ok (.aload_n 0, 1) := by decide +kernel
theorem dX1_weightOf_6 : decode cX1_weightOf 6 = .ok (.getfield 9, 3) := by decide +kernel
theorem dX1_weightOf_9 : decode cX1_weightOf 9 = .ok (.iload_n 1, 1) := by decide +kernel
theorem dX1_weightOf_10 : decode cX1_weightOf 10 = .ok (.iaload, 1) := by decide +kernel
theorem dX1_weightOf_11 : decode cX1_weightOf 11 = .ok (.aload_n 0, 1) := by decide +kernel
theorem dX1_weightOf_12 : decode cX1_weightOf 12 = .ok (.getfield 21, 3) := by decide +kernel
theorem dX1_weightOf_15 : decode cX1_weightOf 15 = .ok (.iload_n 1, 1) := by decide +kernel
theorem dX1_weightOf_16 : decode cX1_weightOf 16 = .ok (.iaload, 1) := by decide +kernel
theorem dX1_weightOf_17 : decode cX1_weightOf 17 = .ok (.invokevirtual 62, 3) := by decide +kernel
theorem dX1_weightOf_20 : decode cX1_weightOf 20 = .ok (.ifCond .ne 5, 3) := by decide +kernel
theorem dX1_weightOf_23 : decode cX1_weightOf 23 = .ok (.iconst 0, 1) := by decide +kernel
theorem dX1_weightOf_24 : decode cX1_weightOf 24 = .ok (.ireturn, 1) := by decide +kernel
theorem dX1_weightOf_25 : decode cX1_weightOf 25 = .ok (.aload_n 0, 1) := by decide +kernel
theorem dX1_weightOf_26 : decode cX1_weightOf 26 = .ok (.getfield 38, 3) := by decide +kernel
theorem dX1_weightOf_29 : decode cX1_weightOf 29 = .ok (.iload_n 2, 1) := by decide +kernel
theorem dX1_weightOf_30 : decode cX1_weightOf 30 = .ok (.aload_n 0, 1) := by decide +kernel
theorem dX1_weightOf_31 : decode cX1_weightOf 31 = .ok (.getfield 15, 3) := by decide +kernel
theorem dX1_weightOf_34 : decode cX1_weightOf 34 = .ok (.iload_n 1, 1) := by decide +kernel
theorem dX1_weightOf_35 : decode cX1_weightOf 35 = .ok (.iaload, 1) := by decide +kernel
theorem dX1_weightOf_36 : decode cX1_weightOf 36 = .ok (.aload_n 0, 1) := by decide +kernel
theorem dX1_weightOf_37 : decode cX1_weightOf 37 = .ok (.getfield 18, 3) := by decide +kernel
theorem dX1_weightOf_40 : decode cX1_weightOf 40 = .ok (.iload_n 1, 1) := by decide +kernel
theorem dX1_weightOf_41 : decode cX1_weightOf 41 = .ok (.iaload, 1) := by decide +kernel
theorem dX1_weightOf_42 : decode cX1_weightOf 42 = .ok (.invokevirtual 66, 3) := by decide +kernel
theorem dX1_weightOf_45 : decode cX1_weightOf 45 = .ok (.istore_n 3, 1) := by decide +kernel
theorem dX1_weightOf_46 : decode cX1_weightOf 46 = .ok (.aload_n 0, 1) := by decide +kernel
theorem dX1_weightOf_47 : decode cX1_weightOf 47 = .ok (.getfield 38, 3) := by decide +kernel
theorem dX1_weightOf_50 : decode cX1_weightOf 50 = .ok (.iload_n 2, 1) := by decide +kernel
theorem dX1_weightOf_51 : decode cX1_weightOf 51 = .ok (.invokevirtual 70, 3) := by decide +kernel
theorem dX1_weightOf_54 : decode cX1_weightOf 54 = .ok (.iload_n 3, 1) := by decide +kernel
theorem dX1_weightOf_55 : decode cX1_weightOf 55 = .ok (.imul, 1) := by decide +kernel
theorem dX1_weightOf_56 : decode cX1_weightOf 56 = .ok (.ireturn, 1) := by decide +kernel
theorem dX2_init_0 : decode cX2_init 0 = .ok (.aload_n 0, 1) := by decide +kernel
theorem dX2_init_1 : decode cX2_init 1 = .ok (.invokespecial 1, 3) := by decide +kernel
theorem dX2_init_4 : decode cX2_init 4 = .ok (.aload_n 0, 1) := by decide +kernel
theorem dX2_init_5 : decode cX2_init 5 = .ok (.lconst 0, 1) := by decide +kernel
theorem dX2_init_6 : decode cX2_init 6 = .ok (.putfield 7, 3) := by decide +kernel
theorem dX2_init_9 : decode cX2_init 9 = .ok (.aload_n 0, 1) := by decide +kernel
theorem dX2_init_10 : decode cX2_init 10 = .ok (.lconst 1, 1) := by decide +kernel
theorem dX2_init_11 : decode cX2_init 11 = .ok (.putfield 13, 3) := by decide +kernel
theorem dX2_init_14 : decode cX2_init 14 = .ok (.return_, 1) := by decide +kernel
theorem dX2_put_0 : decode cX2_put 0 = .ok (.aload_n 0, 1) := by decide +kernel
theorem dX2_put_1 : decode cX2_put 1 = .ok (.lconst 0, 1) := by decide +kernel
theorem dX2_put_2 : decode cX2_put 2 = .ok (.putfield 7, 3) := by decide +kernel
theorem dX2_put_5 : decode cX2_put 5 = .ok (.aload_n 0, 1) := by decide +kernel
theorem dX2_put_6 : decode cX2_put 6 = .ok (.lconst 1, 1) := by decide +kernel
theorem dX2_put_7 : decode cX2_put 7 = .ok (.putfield 13, 3) := by decide +kernel
theorem dX2_put_10 : decode cX2_put 10 = .ok (.lload_n 1, 1) := by decide +kernel
theorem dX2_put_11 : decode cX2_put 11 = .ok (.invokestatic 16, 3) := by decide +kernel
theorem dX2_put_14 : decode cX2_put 14 = .ok (.lload_n 3, 1) := by decide +kernel
theorem dX2_put_15 : decode cX2_put 15 = .ok (.invokestatic 22, 3) := by decide +kernel
theorem dX2_put_18 : decode cX2_put 18 = .ok (.lstore 5, 2) := by decide +kernel
theorem dX2_put_20 : decode cX2_put 20 = .ok (.lload_n 3, 1) := by decide +kernel
theorem dX2_put_21 : decode cX2_put 21 = .ok (.lconst 0, 1) := by decide +kernel
theorem dX2_put_22 : decode cX2_put 22 = .ok (.lcmp, 1) := by decide +kernel
theorem dX2_put_23 : decode cX2_put 23 = .ok (.ifCond .le 26, 3) := by decide +kernel
theorem dX2_put_26 : decode cX2_put 26 = .ok (.lload 5, 2) := by decide +kernel
theorem dX2_put_28 : decode cX2_put 28 = .ok (.lconst 0, 1) := by decide +kernel
theorem dX2_put_29 : decode cX2_put 29 = .ok (.lcmp, 1) := by decide +kernel
theorem dX2_put_30 : decode cX2_put 30 = .ok (.ifCond .le 19, 3) := by decide +kernel
theorem dX2_put_33 : decode cX2_put 33 = .ok (.aload_n 0, 1) := by decide +kernel
theorem dX2_put_34 : decode cX2_put 34 = .ok (.lload_n 1, 1) := by decide +kernel
theorem dX2_put_35 : decode cX2_put 35 = .ok (.lload 5, 2) := by decide +kernel
theorem dX2_put_37 : decode cX2_put 37 = .ok (.ldiv, 1) := by decide +kernel
theorem dX2_put_38 : decode cX2_put 38 = .ok (.putfield 7, 3) := by decide +kernel
theorem dX2_put_41 : decode cX2_put 41 = .ok (.aload_n 0, 1) := by decide +kernel
theorem dX2_put_42 : decode cX2_put 42 = .ok (.lload_n 3, 1) := by decide +kernel
theorem dX2_put_43 : decode cX2_put 43 = .ok (.lload 5, 2) := by decide +kernel
theorem dX2_put_45 : decode cX2_put 45 = .ok (.ldiv, 1) := by decide +kernel
theorem dX2_put_46 : decode cX2_put 46 = .ok (.putfield 13, 3) := by decide +kernel
theorem dX2_put_49 : decode cX2_put 49 = .ok (.return_, 1) := by decide +kernel
theorem dX2_piece_0 : decode cX2_piece 0 = .ok (.iload_n 1, 1) := by decide +kernel
theorem dX2_piece_1 : decode cX2_piece 1 = .ok (.ifCond .ne 10, 3) := by decide +kernel
theorem dX2_piece_4 : decode cX2_piece 4 = .ok (.aload_n 0, 1) := by decide +kernel
theorem dX2_piece_5 : decode cX2_piece 5 = .ok (.getfield 7, 3) := by decide +kernel
theorem dX2_piece_8 : decode cX2_piece 8 = .ok (.goto 7, 3) := by decide +kernel
theorem dX2_piece_11 : decode cX2_piece 11 = .ok (.aload_n 0, 1) := by decide +kernel
theorem dX2_piece_12 : decode cX2_piece 12 = .ok (.getfield 13, 3) := by decide +kernel
theorem dX2_piece_15 : decode cX2_piece 15 = .ok (.lreturn, 1) := by decide +kernel
theorem dX2_commonDivisor_0 : decode cX2_commonDivisor 0 = .ok (.lload_n 0, 1) := by decide +kernel
theorem dX2_commonDivisor_1 : decode cX2_commonDivisor 1 = .ok (.lstore 4, 2) := by decide +kernel
theorem dX2_commonDivisor_3 : decode cX2_commonDivisor 3 = .ok (.lload_n 2, 1) := by decide +kernel
theorem dX2_commonDivisor_4 : decode cX2_commonDivisor 4 = .ok (.lstore 6, 2) := by decide +kernel
theorem dX2_commonDivisor_6 : decode cX2_commonDivisor 6 = .ok (.iconst 0, 1) := by decide +kernel
theorem dX2_commonDivisor_7 : decode cX2_commonDivisor 7 = .ok (.istore 8, 2) := by decide +kernel
theorem dX2_commonDivisor_9 : decode cX2_commonDivisor 9 = .ok (.iload 8, 2) := by decide +kernel
theorem dX2_commonDivisor_11 : decode cX2_commonDivisor 11 = .ok (.bipush 100, 2) := by decide +kernel
theorem dX2_commonDivisor_13 : decode cX2_commonDivisor 13 = .ok (.if_icmp .ge 31, 3) := by decide +kernel
theorem dX2_commonDivisor_16 : decode cX2_commonDivisor 16 = .ok (.lload 6, 2) := by decide +kernel
theorem dX2_commonDivisor_18 : decode cX2_commonDivisor 18 = .ok (.lconst 0, 1) := by decide +kernel
theorem dX2_commonDivisor_19 : decode cX2_commonDivisor 19 = .ok (.lcmp, 1) := by decide +kernel
theorem dX2_commonDivisor_20 : decode cX2_commonDivisor 20 = .ok (.ifCond .eq 24, 3) := by decide +kernel
theorem dX2_commonDivisor_23 : decode cX2_commonDivisor 23 = .ok (.lload 4, 2) := by decide +kernel
theorem dX2_commonDivisor_25 : decode cX2_commonDivisor 25 = .ok (.lload 6, 2) := by decide +kernel
theorem dX2_commonDivisor_27 : decode cX2_commonDivisor 27 = .ok (.lrem, 1) := by decide +kernel
theorem dX2_commonDivisor_28 : decode cX2_commonDivisor 28 = .ok (.lstore 9, 2) := by decide +kernel
theorem dX2_commonDivisor_30 : decode cX2_commonDivisor 30 = .ok (.lload 6, 2) := by decide +kernel
theorem dX2_commonDivisor_32 : decode cX2_commonDivisor 32 = .ok (.lstore 4, 2) := by decide +kernel
theorem dX2_commonDivisor_34 : decode cX2_commonDivisor 34 = .ok (.lload 9, 2) := by decide +kernel
theorem dX2_commonDivisor_36 : decode cX2_commonDivisor 36 = .ok (.lstore 6, 2) := by decide +kernel
theorem dX2_commonDivisor_38 : decode cX2_commonDivisor 38 = .ok (.iinc 8 1, 3) := by decide +kernel
theorem dX2_commonDivisor_41 : decode cX2_commonDivisor 41 = .ok (.goto (-32), 3) := by decide +kernel
theorem dX2_commonDivisor_44 : decode cX2_commonDivisor 44 = .ok (.lload 4, 2) := by decide +kernel
theorem dX2_commonDivisor_46 : decode cX2_commonDivisor 46 = .ok (.lreturn, 1) := by decide +kernel
theorem dX3_init_0 : decode cX3_init 0 = .ok (.aload_n 0, 1) := by decide +kernel
theorem dX3_init_1 : decode cX3_init 1 = .ok (.invokespecial 3, 3) := by decide +kernel
theorem dX3_init_4 : decode cX3_init 4 = .ok (.aload_n 0, 1) := by decide +kernel
theorem dX3_init_5 : decode cX3_init 5 = .ok (.bipush 80, 2) := by decide +kernel
theorem dX3_init_7 : decode cX3_init 7 = .ok (.newarray .int, 2) := by decide +kernel
theorem dX3_init_9 : decode cX3_init 9 = .ok (.putfield 9, 3) := by decide +kernel
theorem dX3_init_12 : decode cX3_init 12 = .ok (.aload_n 0, 1) := by decide +kernel
theorem dX3_init_13 : decode cX3_init 13 = .ok (.bipush 25, 2) := by decide +kernel
theorem dX3_init_15 : decode cX3_init 15 = .ok (.newarray .long, 2) := by decide +kernel
theorem dX3_init_17 : decode cX3_init 17 = .ok (.putfield 15, 3) := by decide +kernel
theorem dX3_init_20 : decode cX3_init 20 = .ok (.aload_n 0, 1) := by decide +kernel
theorem dX3_init_21 : decode cX3_init 21 = .ok (.iconst 5, 1) := by decide +kernel
theorem dX3_init_22 : decode cX3_init 22 = .ok (.newarray .long, 2) := by decide +kernel
theorem dX3_init_24 : decode cX3_init 24 = .ok (.putfield 19, 3) := by decide +kernel
theorem dX3_init_27 : decode cX3_init 27 = .ok (.aload_n 0, 1) := by decide +kernel
theorem dX3_init_28 : decode cX3_init 28 = .ok (.iconst 5, 1) := by decide +kernel
theorem dX3_init_29 : decode cX3_init 29 = .ok (.newarray .int, 2) := by decide +kernel
theorem dX3_init_31 : decode cX3_init 31 = .ok (.putfield 22, 3) := by decide +kernel
theorem dX3_init_34 : decode cX3_init 34 = .ok (.aload_n 0, 1) := by decide +kernel
theorem dX3_init_35 : decode cX3_init 35 = .ok (.new 25, 3) := by decide +kernel
theorem dX3_init_38 : decode cX3_init 38 = .ok (.dup, 1) := by decide +kernel
theorem dX3_init_39 : decode cX3_init 39 = .ok (.invokespecial 27, 3) := by decide +kernel
theorem dX3_init_42 : decode cX3_init 42 = .ok (.putfield 28, 3) := by decide +kernel
theorem dX3_init_45 : decode cX3_init 45 = .ok (.aload_n 0, 1) := by decide +kernel
theorem dX3_init_46 : decode cX3_init 46 = .ok (.aload_n 1, 1) := by decide +kernel
theorem dX3_init_47 : decode cX3_init 47 = .ok (.putfield 32, 3) := by decide +kernel
theorem dX3_init_50 : decode cX3_init 50 = .ok (.return_, 1) := by decide +kernel
theorem dX3_doublesNow_0 : decode cX3_doublesNow 0 = .ok (.iconst 0, 1) := by decide +kernel
theorem dX3_doublesNow_1 : decode cX3_doublesNow 1 = .ok (.istore_n 1, 1) := by decide +kernel
theorem dX3_doublesNow_2 : decode cX3_doublesNow 2 = .ok (.iconst 0, 1) := by decide +kernel
theorem dX3_doublesNow_3 : decode cX3_doublesNow 3 = .ok (.istore_n 2, 1) := by decide +kernel
theorem dX3_doublesNow_4 : decode cX3_doublesNow 4 = .ok (.iload_n 2, 1) := by decide +kernel
theorem dX3_doublesNow_5 : decode cX3_doublesNow 5 = .ok (.aload_n 0, 1) := by decide +kernel
theorem dX3_doublesNow_6 : decode cX3_doublesNow 6 = .ok (.getfield 32, 3) := by decide +kernel
theorem dX3_doublesNow_9 : decode cX3_doublesNow 9 = .ok (.invokevirtual 36, 3) := by decide +kernel
theorem dX3_doublesNow_12 : decode cX3_doublesNow 12 = .ok (.if_icmp .ge 42, 3) := by decide +kernel
theorem dX3_doublesNow_15 : decode cX3_doublesNow 15 = .ok (.iload_n 2, 1) := by decide +kernel
theorem dX3_doublesNow_16 : decode cX3_doublesNow 16 = .ok (.iconst 1, 1) := by decide +kernel
theorem dX3_doublesNow_17 : decode cX3_doublesNow 17 = .ok (.iadd, 1) := by decide +kernel
theorem dX3_doublesNow_18 : decode cX3_doublesNow 18 = .ok (.istore_n 3, 1) := by decide +kernel
theorem dX3_doublesNow_19 : decode cX3_doublesNow 19 = .ok (.iload_n 3, 1) := by decide +kernel
theorem dX3_doublesNow_20 : decode cX3_doublesNow 20 = .ok (.aload_n 0, 1) := by decide +kernel
theorem dX3_doublesNow_21 : decode cX3_doublesNow 21 = .ok (.getfield 32, 3) := by decide +kernel
theorem dX3_doublesNow_24 : decode cX3_doublesNow 24 = .ok (.invokevirtual 36, 3) := by decide +kernel
theorem dX3_doublesNow_27 : decode cX3_doublesNow 27 = .ok (.if_icmp .ge 21, 3) := by decide +kernel
theorem dX3_doublesNow_30 : decode cX3_doublesNow 30 = .ok (.aload_n 0, 1) := by decide +kernel
theorem dX3_doublesNow_31 : decode cX3_doublesNow 31 = .ok (.iload_n 2, 1) := by decide +kernel
theorem dX3_doublesNow_32 : decode cX3_doublesNow 32 = .ok (.iload_n 3, 1) := by decide +kernel
theorem dX3_doublesNow_33 : decode cX3_doublesNow 33 = .ok (.invokevirtual 42, 3) := by decide +kernel
theorem dX3_doublesNow_36 : decode cX3_doublesNow 36 = .ok (.ifCond .eq 6, 3) := by decide +kernel
theorem dX3_doublesNow_39 : decode cX3_doublesNow 39 = .ok (.iinc 1 1, 3) := by decide +kernel
theorem dX3_doublesNow_42 : decode cX3_doublesNow 42 = .ok (.iinc 3 1, 3) := by decide +kernel
theorem dX3_doublesNow_45 : decode cX3_doublesNow 45 = .ok (.goto (-26), 3) := by decide +kernel
theorem dX3_doublesNow_48 : decode cX3_doublesNow 48 = .ok (.iinc 2 1, 3) := by decide +kernel
theorem dX3_doublesNow_51 : decode cX3_doublesNow 51 = .ok (.goto (-47), 3) := by decide +kernel
theorem dX3_doublesNow_54 : decode cX3_doublesNow 54 = .ok (.iload_n 1, 1) := by decide +kernel
theorem dX3_doublesNow_55 : decode cX3_doublesNow 55 = .ok (.ireturn, 1) := by decide +kernel
theorem dX3_learn_0 : decode cX3_learn 0 = .ok (.aload_n 0, 1) := by decide +kernel
theorem dX3_learn_1 : decode cX3_learn 1 = .ok (.getfield 15, 3) := by decide +kernel
theorem dX3_learn_4 : decode cX3_learn 4 = .ok (.lconst 0, 1) := by decide +kernel
theorem dX3_learn_5 : decode cX3_learn 5 = .ok (.invokestatic 46, 3) := by decide +kernel
theorem dX3_learn_8 : decode cX3_learn 8 = .ok (.aload_n 0, 1) := by decide +kernel
theorem dX3_learn_9 : decode cX3_learn 9 = .ok (.getfield 19, 3) := by decide +kernel
theorem dX3_learn_12 : decode cX3_learn 12 = .ok (.lconst 0, 1) := by decide +kernel
theorem dX3_learn_13 : decode cX3_learn 13 = .ok (.invokestatic 46, 3) := by decide +kernel
theorem dX3_learn_16 : decode cX3_learn 16 = .ok (.aload_n 0, 1) := by decide +kernel
theorem dX3_learn_17 : decode cX3_learn 17 = .ok (.getfield 22, 3) := by decide +kernel
theorem dX3_learn_20 : decode cX3_learn 20 = .ok (.iconst 0, 1) := by decide +kernel
theorem dX3_learn_21 : decode cX3_learn 21 = .ok (.invokestatic 52, 3) := by decide +kernel
theorem dX3_learn_24 : decode cX3_learn 24 = .ok (.iconst 0, 1) := by decide +kernel
theorem dX3_learn_25 : decode cX3_learn 25 = .ok (.istore_n 1, 1) := by decide +kernel
theorem dX3_learn_26 : decode cX3_learn 26 = .ok (.iload_n 1, 1) := by decide +kernel
theorem dX3_learn_27 : decode cX3_learn 27 = .ok (.aload_n 0, 1) := by decide +kernel
theorem dX3_learn_28 : decode cX3_learn 28 = .ok (.getfield 32, 3) := by decide +kernel
theorem dX3_learn_31 : decode cX3_learn 31 = .ok (.invokevirtual 36, 3) := by decide +kernel
theorem dX3_learn_34 : decode cX3_learn 34 = .ok (.if_icmp .ge 23, 3) := by decide +kernel
theorem dX3_learn_37 : decode cX3_learn 37 = .ok (.aload_n 0, 1) := by decide +kernel
theorem dX3_learn_38 : decode cX3_learn 38 = .ok (.getfield 9, 3) := by decide +kernel
theorem dX3_learn_41 : decode cX3_learn 41 = .ok (.iload_n 1, 1) := by decide +kernel
theorem dX3_learn_42 : decode cX3_learn 42 = .ok (.aload_n 0, 1) := by decide +kernel
theorem dX3_learn_43 : decode cX3_learn 43 = .ok (.getfield 32, 3) := by decide +kernel
theorem dX3_learn_46 : decode cX3_learn 46 = .ok (.iload_n 1, 1) := by decide +kernel
theorem dX3_learn_47 : decode cX3_learn 47 = .ok (.invokevirtual 55, 3) := by decide +kernel
theorem dX3_learn_50 : decode cX3_learn 50 = .ok (.iastore, 1) := by decide +kernel
theorem dX3_learn_51 : decode cX3_learn 51 = .ok (.iinc 1 1, 3) := by decide +kernel
theorem dX3_learn_54 : decode cX3_learn 54 = .ok (.goto (-28), 3) := by decide +kernel
theorem dX3_learn_57 : decode cX3_learn 57 = .ok (.iconst 0, 1) := by decide +kernel
theorem dX3_learn_58 : decode cX3_learn 58 = .ok (.istore_n 1, 1) := by decide +kernel
theorem dX3_learn_59 : decode cX3_learn 59 = .ok (.iload_n 1, 1) := by decide +kernel
theorem dX3_learn_60 : decode cX3_learn 60 = .ok (.aload_n 0, 1) := by decide +kernel
theorem dX3_learn_61 : decode cX3_learn 61 = .ok (.getfield 32, 3) := by decide +kernel
theorem dX3_learn_64 : decode cX3_learn 64 = .ok (.invokevirtual 36, 3) := by decide +kernel
theorem dX3_learn_67 : decode cX3_learn 67 = .ok (.if_icmp .ge 51, 3) := by decide +kernel
theorem dX3_learn_70 : decode cX3_learn 70 = .ok (.iload_n 1, 1) := by decide +kernel
theorem dX3_learn_71 : decode cX3_learn 71 = .ok (.iconst 1, 1) := by decide +kernel
theorem dX3_learn_72 : decode cX3_learn 72 = .ok (.iadd, 1) := by decide +kernel
theorem dX3_learn_73 : decode cX3_learn 73 = .ok (.istore_n 2, 1) := by decide +kernel
theorem dX3_learn_74 : decode cX3_learn 74 = .ok (.iload_n 2, 1) := by decide +kernel
theorem dX3_learn_75 : decode cX3_learn 75 = .ok (.aload_n 0, 1) := by decide +kernel
theorem dX3_learn_76 : decode cX3_learn 76 = .ok (.getfield 32, 3) := by decide +kernel
theorem dX3_learn_79 : decode cX3_learn 79 = .ok (.invokevirtual 36, 3) := by decide +kernel
theorem dX3_learn_82 : decode cX3_learn 82 = .ok (.if_icmp .ge 30, 3) := by decide +kernel
theorem dX3_learn_85 : decode cX3_learn 85 = .ok (.aload_n 0, 1) := by decide +kernel
theorem dX3_learn_86 : decode cX3_learn 86 = .ok (.iload_n 1, 1) := by decide +kernel
theorem dX3_learn_87 : decode cX3_learn 87 = .ok (.iload_n 2, 1) := by decide +kernel
theorem dX3_learn_88 : decode cX3_learn 88 = .ok (.invokevirtual 42, 3) := by decide +kernel
theorem dX3_learn_91 : decode cX3_learn 91 = .ok (.ifCond .eq 15, 3) := by decide +kernel
theorem dX3_learn_94 : decode cX3_learn 94 = .ok (.aload_n 0, 1) := by decide +kernel
theorem dX3_learn_95 : decode cX3_learn 95 = .ok (.iload_n 1, 1) := by decide +kernel
theorem dX3_learn_96 : decode cX3_learn 96 = .ok (.iload_n 2, 1) := by decide +kernel
theorem dX3_learn_97 : decode cX3_learn 97 = .ok (.invokevirtual 59, 3) := by decide +kernel
theorem dX3_learn_100 : decode cX3_learn 100 = .ok (.aload_n 0, 1) := by decide +kernel
theorem dX3_learn_101 : decode cX3_learn 101 = .ok (.iload_n 2, 1) := by decide +kernel
theorem dX3_learn_102 : decode cX3_learn 102 = .ok (.iload_n 1, 1) := by decide +kernel
theorem dX3_learn_103 : decode cX3_learn 103 = .ok (.invokevirtual 59, 3) := by decide +kernel
theorem dX3_learn_106 : decode cX3_learn 106 = .ok (.iinc 2 1, 3) := by decide +kernel
theorem dX3_learn_109 : decode cX3_learn 109 = .ok (.goto (-35), 3) := by decide +kernel
theorem dX3_learn_112 : decode cX3_learn 112 = .ok (.iinc 1 1, 3) := by decide +kernel
theorem dX3_learn_115 : decode cX3_learn 115 = .ok (.goto (-56), 3) := by decide +kernel
theorem dX3_learn_118 : decode cX3_learn 118 = .ok (.aload_n 0, 1) := by decide +kernel
theorem dX3_learn_119 : decode cX3_learn 119 = .ok (.invokevirtual 63, 3) := by decide +kernel
theorem dX3_learn_122 : decode cX3_learn 122 = .ok (.iconst 0, 1) := by decide +kernel
theorem dX3_learn_123 : decode cX3_learn 123 = .ok (.istore_n 1, 1) := by decide +kernel
theorem dX3_learn_124 : decode cX3_learn 124 = .ok (.iload_n 1, 1) := by decide +kernel
theorem dX3_learn_125 : decode cX3_learn 125 = .ok (.iconst 5, 1) := by decide +kernel
theorem dX3_learn_126 : decode cX3_learn 126 = .ok (.if_icmp .ge 22, 3) := by decide +kernel
theorem dX3_learn_129 : decode cX3_learn 129 = .ok (.aload_n 0, 1) := by decide +kernel
theorem dX3_learn_130 : decode cX3_learn 130 = .ok (.iload_n 1, 1) := by decide +kernel
theorem dX3_learn_131 : decode cX3_learn 131 = .ok (.invokevirtual 66, 3) := by decide +kernel
theorem dX3_learn_134 : decode cX3_learn 134 = .ok (.ifCond .eq 8, 3) := by decide +kernel
theorem dX3_learn_137 : decode cX3_learn 137 = .ok (.aload_n 0, 1) := by decide +kernel
theorem dX3_learn_138 : decode cX3_learn 138 = .ok (.iload_n 1, 1) := by decide +kernel
theorem dX3_learn_139 : decode cX3_learn 139 = .ok (.invokevirtual 70, 3) := by decide +kernel
theorem dX3_learn_142 : decode cX3_learn 142 = .ok (.iinc 1 1, 3) := by decide +kernel
theorem dX3_learn_145 : decode cX3_learn 145 = .ok (.goto (-21), 3) := by decide +kernel
theorem dX3_learn_148 : decode cX3_learn 148 = .ok (.return_, 1) := by decide +kernel
theorem dX3_isInDouble_0 : decode cX3_isInDouble 0 = .ok (.aload_n 0, 1) := by decide +kernel
theorem dX3_isInDouble_1 : decode cX3_isInDouble 1 = .ok (.getfield 22, 3) := by decide +kernel
theorem dX3_isInDouble_4 : decode cX3_isInDouble 4 = .ok (.iload_n 1, 1) := by decide +kernel
theorem dX3_isInDouble_5 : decode cX3_isInDouble 5 = .ok (.iaload, 1) := by decide +kernel
theorem dX3_isInDouble_6 : decode cX3_isInDouble 6 = .ok (.ifCond .eq 7, 3) := by decide +kernel
theorem dX3_isInDouble_9 : decode cX3_isInDouble 9 = .ok (.iconst 1, 1) := by decide +kernel
theorem dX3_isInDouble_10 : decode cX3_isInDouble 10 = .ok (.goto 4, 3) := by decide +kernel
theorem dX3_isInDouble_13 : decode cX3_isInDouble 13 = .ok (.iconst 0, 1) := by decide +kernel
theorem dX3_isInDouble_14 : decode cX3_isInDouble 14 = .ok (.ireturn, 1) := by decide +kernel
theorem dX3_habitOf_0 : decode cX3_habitOf 0 = .ok (.aload_n 0, 1) := by decide +kernel
theorem dX3_habitOf_1 : decode cX3_habitOf 1 = .ok (.getfield 28, 3) := by decide +kernel
theorem dX3_habitOf_4 : decode cX3_habitOf 4 = .ok (.aload_n 0, 1) := by decide +kernel
theorem dX3_habitOf_5 : decode cX3_habitOf 5 = .ok (.getfield 15, 3) := by decide +kernel
theorem dX3_habitOf_8 : decode cX3_habitOf 8 = .ok (.aload_n 0, 1) := by decide +kernel
theorem dX3_habitOf_9 : decode cX3_habitOf 9 = .ok (.getfield 19, 3) := by decide +kernel
theorem dX3_habitOf_12 : decode cX3_habitOf 12 = .ok (.iload_n 1, 1) := by decide +kernel
theorem dX3_habitOf_13 : decode cX3_habitOf 13 = .ok (.iconst 0, 1) := by decide +kernel
theorem dX3_habitOf_14 : decode cX3_habitOf 14 = .ok (.iconst 0, 1) := by decide +kernel
theorem dX3_habitOf_15 : decode cX3_habitOf 15 = .ok (.invokestatic 74, 3) := by decide +kernel
theorem dX3_habitOf_18 : decode cX3_habitOf 18 = .ok (.aload_n 0, 1) := by decide +kernel
theorem dX3_habitOf_19 : decode cX3_habitOf 19 = .ok (.getfield 15, 3) := by decide +kernel
theorem dX3_habitOf_22 : decode cX3_habitOf 22 = .ok (.aload_n 0, 1) := by decide +kernel
theorem dX3_habitOf_23 : decode cX3_habitOf 23 = .ok (.getfield 19, 3) := by decide +kernel
theorem dX3_habitOf_26 : decode cX3_habitOf 26 = .ok (.iconst (-1), 1) := by decide +kernel
theorem dX3_habitOf_27 : decode cX3_habitOf 27 = .ok (.iconst 0, 1) := by decide +kernel
theorem dX3_habitOf_28 : decode cX3_habitOf 28 = .ok (.iconst 0, 1) := by decide +kernel
theorem dX3_habitOf_29 : decode cX3_habitOf 29 = .ok (.invokestatic 74, 3) := by decide +kernel
theorem dX3_habitOf_32 : decode cX3_habitOf 32 = .ok (.invokevirtual 78, 3) := by decide +kernel
theorem dX3_habitOf_35 : decode cX3_habitOf 35 = .ok (.aload_n 0, 1) := by decide +kernel
theorem dX3_habitOf_36 : decode cX3_habitOf 36 = .ok (.getfield 28, 3) := by decide +kernel
theorem dX3_habitOf_39 : decode cX3_habitOf 39 = .ok (.areturn, 1) := by decide +kernel
theorem dX3_isDouble_0 : decode cX3_isDouble 0 = .ok (.aload_n 0, 1) := by decide +kernel
theorem dX3_isDouble_1 : decode cX3_isDouble 1 = .ok (.getfield 32, 3) := by decide +kernel
theorem dX3_isDouble_4 : decode cX3_isDouble 4 = .ok (.iload_n 1, 1) := by decide +kernel
theorem dX3_isDouble_5 : decode cX3_isDouble 5 = .ok (.invokevirtual 82, 3) := by decide +kernel
theorem dX3_isDouble_8 : decode cX3_isDouble 8 = .ok (.aload_n 0, 1) := by decide +kernel
theorem dX3_isDouble_9 : decode cX3_isDouble 9 = .ok (.getfield 32, 3) := by decide +kernel
theorem dX3_isDouble_12 : decode cX3_isDouble 12 = .ok (.iload_n 2, 1) := by decide +kernel
theorem dX3_isDouble_13 : decode cX3_isDouble 13 = .ok (.invokevirtual 82, 3) := by decide +kernel
theorem dX3_isDouble_16 : decode cX3_isDouble 16 = .ok (.if_icmp .ne 67, 3) := by decide +kernel
theorem dX3_isDouble_19 : decode cX3_isDouble 19 = .ok (.aload_n 0, 1) := by decide +kernel
theorem dX3_isDouble_20 : decode cX3_isDouble 20 = .ok (.getfield 32, 3) := by decide +kernel
theorem dX3_isDouble_23 : decode cX3_isDouble 23 = .ok (.iload_n 1, 1) := by decide +kernel
theorem dX3_isDouble_24 : decode cX3_isDouble 24 = .ok (.invokevirtual 85, 3) := by decide +kernel
theorem dX3_isDouble_27 : decode cX3_isDouble 27 = .ok (.aload_n 0, 1) := by decide +kernel
theorem dX3_isDouble_28 : decode cX3_isDouble 28 = .ok (.getfield 32, 3) := by decide +kernel
theorem dX3_isDouble_31 : decode cX3_isDouble 31 = .ok (.iload_n 2, 1) := by decide +kernel
theorem dX3_isDouble_32 : decode cX3_isDouble 32 = .ok (.invokevirtual 85, 3) := by decide +kernel
theorem dX3_isDouble_35 : decode cX3_isDouble 35 = .ok (.if_icmp .ne 48, 3) := by decide +kernel
theorem dX3_isDouble_38 : decode cX3_isDouble 38 = .ok (.aload_n 0, 1) := by decide +kernel
theorem dX3_isDouble_39 : decode cX3_isDouble 39 = .ok (.getfield 32, 3) := by decide +kernel
theorem dX3_isDouble_42 : decode cX3_isDouble 42 = .ok (.iload_n 1, 1) := by decide +kernel
theorem dX3_isDouble_43 : decode cX3_isDouble 43 = .ok (.invokevirtual 88, 3) := by decide +kernel
theorem dX3_isDouble_46 : decode cX3_isDouble 46 = .ok (.aload_n 0, 1) := by decide +kernel
theorem dX3_isDouble_47 : decode cX3_isDouble 47 = .ok (.getfield 32, 3) := by decide +kernel
theorem dX3_isDouble_50 : decode cX3_isDouble 50 = .ok (.iload_n 2, 1) := by decide +kernel
theorem dX3_isDouble_51 : decode cX3_isDouble 51 = .ok (.invokevirtual 88, 3) := by decide +kernel
theorem dX3_isDouble_54 : decode cX3_isDouble 54 = .ok (.if_icmp .eq 29, 3) := by decide +kernel
theorem dX3_isDouble_57 : decode cX3_isDouble 57 = .ok (.aload_n 0, 1) := by decide +kernel
theorem dX3_isDouble_58 : decode cX3_isDouble 58 = .ok (.getfield 32, 3) := by decide +kernel
theorem dX3_isDouble_61 : decode cX3_isDouble 61 = .ok (.iload_n 1, 1) := by decide +kernel
theorem dX3_isDouble_62 : decode cX3_isDouble 62 = .ok (.invokevirtual 91, 3) := by decide +kernel
theorem dX3_isDouble_65 : decode cX3_isDouble 65 = .ok (.ifCond .ne 18, 3) := by decide +kernel
theorem dX3_isDouble_68 : decode cX3_isDouble 68 = .ok (.aload_n 0, 1) := by decide +kernel
theorem dX3_isDouble_69 : decode cX3_isDouble 69 = .ok (.getfield 32, 3) := by decide +kernel
theorem dX3_isDouble_72 : decode cX3_isDouble 72 = .ok (.iload_n 2, 1) := by decide +kernel
theorem dX3_isDouble_73 : decode cX3_isDouble 73 = .ok (.invokevirtual 91, 3) := by decide +kernel
theorem dX3_isDouble_76 : decode cX3_isDouble 76 = .ok (.ifCond .ne 7, 3) := by decide +kernel
theorem dX3_isDouble_79 : decode cX3_isDouble 79 = .ok (.iconst 1, 1) := by decide +kernel
theorem dX3_isDouble_80 : decode cX3_isDouble 80 = .ok (.goto 4, 3) := by decide +kernel
theorem dX3_isDouble_83 : decode cX3_isDouble 83 = .ok (.iconst 0, 1) := by decide +kernel
theorem dX3_isDouble_84 : decode cX3_isDouble 84 = .ok (.ireturn, 1) := by decide +kernel
theorem dX3_addDouble_0 : decode cX3_addDouble 0 = .ok (.aload_n 0, 1) := by decide +kernel
theorem dX3_addDouble_1 : decode cX3_addDouble 1 = .ok (.getfield 32, 3) := by decide +kernel
theorem dX3_addDouble_4 : decode cX3_addDouble 4 = .ok (.iload_n 1, 1) := by decide +kernel
theorem dX3_addDouble_5 : decode cX3_addDouble 5 = .ok (.invokevirtual 88, 3) := by decide +kernel
theorem dX3_addDouble_8 : decode cX3_addDouble 8 = .ok (.istore_n 3, 1) := by decide +kernel
theorem dX3_addDouble_9 : decode cX3_addDouble 9 = .ok (.aload_n 0, 1) := by decide +kernel
theorem dX3_addDouble_10 : decode cX3_addDouble 10 = .ok (.getfield 32, 3) := by decide +kernel
theorem dX3_addDouble_13 : decode cX3_addDouble 13 = .ok (.iload_n 2, 1) := by decide +kernel
theorem dX3_addDouble_14 : decode cX3_addDouble 14 = .ok (.invokevirtual 88, 3) := by decide +kernel
theorem dX3_addDouble_17 : decode cX3_addDouble 17 = .ok (.istore 4, 2) := by decide +kernel
theorem dX3_addDouble_19 : decode cX3_addDouble 19 = .ok (.aload_n 0, 1) := by decide +kernel
theorem dX3_addDouble_20 : decode cX3_addDouble 20 = .ok (.getfield 15, 3) := by decide +kernel
theorem dX3_addDouble_23 : decode cX3_addDouble 23 = .ok (.iload_n 3, 1) := by decide +kernel
theorem dX3_addDouble_24 : decode cX3_addDouble 24 = .ok (.iconst 5, 1) := by decide +kernel
theorem dX3_addDouble_25 : decode cX3_addDouble 25 = .ok (.imul, 1) := by decide +kernel
theorem dX3_addDouble_26 : decode cX3_addDouble 26 = .ok (.iload_n 3, 1) := by decide +kernel
theorem dX3_addDouble_27 : decode cX3_addDouble 27 = .ok (.iadd, 1) := by decide +kernel
theorem dX3_addDouble_28 : decode cX3_addDouble 28 = .ok (.dup2, 1) := by decide +kernel
theorem dX3_addDouble_29 : decode cX3_addDouble 29 = .ok (.laload, 1) := by decide +kernel
theorem dX3_addDouble_30 : decode cX3_addDouble 30 = .ok (.lconst 1, 1) := by decide +kernel
theorem dX3_addDouble_31 : decode cX3_addDouble 31 = .ok (.ladd, 1) := by decide +kernel
theorem dX3_addDouble_32 : decode cX3_addDouble 32 = .ok (.lastore, 1) := by decide +kernel
theorem dX3_addDouble_33 : decode cX3_addDouble 33 = .ok (.aload_n 0, 1) := by decide +kernel
theorem dX3_addDouble_34 : decode cX3_addDouble 34 = .ok (.getfield 15, 3) := by decide +kernel
theorem dX3_addDouble_37 : decode cX3_addDouble 37 = .ok (.iload_n 3, 1) := by decide +kernel
theorem dX3_addDouble_38 : decode cX3_addDouble 38 = .ok (.iconst 5, 1) := by decide +kernel
theorem dX3_addDouble_39 : decode cX3_addDouble 39 = .ok (.imul, 1) := by decide +kernel
theorem dX3_addDouble_40 : decode cX3_addDouble 40 = .ok (.iload 4, 2) := by decide +kernel
theorem dX3_addDouble_42 : decode cX3_addDouble 42 = .ok (.iadd, 1) := by decide +kernel
theorem dX3_addDouble_43 : decode cX3_addDouble 43 = .ok (.dup2, 1) := by decide +kernel
theorem dX3_addDouble_44 : decode cX3_addDouble 44 = .ok (.laload, 1) := by decide +kernel
theorem dX3_addDouble_45 : decode cX3_addDouble 45 = .ok (.lconst 1, 1) := by decide +kernel
theorem dX3_addDouble_46 : decode cX3_addDouble 46 = .ok (.lsub, 1) := by decide +kernel
theorem dX3_addDouble_47 : decode cX3_addDouble 47 = .ok (.lastore, 1) := by decide +kernel
theorem dX3_addDouble_48 : decode cX3_addDouble 48 = .ok (.aload_n 0, 1) := by decide +kernel
theorem dX3_addDouble_49 : decode cX3_addDouble 49 = .ok (.getfield 19, 3) := by decide +kernel
theorem dX3_addDouble_52 : decode cX3_addDouble 52 = .ok (.iload_n 3, 1) := by decide +kernel
theorem dX3_addDouble_53 : decode cX3_addDouble 53 = .ok (.dup2, 1) := by decide +kernel
theorem dX3_addDouble_54 : decode cX3_addDouble 54 = .ok (.laload, 1) := by decide +kernel
theorem dX3_addDouble_55 : decode cX3_addDouble 55 = .ok (.aload_n 0, 1) := by decide +kernel
theorem dX3_addDouble_56 : decode cX3_addDouble 56 = .ok (.getfield 9, 3) := by decide +kernel
theorem dX3_addDouble_59 : decode cX3_addDouble 59 = .ok (.iload_n 1, 1) := by decide +kernel
theorem dX3_addDouble_60 : decode cX3_addDouble 60 = .ok (.iaload, 1) := by decide +kernel
theorem dX3_addDouble_61 : decode cX3_addDouble 61 = .ok (.aload_n 0, 1) := by decide +kernel
theorem dX3_addDouble_62 : decode cX3_addDouble 62 = .ok (.getfield 9, 3) := by decide +kernel
theorem dX3_addDouble_65 : decode cX3_addDouble 65 = .ok (.iload_n 2, 1) := by decide +kernel
theorem dX3_addDouble_66 : decode cX3_addDouble 66 = .ok (.iaload, 1) := by decide +kernel
theorem dX3_addDouble_67 : decode cX3_addDouble 67 = .ok (.isub, 1) := by decide +kernel
theorem dX3_addDouble_68 : decode cX3_addDouble 68 = .ok (.i2l, 1) := by decide +kernel
theorem dX3_addDouble_69 : decode cX3_addDouble 69 = .ok (.ladd, 1) := by decide +kernel
theorem dX3_addDouble_70 : decode cX3_addDouble 70 = .ok (.lastore, 1) := by decide +kernel
theorem dX3_addDouble_71 : decode cX3_addDouble 71 = .ok (.aload_n 0, 1) := by decide +kernel
theorem dX3_addDouble_72 : decode cX3_addDouble 72 = .ok (.getfield 22, 3) := by decide +kernel
theorem dX3_addDouble_75 : decode cX3_addDouble 75 = .ok (.iload_n 3, 1) := by decide +kernel
theorem dX3_addDouble_76 : decode cX3_addDouble 76 = .ok (.dup2, 1) := by decide +kernel
theorem dX3_addDouble_77 : decode cX3_addDouble 77 = .ok (.iaload, 1) := by decide +kernel
theorem dX3_addDouble_78 : decode cX3_addDouble 78 = .ok (.iconst 1, 1) := by decide +kernel
theorem dX3_addDouble_79 : decode cX3_addDouble 79 = .ok (.iload 4, 2) := by decide +kernel
theorem dX3_addDouble_81 : decode cX3_addDouble 81 = .ok (.ishl, 1) := by decide +kernel
theorem dX3_addDouble_82 : decode cX3_addDouble 82 = .ok (.ior, 1) := by decide +kernel
theorem dX3_addDouble_83 : decode cX3_addDouble 83 = .ok (.iastore, 1) := by decide +kernel
theorem dX3_addDouble_84 : decode cX3_addDouble 84 = .ok (.return_, 1) := by decide +kernel
theorem dX3_spreadJoins_0 : decode cX3_spreadJoins 0 = .ok (.iconst 0, 1) := by decide +kernel
theorem dX3_spreadJoins_1 : decode cX3_spreadJoins 1 = .ok (.istore_n 1, 1) := by decide +kernel
theorem dX3_spreadJoins_2 : decode cX3_spreadJoins 2 = .ok (.iload_n 1, 1) := by decide +kernel
theorem dX3_spreadJoins_3 : decode cX3_spreadJoins 3 = .ok (.iconst 5, 1) := by decide +kernel
theorem dX3_spreadJoins_4 : decode cX3_spreadJoins 4 = .ok (.if_icmp .ge 50, 3) := by decide +kernel
theorem dX3_spreadJoins_7 : decode cX3_spreadJoins 7 = .ok (.iconst 0, 1) := by decide +kernel
theorem dX3_spreadJoins_8 : decode cX3_spreadJoins 8 = .ok (.istore_n 2, 1) := by decide +kernel
theorem dX3_spreadJoins_9 : decode cX3_spreadJoins 9 = .ok (.iload_n 2, 1) := by decide +kernel
theorem dX3_spreadJoins_10 : decode cX3_spreadJoins 10 = .ok (.iconst 5, 1) := by decide +kernel
theorem dX3_spreadJoins_11 : decode cX3_spreadJoins 11 = .ok (.if_icmp .ge 37, 3) := by decide +kernel
theorem dX3_spreadJoins_14 : decode cX3_spreadJoins 14 = .ok (.aload_n 0, 1) := by decide +kernel
theorem dX3_spreadJoins_15 : decode cX3_spreadJoins 15 = .ok (.getfield 22, 3) := by decide +kernel
theorem dX3_spreadJoins_18 : decode cX3_spreadJoins 18 = .ok (.iload_n 2, 1) := by decide +kernel
theorem dX3_spreadJoins_19 : decode cX3_spreadJoins 19 = .ok (.iaload, 1) := by decide +kernel
theorem dX3_spreadJoins_20 : decode cX3_spreadJoins 20 = .ok (.iload_n 1, 1) := by decide +kernel
theorem dX3_spreadJoins_21 : decode cX3_spreadJoins 21 = .ok (.ishr, 1) := by decide +kernel
theorem dX3_spreadJoins_22 : decode cX3_spreadJoins 22 = .ok (.iconst 1, 1) := by decide +kernel
theorem dX3_spreadJoins_23 : decode cX3_spreadJoins 23 = .ok (.iand, 1) := by decide +kernel
theorem dX3_spreadJoins_24 : decode cX3_spreadJoins 24 = .ok (.ifCond .eq 18, 3) := by decide +kernel
theorem dX3_spreadJoins_27 : decode cX3_spreadJoins 27 = .ok (.aload_n 0, 1) := by decide +kernel
theorem dX3_spreadJoins_28 : decode cX3_spreadJoins 28 = .ok (.getfield 22, 3) := by decide +kernel
theorem dX3_spreadJoins_31 : decode cX3_spreadJoins 31 = .ok (.iload_n 2, 1) := by decide +kernel
theorem dX3_spreadJoins_32 : decode cX3_spreadJoins 32 = .ok (.dup2, 1) := by decide +kernel
theorem dX3_spreadJoins_33 : decode cX3_spreadJoins 33 = .ok (.iaload, 1) := by decide +kernel
theorem dX3_spreadJoins_34 : decode cX3_spreadJoins 34 = .ok (.aload_n 0, 1) := by decide +kernel
theorem dX3_spreadJoins_35 : decode cX3_spreadJoins 35 = .ok (.getfield 22, 3) := by decide +kernel
theorem dX3_spreadJoins_38 : decode cX3_spreadJoins 38 = .ok (.iload_n 1, 1) := by decide +kernel
theorem dX3_spreadJoins_39 : decode cX3_spreadJoins 39 = .ok (.iaload, 1) := by decide +kernel
theorem dX3_spreadJoins_40 : decode cX3_spreadJoins 40 = .ok (.ior, 1) := by decide +kernel
theorem dX3_spreadJoins_41 : decode cX3_spreadJoins 41 = .ok (.iastore, 1) := by decide +kernel
theorem dX3_spreadJoins_42 : decode cX3_spreadJoins 42 = .ok (.iinc 2 1, 3) := by decide +kernel
theorem dX3_spreadJoins_45 : decode cX3_spreadJoins 45 = .ok (.goto (-36), 3) := by decide +kernel
theorem dX3_spreadJoins_48 : decode cX3_spreadJoins 48 = .ok (.iinc 1 1, 3) := by decide +kernel
theorem dX3_spreadJoins_51 : decode cX3_spreadJoins 51 = .ok (.goto (-49), 3) := by decide +kernel
theorem dX3_spreadJoins_54 : decode cX3_spreadJoins 54 = .ok (.return_, 1) := by decide +kernel
theorem dX3_isLowest_0 : decode cX3_isLowest 0 = .ok (.aload_n 0, 1) := by decide +kernel
theorem dX3_isLowest_1 : decode cX3_isLowest 1 = .ok (.getfield 22, 3) := by decide +kernel
theorem dX3_isLowest_4 : decode cX3_isLowest 4 = .ok (.iload_n 1, 1) := by decide +kernel
theorem dX3_isLowest_5 : decode cX3_isLowest 5 = .ok (.iaload, 1) := by decide +kernel
theorem dX3_isLowest_6 : decode cX3_isLowest 6 = .ok (.iconst 1, 1) := by decide +kernel
theorem dX3_isLowest_7 : decode cX3_isLowest 7 = .ok (.iload_n 1, 1) := by decide +kernel
theorem dX3_isLowest_8 : decode cX3_isLowest 8 = .ok (.ishl, 1) := by decide +kernel
theorem dX3_isLowest_9 : decode cX3_isLowest 9 = .ok (.iconst 1, 1) := by decide +kernel
theorem dX3_isLowest_10 : decode cX3_isLowest 10 = .ok (.isub, 1) := by decide +kernel
theorem dX3_isLowest_11 : decode cX3_isLowest 11 = .ok (.iand, 1) := by decide +kernel
theorem dX3_isLowest_12 : decode cX3_isLowest 12 = .ok (.ifCond .ne 7, 3) := by decide +kernel
theorem dX3_isLowest_15 : decode cX3_isLowest 15 = .ok (.iconst 1, 1) := by decide +kernel
theorem dX3_isLowest_16 : decode cX3_isLowest 16 = .ok (.goto 4, 3) := by decide +kernel
theorem dX3_isLowest_19 : decode cX3_isLowest 19 = .ok (.iconst 0, 1) := by decide +kernel
theorem dX3_isLowest_20 : decode cX3_isLowest 20 = .ok (.ireturn, 1) := by decide +kernel
theorem dX3_setToZero_0 : decode cX3_setToZero 0 = .ok (.iconst 0, 1) := by decide +kernel
theorem dX3_setToZero_1 : decode cX3_setToZero 1 = .ok (.istore_n 2, 1) := by decide +kernel
theorem dX3_setToZero_2 : decode cX3_setToZero 2 = .ok (.iload_n 2, 1) := by decide +kernel
theorem dX3_setToZero_3 : decode cX3_setToZero 3 = .ok (.iconst 5, 1) := by decide +kernel
theorem dX3_setToZero_4 : decode cX3_setToZero 4 = .ok (.if_icmp .ge 20, 3) := by decide +kernel
theorem dX3_setToZero_7 : decode cX3_setToZero 7 = .ok (.aload_n 0, 1) := by decide +kernel
theorem dX3_setToZero_8 : decode cX3_setToZero 8 = .ok (.getfield 15, 3) := by decide +kernel
theorem dX3_setToZero_11 : decode cX3_setToZero 11 = .ok (.iload_n 1, 1) := by decide +kernel
theorem dX3_setToZero_12 : decode cX3_setToZero 12 = .ok (.iconst 5, 1) := by decide +kernel
theorem dX3_setToZero_13 : decode cX3_setToZero 13 = .ok (.imul, 1) := by decide +kernel
theorem dX3_setToZero_14 : decode cX3_setToZero 14 = .ok (.iload_n 2, 1) := by decide +kernel
theorem dX3_setToZero_15 : decode cX3_setToZero 15 = .ok (.iadd, 1) := by decide +kernel
theorem dX3_setToZero_16 : decode cX3_setToZero 16 = .ok (.lconst 0, 1) := by decide +kernel
theorem dX3_setToZero_17 : decode cX3_setToZero 17 = .ok (.lastore, 1) := by decide +kernel
theorem dX3_setToZero_18 : decode cX3_setToZero 18 = .ok (.iinc 2 1, 3) := by decide +kernel
theorem dX3_setToZero_21 : decode cX3_setToZero 21 = .ok (.goto (-19), 3) := by decide +kernel
theorem dX3_setToZero_24 : decode cX3_setToZero 24 = .ok (.aload_n 0, 1) := by decide +kernel
theorem dX3_setToZero_25 : decode cX3_setToZero 25 = .ok (.getfield 15, 3) := by decide +kernel
theorem dX3_setToZero_28 : decode cX3_setToZero 28 = .ok (.iload_n 1, 1) := by decide +kernel
theorem dX3_setToZero_29 : decode cX3_setToZero 29 = .ok (.iconst 5, 1) := by decide +kernel
theorem dX3_setToZero_30 : decode cX3_setToZero 30 = .ok (.imul, 1) := by decide +kernel
theorem dX3_setToZero_31 : decode cX3_setToZero 31 = .ok (.iload_n 1, 1) := by decide +kernel
theorem dX3_setToZero_32 : decode cX3_setToZero 32 = .ok (.iadd, 1) := by decide +kernel
theorem dX3_setToZero_33 : decode cX3_setToZero 33 = .ok (.lconst 1, 1) := by decide +kernel
theorem dX3_setToZero_34 : decode cX3_setToZero 34 = .ok (.lastore, 1) := by decide +kernel
theorem dX3_setToZero_35 : decode cX3_setToZero 35 = .ok (.aload_n 0, 1) := by decide +kernel
theorem dX3_setToZero_36 : decode cX3_setToZero 36 = .ok (.getfield 19, 3) := by decide +kernel
theorem dX3_setToZero_39 : decode cX3_setToZero 39 = .ok (.iload_n 1, 1) := by decide +kernel
theorem dX3_setToZero_40 : decode cX3_setToZero 40 = .ok (.lconst 0, 1) := by decide +kernel
theorem dX3_setToZero_41 : decode cX3_setToZero 41 = .ok (.lastore, 1) := by decide +kernel
theorem dX3_setToZero_42 : decode cX3_setToZero 42 = .ok (.return_, 1) := by decide +kernel
theorem dX3_determinant_0 : decode cX3_determinant 0 = .ok (.iload_n 3, 1) := by decide +kernel
theorem dX3_determinant_1 : decode cX3_determinant 1 = .ok (.iconst 5, 1) := by decide +kernel
theorem dX3_determinant_2 : decode cX3_determinant 2 = .ok (.if_icmp .lt 5, 3) := by decide +kernel
theorem dX3_determinant_5 : decode cX3_determinant 5 = .ok (.lconst 1, 1) := by decide +kernel
theorem dX3_determinant_6 : decode cX3_determinant 6 = .ok (.lreturn, 1) := by decide +kernel
theorem dX3_determinant_7 : decode cX3_determinant 7 = .ok (.lconst 0, 1) := by decide +kernel
theorem dX3_determinant_8 : decode cX3_determinant 8 = .ok (.lstore 5, 2) := by decide +kernel
theorem dX3_determinant_10 : decode cX3_determinant 10 = .ok (.lconst 1, 1) := by decide +kernel
theorem dX3_determinant_11 : decode cX3_determinant 11 = .ok (.lstore 7, 2) := by decide +kernel
theorem dX3_determinant_13 : decode cX3_determinant 13 = .ok (.iconst 0, 1) := by decide +kernel
theorem dX3_determinant_14 : decode cX3_determinant 14 = .ok (.istore 9, 2) := by decide +kernel
theorem dX3_determinant_16 : decode cX3_determinant 16 = .ok (.iload 9, 2) := by decide +kernel
theorem dX3_determinant_18 : decode cX3_determinant 18 = .ok (.iconst 5, 1) := by decide +kernel
theorem dX3_determinant_19 : decode cX3_determinant 19 = .ok (.if_icmp .ge 83, 3) := by decide +kernel
theorem dX3_determinant_22 : decode cX3_determinant 22 = .ok (.iload 4, 2) := by decide +kernel
theorem dX3_determinant_24 : decode cX3_determinant 24 = .ok (.iload 9, 2) := by decide +kernel
theorem dX3_determinant_26 : decode cX3_determinant 26 = .ok (.ishr, 1) := by decide +kernel
theorem dX3_determinant_27 : decode cX3_determinant 27 = .ok (.iconst 1, 1) := by decide +kernel
theorem dX3_determinant_28 : decode cX3_determinant 28 = .ok (.iand, 1) := by decide +kernel
theorem dX3_determinant_29 : decode cX3_determinant 29 = .ok (.ifCond .eq 6, 3) := by decide +kernel
theorem dX3_determinant_32 : decode cX3_determinant 32 = .ok (.goto 64, 3) := by decide +kernel
theorem dX3_determinant_35 : decode cX3_determinant 35 = .ok (.iload 9, 2) := by decide +kernel
theorem dX3_determinant_37 : decode cX3_determinant 37 = .ok (.iload_n 2, 1) := by decide +kernel
theorem dX3_determinant_38 : decode cX3_determinant 38 = .ok (.if_icmp .ne 9, 3) := by decide +kernel
theorem dX3_determinant_41 : decode cX3_determinant 41 = .ok (.aload_n 1, 1) := by decide +kernel
theorem dX3_determinant_42 : decode cX3_determinant 42 = .ok (.iload_n 3, 1) := by decide +kernel
theorem dX3_determinant_43 : decode cX3_determinant 43 = .ok (.laload, 1) := by decide +kernel
theorem dX3_determinant_44 : decode cX3_determinant 44 = .ok (.goto 11, 3) := by decide +kernel
theorem dX3_determinant_47 : decode cX3_determinant 47 = .ok (.aload_n 0, 1) := by decide +kernel
theorem dX3_determinant_48 : decode cX3_determinant 48 = .ok (.iload_n 3, 1) := by decide +kernel
theorem dX3_determinant_49 : decode cX3_determinant 49 = .ok (.iconst 5, 1) := by decide +kernel
theorem dX3_determinant_50 : decode cX3_determinant 50 = .ok (.imul, 1) := by decide +kernel
theorem dX3_determinant_51 : decode cX3_determinant 51 = .ok (.iload 9, 2) := by decide +kernel
theorem dX3_determinant_53 : decode cX3_determinant 53 = .ok (.iadd, 1) := by decide +kernel
theorem dX3_determinant_54 : decode cX3_determinant 54 = .ok (.laload, 1) := by decide +kernel
theorem dX3_determinant_55 : decode cX3_determinant 55 = .ok (.lstore 10, 2) := by decide +kernel
theorem dX3_determinant_57 : decode cX3_determinant 57 = .ok (.lload 10, 2) := by decide +kernel
theorem dX3_determinant_59 : decode cX3_determinant 59 = .ok (.lconst 0, 1) := by decide +kernel
theorem dX3_determinant_60 : decode cX3_determinant 60 = .ok (.lcmp, 1) := by decide +kernel
theorem dX3_determinant_61 : decode cX3_determinant 61 = .ok (.ifCond .eq 30, 3) := by decide +kernel
theorem dX3_determinant_64 : decode cX3_determinant 64 = .ok (.lload 5, 2) := by decide +kernel
theorem dX3_determinant_66 : decode cX3_determinant 66 = .ok (.lload 7, 2) := by decide +kernel
theorem dX3_determinant_68 : decode cX3_determinant 68 = .ok (.lload 10, 2) := by decide +kernel
theorem dX3_determinant_70 : decode cX3_determinant 70 = .ok (.lmul, 1) := by decide +kernel
theorem dX3_determinant_71 : decode cX3_determinant 71 = .ok (.aload_n 0, 1) := by decide +kernel
theorem dX3_determinant_72 : decode cX3_determinant 72 = .ok (.aload_n 1, 1) := by decide +kernel
theorem dX3_determinant_73 : decode cX3_determinant 73 = .ok (.iload_n 2, 1) := by decide +kernel
theorem dX3_determinant_74 : decode cX3_determinant 74 = .ok (.iload_n 3, 1) := by decide +kernel
theorem dX3_determinant_75 : decode cX3_determinant 75 = .ok (.iconst 1, 1) := by decide +kernel
theorem dX3_determinant_76 : decode cX3_determinant 76 = .ok (.iadd, 1) := by decide +kernel
theorem dX3_determinant_77 : decode cX3_determinant 77 = .ok (.iload 4, 2) := by decide +kernel
theorem dX3_determinant_79 : decode cX3_determinant 79 = .ok (.iconst 1, 1) := by decide +kernel
theorem dX3_determinant_80 : decode cX3_determinant 80 = .ok (.iload 9, 2) := by decide +kernel
theorem dX3_determinant_82 : decode cX3_determinant 82 = .ok (.ishl, 1) := by decide +kernel
theorem dX3_determinant_83 : decode cX3_determinant 83 = .ok (.ior, 1) := by decide +kernel
theorem dX3_determinant_84 : decode cX3_determinant 84 = .ok (.invokestatic 74, 3) := by decide +kernel
theorem dX3_determinant_87 : decode cX3_determinant 87 = .ok (.lmul, 1) := by decide +kernel
theorem dX3_determinant_88 : decode cX3_determinant 88 = .ok (.ladd, 1) := by decide +kernel
theorem dX3_determinant_89 : decode cX3_determinant 89 = .ok (.lstore 5, 2) := by decide +kernel
theorem dX3_determinant_91 : decode cX3_determinant 91 = .ok (.lload 7, 2) := by decide +kernel
theorem dX3_determinant_93 : decode cX3_determinant 93 = .ok (.lneg, 1) := by decide +kernel
theorem dX3_determinant_94 : decode cX3_determinant 94 = .ok (.lstore 7, 2) := by decide +kernel
theorem dX3_determinant_96 : decode cX3_determinant 96 = .ok (.iinc 9 1, 3) := by decide +kernel
theorem dX3_determinant_99 : decode cX3_determinant 99 = .ok (.goto (-83), 3) := by decide +kernel
theorem dX3_determinant_102 : decode cX3_determinant 102 = .ok (.lload 5, 2) := by decide +kernel
theorem dX3_determinant_104 : decode cX3_determinant 104 = .ok (.lreturn, 1) := by decide +kernel
theorem dX4_init_0 : decode cX4_init 0 = .ok (.aload_n 0, 1) := by decide +kernel
theorem dX4_init_1 : decode cX4_init 1 = .ok (.invokespecial 3, 3) := by decide +kernel
theorem dX4_init_4 : decode cX4_init 4 = .ok (.aload_n 0, 1) := by decide +kernel
theorem dX4_init_5 : decode cX4_init 5 = .ok (.bipush 20, 2) := by decide +kernel
theorem dX4_init_7 : decode cX4_init 7 = .ok (.newarray .int, 2) := by decide +kernel
theorem dX4_init_9 : decode cX4_init 9 = .ok (.putfield 9, 3) := by decide +kernel
theorem dX4_init_12 : decode cX4_init 12 = .ok (.aload_n 0, 1) := by decide +kernel
theorem dX4_init_13 : decode cX4_init 13 = .ok (.bipush 20, 2) := by decide +kernel
theorem dX4_init_15 : decode cX4_init 15 = .ok (.newarray .int, 2) := by decide +kernel
theorem dX4_init_17 : decode cX4_init 17 = .ok (.putfield 15, 3) := by decide +kernel
theorem dX4_init_20 : decode cX4_init 20 = .ok (.aload_n 0, 1) := by decide +kernel
theorem dX4_init_21 : decode cX4_init 21 = .ok (.bipush 20, 2) := by decide +kernel
theorem dX4_init_23 : decode cX4_init 23 = .ok (.newarray .int, 2) := by decide +kernel
theorem dX4_init_25 : decode cX4_init 25 = .ok (.putfield 18, 3) := by decide +kernel
theorem dX4_init_28 : decode cX4_init 28 = .ok (.aload_n 0, 1) := by decide +kernel
theorem dX4_init_29 : decode cX4_init 29 = .ok (.bipush 20, 2) := by decide +kernel
theorem dX4_init_31 : decode cX4_init 31 = .ok (.newarray .int, 2) := by decide +kernel
theorem dX4_init_33 : decode cX4_init 33 = .ok (.putfield 21, 3) := by decide +kernel
theorem dX4_init_36 : decode cX4_init 36 = .ok (.aload_n 0, 1) := by decide +kernel
theorem dX4_init_37 : decode cX4_init 37 = .ok (.bipush 20, 2) := by decide +kernel
theorem dX4_init_39 : decode cX4_init 39 = .ok (.newarray .int, 2) := by decide +kernel
theorem dX4_init_41 : decode cX4_init 41 = .ok (.putfield 24, 3) := by decide +kernel
theorem dX4_init_44 : decode cX4_init 44 = .ok (.aload_n 0, 1) := by decide +kernel
theorem dX4_init_45 : decode cX4_init 45 = .ok (.bipush 20, 2) := by decide +kernel
theorem dX4_init_47 : decode cX4_init 47 = .ok (.newarray .int, 2) := by decide +kernel
theorem dX4_init_49 : decode cX4_init 49 = .ok (.putfield 27, 3) := by decide +kernel
theorem dX4_init_52 : decode cX4_init 52 = .ok (.aload_n 0, 1) := by decide +kernel
theorem dX4_init_53 : decode cX4_init 53 = .ok (.bipush 20, 2) := by decide +kernel
theorem dX4_init_55 : decode cX4_init 55 = .ok (.newarray .boolean, 2) := by decide +kernel
theorem dX4_init_57 : decode cX4_init 57 = .ok (.putfield 30, 3) := by decide +kernel
theorem dX4_init_60 : decode cX4_init 60 = .ok (.aload_n 0, 1) := by decide +kernel
theorem dX4_init_61 : decode cX4_init 61 = .ok (.bipush 20, 2) := by decide +kernel
theorem dX4_init_63 : decode cX4_init 63 = .ok (.newarray .int, 2) := by decide +kernel
theorem dX4_init_65 : decode cX4_init 65 = .ok (.putfield 34, 3) := by decide +kernel
theorem dX4_init_68 : decode cX4_init 68 = .ok (.aload_n 0, 1) := by decide +kernel
theorem dX4_init_69 : decode cX4_init 69 = .ok (.sipush 160, 3) := by decide +kernel
theorem dX4_init_72 : decode cX4_init 72 = .ok (.newarray .int, 2) := by decide +kernel
theorem dX4_init_74 : decode cX4_init 74 = .ok (.putfield 37, 3) := by decide +kernel
theorem dX4_init_77 : decode cX4_init 77 = .ok (.aload_n 0, 1) := by decide +kernel
theorem dX4_init_78 : decode cX4_init 78 = .ok (.sipush 160, 3) := by decide +kernel
theorem dX4_init_81 : decode cX4_init 81 = .ok (.newarray .int, 2) := by decide +kernel
theorem dX4_init_83 : decode cX4_init 83 = .ok (.putfield 40, 3) := by decide +kernel
theorem dX4_init_86 : decode cX4_init 86 = .ok (.aload_n 0, 1) := by decide +kernel
theorem dX4_init_87 : decode cX4_init 87 = .ok (.iconst 0, 1) := by decide +kernel
theorem dX4_init_88 : decode cX4_init 88 = .ok (.putfield 43, 3) := by decide +kernel
theorem dX4_init_91 : decode cX4_init 91 = .ok (.return_, 1) := by decide +kernel
theorem dX4_size_0 : decode cX4_size 0 = .ok (.aload_n 0, 1) := by decide +kernel
theorem dX4_size_1 : decode cX4_size 1 = .ok (.getfield 43, 3) := by decide +kernel
theorem dX4_size_4 : decode cX4_size 4 = .ok (.ireturn, 1) := by decide +kernel
theorem dX4_isFull_0 : decode cX4_isFull 0 = .ok (.aload_n 0, 1) := by decide +kernel
theorem dX4_isFull_1 : decode cX4_isFull 1 = .ok (.getfield 43, 3) := by decide +kernel
theorem dX4_isFull_4 : decode cX4_isFull 4 = .ok (.bipush 20, 2) := by decide +kernel
theorem dX4_isFull_6 : decode cX4_isFull 6 = .ok (.if_icmp .lt 7, 3) := by decide +kernel
theorem dX4_isFull_9 : decode cX4_isFull 9 = .ok (.iconst 1, 1) := by decide +kernel
theorem dX4_isFull_10 : decode cX4_isFull 10 = .ok (.goto 4, 3) := by decide +kernel
theorem dX4_isFull_13 : decode cX4_isFull 13 = .ok (.iconst 0, 1) := by decide +kernel
theorem dX4_isFull_14 : decode cX4_isFull 14 = .ok (.ireturn, 1) := by decide +kernel
theorem dX4_has_0 : decode cX4_has 0 = .ok (.iload_n 1, 1) := by decide +kernel
theorem dX4_has_1 : decode cX4_has 1 = .ok (.ifCond .lt 15, 3) := by decide +kernel
theorem dX4_has_4 : decode cX4_has 4 = .ok (.iload_n 1, 1) := by decide +kernel
theorem dX4_has_5 : decode cX4_has 5 = .ok (.aload_n 0, 1) := by decide +kernel
theorem dX4_has_6 : decode cX4_has 6 = .ok (.getfield 43, 3) := by decide +kernel
theorem dX4_has_9 : decode cX4_has 9 = .ok (.if_icmp .ge 7, 3) := by decide +kernel
theorem dX4_has_12 : decode cX4_has 12 = .ok (.iconst 1, 1) := by decide +kernel
theorem dX4_has_13 : decode cX4_has 13 = .ok (.goto 4, 3) := by decide +kernel
theorem dX4_has_16 : decode cX4_has 16 = .ok (.iconst 0, 1) := by decide +kernel
theorem dX4_has_17 : decode cX4_has 17 = .ok (.ireturn, 1) := by decide +kernel
theorem dX4_add_0 : decode cX4_add 0 = .ok (.aload_n 0, 1) := by decide +kernel
theorem dX4_add_1 : decode cX4_add 1 = .ok (.getfield 9, 3) := by decide +kernel
theorem dX4_add_4 : decode cX4_add 4 = .ok (.aload_n 0, 1) := by decide +kernel
theorem dX4_add_5 : decode cX4_add 5 = .ok (.getfield 43, 3) := by decide +kernel
theorem dX4_add_8 : decode cX4_add 8 = .ok (.iload_n 1, 1) := by decide +kernel
theorem dX4_add_9 : decode cX4_add 9 = .ok (.iastore, 1) := by decide +kernel
theorem dX4_add_10 : decode cX4_add 10 = .ok (.aload_n 0, 1) := by decide +kernel
theorem dX4_add_11 : decode cX4_add 11 = .ok (.getfield 15, 3) := by decide +kernel
theorem dX4_add_14 : decode cX4_add 14 = .ok (.aload_n 0, 1) := by decide +kernel
theorem dX4_add_15 : decode cX4_add 15 = .ok (.getfield 43, 3) := by decide +kernel
theorem dX4_add_18 : decode cX4_add 18 = .ok (.iload_n 2, 1) := by decide +kernel
theorem dX4_add_19 : decode cX4_add 19 = .ok (.iastore, 1) := by decide +kernel
theorem dX4_add_20 : decode cX4_add 20 = .ok (.aload_n 0, 1) := by decide +kernel
theorem dX4_add_21 : decode cX4_add 21 = .ok (.getfield 18, 3) := by decide +kernel
theorem dX4_add_24 : decode cX4_add 24 = .ok (.aload_n 0, 1) := by decide +kernel
theorem dX4_add_25 : decode cX4_add 25 = .ok (.getfield 43, 3) := by decide +kernel
theorem dX4_add_28 : decode cX4_add 28 = .ok (.iload_n 3, 1) := by decide +kernel
theorem dX4_add_29 : decode cX4_add 29 = .ok (.iastore, 1) := by decide +kernel
theorem dX4_add_30 : decode cX4_add 30 = .ok (.aload_n 0, 1) := by decide +kernel
theorem dX4_add_31 : decode cX4_add 31 = .ok (.getfield 21, 3) := by decide +kernel
theorem dX4_add_34 : decode cX4_add 34 = .ok (.aload_n 0, 1) := by decide +kernel
theorem dX4_add_35 : decode cX4_add 35 = .ok (.getfield 43, 3) := by decide +kernel
theorem dX4_add_38 : decode cX4_add 38 = .ok (.iload 4, 2) := by decide +kernel
theorem dX4_add_40 : decode cX4_add 40 = .ok (.iastore, 1) := by decide +kernel
theorem dX4_add_41 : decode cX4_add 41 = .ok (.aload_n 0, 1) := by decide +kernel
theorem dX4_add_42 : decode cX4_add 42 = .ok (.getfield 24, 3) := by decide +kernel
theorem dX4_add_45 : decode cX4_add 45 = .ok (.aload_n 0, 1) := by decide +kernel
theorem dX4_add_46 : decode cX4_add 46 = .ok (.getfield 43, 3) := by decide +kernel
theorem dX4_add_49 : decode cX4_add 49 = .ok (.iload 5, 2) := by decide +kernel
theorem dX4_add_51 : decode cX4_add 51 = .ok (.iastore, 1) := by decide +kernel
theorem dX4_add_52 : decode cX4_add 52 = .ok (.aload_n 0, 1) := by decide +kernel
theorem dX4_add_53 : decode cX4_add 53 = .ok (.dup, 1) := by decide +kernel
theorem dX4_add_54 : decode cX4_add 54 = .ok (.getfield 43, 3) := by decide +kernel
theorem dX4_add_57 : decode cX4_add 57 = .ok (.dup_x1, 1) := by decide +kernel
theorem dX4_add_58 : decode cX4_add 58 = .ok (.iconst 1, 1) := by decide +kernel
theorem dX4_add_59 : decode cX4_add 59 = .ok (.iadd, 1) := by decide +kernel
theorem dX4_add_60 : decode cX4_add 60 = .ok (.putfield 43, 3) := by decide +kernel
theorem dX4_add_63 : decode cX4_add 63 = .ok (.ireturn, 1) := by decide +kernel
theorem dX4_kindOf_0 : decode cX4_kindOf 0 = .ok (.aload_n 0, 1) := by decide +kernel
theorem dX4_kindOf_1 : decode cX4_kindOf 1 = .ok (.getfield 9, 3) := by decide +kernel
theorem dX4_kindOf_4 : decode cX4_kindOf 4 = .ok (.iload_n 1, 1) := by decide +kernel
theorem dX4_kindOf_5 : decode cX4_kindOf 5 = .ok (.iaload, 1) := by decide +kernel
theorem dX4_kindOf_6 : decode cX4_kindOf 6 = .ok (.ireturn, 1) := by decide +kernel
theorem dX4_mouthsOf_0 : decode cX4_mouthsOf 0 = .ok (.aload_n 0, 1) := by decide +kernel
theorem dX4_mouthsOf_1 : decode cX4_mouthsOf 1 = .ok (.getfield 18, 3) := by decide +kernel
theorem dX4_mouthsOf_4 : decode cX4_mouthsOf 4 = .ok (.iload_n 1, 1) := by decide +kernel
theorem dX4_mouthsOf_5 : decode cX4_mouthsOf 5 = .ok (.iaload, 1) := by decide +kernel
theorem dX4_mouthsOf_6 : decode cX4_mouthsOf 6 = .ok (.ireturn, 1) := by decide +kernel
theorem dX4_ownerOf_0 : decode cX4_ownerOf 0 = .ok (.aload_n 0, 1) := by decide +kernel
theorem dX4_ownerOf_1 : decode cX4_ownerOf 1 = .ok (.getfield 21, 3) := by decide +kernel
theorem dX4_ownerOf_4 : decode cX4_ownerOf 4 = .ok (.iload_n 1, 1) := by decide +kernel
theorem dX4_ownerOf_5 : decode cX4_ownerOf 5 = .ok (.iaload, 1) := by decide +kernel
theorem dX4_ownerOf_6 : decode cX4_ownerOf 6 = .ok (.ireturn, 1) := by decide +kernel
theorem dX4_isMeant_0 : decode cX4_isMeant 0 = .ok (.aload_n 0, 1) := by decide +kernel
theorem dX4_isMeant_1 : decode cX4_isMeant 1 = .ok (.getfield 15, 3) := by decide +kernel
theorem dX4_isMeant_4 : decode cX4_isMeant 4 = .ok (.iload_n 1, 1) := by decide +kernel
theorem dX4_isMeant_5 : decode cX4_isMeant 5 = .ok (.iaload, 1) := by decide +kernel
theorem dX4_isMeant_6 : decode cX4_isMeant 6 = .ok (.iload_n 2, 1) := by decide +kernel
theorem dX4_isMeant_7 : decode cX4_isMeant 7 = .ok (.if_icmp .ne 20, 3) := by decide +kernel
theorem dX4_isMeant_10 : decode cX4_isMeant 10 = .ok (.aload_n 0, 1) := by decide +kernel
theorem dX4_isMeant_11 : decode cX4_isMeant 11 = .ok (.getfield 24, 3) := by decide +kernel
theorem dX4_isMeant_14 : decode cX4_isMeant 14 = .ok (.iload_n 1, 1) := by decide +kernel
theorem dX4_isMeant_15 : decode cX4_isMeant 15 = .ok (.iaload, 1) := by decide +kernel
theorem dX4_isMeant_16 : decode cX4_isMeant 16 = .ok (.iload_n 3, 1) := by decide +kernel
theorem dX4_isMeant_17 : decode cX4_isMeant 17 = .ok (.ishr, 1) := by decide +kernel
theorem dX4_isMeant_18 : decode cX4_isMeant 18 = .ok (.iconst 1, 1) := by decide +kernel
theorem dX4_isMeant_19 : decode cX4_isMeant 19 = .ok (.iand, 1) := by decide +kernel
theorem dX4_isMeant_20 : decode cX4_isMeant 20 = .ok (.ifCond .eq 7, 3) := by decide +kernel
theorem dX4_isMeant_23 : decode cX4_isMeant 23 = .ok (.iconst 1, 1) := by decide +kernel
theorem dX4_isMeant_24 : decode cX4_isMeant 24 = .ok (.goto 4, 3) := by decide +kernel
theorem dX4_isMeant_27 : decode cX4_isMeant 27 = .ok (.iconst 0, 1) := by decide +kernel
theorem dX4_isMeant_28 : decode cX4_isMeant 28 = .ok (.ireturn, 1) := by decide +kernel
theorem dX4_isHard_0 : decode cX4_isHard 0 = .ok (.aload_n 0, 1) := by decide +kernel
theorem dX4_isHard_1 : decode cX4_isHard 1 = .ok (.getfield 30, 3) := by decide +kernel
theorem dX4_isHard_4 : decode cX4_isHard 4 = .ok (.iload_n 1, 1) := by decide +kernel
theorem dX4_isHard_5 : decode cX4_isHard 5 = .ok (.baload, 1) := by decide +kernel
theorem dX4_isHard_6 : decode cX4_isHard 6 = .ok (.ireturn, 1) := by decide +kernel
theorem dX4_changeHard_0 : decode cX4_changeHard 0 = .ok (.aload_n 0, 1) := by decide +kernel
theorem dX4_changeHard_1 : decode cX4_changeHard 1 = .ok (.getfield 30, 3) := by decide +kernel
theorem dX4_changeHard_4 : decode cX4_changeHard 4 = .ok (.iload_n 1, 1) := by decide +kernel
theorem dX4_changeHard_5 : decode cX4_changeHard 5 = .ok (.iload_n 2, 1) := by decide +kernel
theorem dX4_changeHard_6 : decode cX4_changeHard 6 = .ok (.bastore, 1) := by decide +kernel
theorem dX4_changeHard_7 : decode cX4_changeHard 7 = .ok (.return_, 1) := by decide +kernel
theorem dX4_shownOn_0 : decode cX4_shownOn 0 = .ok (.aload_n 0, 1) := by decide +kernel
theorem dX4_shownOn_1 : decode cX4_shownOn 1 = .ok (.getfield 27, 3) := by decide +kernel
theorem dX4_shownOn_4 : decode cX4_shownOn 4 = .ok (.iload_n 1, 1) := by decide +kernel
theorem dX4_shownOn_5 : decode cX4_shownOn 5 = .ok (.iaload, 1) := by decide +kernel
theorem dX4_shownOn_6 : decode cX4_shownOn 6 = .ok (.ireturn, 1) := by decide +kernel
theorem dX4_changeShown_0 : decode cX4_changeShown 0 = .ok (.aload_n 0, 1) := by decide +kernel
theorem dX4_changeShown_1 : decode cX4_changeShown 1 = .ok (.getfield 27, 3) := by decide +kernel
theorem dX4_changeShown_4 : decode cX4_changeShown 4 = .ok (.iload_n 1, 1) := by decide +kernel
theorem dX4_changeShown_5 : decode cX4_changeShown 5 = .ok (.iaload, 1) := by decide +kernel
theorem dX4_changeShown_6 : decode cX4_changeShown 6 = .ok (.istore_n 3, 1) := by decide +kernel
theorem dX4_changeShown_7 : decode cX4_changeShown 7 = .ok (.aload_n 0, 1) := by decide +kernel
theorem dX4_changeShown_8 : decode cX4_changeShown 8 = .ok (.getfield 27, 3) := by decide +kernel
theorem dX4_changeShown_11 : decode cX4_changeShown 11 = .ok (.iload_n 1, 1) := by decide +kernel
theorem dX4_changeShown_12 : decode cX4_changeShown 12 = .ok (.iload_n 2, 1) := by decide +kernel
theorem dX4_changeShown_13 : decode cX4_changeShown 13 = .ok (.iastore, 1) := by decide +kernel
theorem dX4_changeShown_14 : decode cX4_changeShown 14 = .ok (.iload_n 3, 1) := by decide +kernel
theorem dX4_changeShown_15 : decode cX4_changeShown 15 = .ok (.ireturn, 1) := by decide +kernel
theorem dX4_shutsOf_0 : decode cX4_shutsOf 0 = .ok (.aload_n 0, 1) := by decide +kernel
theorem dX4_shutsOf_1 : decode cX4_shutsOf 1 = .ok (.getfield 34, 3) := by decide +kernel
theorem dX4_shutsOf_4 : decode cX4_shutsOf 4 = .ok (.iload_n 1, 1) := by decide +kernel
theorem dX4_shutsOf_5 : decode cX4_shutsOf 5 = .ok (.iaload, 1) := by decide +kernel
theorem dX4_shutsOf_6 : decode cX4_shutsOf 6 = .ok (.ireturn, 1) := by decide +kernel
theorem dX4_addShut_0 : decode cX4_addShut 0 = .ok (.iload_n 1, 1) := by decide +kernel
theorem dX4_addShut_1 : decode cX4_addShut 1 = .ok (.bipush 8, 2) := by decide +kernel
theorem dX4_addShut_3 : decode cX4_addShut 3 = .ok (.imul, 1) := by decide +kernel
theorem dX4_addShut_4 : decode cX4_addShut 4 = .ok (.aload_n 0, 1) := by decide +kernel
theorem dX4_addShut_5 : decode cX4_addShut 5 = .ok (.getfield 34, 3) := by decide +kernel
theorem dX4_addShut_8 : decode cX4_addShut 8 = .ok (.iload_n 1, 1) := by decide +kernel
theorem dX4_addShut_9 : decode cX4_addShut 9 = .ok (.iaload, 1) := by decide +kernel
theorem dX4_addShut_10 : decode cX4_addShut 10 = .ok (.iadd, 1) := by decide +kernel
theorem dX4_addShut_11 : decode cX4_addShut 11 = .ok (.istore 4, 2) := by decide +kernel
theorem dX4_addShut_13 : decode cX4_addShut 13 = .ok (.aload_n 0, 1) := by decide +kernel
theorem dX4_addShut_14 : decode cX4_addShut 14 = .ok (.getfield 37, 3) := by decide +kernel
theorem dX4_addShut_17 : decode cX4_addShut 17 = .ok (.iload 4, 2) := by decide +kernel
theorem dX4_addShut_19 : decode cX4_addShut 19 = .ok (.iload_n 2, 1) := by decide +kernel
theorem dX4_addShut_20 : decode cX4_addShut 20 = .ok (.iastore, 1) := by decide +kernel
theorem dX4_addShut_21 : decode cX4_addShut 21 = .ok (.aload_n 0, 1) := by decide +kernel
theorem dX4_addShut_22 : decode cX4_addShut 22 = .ok (.getfield 40, 3) := by decide +kernel
theorem dX4_addShut_25 : decode cX4_addShut 25 = .ok (.iload 4, 2) := by decide +kernel
theorem dX4_addShut_27 : decode cX4_addShut 27 = .ok (.iload_n 3, 1) := by decide +kernel
theorem dX4_addShut_28 : decode cX4_addShut 28 = .ok (.iastore, 1) := by decide +kernel
theorem dX4_addShut_29 : decode cX4_addShut 29 = .ok (.aload_n 0, 1) := by decide +kernel
theorem dX4_addShut_30 : decode cX4_addShut 30 = .ok (.getfield 34, 3) := by decide +kernel
theorem dX4_addShut_33 : decode cX4_addShut 33 = .ok (.iload_n 1, 1) := by decide +kernel
theorem dX4_addShut_34 : decode cX4_addShut 34 = .ok (.dup2, 1) := by decide +kernel
theorem dX4_addShut_35 : decode cX4_addShut 35 = .ok (.iaload, 1) := by decide +kernel
theorem dX4_addShut_36 : decode cX4_addShut 36 = .ok (.iconst 1, 1) := by decide +kernel
theorem dX4_addShut_37 : decode cX4_addShut 37 = .ok (.iadd, 1) := by decide +kernel
theorem dX4_addShut_38 : decode cX4_addShut 38 = .ok (.dup_x2, 1) := by decide +kernel
theorem dX4_addShut_39 : decode cX4_addShut 39 = .ok (.iastore, 1) := by decide +kernel
theorem dX4_addShut_40 : decode cX4_addShut 40 = .ok (.ireturn, 1) := by decide +kernel
theorem dX4_openDays_0 : decode cX4_openDays 0 = .ok (.iconst 0, 1) := by decide +kernel
theorem dX4_openDays_1 : decode cX4_openDays 1 = .ok (.istore 4, 2) := by decide +kernel
theorem dX4_openDays_3 : decode cX4_openDays 3 = .ok (.iload_n 2, 1) := by decide +kernel
theorem dX4_openDays_4 : decode cX4_openDays 4 = .ok (.istore 5, 2) := by decide +kernel
theorem dX4_openDays_6 : decode cX4_openDays 6 = .ok (.iconst 0, 1) := by decide +kernel
theorem dX4_openDays_7 : decode cX4_openDays 7 = .ok (.istore 6, 2) := by decide +kernel
theorem dX4_openDays_9 : decode cX4_openDays 9 = .ok (.iload 6, 2) := by decide +kernel
theorem dX4_openDays_11 : decode cX4_openDays 11 = .ok (.bipush 16, 2) := by decide +kernel
theorem dX4_openDays_13 : decode cX4_openDays 13 = .ok (.if_icmp .gt 60, 3) := by decide +kernel
theorem dX4_openDays_16 : decode cX4_openDays 16 = .ok (.iload 5, 2) := by decide +kernel
theorem dX4_openDays_18 : decode cX4_openDays 18 = .ok (.iload_n 3, 1) := by decide +kernel
theorem dX4_openDays_19 : decode cX4_openDays 19 = .ok (.if_icmp .gt 54, 3) := by decide +kernel
theorem dX4_openDays_22 : decode cX4_openDays 22 = .ok (.aload_n 0, 1) := by decide +kernel
theorem dX4_openDays_23 : decode cX4_openDays 23 = .ok (.iload_n 1, 1) := by decide +kernel
theorem dX4_openDays_24 : decode cX4_openDays 24 = .ok (.iload 5, 2) := by decide +kernel
theorem dX4_openDays_26 : decode cX4_openDays 26 = .ok (.invokevirtual 47, 3) := by decide +kernel
theorem dX4_openDays_29 : decode cX4_openDays 29 = .ok (.istore 7, 2) := by decide +kernel
theorem dX4_openDays_31 : decode cX4_openDays 31 = .ok (.iload 7, 2) := by decide +kernel
theorem dX4_openDays_33 : decode cX4_openDays 33 = .ok (.iload 5, 2) := by decide +kernel
theorem dX4_openDays_35 : decode cX4_openDays 35 = .ok (.if_icmp .ne 28, 3) := by decide +kernel
theorem dX4_openDays_38 : decode cX4_openDays 38 = .ok (.iload_n 3, 1) := by decide +kernel
theorem dX4_openDays_39 : decode cX4_openDays 39 = .ok (.iconst 1, 1) := by decide +kernel
theorem dX4_openDays_40 : decode cX4_openDays 40 = .ok (.iadd, 1) := by decide +kernel
theorem dX4_openDays_41 : decode cX4_openDays 41 = .ok (.aload_n 0, 1) := by decide +kernel
theorem dX4_openDays_42 : decode cX4_openDays 42 = .ok (.iload_n 1, 1) := by decide +kernel
theorem dX4_openDays_43 : decode cX4_openDays 43 = .ok (.iload 5, 2) := by decide +kernel
theorem dX4_openDays_45 : decode cX4_openDays 45 = .ok (.invokevirtual 51, 3) := by decide +kernel
theorem dX4_openDays_48 : decode cX4_openDays 48 = .ok (.invokestatic 54, 3) := by decide +kernel
theorem dX4_openDays_51 : decode cX4_openDays 51 = .ok (.istore 7, 2) := by decide +kernel
theorem dX4_openDays_53 : decode cX4_openDays 53 = .ok (.iload 4, 2) := by decide +kernel
theorem dX4_openDays_55 : decode cX4_openDays 55 = .ok (.iload 7, 2) := by decide +kernel
theorem dX4_openDays_57 : decode cX4_openDays 57 = .ok (.iload 5, 2) := by decide +kernel
theorem dX4_openDays_59 : decode cX4_openDays 59 = .ok (.isub, 1) := by decide +kernel
theorem dX4_openDays_60 : decode cX4_openDays 60 = .ok (.iadd, 1) := by decide +kernel
theorem dX4_openDays_61 : decode cX4_openDays 61 = .ok (.istore 4, 2) := by decide +kernel
theorem dX4_openDays_63 : decode cX4_openDays 63 = .ok (.iload 7, 2) := by decide +kernel
theorem dX4_openDays_65 : decode cX4_openDays 65 = .ok (.istore 5, 2) := by decide +kernel
theorem dX4_openDays_67 : decode cX4_openDays 67 = .ok (.iinc 6 1, 3) := by decide +kernel
theorem dX4_openDays_70 : decode cX4_openDays 70 = .ok (.goto (-61), 3) := by decide +kernel
theorem dX4_openDays_73 : decode cX4_openDays 73 = .ok (.iload 4, 2) := by decide +kernel
theorem dX4_openDays_75 : decode cX4_openDays 75 = .ok (.ireturn, 1) := by decide +kernel
theorem dX4_shutPast_0 : decode cX4_shutPast 0 = .ok (.iload_n 2, 1) := by decide +kernel
theorem dX4_shutPast_1 : decode cX4_shutPast 1 = .ok (.istore_n 3, 1) := by decide +kernel
theorem dX4_shutPast_2 : decode cX4_shutPast 2 = .ok (.iload_n 1, 1) := by decide +kernel
theorem dX4_shutPast_3 : decode cX4_shutPast 3 = .ok (.bipush 8, 2) := by decide +kernel
theorem dX4_shutPast_5 : decode cX4_shutPast 5 = .ok (.imul, 1) := by decide +kernel
theorem dX4_shutPast_6 : decode cX4_shutPast 6 = .ok (.istore 4, 2) := by decide +kernel
theorem dX4_shutPast_8 : decode cX4_shutPast 8 = .ok (.iload 4, 2) := by decide +kernel
theorem dX4_shutPast_10 : decode cX4_shutPast 10 = .ok (.istore 5, 2) := by decide +kernel
theorem dX4_shutPast_12 : decode cX4_shutPast 12 = .ok (.iload 5, 2) := by decide +kernel
theorem dX4_shutPast_14 : decode cX4_shutPast 14 = .ok (.iload 4, 2) := by decide +kernel
theorem dX4_shutPast_16 : decode cX4_shutPast 16 = .ok (.aload_n 0, 1) := by decide +kernel
theorem dX4_shutPast_17 : decode cX4_shutPast 17 = .ok (.getfield 34, 3) := by decide +kernel
theorem dX4_shutPast_20 : decode cX4_shutPast 20 = .ok (.iload_n 1, 1) := by decide +kernel
theorem dX4_shutPast_21 : decode cX4_shutPast 21 = .ok (.iaload, 1) := by decide +kernel
theorem dX4_shutPast_22 : decode cX4_shutPast 22 = .ok (.iadd, 1) := by decide +kernel
theorem dX4_shutPast_23 : decode cX4_shutPast 23 = .ok (.if_icmp .ge 41, 3) := by decide +kernel
theorem dX4_shutPast_26 : decode cX4_shutPast 26 = .ok (.aload_n 0, 1) := by decide +kernel
theorem dX4_shutPast_27 : decode cX4_shutPast 27 = .ok (.getfield 37, 3) := by decide +kernel
theorem dX4_shutPast_30 : decode cX4_shutPast 30 = .ok (.iload 5, 2) := by decide +kernel
theorem dX4_shutPast_32 : decode cX4_shutPast 32 = .ok (.iaload, 1) := by decide +kernel
theorem dX4_shutPast_33 : decode cX4_shutPast 33 = .ok (.iload_n 2, 1) := by decide +kernel
theorem dX4_shutPast_34 : decode cX4_shutPast 34 = .ok (.if_icmp .gt 24, 3) := by decide +kernel
theorem dX4_shutPast_37 : decode cX4_shutPast 37 = .ok (.aload_n 0, 1) := by decide +kernel
theorem dX4_shutPast_38 : decode cX4_shutPast 38 = .ok (.getfield 40, 3) := by decide +kernel
theorem dX4_shutPast_41 : decode cX4_shutPast 41 = .ok (.iload 5, 2) := by decide +kernel
theorem dX4_shutPast_43 : decode cX4_shutPast 43 = .ok (.iaload, 1) := by decide +kernel
theorem dX4_shutPast_44 : decode cX4_shutPast 44 = .ok (.iload_n 3, 1) := by decide +kernel
theorem dX4_shutPast_45 : decode cX4_shutPast 45 = .ok (.if_icmp .lt 13, 3) := by decide +kernel
theorem dX4_shutPast_48 : decode cX4_shutPast 48 = .ok (.aload_n 0, 1) := by decide +kernel
theorem dX4_shutPast_49 : decode cX4_shutPast 49 = .ok (.getfield 40, 3) := by decide +kernel
theorem dX4_shutPast_52 : decode cX4_shutPast 52 = .ok (.iload 5, 2) := by decide +kernel
theorem dX4_shutPast_54 : decode cX4_shutPast 54 = .ok (.iaload, 1) := by decide +kernel
theorem dX4_shutPast_55 : decode cX4_shutPast 55 = .ok (.iconst 1, 1) := by decide +kernel
theorem dX4_shutPast_56 : decode cX4_shutPast 56 = .ok (.iadd, 1) := by decide +kernel
theorem dX4_shutPast_57 : decode cX4_shutPast 57 = .ok (.istore_n 3, 1) := by decide +kernel
theorem dX4_shutPast_58 : decode cX4_shutPast 58 = .ok (.iinc 5 1, 3) := by decide +kernel
theorem dX4_shutPast_61 : decode cX4_shutPast 61 = .ok (.goto (-49), 3) := by decide +kernel
theorem dX4_shutPast_64 : decode cX4_shutPast 64 = .ok (.iload_n 3, 1) := by decide +kernel
theorem dX4_shutPast_65 : decode cX4_shutPast 65 = .ok (.ireturn, 1) := by decide +kernel
theorem dX4_nextShut_0 : decode cX4_nextShut 0 = .ok (.sipush 1501, 3) := by decide +kernel
theorem dX4_nextShut_3 : decode cX4_nextShut 3 = .ok (.istore_n 3, 1) := by decide +kernel
theorem dX4_nextShut_4 : decode cX4_nextShut 4 = .ok (.iload_n 1, 1) := by decide +kernel
theorem dX4_nextShut_5 : decode cX4_nextShut 5 = .ok (.bipush 8, 2) := by decide +kernel
theorem dX4_nextShut_7 : decode cX4_nextShut 7 = .ok (.imul, 1) := by decide +kernel
theorem dX4_nextShut_8 : decode cX4_nextShut 8 = .ok (.istore 4, 2) := by decide +kernel
theorem dX4_nextShut_10 : decode cX4_nextShut 10 = .ok (.iload 4, 2) := by decide +kernel
theorem dX4_nextShut_12 : decode cX4_nextShut 12 = .ok (.istore 5, 2) := by decide +kernel
theorem dX4_nextShut_14 : decode cX4_nextShut 14 = .ok (.iload 5, 2) := by decide +kernel
theorem dX4_nextShut_16 : decode cX4_nextShut 16 = .ok (.iload 4, 2) := by decide +kernel
theorem dX4_nextShut_18 : decode cX4_nextShut 18 = .ok (.aload_n 0, 1) := by decide +kernel
theorem dX4_nextShut_19 : decode cX4_nextShut 19 = .ok (.getfield 34, 3) := by decide +kernel
theorem dX4_nextShut_22 : decode cX4_nextShut 22 = .ok (.iload_n 1, 1) := by decide +kernel
theorem dX4_nextShut_23 : decode cX4_nextShut 23 = .ok (.iaload, 1) := by decide +kernel
theorem dX4_nextShut_24 : decode cX4_nextShut 24 = .ok (.iadd, 1) := by decide +kernel
theorem dX4_nextShut_25 : decode cX4_nextShut 25 = .ok (.if_icmp .ge 39, 3) := by decide +kernel
theorem dX4_nextShut_28 : decode cX4_nextShut 28 = .ok (.aload_n 0, 1) := by decide +kernel
theorem dX4_nextShut_29 : decode cX4_nextShut 29 = .ok (.getfield 37, 3) := by decide +kernel
theorem dX4_nextShut_32 : decode cX4_nextShut 32 = .ok (.iload 5, 2) := by decide +kernel
theorem dX4_nextShut_34 : decode cX4_nextShut 34 = .ok (.iaload, 1) := by decide +kernel
theorem dX4_nextShut_35 : decode cX4_nextShut 35 = .ok (.iload_n 2, 1) := by decide +kernel
theorem dX4_nextShut_36 : decode cX4_nextShut 36 = .ok (.if_icmp .le 22, 3) := by decide +kernel
theorem dX4_nextShut_39 : decode cX4_nextShut 39 = .ok (.aload_n 0, 1) := by decide +kernel
theorem dX4_nextShut_40 : decode cX4_nextShut 40 = .ok (.getfield 37, 3) := by decide +kernel
theorem dX4_nextShut_43 : decode cX4_nextShut 43 = .ok (.iload 5, 2) := by decide +kernel
theorem dX4_nextShut_45 : decode cX4_nextShut 45 = .ok (.iaload, 1) := by decide +kernel
theorem dX4_nextShut_46 : decode cX4_nextShut 46 = .ok (.iload_n 3, 1) := by decide +kernel
theorem dX4_nextShut_47 : decode cX4_nextShut 47 = .ok (.if_icmp .ge 11, 3) := by decide +kernel
theorem dX4_nextShut_50 : decode cX4_nextShut 50 = .ok (.aload_n 0, 1) := by decide +kernel
theorem dX4_nextShut_51 : decode cX4_nextShut 51 = .ok (.getfield 37, 3) := by decide +kernel
theorem dX4_nextShut_54 : decode cX4_nextShut 54 = .ok (.iload 5, 2) := by decide +kernel
theorem dX4_nextShut_56 : decode cX4_nextShut 56 = .ok (.iaload, 1) := by decide +kernel
theorem dX4_nextShut_57 : decode cX4_nextShut 57 = .ok (.istore_n 3, 1) := by decide +kernel
theorem dX4_nextShut_58 : decode cX4_nextShut 58 = .ok (.iinc 5 1, 3) := by decide +kernel
theorem dX4_nextShut_61 : decode cX4_nextShut 61 = .ok (.goto (-47), 3) := by decide +kernel
theorem dX4_nextShut_64 : decode cX4_nextShut 64 = .ok (.iload_n 3, 1) := by decide +kernel
theorem dX4_nextShut_65 : decode cX4_nextShut 65 = .ok (.ireturn, 1) := by decide +kernel
theorem dX5_init_0 : decode cX5_init 0 = .ok (.aload_n 0, 1) := by decide +kernel
theorem dX5_init_1 : decode cX5_init 1 = .ok (.invokespecial 3, 3) := by decide +kernel
theorem dX5_init_4 : decode cX5_init 4 = .ok (.aload_n 0, 1) := by decide +kernel
theorem dX5_init_5 : decode cX5_init 5 = .ok (.bipush 80, 2) := by decide +kernel
theorem dX5_init_7 : decode cX5_init 7 = .ok (.newarray .int, 2) := by decide +kernel
theorem dX5_init_9 : decode cX5_init 9 = .ok (.putfield 9, 3) := by decide +kernel
theorem dX5_init_12 : decode cX5_init 12 = .ok (.aload_n 0, 1) := by decide +kernel
theorem dX5_init_13 : decode cX5_init 13 = .ok (.bipush 80, 2) := by decide +kernel
theorem dX5_init_15 : decode cX5_init 15 = .ok (.newarray .int, 2) := by decide +kernel
theorem dX5_init_17 : decode cX5_init 17 = .ok (.putfield 15, 3) := by decide +kernel
theorem dX5_init_20 : decode cX5_init 20 = .ok (.aload_n 0, 1) := by decide +kernel
theorem dX5_init_21 : decode cX5_init 21 = .ok (.bipush 80, 2) := by decide +kernel
theorem dX5_init_23 : decode cX5_init 23 = .ok (.newarray .int, 2) := by decide +kernel
theorem dX5_init_25 : decode cX5_init 25 = .ok (.putfield 18, 3) := by decide +kernel
theorem dX5_init_28 : decode cX5_init 28 = .ok (.aload_n 0, 1) := by decide +kernel
theorem dX5_init_29 : decode cX5_init 29 = .ok (.bipush 80, 2) := by decide +kernel
theorem dX5_init_31 : decode cX5_init 31 = .ok (.newarray .int, 2) := by decide +kernel
theorem dX5_init_33 : decode cX5_init 33 = .ok (.putfield 21, 3) := by decide +kernel
theorem dX5_init_36 : decode cX5_init 36 = .ok (.aload_n 0, 1) := by decide +kernel
theorem dX5_init_37 : decode cX5_init 37 = .ok (.bipush 80, 2) := by decide +kernel
theorem dX5_init_39 : decode cX5_init 39 = .ok (.newarray .int, 2) := by decide +kernel
theorem dX5_init_41 : decode cX5_init 41 = .ok (.putfield 24, 3) := by decide +kernel
theorem dX5_init_44 : decode cX5_init 44 = .ok (.aload_n 0, 1) := by decide +kernel
theorem dX5_init_45 : decode cX5_init 45 = .ok (.sipush 3200, 3) := by decide +kernel
theorem dX5_init_48 : decode cX5_init 48 = .ok (.newarray .int, 2) := by decide +kernel
theorem dX5_init_50 : decode cX5_init 50 = .ok (.putfield 27, 3) := by decide +kernel
theorem dX5_init_53 : decode cX5_init 53 = .ok (.aload_n 0, 1) := by decide +kernel
theorem dX5_init_54 : decode cX5_init 54 = .ok (.iconst 5, 1) := by decide +kernel
theorem dX5_init_55 : decode cX5_init 55 = .ok (.newarray .int, 2) := by decide +kernel
theorem dX5_init_57 : decode cX5_init 57 = .ok (.putfield 30, 3) := by decide +kernel
theorem dX5_init_60 : decode cX5_init 60 = .ok (.aload_n 0, 1) := by decide +kernel
theorem dX5_init_61 : decode cX5_init 61 = .ok (.iconst 0, 1) := by decide +kernel
theorem dX5_init_62 : decode cX5_init 62 = .ok (.putfield 33, 3) := by decide +kernel
theorem dX5_init_65 : decode cX5_init 65 = .ok (.aload_n 0, 1) := by decide +kernel
theorem dX5_init_66 : decode cX5_init 66 = .ok (.iconst 0, 1) := by decide +kernel
theorem dX5_init_67 : decode cX5_init 67 = .ok (.putfield 37, 3) := by decide +kernel
theorem dX5_init_70 : decode cX5_init 70 = .ok (.aload_n 0, 1) := by decide +kernel
theorem dX5_init_71 : decode cX5_init 71 = .ok (.aload_n 1, 1) := by decide +kernel
theorem dX5_init_72 : decode cX5_init 72 = .ok (.putfield 40, 3) := by decide +kernel
theorem dX5_init_75 : decode cX5_init 75 = .ok (.aload_n 0, 1) := by decide +kernel
theorem dX5_init_76 : decode cX5_init 76 = .ok (.getfield 24, 3) := by decide +kernel
theorem dX5_init_79 : decode cX5_init 79 = .ok (.sipush 1501, 3) := by decide +kernel
theorem dX5_init_82 : decode cX5_init 82 = .ok (.invokestatic 44, 3) := by decide +kernel
theorem dX5_init_85 : decode cX5_init 85 = .ok (.return_, 1) := by decide +kernel
theorem dX5_size_0 : decode cX5_size 0 = .ok (.aload_n 0, 1) := by decide +kernel
theorem dX5_size_1 : decode cX5_size 1 = .ok (.getfield 33, 3) := by decide +kernel
theorem dX5_size_4 : decode cX5_size 4 = .ok (.ireturn, 1) := by decide +kernel
theorem dX5_takenBackSize_0 : decode cX5_takenBackSize 0 = .ok (.aload_n 0, 1) := by decide +kernel
theorem dX5_takenBackSize_1 : decode cX5_takenBackSize 1 = .ok (.getfield 37, 3) := by decide +kernel
theorem dX5_takenBackSize_4 : decode cX5_takenBackSize 4 = .ok (.ireturn, 1) := by decide +kernel
theorem dX5_isFull_0 : decode cX5_isFull 0 = .ok (.aload_n 0, 1) := by decide +kernel
theorem dX5_isFull_1 : decode cX5_isFull 1 = .ok (.getfield 33, 3) := by decide +kernel
theorem dX5_isFull_4 : decode cX5_isFull 4 = .ok (.bipush 80, 2) := by decide +kernel
theorem dX5_isFull_6 : decode cX5_isFull 6 = .ok (.if_icmp .lt 7, 3) := by decide +kernel
theorem dX5_isFull_9 : decode cX5_isFull 9 = .ok (.iconst 1, 1) := by decide +kernel
theorem dX5_isFull_10 : decode cX5_isFull 10 = .ok (.goto 4, 3) := by decide +kernel
theorem dX5_isFull_13 : decode cX5_isFull 13 = .ok (.iconst 0, 1) := by decide +kernel
theorem dX5_isFull_14 : decode cX5_isFull 14 = .ok (.ireturn, 1) := by decide +kernel
theorem dX5_has_0 : decode cX5_has 0 = .ok (.iload_n 1, 1) := by decide +kernel
theorem dX5_has_1 : decode cX5_has 1 = .ok (.ifCond .lt 15, 3) := by decide +kernel
theorem dX5_has_4 : decode cX5_has 4 = .ok (.iload_n 1, 1) := by decide +kernel
theorem dX5_has_5 : decode cX5_has 5 = .ok (.aload_n 0, 1) := by decide +kernel
theorem dX5_has_6 : decode cX5_has 6 = .ok (.getfield 33, 3) := by decide +kernel
theorem dX5_has_9 : decode cX5_has 9 = .ok (.if_icmp .ge 7, 3) := by decide +kernel
theorem dX5_has_12 : decode cX5_has 12 = .ok (.iconst 1, 1) := by decide +kernel
theorem dX5_has_13 : decode cX5_has 13 = .ok (.goto 4, 3) := by decide +kernel
theorem dX5_has_16 : decode cX5_has 16 = .ok (.iconst 0, 1) := by decide +kernel
theorem dX5_has_17 : decode cX5_has 17 = .ok (.ireturn, 1) := by decide +kernel
theorem dX5_add_0 : decode cX5_add 0 = .ok (.aload_n 0, 1) := by decide +kernel
theorem dX5_add_1 : decode cX5_add 1 = .ok (.getfield 9, 3) := by decide +kernel
theorem dX5_add_4 : decode cX5_add 4 = .ok (.aload_n 0, 1) := by decide +kernel
theorem dX5_add_5 : decode cX5_add 5 = .ok (.getfield 33, 3) := by decide +kernel
theorem dX5_add_8 : decode cX5_add 8 = .ok (.iload_n 1, 1) := by decide +kernel
theorem dX5_add_9 : decode cX5_add 9 = .ok (.iastore, 1) := by decide +kernel
theorem dX5_add_10 : decode cX5_add 10 = .ok (.aload_n 0, 1) := by decide +kernel
theorem dX5_add_11 : decode cX5_add 11 = .ok (.getfield 15, 3) := by decide +kernel
theorem dX5_add_14 : decode cX5_add 14 = .ok (.aload_n 0, 1) := by decide +kernel
theorem dX5_add_15 : decode cX5_add 15 = .ok (.getfield 33, 3) := by decide +kernel
theorem dX5_add_18 : decode cX5_add 18 = .ok (.iload_n 2, 1) := by decide +kernel
theorem dX5_add_19 : decode cX5_add 19 = .ok (.iastore, 1) := by decide +kernel
theorem dX5_add_20 : decode cX5_add 20 = .ok (.aload_n 0, 1) := by decide +kernel
theorem dX5_add_21 : decode cX5_add 21 = .ok (.getfield 18, 3) := by decide +kernel
theorem dX5_add_24 : decode cX5_add 24 = .ok (.aload_n 0, 1) := by decide +kernel
theorem dX5_add_25 : decode cX5_add 25 = .ok (.getfield 33, 3) := by decide +kernel
theorem dX5_add_28 : decode cX5_add 28 = .ok (.iload_n 3, 1) := by decide +kernel
theorem dX5_add_29 : decode cX5_add 29 = .ok (.iastore, 1) := by decide +kernel
theorem dX5_add_30 : decode cX5_add 30 = .ok (.aload_n 0, 1) := by decide +kernel
theorem dX5_add_31 : decode cX5_add 31 = .ok (.getfield 21, 3) := by decide +kernel
theorem dX5_add_34 : decode cX5_add 34 = .ok (.aload_n 0, 1) := by decide +kernel
theorem dX5_add_35 : decode cX5_add 35 = .ok (.getfield 33, 3) := by decide +kernel
theorem dX5_add_38 : decode cX5_add 38 = .ok (.iload 4, 2) := by decide +kernel
theorem dX5_add_40 : decode cX5_add 40 = .ok (.iastore, 1) := by decide +kernel
theorem dX5_add_41 : decode cX5_add 41 = .ok (.aload_n 0, 1) := by decide +kernel
theorem dX5_add_42 : decode cX5_add 42 = .ok (.dup, 1) := by decide +kernel
theorem dX5_add_43 : decode cX5_add 43 = .ok (.getfield 33, 3) := by decide +kernel
theorem dX5_add_46 : decode cX5_add 46 = .ok (.dup_x1, 1) := by decide +kernel
theorem dX5_add_47 : decode cX5_add 47 = .ok (.iconst 1, 1) := by decide +kernel
theorem dX5_add_48 : decode cX5_add 48 = .ok (.iadd, 1) := by decide +kernel
theorem dX5_add_49 : decode cX5_add 49 = .ok (.putfield 33, 3) := by decide +kernel
theorem dX5_add_52 : decode cX5_add 52 = .ok (.ireturn, 1) := by decide +kernel
theorem dX5_kitchenOf_0 : decode cX5_kitchenOf 0 = .ok (.aload_n 0, 1) := by decide +kernel
theorem dX5_kitchenOf_1 : decode cX5_kitchenOf 1 = .ok (.getfield 9, 3) := by decide +kernel
theorem dX5_kitchenOf_4 : decode cX5_kitchenOf 4 = .ok (.iload_n 1, 1) := by decide +kernel
theorem dX5_kitchenOf_5 : decode cX5_kitchenOf 5 = .ok (.iaload, 1) := by decide +kernel
theorem dX5_kitchenOf_6 : decode cX5_kitchenOf 6 = .ok (.ireturn, 1) := by decide +kernel
theorem dX5_inspectorOf_0 : decode cX5_inspectorOf 0 = .ok (.aload_n 0, 1) := by decide +kernel
theorem dX5_inspectorOf_1 : decode cX5_inspectorOf 1 = .ok (.getfield 15, 3) := by decide +kernel
theorem dX5_inspectorOf_4 : decode cX5_inspectorOf 4 = .ok (.iload_n 1, 1) := by decide +kernel
theorem dX5_inspectorOf_5 : decode cX5_inspectorOf 5 = .ok (.iaload, 1) := by decide +kernel
theorem dX5_inspectorOf_6 : decode cX5_inspectorOf 6 = .ok (.ireturn, 1) := by decide +kernel
theorem dX5_dayOf_0 : decode cX5_dayOf 0 = .ok (.aload_n 0, 1) := by decide +kernel
theorem dX5_dayOf_1 : decode cX5_dayOf 1 = .ok (.getfield 18, 3) := by decide +kernel
theorem dX5_dayOf_4 : decode cX5_dayOf 4 = .ok (.iload_n 1, 1) := by decide +kernel
theorem dX5_dayOf_5 : decode cX5_dayOf 5 = .ok (.iaload, 1) := by decide +kernel
theorem dX5_dayOf_6 : decode cX5_dayOf 6 = .ok (.ireturn, 1) := by decide +kernel
theorem dX5_isTakenBack_0 : decode cX5_isTakenBack 0 = .ok (.aload_n 0, 1) := by decide +kernel
theorem dX5_isTakenBack_1 : decode cX5_isTakenBack 1 = .ok (.getfield 24, 3) := by decide +kernel
theorem dX5_isTakenBack_4 : decode cX5_isTakenBack 4 = .ok (.iload_n 1, 1) := by decide +kernel
theorem dX5_isTakenBack_5 : decode cX5_isTakenBack 5 = .ok (.iaload, 1) := by decide +kernel
theorem dX5_isTakenBack_6 : decode cX5_isTakenBack 6 = .ok (.sipush 1501, 3) := by decide +kernel
theorem dX5_isTakenBack_9 : decode cX5_isTakenBack 9 = .ok (.if_icmp .ge 7, 3) := by decide +kernel
theorem dX5_isTakenBack_12 : decode cX5_isTakenBack 12 = .ok (.iconst 1, 1) := by decide +kernel
theorem dX5_isTakenBack_13 : decode cX5_isTakenBack 13 = .ok (.goto 4, 3) := by decide +kernel
theorem dX5_isTakenBack_16 : decode cX5_isTakenBack 16 = .ok (.iconst 0, 1) := by decide +kernel
theorem dX5_isTakenBack_17 : decode cX5_isTakenBack 17 = .ok (.ireturn, 1) := by decide +kernel
theorem dX5_takeBack_0 : decode cX5_takeBack 0 = .ok (.aload_n 0, 1) := by decide +kernel
theorem dX5_takeBack_1 : decode cX5_takeBack 1 = .ok (.getfield 24, 3) := by decide +kernel
theorem dX5_takeBack_4 : decode cX5_takeBack 4 = .ok (.iload_n 1, 1) := by decide +kernel
theorem dX5_takeBack_5 : decode cX5_takeBack 5 = .ok (.iload_n 2, 1) := by decide +kernel
theorem dX5_takeBack_6 : decode cX5_takeBack 6 = .ok (.iastore, 1) := by decide +kernel
theorem dX5_takeBack_7 : decode cX5_takeBack 7 = .ok (.aload_n 0, 1) := by decide +kernel
theorem dX5_takeBack_8 : decode cX5_takeBack 8 = .ok (.dup, 1) := by decide +kernel
theorem dX5_takeBack_9 : decode cX5_takeBack 9 = .ok (.getfield 37, 3) := by decide +kernel
theorem dX5_takeBack_12 : decode cX5_takeBack 12 = .ok (.iconst 1, 1) := by decide +kernel
theorem dX5_takeBack_13 : decode cX5_takeBack 13 = .ok (.iadd, 1) := by decide +kernel
theorem dX5_takeBack_14 : decode cX5_takeBack 14 = .ok (.putfield 37, 3) := by decide +kernel
theorem dX5_takeBack_17 : decode cX5_takeBack 17 = .ok (.return_, 1) := by decide +kernel
theorem dX5_timesFound_0 : decode cX5_timesFound 0 = .ok (.aload_n 0, 1) := by decide +kernel
theorem dX5_timesFound_1 : decode cX5_timesFound 1 = .ok (.getfield 27, 3) := by decide +kernel
theorem dX5_timesFound_4 : decode cX5_timesFound 4 = .ok (.iload_n 1, 1) := by decide +kernel
theorem dX5_timesFound_5 : decode cX5_timesFound 5 = .ok (.bipush 40, 2) := by decide +kernel
theorem dX5_timesFound_7 : decode cX5_timesFound 7 = .ok (.imul, 1) := by decide +kernel
theorem dX5_timesFound_8 : decode cX5_timesFound 8 = .ok (.iload_n 2, 1) := by decide +kernel
theorem dX5_timesFound_9 : decode cX5_timesFound 9 = .ok (.iadd, 1) := by decide +kernel
theorem dX5_timesFound_10 : decode cX5_timesFound 10 = .ok (.iaload, 1) := by decide +kernel
theorem dX5_timesFound_11 : decode cX5_timesFound 11 = .ok (.ireturn, 1) := by decide +kernel
theorem dX5_addFound_0 : decode cX5_addFound 0 = .ok (.iload_n 1, 1) := by decide +kernel
theorem dX5_addFound_1 : decode cX5_addFound 1 = .ok (.bipush 40, 2) := by decide +kernel
theorem dX5_addFound_3 : decode cX5_addFound 3 = .ok (.imul, 1) := by decide +kernel
theorem dX5_addFound_4 : decode cX5_addFound 4 = .ok (.iload_n 2, 1) := by decide +kernel
theorem dX5_addFound_5 : decode cX5_addFound 5 = .ok (.iadd, 1) := by decide +kernel
theorem dX5_addFound_6 : decode cX5_addFound 6 = .ok (.istore 4, 2) := by decide +kernel
theorem dX5_addFound_8 : decode cX5_addFound 8 = .ok (.aload_n 0, 1) := by decide +kernel
theorem dX5_addFound_9 : decode cX5_addFound 9 = .ok (.getfield 27, 3) := by decide +kernel
theorem dX5_addFound_12 : decode cX5_addFound 12 = .ok (.iload 4, 2) := by decide +kernel
theorem dX5_addFound_14 : decode cX5_addFound 14 = .ok (.dup2, 1) := by decide +kernel
theorem dX5_addFound_15 : decode cX5_addFound 15 = .ok (.iaload, 1) := by decide +kernel
theorem dX5_addFound_16 : decode cX5_addFound 16 = .ok (.iload_n 3, 1) := by decide +kernel
theorem dX5_addFound_17 : decode cX5_addFound 17 = .ok (.iadd, 1) := by decide +kernel
theorem dX5_addFound_18 : decode cX5_addFound 18 = .ok (.iastore, 1) := by decide +kernel
theorem dX5_addFound_19 : decode cX5_addFound 19 = .ok (.aload_n 0, 1) := by decide +kernel
theorem dX5_addFound_20 : decode cX5_addFound 20 = .ok (.getfield 27, 3) := by decide +kernel
theorem dX5_addFound_23 : decode cX5_addFound 23 = .ok (.iload 4, 2) := by decide +kernel
theorem dX5_addFound_25 : decode cX5_addFound 25 = .ok (.iaload, 1) := by decide +kernel
theorem dX5_addFound_26 : decode cX5_addFound 26 = .ok (.ireturn, 1) := by decide +kernel
theorem dX5_latestOf_0 : decode cX5_latestOf 0 = .ok (.iconst (-1), 1) := by decide +kernel
theorem dX5_latestOf_1 : decode cX5_latestOf 1 = .ok (.istore 4, 2) := by decide +kernel
theorem dX5_latestOf_3 : decode cX5_latestOf 3 = .ok (.iconst 0, 1) := by decide +kernel
theorem dX5_latestOf_4 : decode cX5_latestOf 4 = .ok (.istore 5, 2) := by decide +kernel
theorem dX5_latestOf_6 : decode cX5_latestOf 6 = .ok (.iconst 0, 1) := by decide +kernel
theorem dX5_latestOf_7 : decode cX5_latestOf 7 = .ok (.istore 6, 2) := by decide +kernel
theorem dX5_latestOf_9 : decode cX5_latestOf 9 = .ok (.iload 6, 2) := by decide +kernel
theorem dX5_latestOf_11 : decode cX5_latestOf 11 = .ok (.aload_n 0, 1) := by decide +kernel
theorem dX5_latestOf_12 : decode cX5_latestOf 12 = .ok (.getfield 33, 3) := by decide +kernel
theorem dX5_latestOf_15 : decode cX5_latestOf 15 = .ok (.if_icmp .ge 90, 3) := by decide +kernel
theorem dX5_latestOf_18 : decode cX5_latestOf 18 = .ok (.aload_n 0, 1) := by decide +kernel
theorem dX5_latestOf_19 : decode cX5_latestOf 19 = .ok (.getfield 21, 3) := by decide +kernel
theorem dX5_latestOf_22 : decode cX5_latestOf 22 = .ok (.iload 6, 2) := by decide +kernel
theorem dX5_latestOf_24 : decode cX5_latestOf 24 = .ok (.iaload, 1) := by decide +kernel
theorem dX5_latestOf_25 : decode cX5_latestOf 25 = .ok (.iload_n 3, 1) := by decide +kernel
theorem dX5_latestOf_26 : decode cX5_latestOf 26 = .ok (.if_icmp .gt 18, 3) := by decide +kernel
theorem dX5_latestOf_29 : decode cX5_latestOf 29 = .ok (.aload_n 0, 1) := by decide +kernel
theorem dX5_latestOf_30 : decode cX5_latestOf 30 = .ok (.getfield 24, 3) := by decide +kernel
theorem dX5_latestOf_33 : decode cX5_latestOf 33 = .ok (.iload 6, 2) := by decide +kernel
theorem dX5_latestOf_35 : decode cX5_latestOf 35 = .ok (.iaload, 1) := by decide +kernel
theorem dX5_latestOf_36 : decode cX5_latestOf 36 = .ok (.iload_n 3, 1) := by decide +kernel
theorem dX5_latestOf_37 : decode cX5_latestOf 37 = .ok (.if_icmp .le 7, 3) := by decide +kernel
theorem dX5_latestOf_40 : decode cX5_latestOf 40 = .ok (.iconst 1, 1) := by decide +kernel
theorem dX5_latestOf_41 : decode cX5_latestOf 41 = .ok (.goto 4, 3) := by decide +kernel
theorem dX5_latestOf_44 : decode cX5_latestOf 44 = .ok (.iconst 0, 1) := by decide +kernel
theorem dX5_latestOf_45 : decode cX5_latestOf 45 = .ok (.istore 7, 2) := by decide +kernel
theorem dX5_latestOf_47 : decode cX5_latestOf 47 = .ok (.iload 7, 2) := by decide +kernel
theorem dX5_latestOf_49 : decode cX5_latestOf 49 = .ok (.ifCond .eq 50, 3) := by decide +kernel
theorem dX5_latestOf_52 : decode cX5_latestOf 52 = .ok (.aload_n 0, 1) := by decide +kernel
theorem dX5_latestOf_53 : decode cX5_latestOf 53 = .ok (.getfield 9, 3) := by decide +kernel
theorem dX5_latestOf_56 : decode cX5_latestOf 56 = .ok (.iload 6, 2) := by decide +kernel
theorem dX5_latestOf_58 : decode cX5_latestOf 58 = .ok (.iaload, 1) := by decide +kernel
theorem dX5_latestOf_59 : decode cX5_latestOf 59 = .ok (.iload_n 1, 1) := by decide +kernel
theorem dX5_latestOf_60 : decode cX5_latestOf 60 = .ok (.if_icmp .ne 39, 3) := by decide +kernel
theorem dX5_latestOf_63 : decode cX5_latestOf 63 = .ok (.aload_n 0, 1) := by decide +kernel
theorem dX5_latestOf_64 : decode cX5_latestOf 64 = .ok (.getfield 18, 3) := by decide +kernel
theorem dX5_latestOf_67 : decode cX5_latestOf 67 = .ok (.iload 6, 2) := by decide +kernel
theorem dX5_latestOf_69 : decode cX5_latestOf 69 = .ok (.iaload, 1) := by decide +kernel
theorem dX5_latestOf_70 : decode cX5_latestOf 70 = .ok (.iload_n 2, 1) := by decide +kernel
theorem dX5_latestOf_71 : decode cX5_latestOf 71 = .ok (.if_icmp .gt 28, 3) := by decide +kernel
theorem dX5_latestOf_74 : decode cX5_latestOf 74 = .ok (.aload_n 0, 1) := by decide +kernel
theorem dX5_latestOf_75 : decode cX5_latestOf 75 = .ok (.getfield 18, 3) := by decide +kernel
theorem dX5_latestOf_78 : decode cX5_latestOf 78 = .ok (.iload 6, 2) := by decide +kernel
theorem dX5_latestOf_80 : decode cX5_latestOf 80 = .ok (.iaload, 1) := by decide +kernel
theorem dX5_latestOf_81 : decode cX5_latestOf 81 = .ok (.iload 5, 2) := by decide +kernel
theorem dX5_latestOf_83 : decode cX5_latestOf 83 = .ok (.if_icmp .lt 16, 3) := by decide +kernel
theorem dX5_latestOf_86 : decode cX5_latestOf 86 = .ok (.iload 6, 2) := by decide +kernel
theorem dX5_latestOf_88 : decode cX5_latestOf 88 = .ok (.istore 4, 2) := by decide +kernel
theorem dX5_latestOf_90 : decode cX5_latestOf 90 = .ok (.aload_n 0, 1) := by decide +kernel
theorem dX5_latestOf_91 : decode cX5_latestOf 91 = .ok (.getfield 18, 3) := by decide +kernel
theorem dX5_latestOf_94 : decode cX5_latestOf 94 = .ok (.iload 6, 2) := by decide +kernel
theorem dX5_latestOf_96 : decode cX5_latestOf 96 = .ok (.iaload, 1) := by decide +kernel
theorem dX5_latestOf_97 : decode cX5_latestOf 97 = .ok (.istore 5, 2) := by decide +kernel
theorem dX5_latestOf_99 : decode cX5_latestOf 99 = .ok (.iinc 6 1, 3) := by decide +kernel
theorem dX5_latestOf_102 : decode cX5_latestOf 102 = .ok (.goto (-93), 3) := by decide +kernel
theorem dX5_latestOf_105 : decode cX5_latestOf 105 = .ok (.iload 4, 2) := by decide +kernel
theorem dX5_latestOf_107 : decode cX5_latestOf 107 = .ok (.ireturn, 1) := by decide +kernel
theorem dX5_ownScore_0 : decode cX5_ownScore 0 = .ok (.aload_n 0, 1) := by decide +kernel
theorem dX5_ownScore_1 : decode cX5_ownScore 1 = .ok (.iload_n 1, 1) := by decide +kernel
theorem dX5_ownScore_2 : decode cX5_ownScore 2 = .ok (.aload_n 0, 1) := by decide +kernel
theorem dX5_ownScore_3 : decode cX5_ownScore 3 = .ok (.getfield 18, 3) := by decide +kernel
theorem dX5_ownScore_6 : decode cX5_ownScore 6 = .ok (.iload_n 1, 1) := by decide +kernel
theorem dX5_ownScore_7 : decode cX5_ownScore 7 = .ok (.iaload, 1) := by decide +kernel
theorem dX5_ownScore_8 : decode cX5_ownScore 8 = .ok (.invokevirtual 50, 3) := by decide +kernel
theorem dX5_ownScore_11 : decode cX5_ownScore 11 = .ok (.ireturn, 1) := by decide +kernel
theorem dX5_scoreOn_0 : decode cX5_scoreOn 0 = .ok (.aload_n 0, 1) := by decide +kernel
theorem dX5_scoreOn_1 : decode cX5_scoreOn 1 = .ok (.getfield 30, 3) := by decide +kernel
theorem dX5_scoreOn_4 : decode cX5_scoreOn 4 = .ok (.iconst 0, 1) := by decide +kernel
theorem dX5_scoreOn_5 : decode cX5_scoreOn 5 = .ok (.invokestatic 44, 3) := by decide +kernel
theorem dX5_scoreOn_8 : decode cX5_scoreOn 8 = .ok (.iconst 0, 1) := by decide +kernel
theorem dX5_scoreOn_9 : decode cX5_scoreOn 9 = .ok (.istore_n 3, 1) := by decide +kernel
theorem dX5_scoreOn_10 : decode cX5_scoreOn 10 = .ok (.iload_n 3, 1) := by decide +kernel
theorem dX5_scoreOn_11 : decode cX5_scoreOn 11 = .ok (.aload_n 0, 1) := by decide +kernel
theorem dX5_scoreOn_12 : decode cX5_scoreOn 12 = .ok (.getfield 40, 3) := by decide +kernel
theorem dX5_scoreOn_15 : decode cX5_scoreOn 15 = .ok (.invokevirtual 54, 3) := by decide +kernel
theorem dX5_scoreOn_18 : decode cX5_scoreOn 18 = .ok (.if_icmp .ge 62, 3) := by decide +kernel
theorem dX5_scoreOn_21 : decode cX5_scoreOn 21 = .ok (.aload_n 0, 1) := by decide +kernel
theorem dX5_scoreOn_22 : decode cX5_scoreOn 22 = .ok (.iload_n 1, 1) := by decide +kernel
theorem dX5_scoreOn_23 : decode cX5_scoreOn 23 = .ok (.iload_n 3, 1) := by decide +kernel
theorem dX5_scoreOn_24 : decode cX5_scoreOn 24 = .ok (.invokevirtual 59, 3) := by decide +kernel
theorem dX5_scoreOn_27 : decode cX5_scoreOn 27 = .ok (.istore 4, 2) := by decide +kernel
theorem dX5_scoreOn_29 : decode cX5_scoreOn 29 = .ok (.iload 4, 2) := by decide +kernel
theorem dX5_scoreOn_31 : decode cX5_scoreOn 31 = .ok (.ifCond .le 43, 3) := by decide +kernel
theorem dX5_scoreOn_34 : decode cX5_scoreOn 34 = .ok (.aload_n 0, 1) := by decide +kernel
theorem dX5_scoreOn_35 : decode cX5_scoreOn 35 = .ok (.getfield 40, 3) := by decide +kernel
theorem dX5_scoreOn_38 : decode cX5_scoreOn 38 = .ok (.iload_n 3, 1) := by decide +kernel
theorem dX5_scoreOn_39 : decode cX5_scoreOn 39 = .ok (.iload_n 2, 1) := by decide +kernel
theorem dX5_scoreOn_40 : decode cX5_scoreOn 40 = .ok (.invokevirtual 62, 3) := by decide +kernel
theorem dX5_scoreOn_43 : decode cX5_scoreOn 43 = .ok (.istore 5, 2) := by decide +kernel
theorem dX5_scoreOn_45 : decode cX5_scoreOn 45 = .ok (.aload_n 0, 1) := by decide +kernel
theorem dX5_scoreOn_46 : decode cX5_scoreOn 46 = .ok (.getfield 30, 3) := by decide +kernel
theorem dX5_scoreOn_49 : decode cX5_scoreOn 49 = .ok (.aload_n 0, 1) := by decide +kernel
theorem dX5_scoreOn_50 : decode cX5_scoreOn 50 = .ok (.getfield 40, 3) := by decide +kernel
theorem dX5_scoreOn_53 : decode cX5_scoreOn 53 = .ok (.iload 5, 2) := by decide +kernel
theorem dX5_scoreOn_55 : decode cX5_scoreOn 55 = .ok (.invokevirtual 65, 3) := by decide +kernel
theorem dX5_scoreOn_58 : decode cX5_scoreOn 58 = .ok (.dup2, 1) := by decide +kernel
theorem dX5_scoreOn_59 : decode cX5_scoreOn 59 = .ok (.iaload, 1) := by decide +kernel
theorem dX5_scoreOn_60 : decode cX5_scoreOn 60 = .ok (.aload_n 0, 1) := by decide +kernel
theorem dX5_scoreOn_61 : decode cX5_scoreOn 61 = .ok (.getfield 40, 3) := by decide +kernel
theorem dX5_scoreOn_64 : decode cX5_scoreOn 64 = .ok (.iload 5, 2) := by decide +kernel
theorem dX5_scoreOn_66 : decode cX5_scoreOn 66 = .ok (.invokevirtual 69, 3) := by decide +kernel
theorem dX5_scoreOn_69 : decode cX5_scoreOn 69 = .ok (.iload 4, 2) := by decide +kernel
theorem dX5_scoreOn_71 : decode cX5_scoreOn 71 = .ok (.imul, 1) := by decide +kernel
theorem dX5_scoreOn_72 : decode cX5_scoreOn 72 = .ok (.iadd, 1) := by decide +kernel
theorem dX5_scoreOn_73 : decode cX5_scoreOn 73 = .ok (.iastore, 1) := by decide +kernel
theorem dX5_scoreOn_74 : decode cX5_scoreOn 74 = .ok (.iinc 3 1, 3) := by decide +kernel
theorem dX5_scoreOn_77 : decode cX5_scoreOn 77 = .ok (.goto (-67), 3) := by decide +kernel
theorem dX5_scoreOn_80 : decode cX5_scoreOn 80 = .ok (.iconst 0, 1) := by decide +kernel
theorem dX5_scoreOn_81 : decode cX5_scoreOn 81 = .ok (.istore_n 3, 1) := by decide +kernel
theorem dX5_scoreOn_82 : decode cX5_scoreOn 82 = .ok (.iconst 0, 1) := by decide +kernel
theorem dX5_scoreOn_83 : decode cX5_scoreOn 83 = .ok (.istore 4, 2) := by decide +kernel
theorem dX5_scoreOn_85 : decode cX5_scoreOn 85 = .ok (.iload 4, 2) := by decide +kernel
theorem dX5_scoreOn_87 : decode cX5_scoreOn 87 = .ok (.iconst 5, 1) := by decide +kernel
theorem dX5_scoreOn_88 : decode cX5_scoreOn 88 = .ok (.if_icmp .ge 31, 3) := by decide +kernel
theorem dX5_scoreOn_91 : decode cX5_scoreOn 91 = .ok (.iload_n 3, 1) := by decide +kernel
theorem dX5_scoreOn_92 : decode cX5_scoreOn 92 = .ok (.aload_n 0, 1) := by decide +kernel
theorem dX5_scoreOn_93 : decode cX5_scoreOn 93 = .ok (.getfield 30, 3) := by decide +kernel
theorem dX5_scoreOn_96 : decode cX5_scoreOn 96 = .ok (.iload 4, 2) := by decide +kernel
theorem dX5_scoreOn_98 : decode cX5_scoreOn 98 = .ok (.iaload, 1) := by decide +kernel
theorem dX5_scoreOn_99 : decode cX5_scoreOn 99 = .ok (.aload_n 0, 1) := by decide +kernel
theorem dX5_scoreOn_100 : decode cX5_scoreOn 100 = .ok (.getfield 40, 3) := by decide +kernel
theorem dX5_scoreOn_103 : decode cX5_scoreOn 103 = .ok (.iload 4, 2) := by decide +kernel
theorem dX5_scoreOn_105 : decode cX5_scoreOn 105 = .ok (.invokevirtual 72, 3) := by decide +kernel
theorem dX5_scoreOn_108 : decode cX5_scoreOn 108 = .ok (.invokestatic 75, 3) := by decide +kernel
theorem dX5_scoreOn_111 : decode cX5_scoreOn 111 = .ok (.iadd, 1) := by decide +kernel
theorem dX5_scoreOn_112 : decode cX5_scoreOn 112 = .ok (.istore_n 3, 1) := by decide +kernel
theorem dX5_scoreOn_113 : decode cX5_scoreOn 113 = .ok (.iinc 4 1, 3) := by decide +kernel
theorem dX5_scoreOn_116 : decode cX5_scoreOn 116 = .ok (.goto (-31), 3) := by decide +kernel
theorem dX5_scoreOn_119 : decode cX5_scoreOn 119 = .ok (.iload_n 3, 1) := by decide +kernel
theorem dX5_scoreOn_120 : decode cX5_scoreOn 120 = .ok (.ireturn, 1) := by decide +kernel
theorem dX6_init_0 : decode cX6_init 0 = .ok (.aload_n 0, 1) := by decide +kernel
theorem dX6_init_1 : decode cX6_init 1 = .ok (.invokespecial 3, 3) := by decide +kernel
theorem dX6_init_4 : decode cX6_init 4 = .ok (.aload_n 0, 1) := by decide +kernel
theorem dX6_init_5 : decode cX6_init 5 = .ok (.bipush 10, 2) := by decide +kernel
theorem dX6_init_7 : decode cX6_init 7 = .ok (.newarray .int, 2) := by decide +kernel
theorem dX6_init_9 : decode cX6_init 9 = .ok (.putfield 9, 3) := by decide +kernel
theorem dX6_init_12 : decode cX6_init 12 = .ok (.aload_n 0, 1) := by decide +kernel
theorem dX6_init_13 : decode cX6_init 13 = .ok (.bipush 40, 2) := by decide +kernel
theorem dX6_init_15 : decode cX6_init 15 = .ok (.newarray .int, 2) := by decide +kernel
theorem dX6_init_17 : decode cX6_init 17 = .ok (.putfield 15, 3) := by decide +kernel
theorem dX6_init_20 : decode cX6_init 20 = .ok (.aload_n 0, 1) := by decide +kernel
theorem dX6_init_21 : decode cX6_init 21 = .ok (.iconst 0, 1) := by decide +kernel
theorem dX6_init_22 : decode cX6_init 22 = .ok (.putfield 18, 3) := by decide +kernel
theorem dX6_init_25 : decode cX6_init 25 = .ok (.return_, 1) := by decide +kernel
theorem dX6_size_0 : decode cX6_size 0 = .ok (.aload_n 0, 1) := by decide +kernel
theorem dX6_size_1 : decode cX6_size 1 = .ok (.getfield 18, 3) := by decide +kernel
theorem dX6_size_4 : decode cX6_size 4 = .ok (.ireturn, 1) := by decide +kernel
theorem dX6_isFull_0 : decode cX6_isFull 0 = .ok (.aload_n 0, 1) := by decide +kernel
theorem dX6_isFull_1 : decode cX6_isFull 1 = .ok (.getfield 18, 3) := by decide +kernel
theorem dX6_isFull_4 : decode cX6_isFull 4 = .ok (.bipush 10, 2) := by decide +kernel
theorem dX6_isFull_6 : decode cX6_isFull 6 = .ok (.if_icmp .lt 7, 3) := by decide +kernel
theorem dX6_isFull_9 : decode cX6_isFull 9 = .ok (.iconst 1, 1) := by decide +kernel
theorem dX6_isFull_10 : decode cX6_isFull 10 = .ok (.goto 4, 3) := by decide +kernel
theorem dX6_isFull_13 : decode cX6_isFull 13 = .ok (.iconst 0, 1) := by decide +kernel
theorem dX6_isFull_14 : decode cX6_isFull 14 = .ok (.ireturn, 1) := by decide +kernel
theorem dX6_add_0 : decode cX6_add 0 = .ok (.aload_n 0, 1) := by decide +kernel
theorem dX6_add_1 : decode cX6_add 1 = .ok (.getfield 18, 3) := by decide +kernel
theorem dX6_add_4 : decode cX6_add 4 = .ok (.iconst 4, 1) := by decide +kernel
theorem dX6_add_5 : decode cX6_add 5 = .ok (.imul, 1) := by decide +kernel
theorem dX6_add_6 : decode cX6_add 6 = .ok (.istore 6, 2) := by decide +kernel
theorem dX6_add_8 : decode cX6_add 8 = .ok (.aload_n 0, 1) := by decide +kernel
theorem dX6_add_9 : decode cX6_add 9 = .ok (.getfield 9, 3) := by decide +kernel
theorem dX6_add_12 : decode cX6_add 12 = .ok (.aload_n 0, 1) := by decide +kernel
theorem dX6_add_13 : decode cX6_add 13 = .ok (.getfield 18, 3) := by decide +kernel
theorem dX6_add_16 : decode cX6_add 16 = .ok (.iload_n 1, 1) := by decide +kernel
theorem dX6_add_17 : decode cX6_add 17 = .ok (.iastore, 1) := by decide +kernel
theorem dX6_add_18 : decode cX6_add 18 = .ok (.aload_n 0, 1) := by decide +kernel
theorem dX6_add_19 : decode cX6_add 19 = .ok (.getfield 15, 3) := by decide +kernel
theorem dX6_add_22 : decode cX6_add 22 = .ok (.iload 6, 2) := by decide +kernel
theorem dX6_add_24 : decode cX6_add 24 = .ok (.iload_n 2, 1) := by decide +kernel
theorem dX6_add_25 : decode cX6_add 25 = .ok (.iastore, 1) := by decide +kernel
theorem dX6_add_26 : decode cX6_add 26 = .ok (.aload_n 0, 1) := by decide +kernel
theorem dX6_add_27 : decode cX6_add 27 = .ok (.getfield 15, 3) := by decide +kernel
theorem dX6_add_30 : decode cX6_add 30 = .ok (.iload 6, 2) := by decide +kernel
theorem dX6_add_32 : decode cX6_add 32 = .ok (.iconst 1, 1) := by decide +kernel
theorem dX6_add_33 : decode cX6_add 33 = .ok (.iadd, 1) := by decide +kernel
theorem dX6_add_34 : decode cX6_add 34 = .ok (.iload_n 3, 1) := by decide +kernel
theorem dX6_add_35 : decode cX6_add 35 = .ok (.iastore, 1) := by decide +kernel
theorem dX6_add_36 : decode cX6_add 36 = .ok (.aload_n 0, 1) := by decide +kernel
theorem dX6_add_37 : decode cX6_add 37 = .ok (.getfield 15, 3) := by decide +kernel
theorem dX6_add_40 : decode cX6_add 40 = .ok (.iload 6, 2) := by decide +kernel
theorem dX6_add_42 : decode cX6_add 42 = .ok (.iconst 2, 1) := by decide +kernel
theorem dX6_add_43 : decode cX6_add 43 = .ok (.iadd, 1) := by decide +kernel
theorem dX6_add_44 : decode cX6_add 44 = .ok (.iload 4, 2) := by decide +kernel
theorem dX6_add_46 : decode cX6_add 46 = .ok (.iastore, 1) := by decide +kernel
theorem dX6_add_47 : decode cX6_add 47 = .ok (.aload_n 0, 1) := by decide +kernel
theorem dX6_add_48 : decode cX6_add 48 = .ok (.getfield 15, 3) := by decide +kernel
theorem dX6_add_51 : decode cX6_add 51 = .ok (.iload 6, 2) := by decide +kernel
theorem dX6_add_53 : decode cX6_add 53 = .ok (.iconst 3, 1) := by decide +kernel
theorem dX6_add_54 : decode cX6_add 54 = .ok (.iadd, 1) := by decide +kernel
theorem dX6_add_55 : decode cX6_add 55 = .ok (.iload 5, 2) := by decide +kernel
theorem dX6_add_57 : decode cX6_add 57 = .ok (.iastore, 1) := by decide +kernel
theorem dX6_add_58 : decode cX6_add 58 = .ok (.aload_n 0, 1) := by decide +kernel
theorem dX6_add_59 : decode cX6_add 59 = .ok (.dup, 1) := by decide +kernel
theorem dX6_add_60 : decode cX6_add 60 = .ok (.getfield 18, 3) := by decide +kernel
theorem dX6_add_63 : decode cX6_add 63 = .ok (.dup_x1, 1) := by decide +kernel
theorem dX6_add_64 : decode cX6_add 64 = .ok (.iconst 1, 1) := by decide +kernel
theorem dX6_add_65 : decode cX6_add 65 = .ok (.iadd, 1) := by decide +kernel
theorem dX6_add_66 : decode cX6_add 66 = .ok (.putfield 18, 3) := by decide +kernel
theorem dX6_add_69 : decode cX6_add 69 = .ok (.ireturn, 1) := by decide +kernel
theorem dX6_starOn_0 : decode cX6_starOn 0 = .ok (.aload_n 0, 1) := by decide +kernel
theorem dX6_starOn_1 : decode cX6_starOn 1 = .ok (.iload_n 1, 1) := by decide +kernel
theorem dX6_starOn_2 : decode cX6_starOn 2 = .ok (.invokevirtual 22, 3) := by decide +kernel
theorem dX6_starOn_5 : decode cX6_starOn 5 = .ok (.istore 6, 2) := by decide +kernel
theorem dX6_starOn_7 : decode cX6_starOn 7 = .ok (.iload 6, 2) := by decide +kernel
theorem dX6_starOn_9 : decode cX6_starOn 9 = .ok (.ifCond .ge 5, 3) := by decide +kernel
theorem dX6_starOn_12 : decode cX6_starOn 12 = .ok (.iconst 0, 1) := by decide +kernel
theorem dX6_starOn_13 : decode cX6_starOn 13 = .ok (.ireturn, 1) := by decide +kernel
theorem dX6_starOn_14 : decode cX6_starOn 14 = .ok (.iconst 0, 1) := by decide +kernel
theorem dX6_starOn_15 : decode cX6_starOn 15 = .ok (.istore 7, 2) := by decide +kernel
theorem dX6_starOn_17 : decode cX6_starOn 17 = .ok (.iload 7, 2) := by decide +kernel
theorem dX6_starOn_19 : decode cX6_starOn 19 = .ok (.iconst 4, 1) := by decide +kernel
theorem dX6_starOn_20 : decode cX6_starOn 20 = .ok (.if_icmp .ge 35, 3) := by decide +kernel
theorem dX6_starOn_23 : decode cX6_starOn 23 = .ok (.lload_n 2, 1) := by decide +kernel
theorem dX6_starOn_24 : decode cX6_starOn 24 = .ok (.aload_n 0, 1) := by decide +kernel
theorem dX6_starOn_25 : decode cX6_starOn 25 = .ok (.getfield 15, 3) := by decide +kernel
theorem dX6_starOn_28 : decode cX6_starOn 28 = .ok (.iload 6, 2) := by decide +kernel
theorem dX6_starOn_30 : decode cX6_starOn 30 = .ok (.iconst 4, 1) := by decide +kernel
theorem dX6_starOn_31 : decode cX6_starOn 31 = .ok (.imul, 1) := by decide +kernel
theorem dX6_starOn_32 : decode cX6_starOn 32 = .ok (.iload 7, 2) := by decide +kernel
theorem dX6_starOn_34 : decode cX6_starOn 34 = .ok (.iadd, 1) := by decide +kernel
theorem dX6_starOn_35 : decode cX6_starOn 35 = .ok (.iaload, 1) := by decide +kernel
theorem dX6_starOn_36 : decode cX6_starOn 36 = .ok (.i2l, 1) := by decide +kernel
theorem dX6_starOn_37 : decode cX6_starOn 37 = .ok (.lload 4, 2) := by decide +kernel
theorem dX6_starOn_39 : decode cX6_starOn 39 = .ok (.lmul, 1) := by decide +kernel
theorem dX6_starOn_40 : decode cX6_starOn 40 = .ok (.lcmp, 1) := by decide +kernel
theorem dX6_starOn_41 : decode cX6_starOn 41 = .ok (.ifCond .ge 8, 3) := by decide +kernel
theorem dX6_starOn_44 : decode cX6_starOn 44 = .ok (.iconst 5, 1) := by decide +kernel
theorem dX6_starOn_45 : decode cX6_starOn 45 = .ok (.iload 7, 2) := by decide +kernel
theorem dX6_starOn_47 : decode cX6_starOn 47 = .ok (.isub, 1) := by decide +kernel
theorem dX6_starOn_48 : decode cX6_starOn 48 = .ok (.ireturn, 1) := by decide +kernel
theorem dX6_starOn_49 : decode cX6_starOn 49 = .ok (.iinc 7 1, 3) := by decide +kernel
theorem dX6_starOn_52 : decode cX6_starOn 52 = .ok (.goto (-35), 3) := by decide +kernel
theorem dX6_starOn_55 : decode cX6_starOn 55 = .ok (.iconst 1, 1) := by decide +kernel
theorem dX6_starOn_56 : decode cX6_starOn 56 = .ok (.ireturn, 1) := by decide +kernel
end
section
theorem dX6_inForceOn_0 : decode cX6_inForceOn 0 = .ok (.iconst (-1), 1) := by decide +kernel
theorem dX6_inForceOn_1 : decode cX6_inForceOn 1 = .ok (.istore_n 2, 1) := by decide +kernel
theorem dX6_inForceOn_2 : decode cX6_inForceOn 2 = .ok (.iconst 0, 1) := by decide +kernel
theorem dX6_inForceOn_3 : decode cX6_inForceOn 3 = .ok (.istore_n 3, 1) := by decide +kernel
theorem dX6_inForceOn_4 : decode cX6_inForceOn 4 = .ok (.iconst 0, 1) := by decide +kernel
theorem dX6_inForceOn_5 : decode cX6_inForceOn 5 = .ok (.istore 4, 2) := by decide +kernel
theorem dX6_inForceOn_7 : decode cX6_inForceOn 7 = .ok (.iload 4, 2) := by decide +kernel
theorem dX6_inForceOn_9 : decode cX6_inForceOn 9 = .ok (.aload_n 0, 1) := by decide +kernel
theorem dX6_inForceOn_10 : decode cX6_inForceOn 10 = .ok (.getfield 18, 3) := by decide +kernel
theorem dX6_inForceOn_13 : decode cX6_inForceOn 13 = .ok (.if_icmp .ge 42, 3) := by decide +kernel
theorem dX6_inForceOn_16 : decode cX6_inForceOn 16 = .ok (.aload_n 0, 1) := by decide +kernel
theorem dX6_inForceOn_17 : decode cX6_inForceOn 17 = .ok (.getfield 9, 3) := by decide +kernel
theorem dX6_inForceOn_20 : decode cX6_inForceOn 20 = .ok (.iload 4, 2) := by decide +kernel
theorem dX6_inForceOn_22 : decode cX6_inForceOn 22 = .ok (.iaload, 1) := by decide +kernel
theorem dX6_inForceOn_23 : decode cX6_inForceOn 23 = .ok (.iload_n 1, 1) := by decide +kernel
theorem dX6_inForceOn_24 : decode cX6_inForceOn 24 = .ok (.if_icmp .gt 25, 3) := by decide +kernel
theorem dX6_inForceOn_27 : decode cX6_inForceOn 27 = .ok (.aload_n 0, 1) := by decide +kernel
theorem dX6_inForceOn_28 : decode cX6_inForceOn 28 = .ok (.getfield 9, 3) := by decide +kernel
theorem dX6_inForceOn_31 : decode cX6_inForceOn 31 = .ok (.iload 4, 2) := by decide +kernel
theorem dX6_inForceOn_33 : decode cX6_inForceOn 33 = .ok (.iaload, 1) := by decide +kernel
theorem dX6_inForceOn_34 : decode cX6_inForceOn 34 = .ok (.iload_n 3, 1) := by decide +kernel
theorem dX6_inForceOn_35 : decode cX6_inForceOn 35 = .ok (.if_icmp .lt 14, 3) := by decide +kernel
theorem dX6_inForceOn_38 : decode cX6_inForceOn 38 = .ok (.iload 4, 2) := by decide +kernel
theorem dX6_inForceOn_40 : decode cX6_inForceOn 40 = .ok (.istore_n 2, 1) := by decide +kernel
theorem dX6_inForceOn_41 : decode cX6_inForceOn 41 = .ok (.aload_n 0, 1) := by decide +kernel
theorem dX6_inForceOn_42 : decode cX6_inForceOn 42 = .ok (.getfield 9, 3) := by decide +kernel
theorem dX6_inForceOn_45 : decode cX6_inForceOn 45 = .ok (.iload 4, 2) := by decide +kernel
theorem dX6_inForceOn_47 : decode cX6_inForceOn 47 = .ok (.iaload, 1) := by decide +kernel
theorem dX6_inForceOn_48 : decode cX6_inForceOn 48 = .ok (.istore_n 3, 1) := by decide +kernel
theorem dX6_inForceOn_49 : decode cX6_inForceOn 49 = .ok (.iinc 4 1, 3) := by decide +kernel
theorem dX6_inForceOn_52 : decode cX6_inForceOn 52 = .ok (.goto (-45), 3) := by decide +kernel
theorem dX6_inForceOn_55 : decode cX6_inForceOn 55 = .ok (.iload_n 2, 1) := by decide +kernel
theorem dX6_inForceOn_56 : decode cX6_inForceOn 56 = .ok (.ireturn, 1) := by decide +kernel
theorem dX7_init_0 : decode cX7_init 0 = .ok (.aload_n 0, 1) := by decide +kernel
theorem dX7_init_1 : decode cX7_init 1 = .ok (.invokespecial 3, 3) := by decide +kernel
theorem dX7_init_4 : decode cX7_init 4 = .ok (.aload_n 0, 1) := by decide +kernel
theorem dX7_init_5 : decode cX7_init 5 = .ok (.bipush 6, 2) := by decide +kernel
theorem dX7_init_7 : decode cX7_init 7 = .ok (.newarray .int, 2) := by decide +kernel
theorem dX7_init_9 : decode cX7_init 9 = .ok (.putfield 9, 3) := by decide +kernel
theorem dX7_init_12 : decode cX7_init 12 = .ok (.aload_n 0, 1) := by decide +kernel
theorem dX7_init_13 : decode cX7_init 13 = .ok (.bipush 72, 2) := by decide +kernel
theorem dX7_init_15 : decode cX7_init 15 = .ok (.newarray .int, 2) := by decide +kernel
theorem dX7_init_17 : decode cX7_init 17 = .ok (.putfield 15, 3) := by decide +kernel
theorem dX7_init_20 : decode cX7_init 20 = .ok (.aload_n 0, 1) := by decide +kernel
theorem dX7_init_21 : decode cX7_init 21 = .ok (.bipush 72, 2) := by decide +kernel
theorem dX7_init_23 : decode cX7_init 23 = .ok (.newarray .long, 2) := by decide +kernel
theorem dX7_init_25 : decode cX7_init 25 = .ok (.putfield 18, 3) := by decide +kernel
theorem dX7_init_28 : decode cX7_init 28 = .ok (.aload_n 0, 1) := by decide +kernel
theorem dX7_init_29 : decode cX7_init 29 = .ok (.bipush 6, 2) := by decide +kernel
theorem dX7_init_31 : decode cX7_init 31 = .ok (.newarray .int, 2) := by decide +kernel
theorem dX7_init_33 : decode cX7_init 33 = .ok (.putfield 22, 3) := by decide +kernel
theorem dX7_init_36 : decode cX7_init 36 = .ok (.aload_n 0, 1) := by decide +kernel
theorem dX7_init_37 : decode cX7_init 37 = .ok (.bipush 6, 2) := by decide +kernel
theorem dX7_init_39 : decode cX7_init 39 = .ok (.newarray .int, 2) := by decide +kernel
theorem dX7_init_41 : decode cX7_init 41 = .ok (.putfield 25, 3) := by decide +kernel
theorem dX7_init_44 : decode cX7_init 44 = .ok (.aload_n 0, 1) := by decide +kernel
theorem dX7_init_45 : decode cX7_init 45 = .ok (.new 28, 3) := by decide +kernel
theorem dX7_init_48 : decode cX7_init 48 = .ok (.dup, 1) := by decide +kernel
theorem dX7_init_49 : decode cX7_init 49 = .ok (.invokespecial 30, 3) := by decide +kernel
theorem dX7_init_52 : decode cX7_init 52 = .ok (.putfield 31, 3) := by decide +kernel
theorem dX7_init_55 : decode cX7_init 55 = .ok (.aload_n 0, 1) := by decide +kernel
theorem dX7_init_56 : decode cX7_init 56 = .ok (.getfield 9, 3) := by decide +kernel
theorem dX7_init_59 : decode cX7_init 59 = .ok (.bipush 12, 2) := by decide +kernel
theorem dX7_init_61 : decode cX7_init 61 = .ok (.invokestatic 35, 3) := by decide +kernel
theorem dX7_init_64 : decode cX7_init 64 = .ok (.return_, 1) := by decide +kernel
theorem dX7_changeBegan_0 : decode cX7_changeBegan 0 = .ok (.aload_n 0, 1) := by decide +kernel
theorem dX7_changeBegan_1 : decode cX7_changeBegan 1 = .ok (.getfield 9, 3) := by decide +kernel
theorem dX7_changeBegan_4 : decode cX7_changeBegan 4 = .ok (.iload_n 1, 1) := by decide +kernel
theorem dX7_changeBegan_5 : decode cX7_changeBegan 5 = .ok (.iaload, 1) := by decide +kernel
theorem dX7_changeBegan_6 : decode cX7_changeBegan 6 = .ok (.istore_n 3, 1) := by decide +kernel
theorem dX7_changeBegan_7 : decode cX7_changeBegan 7 = .ok (.aload_n 0, 1) := by decide +kernel
theorem dX7_changeBegan_8 : decode cX7_changeBegan 8 = .ok (.getfield 9, 3) := by decide +kernel
theorem dX7_changeBegan_11 : decode cX7_changeBegan 11 = .ok (.iload_n 1, 1) := by decide +kernel
theorem dX7_changeBegan_12 : decode cX7_changeBegan 12 = .ok (.iload_n 2, 1) := by decide +kernel
theorem dX7_changeBegan_13 : decode cX7_changeBegan 13 = .ok (.iastore, 1) := by decide +kernel
theorem dX7_changeBegan_14 : decode cX7_changeBegan 14 = .ok (.iload_n 3, 1) := by decide +kernel
theorem dX7_changeBegan_15 : decode cX7_changeBegan 15 = .ok (.ireturn, 1) := by decide +kernel
theorem dX7_changeCases_0 : decode cX7_changeCases 0 = .ok (.iload_n 1, 1) := by decide +kernel
theorem dX7_changeCases_1 : decode cX7_changeCases 1 = .ok (.bipush 12, 2) := by decide +kernel
theorem dX7_changeCases_3 : decode cX7_changeCases 3 = .ok (.imul, 1) := by decide +kernel
theorem dX7_changeCases_4 : decode cX7_changeCases 4 = .ok (.iload_n 2, 1) := by decide +kernel
theorem dX7_changeCases_5 : decode cX7_changeCases 5 = .ok (.iadd, 1) := by decide +kernel
theorem dX7_changeCases_6 : decode cX7_changeCases 6 = .ok (.istore 4, 2) := by decide +kernel
theorem dX7_changeCases_8 : decode cX7_changeCases 8 = .ok (.aload_n 0, 1) := by decide +kernel
theorem dX7_changeCases_9 : decode cX7_changeCases 9 = .ok (.getfield 15, 3) := by decide +kernel
theorem dX7_changeCases_12 : decode cX7_changeCases 12 = .ok (.iload 4, 2) := by decide +kernel
theorem dX7_changeCases_14 : decode cX7_changeCases 14 = .ok (.iaload, 1) := by decide +kernel
theorem dX7_changeCases_15 : decode cX7_changeCases 15 = .ok (.istore 5, 2) := by decide +kernel
theorem dX7_changeCases_17 : decode cX7_changeCases 17 = .ok (.aload_n 0, 1) := by decide +kernel
theorem dX7_changeCases_18 : decode cX7_changeCases 18 = .ok (.getfield 15, 3) := by decide +kernel
theorem dX7_changeCases_21 : decode cX7_changeCases 21 = .ok (.iload 4, 2) := by decide +kernel
theorem dX7_changeCases_23 : decode cX7_changeCases 23 = .ok (.iload_n 3, 1) := by decide +kernel
theorem dX7_changeCases_24 : decode cX7_changeCases 24 = .ok (.iastore, 1) := by decide +kernel
theorem dX7_changeCases_25 : decode cX7_changeCases 25 = .ok (.iload 5, 2) := by decide +kernel
theorem dX7_changeCases_27 : decode cX7_changeCases 27 = .ok (.ireturn, 1) := by decide +kernel
theorem dX7_hasEffect_0 : decode cX7_hasEffect 0 = .ok (.aload_n 0, 1) := by decide +kernel
theorem dX7_hasEffect_1 : decode cX7_hasEffect 1 = .ok (.invokevirtual 41, 3) := by decide +kernel
theorem dX7_hasEffect_4 : decode cX7_hasEffect 4 = .ok (.ifCond .le 14, 3) := by decide +kernel
theorem dX7_hasEffect_7 : decode cX7_hasEffect 7 = .ok (.aload_n 0, 1) := by decide +kernel
theorem dX7_hasEffect_8 : decode cX7_hasEffect 8 = .ok (.invokevirtual 45, 3) := by decide +kernel
theorem dX7_hasEffect_11 : decode cX7_hasEffect 11 = .ok (.ifCond .le 7, 3) := by decide +kernel
theorem dX7_hasEffect_14 : decode cX7_hasEffect 14 = .ok (.iconst 1, 1) := by decide +kernel
theorem dX7_hasEffect_15 : decode cX7_hasEffect 15 = .ok (.goto 4, 3) := by decide +kernel
theorem dX7_hasEffect_18 : decode cX7_hasEffect 18 = .ok (.iconst 0, 1) := by decide +kernel
theorem dX7_hasEffect_19 : decode cX7_hasEffect 19 = .ok (.ireturn, 1) := by decide +kernel
theorem dX7_trueEffect_0 : decode cX7_trueEffect 0 = .ok (.aload_n 0, 1) := by decide +kernel
theorem dX7_trueEffect_1 : decode cX7_trueEffect 1 = .ok (.invokevirtual 48, 3) := by decide +kernel
theorem dX7_trueEffect_4 : decode cX7_trueEffect 4 = .ok (.aload_n 0, 1) := by decide +kernel
theorem dX7_trueEffect_5 : decode cX7_trueEffect 5 = .ok (.getfield 31, 3) := by decide +kernel
theorem dX7_trueEffect_8 : decode cX7_trueEffect 8 = .ok (.aload_n 0, 1) := by decide +kernel
theorem dX7_trueEffect_9 : decode cX7_trueEffect 9 = .ok (.aload_n 0, 1) := by decide +kernel
theorem dX7_trueEffect_10 : decode cX7_trueEffect 10 = .ok (.getfield 9, 3) := by decide +kernel
theorem dX7_trueEffect_13 : decode cX7_trueEffect 13 = .ok (.invokevirtual 51, 3) := by decide +kernel
theorem dX7_trueEffect_16 : decode cX7_trueEffect 16 = .ok (.ldc2_w 55, 3) := by decide +kernel
theorem dX7_trueEffect_19 : decode cX7_trueEffect 19 = .ok (.aload_n 0, 1) := by decide +kernel
theorem dX7_trueEffect_20 : decode cX7_trueEffect 20 = .ok (.invokevirtual 45, 3) := by decide +kernel
theorem dX7_trueEffect_23 : decode cX7_trueEffect 23 = .ok (.i2l, 1) := by decide +kernel
theorem dX7_trueEffect_24 : decode cX7_trueEffect 24 = .ok (.lmul, 1) := by decide +kernel
theorem dX7_trueEffect_25 : decode cX7_trueEffect 25 = .ok (.aload_n 0, 1) := by decide +kernel
theorem dX7_trueEffect_26 : decode cX7_trueEffect 26 = .ok (.invokevirtual 41, 3) := by decide +kernel
theorem dX7_trueEffect_29 : decode cX7_trueEffect 29 = .ok (.i2l, 1) := by decide +kernel
theorem dX7_trueEffect_30 : decode cX7_trueEffect 30 = .ok (.lmul, 1) := by decide +kernel
theorem dX7_trueEffect_31 : decode cX7_trueEffect 31 = .ok (.invokevirtual 57, 3) := by decide +kernel
theorem dX7_trueEffect_34 : decode cX7_trueEffect 34 = .ok (.aload_n 0, 1) := by decide +kernel
theorem dX7_trueEffect_35 : decode cX7_trueEffect 35 = .ok (.getfield 31, 3) := by decide +kernel
theorem dX7_trueEffect_38 : decode cX7_trueEffect 38 = .ok (.areturn, 1) := by decide +kernel
theorem dX7_waysNoGreater_0 : decode cX7_waysNoGreater 0 = .ok (.aload_n 0, 1) := by decide +kernel
theorem dX7_waysNoGreater_1 : decode cX7_waysNoGreater 1 = .ok (.invokevirtual 48, 3) := by decide +kernel
theorem dX7_waysNoGreater_4 : decode cX7_waysNoGreater 4 = .ok (.aload_n 0, 1) := by decide +kernel
theorem dX7_waysNoGreater_5 : decode cX7_waysNoGreater 5 = .ok (.aload_n 0, 1) := by decide +kernel
theorem dX7_waysNoGreater_6 : decode cX7_waysNoGreater 6 = .ok (.getfield 9, 3) := by decide +kernel
theorem dX7_waysNoGreater_9 : decode cX7_waysNoGreater 9 = .ok (.invokevirtual 51, 3) := by decide +kernel
theorem dX7_waysNoGreater_12 : decode cX7_waysNoGreater 12 = .ok (.lstore_n 1, 1) := by decide +kernel
theorem dX7_waysNoGreater_13 : decode cX7_waysNoGreater 13 = .ok (.iconst 0, 1) := by decide +kernel
theorem dX7_waysNoGreater_14 : decode cX7_waysNoGreater 14 = .ok (.istore_n 3, 1) := by decide +kernel
theorem dX7_waysNoGreater_15 : decode cX7_waysNoGreater 15 = .ok (.iconst 0, 1) := by decide +kernel
theorem dX7_waysNoGreater_16 : decode cX7_waysNoGreater 16 = .ok (.istore 4, 2) := by decide +kernel
theorem dX7_waysNoGreater_18 : decode cX7_waysNoGreater 18 = .ok (.iload 4, 2) := by decide +kernel
theorem dX7_waysNoGreater_20 : decode cX7_waysNoGreater 20 = .ok (.sipush 720, 3) := by decide +kernel
theorem dX7_waysNoGreater_23 : decode cX7_waysNoGreater 23 = .ok (.if_icmp .ge 31, 3) := by decide +kernel
theorem dX7_waysNoGreater_26 : decode cX7_waysNoGreater 26 = .ok (.aload_n 0, 1) := by decide +kernel
theorem dX7_waysNoGreater_27 : decode cX7_waysNoGreater 27 = .ok (.iload 4, 2) := by decide +kernel
theorem dX7_waysNoGreater_29 : decode cX7_waysNoGreater 29 = .ok (.invokevirtual 61, 3) := by decide +kernel
theorem dX7_waysNoGreater_32 : decode cX7_waysNoGreater 32 = .ok (.aload_n 0, 1) := by decide +kernel
theorem dX7_waysNoGreater_33 : decode cX7_waysNoGreater 33 = .ok (.aload_n 0, 1) := by decide +kernel
theorem dX7_waysNoGreater_34 : decode cX7_waysNoGreater 34 = .ok (.getfield 25, 3) := by decide +kernel
theorem dX7_waysNoGreater_37 : decode cX7_waysNoGreater 37 = .ok (.invokevirtual 51, 3) := by decide +kernel
theorem dX7_waysNoGreater_40 : decode cX7_waysNoGreater 40 = .ok (.lload_n 1, 1) := by decide +kernel
theorem dX7_waysNoGreater_41 : decode cX7_waysNoGreater 41 = .ok (.lcmp, 1) := by decide +kernel
theorem dX7_waysNoGreater_42 : decode cX7_waysNoGreater 42 = .ok (.ifCond .gt 6, 3) := by decide +kernel
theorem dX7_waysNoGreater_45 : decode cX7_waysNoGreater 45 = .ok (.iinc 3 1, 3) := by decide +kernel
theorem dX7_waysNoGreater_48 : decode cX7_waysNoGreater 48 = .ok (.iinc 4 1, 3) := by decide +kernel
theorem dX7_waysNoGreater_51 : decode cX7_waysNoGreater 51 = .ok (.goto (-33), 3) := by decide +kernel
theorem dX7_waysNoGreater_54 : decode cX7_waysNoGreater 54 = .ok (.iload_n 3, 1) := by decide +kernel
theorem dX7_waysNoGreater_55 : decode cX7_waysNoGreater 55 = .ok (.ireturn, 1) := by decide +kernel
theorem dX7_isStarted_0 : decode cX7_isStarted 0 = .ok (.iload_n 0, 1) := by decide +kernel
theorem dX7_isStarted_1 : decode cX7_isStarted 1 = .ok (.ifCond .le 13, 3) := by decide +kernel
theorem dX7_isStarted_4 : decode cX7_isStarted 4 = .ok (.iload_n 0, 1) := by decide +kernel
theorem dX7_isStarted_5 : decode cX7_isStarted 5 = .ok (.bipush 12, 2) := by decide +kernel
theorem dX7_isStarted_7 : decode cX7_isStarted 7 = .ok (.if_icmp .ge 7, 3) := by decide +kernel
theorem dX7_isStarted_10 : decode cX7_isStarted 10 = .ok (.iconst 1, 1) := by decide +kernel
theorem dX7_isStarted_11 : decode cX7_isStarted 11 = .ok (.goto 4, 3) := by decide +kernel
theorem dX7_isStarted_14 : decode cX7_isStarted 14 = .ok (.iconst 0, 1) := by decide +kernel
theorem dX7_isStarted_15 : decode cX7_isStarted 15 = .ok (.ireturn, 1) := by decide +kernel
theorem dX7_startedSize_0 : decode cX7_startedSize 0 = .ok (.iconst 0, 1) := by decide +kernel
theorem dX7_startedSize_1 : decode cX7_startedSize 1 = .ok (.istore_n 1, 1) := by decide +kernel
theorem dX7_startedSize_2 : decode cX7_startedSize 2 = .ok (.iconst 0, 1) := by decide +kernel
theorem dX7_startedSize_3 : decode cX7_startedSize 3 = .ok (.istore_n 2, 1) := by decide +kernel
theorem dX7_startedSize_4 : decode cX7_startedSize 4 = .ok (.iload_n 2, 1) := by decide +kernel
theorem dX7_startedSize_5 : decode cX7_startedSize 5 = .ok (.bipush 6, 2) := by decide +kernel
theorem dX7_startedSize_7 : decode cX7_startedSize 7 = .ok (.if_icmp .ge 24, 3) := by decide +kernel
theorem dX7_startedSize_10 : decode cX7_startedSize 10 = .ok (.aload_n 0, 1) := by decide +kernel
theorem dX7_startedSize_11 : decode cX7_startedSize 11 = .ok (.getfield 9, 3) := by decide +kernel
theorem dX7_startedSize_14 : decode cX7_startedSize 14 = .ok (.iload_n 2, 1) := by decide +kernel
theorem dX7_startedSize_15 : decode cX7_startedSize 15 = .ok (.iaload, 1) := by decide +kernel
theorem dX7_startedSize_16 : decode cX7_startedSize 16 = .ok (.invokestatic 65, 3) := by decide +kernel
theorem dX7_startedSize_19 : decode cX7_startedSize 19 = .ok (.ifCond .eq 6, 3) := by decide +kernel
theorem dX7_startedSize_22 : decode cX7_startedSize 22 = .ok (.iinc 1 1, 3) := by decide +kernel
theorem dX7_startedSize_25 : decode cX7_startedSize 25 = .ok (.iinc 2 1, 3) := by decide +kernel
theorem dX7_startedSize_28 : decode cX7_startedSize 28 = .ok (.goto (-24), 3) := by decide +kernel
theorem dX7_startedSize_31 : decode cX7_startedSize 31 = .ok (.iload_n 1, 1) := by decide +kernel
theorem dX7_startedSize_32 : decode cX7_startedSize 32 = .ok (.ireturn, 1) := by decide +kernel
theorem dX7_neverSize_0 : decode cX7_neverSize 0 = .ok (.iconst 0, 1) := by decide +kernel
theorem dX7_neverSize_1 : decode cX7_neverSize 1 = .ok (.istore_n 1, 1) := by decide +kernel
theorem dX7_neverSize_2 : decode cX7_neverSize 2 = .ok (.iconst 0, 1) := by decide +kernel
theorem dX7_neverSize_3 : decode cX7_neverSize 3 = .ok (.istore_n 2, 1) := by decide +kernel
theorem dX7_neverSize_4 : decode cX7_neverSize 4 = .ok (.iload_n 2, 1) := by decide +kernel
theorem dX7_neverSize_5 : decode cX7_neverSize 5 = .ok (.bipush 6, 2) := by decide +kernel
theorem dX7_neverSize_7 : decode cX7_neverSize 7 = .ok (.if_icmp .ge 23, 3) := by decide +kernel
theorem dX7_neverSize_10 : decode cX7_neverSize 10 = .ok (.aload_n 0, 1) := by decide +kernel
theorem dX7_neverSize_11 : decode cX7_neverSize 11 = .ok (.getfield 9, 3) := by decide +kernel
theorem dX7_neverSize_14 : decode cX7_neverSize 14 = .ok (.iload_n 2, 1) := by decide +kernel
theorem dX7_neverSize_15 : decode cX7_neverSize 15 = .ok (.iaload, 1) := by decide +kernel
theorem dX7_neverSize_16 : decode cX7_neverSize 16 = .ok (.bipush 12, 2) := by decide +kernel
theorem dX7_neverSize_18 : decode cX7_neverSize 18 = .ok (.if_icmp .ne 6, 3) := by decide +kernel
theorem dX7_neverSize_21 : decode cX7_neverSize 21 = .ok (.iinc 1 1, 3) := by decide +kernel
theorem dX7_neverSize_24 : decode cX7_neverSize 24 = .ok (.iinc 2 1, 3) := by decide +kernel
theorem dX7_neverSize_27 : decode cX7_neverSize 27 = .ok (.goto (-23), 3) := by decide +kernel
theorem dX7_neverSize_30 : decode cX7_neverSize 30 = .ok (.iload_n 1, 1) := by decide +kernel
theorem dX7_neverSize_31 : decode cX7_neverSize 31 = .ok (.ireturn, 1) := by decide +kernel
theorem dX7_fillRises_0 : decode cX7_fillRises 0 = .ok (.iconst 0, 1) := by decide +kernel
theorem dX7_fillRises_1 : decode cX7_fillRises 1 = .ok (.istore_n 1, 1) := by decide +kernel
theorem dX7_fillRises_2 : decode cX7_fillRises 2 = .ok (.iload_n 1, 1) := by decide +kernel
theorem dX7_fillRises_3 : decode cX7_fillRises 3 = .ok (.bipush 6, 2) := by decide +kernel
theorem dX7_fillRises_5 : decode cX7_fillRises 5 = .ok (.if_icmp .ge 126, 3) := by decide +kernel
theorem dX7_fillRises_8 : decode cX7_fillRises 8 = .ok (.lconst 0, 1) := by decide +kernel
theorem dX7_fillRises_9 : decode cX7_fillRises 9 = .ok (.lstore_n 2, 1) := by decide +kernel
theorem dX7_fillRises_10 : decode cX7_fillRises 10 = .ok (.iconst 0, 1) := by decide +kernel
theorem dX7_fillRises_11 : decode cX7_fillRises 11 = .ok (.istore 4, 2) := by decide +kernel
theorem dX7_fillRises_13 : decode cX7_fillRises 13 = .ok (.iload 4, 2) := by decide +kernel
theorem dX7_fillRises_15 : decode cX7_fillRises 15 = .ok (.bipush 12, 2) := by decide +kernel
theorem dX7_fillRises_17 : decode cX7_fillRises 17 = .ok (.if_icmp .ge 25, 3) := by decide +kernel
theorem dX7_fillRises_20 : decode cX7_fillRises 20 = .ok (.lload_n 2, 1) := by decide +kernel
theorem dX7_fillRises_21 : decode cX7_fillRises 21 = .ok (.aload_n 0, 1) := by decide +kernel
theorem dX7_fillRises_22 : decode cX7_fillRises 22 = .ok (.getfield 15, 3) := by decide +kernel
theorem dX7_fillRises_25 : decode cX7_fillRises 25 = .ok (.iload_n 1, 1) := by decide +kernel
theorem dX7_fillRises_26 : decode cX7_fillRises 26 = .ok (.bipush 12, 2) := by decide +kernel
theorem dX7_fillRises_28 : decode cX7_fillRises 28 = .ok (.imul, 1) := by decide +kernel
theorem dX7_fillRises_29 : decode cX7_fillRises 29 = .ok (.iload 4, 2) := by decide +kernel
theorem dX7_fillRises_31 : decode cX7_fillRises 31 = .ok (.iadd, 1) := by decide +kernel
theorem dX7_fillRises_32 : decode cX7_fillRises 32 = .ok (.iaload, 1) := by decide +kernel
theorem dX7_fillRises_33 : decode cX7_fillRises 33 = .ok (.i2l, 1) := by decide +kernel
theorem dX7_fillRises_34 : decode cX7_fillRises 34 = .ok (.ladd, 1) := by decide +kernel
theorem dX7_fillRises_35 : decode cX7_fillRises 35 = .ok (.lstore_n 2, 1) := by decide +kernel
theorem dX7_fillRises_36 : decode cX7_fillRises 36 = .ok (.iinc 4 1, 3) := by decide +kernel
theorem dX7_fillRises_39 : decode cX7_fillRises 39 = .ok (.goto (-26), 3) := by decide +kernel
theorem dX7_fillRises_42 : decode cX7_fillRises 42 = .ok (.aload_n 0, 1) := by decide +kernel
theorem dX7_fillRises_43 : decode cX7_fillRises 43 = .ok (.getfield 15, 3) := by decide +kernel
theorem dX7_fillRises_46 : decode cX7_fillRises 46 = .ok (.iload_n 1, 1) := by decide +kernel
theorem dX7_fillRises_47 : decode cX7_fillRises 47 = .ok (.bipush 12, 2) := by decide +kernel
theorem dX7_fillRises_49 : decode cX7_fillRises 49 = .ok (.imul, 1) := by decide +kernel
theorem dX7_fillRises_50 : decode cX7_fillRises 50 = .ok (.iaload, 1) := by decide +kernel
theorem dX7_fillRises_51 : decode cX7_fillRises 51 = .ok (.i2l, 1) := by decide +kernel
theorem dX7_fillRises_52 : decode cX7_fillRises 52 = .ok (.lstore 4, 2) := by decide +kernel
theorem dX7_fillRises_54 : decode cX7_fillRises 54 = .ok (.iconst 1, 1) := by decide +kernel
theorem dX7_fillRises_55 : decode cX7_fillRises 55 = .ok (.istore 6, 2) := by decide +kernel
theorem dX7_fillRises_57 : decode cX7_fillRises 57 = .ok (.iload 6, 2) := by decide +kernel
theorem dX7_fillRises_59 : decode cX7_fillRises 59 = .ok (.bipush 12, 2) := by decide +kernel
theorem dX7_fillRises_61 : decode cX7_fillRises 61 = .ok (.if_icmp .ge 64, 3) := by decide +kernel
theorem dX7_fillRises_64 : decode cX7_fillRises 64 = .ok (.iload_n 1, 1) := by decide +kernel
theorem dX7_fillRises_65 : decode cX7_fillRises 65 = .ok (.bipush 12, 2) := by decide +kernel
theorem dX7_fillRises_67 : decode cX7_fillRises 67 = .ok (.imul, 1) := by decide +kernel
theorem dX7_fillRises_68 : decode cX7_fillRises 68 = .ok (.iload 6, 2) := by decide +kernel
theorem dX7_fillRises_70 : decode cX7_fillRises 70 = .ok (.iadd, 1) := by decide +kernel
theorem dX7_fillRises_71 : decode cX7_fillRises 71 = .ok (.istore 7, 2) := by decide +kernel
theorem dX7_fillRises_73 : decode cX7_fillRises 73 = .ok (.aload_n 0, 1) := by decide +kernel
theorem dX7_fillRises_74 : decode cX7_fillRises 74 = .ok (.getfield 18, 3) := by decide +kernel
theorem dX7_fillRises_77 : decode cX7_fillRises 77 = .ok (.iload 7, 2) := by decide +kernel
theorem dX7_fillRises_79 : decode cX7_fillRises 79 = .ok (.lload_n 2, 1) := by decide +kernel
theorem dX7_fillRises_80 : decode cX7_fillRises 80 = .ok (.lload 4, 2) := by decide +kernel
theorem dX7_fillRises_82 : decode cX7_fillRises 82 = .ok (.lsub, 1) := by decide +kernel
theorem dX7_fillRises_83 : decode cX7_fillRises 83 = .ok (.ldc2_w 55, 3) := by decide +kernel
theorem dX7_fillRises_86 : decode cX7_fillRises 86 = .ok (.bipush 12, 2) := by decide +kernel
theorem dX7_fillRises_88 : decode cX7_fillRises 88 = .ok (.iload 6, 2) := by decide +kernel
theorem dX7_fillRises_90 : decode cX7_fillRises 90 = .ok (.isub, 1) := by decide +kernel
theorem dX7_fillRises_91 : decode cX7_fillRises 91 = .ok (.i2l, 1) := by decide +kernel
theorem dX7_fillRises_92 : decode cX7_fillRises 92 = .ok (.ldiv, 1) := by decide +kernel
theorem dX7_fillRises_93 : decode cX7_fillRises 93 = .ok (.lmul, 1) := by decide +kernel
theorem dX7_fillRises_94 : decode cX7_fillRises 94 = .ok (.lload 4, 2) := by decide +kernel
theorem dX7_fillRises_96 : decode cX7_fillRises 96 = .ok (.ldc2_w 55, 3) := by decide +kernel
theorem dX7_fillRises_99 : decode cX7_fillRises 99 = .ok (.iload 6, 2) := by decide +kernel
theorem dX7_fillRises_101 : decode cX7_fillRises 101 = .ok (.i2l, 1) := by decide +kernel
theorem dX7_fillRises_102 : decode cX7_fillRises 102 = .ok (.ldiv, 1) := by decide +kernel
theorem dX7_fillRises_103 : decode cX7_fillRises 103 = .ok (.lmul, 1) := by decide +kernel
theorem dX7_fillRises_104 : decode cX7_fillRises 104 = .ok (.lsub, 1) := by decide +kernel
theorem dX7_fillRises_105 : decode cX7_fillRises 105 = .ok (.lastore, 1) := by decide +kernel
theorem dX7_fillRises_106 : decode cX7_fillRises 106 = .ok (.lload 4, 2) := by decide +kernel
theorem dX7_fillRises_108 : decode cX7_fillRises 108 = .ok (.aload_n 0, 1) := by decide +kernel
theorem dX7_fillRises_109 : decode cX7_fillRises 109 = .ok (.getfield 15, 3) := by decide +kernel
theorem dX7_fillRises_112 : decode cX7_fillRises 112 = .ok (.iload 7, 2) := by decide +kernel
theorem dX7_fillRises_114 : decode cX7_fillRises 114 = .ok (.iaload, 1) := by decide +kernel
theorem dX7_fillRises_115 : decode cX7_fillRises 115 = .ok (.i2l, 1) := by decide +kernel
theorem dX7_fillRises_116 : decode cX7_fillRises 116 = .ok (.ladd, 1) := by decide +kernel
theorem dX7_fillRises_117 : decode cX7_fillRises 117 = .ok (.lstore 4, 2) := by decide +kernel
theorem dX7_fillRises_119 : decode cX7_fillRises 119 = .ok (.iinc 6 1, 3) := by decide +kernel
theorem dX7_fillRises_122 : decode cX7_fillRises 122 = .ok (.goto (-65), 3) := by decide +kernel
theorem dX7_fillRises_125 : decode cX7_fillRises 125 = .ok (.iinc 1 1, 3) := by decide +kernel
theorem dX7_fillRises_128 : decode cX7_fillRises 128 = .ok (.goto (-126), 3) := by decide +kernel
theorem dX7_fillRises_131 : decode cX7_fillRises 131 = .ok (.return_, 1) := by decide +kernel
theorem dX7_effectBy_0 : decode cX7_effectBy 0 = .ok (.aload_n 0, 1) := by decide +kernel
theorem dX7_effectBy_1 : decode cX7_effectBy 1 = .ok (.invokevirtual 45, 3) := by decide +kernel
theorem dX7_effectBy_4 : decode cX7_effectBy 4 = .ok (.istore_n 2, 1) := by decide +kernel
theorem dX7_effectBy_5 : decode cX7_effectBy 5 = .ok (.lconst 0, 1) := by decide +kernel
theorem dX7_effectBy_6 : decode cX7_effectBy 6 = .ok (.lstore_n 3, 1) := by decide +kernel
theorem dX7_effectBy_7 : decode cX7_effectBy 7 = .ok (.iconst 0, 1) := by decide +kernel
theorem dX7_effectBy_8 : decode cX7_effectBy 8 = .ok (.istore 5, 2) := by decide +kernel
theorem dX7_effectBy_10 : decode cX7_effectBy 10 = .ok (.iload 5, 2) := by decide +kernel
theorem dX7_effectBy_12 : decode cX7_effectBy 12 = .ok (.bipush 6, 2) := by decide +kernel
theorem dX7_effectBy_14 : decode cX7_effectBy 14 = .ok (.if_icmp .ge 50, 3) := by decide +kernel
theorem dX7_effectBy_17 : decode cX7_effectBy 17 = .ok (.aload_n 1, 1) := by decide +kernel
theorem dX7_effectBy_18 : decode cX7_effectBy 18 = .ok (.iload 5, 2) := by decide +kernel
theorem dX7_effectBy_20 : decode cX7_effectBy 20 = .ok (.iaload, 1) := by decide +kernel
theorem dX7_effectBy_21 : decode cX7_effectBy 21 = .ok (.istore 6, 2) := by decide +kernel
theorem dX7_effectBy_23 : decode cX7_effectBy 23 = .ok (.iload 6, 2) := by decide +kernel
theorem dX7_effectBy_25 : decode cX7_effectBy 25 = .ok (.invokestatic 65, 3) := by decide +kernel
theorem dX7_effectBy_28 : decode cX7_effectBy 28 = .ok (.ifCond .eq 30, 3) := by decide +kernel
theorem dX7_effectBy_31 : decode cX7_effectBy 31 = .ok (.lload_n 3, 1) := by decide +kernel
theorem dX7_effectBy_32 : decode cX7_effectBy 32 = .ok (.iload_n 2, 1) := by decide +kernel
theorem dX7_effectBy_33 : decode cX7_effectBy 33 = .ok (.i2l, 1) := by decide +kernel
theorem dX7_effectBy_34 : decode cX7_effectBy 34 = .ok (.aload_n 0, 1) := by decide +kernel
theorem dX7_effectBy_35 : decode cX7_effectBy 35 = .ok (.getfield 18, 3) := by decide +kernel
theorem dX7_effectBy_38 : decode cX7_effectBy 38 = .ok (.iload 5, 2) := by decide +kernel
theorem dX7_effectBy_40 : decode cX7_effectBy 40 = .ok (.bipush 12, 2) := by decide +kernel
theorem dX7_effectBy_42 : decode cX7_effectBy 42 = .ok (.imul, 1) := by decide +kernel
theorem dX7_effectBy_43 : decode cX7_effectBy 43 = .ok (.iload 6, 2) := by decide +kernel
theorem dX7_effectBy_45 : decode cX7_effectBy 45 = .ok (.iadd, 1) := by decide +kernel
theorem dX7_effectBy_46 : decode cX7_effectBy 46 = .ok (.laload, 1) := by decide +kernel
theorem dX7_effectBy_47 : decode cX7_effectBy 47 = .ok (.lmul, 1) := by decide +kernel
theorem dX7_effectBy_48 : decode cX7_effectBy 48 = .ok (.aload_n 0, 1) := by decide +kernel
theorem dX7_effectBy_49 : decode cX7_effectBy 49 = .ok (.aload_n 1, 1) := by decide +kernel
theorem dX7_effectBy_50 : decode cX7_effectBy 50 = .ok (.iload 6, 2) := by decide +kernel
theorem dX7_effectBy_52 : decode cX7_effectBy 52 = .ok (.invokevirtual 69, 3) := by decide +kernel
theorem dX7_effectBy_55 : decode cX7_effectBy 55 = .ok (.lsub, 1) := by decide +kernel
theorem dX7_effectBy_56 : decode cX7_effectBy 56 = .ok (.ladd, 1) := by decide +kernel
theorem dX7_effectBy_57 : decode cX7_effectBy 57 = .ok (.lstore_n 3, 1) := by decide +kernel
theorem dX7_effectBy_58 : decode cX7_effectBy 58 = .ok (.iinc 5 1, 3) := by decide +kernel
theorem dX7_effectBy_61 : decode cX7_effectBy 61 = .ok (.goto (-51), 3) := by decide +kernel
theorem dX7_effectBy_64 : decode cX7_effectBy 64 = .ok (.lload_n 3, 1) := by decide +kernel
theorem dX7_effectBy_65 : decode cX7_effectBy 65 = .ok (.lreturn, 1) := by decide +kernel
theorem dX7_neverRise_0 : decode cX7_neverRise 0 = .ok (.lconst 0, 1) := by decide +kernel
theorem dX7_neverRise_1 : decode cX7_neverRise 1 = .ok (.lstore_n 3, 1) := by decide +kernel
theorem dX7_neverRise_2 : decode cX7_neverRise 2 = .ok (.iconst 0, 1) := by decide +kernel
theorem dX7_neverRise_3 : decode cX7_neverRise 3 = .ok (.istore 5, 2) := by decide +kernel
theorem dX7_neverRise_5 : decode cX7_neverRise 5 = .ok (.iload 5, 2) := by decide +kernel
theorem dX7_neverRise_7 : decode cX7_neverRise 7 = .ok (.bipush 6, 2) := by decide +kernel
theorem dX7_neverRise_9 : decode cX7_neverRise 9 = .ok (.if_icmp .ge 33, 3) := by decide +kernel
theorem dX7_neverRise_12 : decode cX7_neverRise 12 = .ok (.aload_n 1, 1) := by decide +kernel
theorem dX7_neverRise_13 : decode cX7_neverRise 13 = .ok (.iload 5, 2) := by decide +kernel
theorem dX7_neverRise_15 : decode cX7_neverRise 15 = .ok (.iaload, 1) := by decide +kernel
theorem dX7_neverRise_16 : decode cX7_neverRise 16 = .ok (.bipush 12, 2) := by decide +kernel
theorem dX7_neverRise_18 : decode cX7_neverRise 18 = .ok (.if_icmp .ne 18, 3) := by decide +kernel
theorem dX7_neverRise_21 : decode cX7_neverRise 21 = .ok (.lload_n 3, 1) := by decide +kernel
theorem dX7_neverRise_22 : decode cX7_neverRise 22 = .ok (.aload_n 0, 1) := by decide +kernel
theorem dX7_neverRise_23 : decode cX7_neverRise 23 = .ok (.getfield 18, 3) := by decide +kernel
theorem dX7_neverRise_26 : decode cX7_neverRise 26 = .ok (.iload 5, 2) := by decide +kernel
theorem dX7_neverRise_28 : decode cX7_neverRise 28 = .ok (.bipush 12, 2) := by decide +kernel
theorem dX7_neverRise_30 : decode cX7_neverRise 30 = .ok (.imul, 1) := by decide +kernel
theorem dX7_neverRise_31 : decode cX7_neverRise 31 = .ok (.iload_n 2, 1) := by decide +kernel
theorem dX7_neverRise_32 : decode cX7_neverRise 32 = .ok (.iadd, 1) := by decide +kernel
theorem dX7_neverRise_33 : decode cX7_neverRise 33 = .ok (.laload, 1) := by decide +kernel
theorem dX7_neverRise_34 : decode cX7_neverRise 34 = .ok (.ladd, 1) := by decide +kernel
theorem dX7_neverRise_35 : decode cX7_neverRise 35 = .ok (.lstore_n 3, 1) := by decide +kernel
theorem dX7_neverRise_36 : decode cX7_neverRise 36 = .ok (.iinc 5 1, 3) := by decide +kernel
theorem dX7_neverRise_39 : decode cX7_neverRise 39 = .ok (.goto (-34), 3) := by decide +kernel
theorem dX7_neverRise_42 : decode cX7_neverRise 42 = .ok (.lload_n 3, 1) := by decide +kernel
theorem dX7_neverRise_43 : decode cX7_neverRise 43 = .ok (.lreturn, 1) := by decide +kernel
theorem dX7_deal_0 : decode cX7_deal 0 = .ok (.iconst 0, 1) := by decide +kernel
theorem dX7_deal_1 : decode cX7_deal 1 = .ok (.istore_n 2, 1) := by decide +kernel
theorem dX7_deal_2 : decode cX7_deal 2 = .ok (.iload_n 2, 1) := by decide +kernel
theorem dX7_deal_3 : decode cX7_deal 3 = .ok (.bipush 6, 2) := by decide +kernel
theorem dX7_deal_5 : decode cX7_deal 5 = .ok (.if_icmp .ge 21, 3) := by decide +kernel
theorem dX7_deal_8 : decode cX7_deal 8 = .ok (.aload_n 0, 1) := by decide +kernel
theorem dX7_deal_9 : decode cX7_deal 9 = .ok (.getfield 22, 3) := by decide +kernel
theorem dX7_deal_12 : decode cX7_deal 12 = .ok (.iload_n 2, 1) := by decide +kernel
theorem dX7_deal_13 : decode cX7_deal 13 = .ok (.aload_n 0, 1) := by decide +kernel
theorem dX7_deal_14 : decode cX7_deal 14 = .ok (.getfield 9, 3) := by decide +kernel
theorem dX7_deal_17 : decode cX7_deal 17 = .ok (.iload_n 2, 1) := by decide +kernel
theorem dX7_deal_18 : decode cX7_deal 18 = .ok (.iaload, 1) := by decide +kernel
theorem dX7_deal_19 : decode cX7_deal 19 = .ok (.iastore, 1) := by decide +kernel
theorem dX7_deal_20 : decode cX7_deal 20 = .ok (.iinc 2 1, 3) := by decide +kernel
theorem dX7_deal_23 : decode cX7_deal 23 = .ok (.goto (-21), 3) := by decide +kernel
theorem dX7_deal_26 : decode cX7_deal 26 = .ok (.iload_n 1, 1) := by decide +kernel
theorem dX7_deal_27 : decode cX7_deal 27 = .ok (.istore_n 2, 1) := by decide +kernel
theorem dX7_deal_28 : decode cX7_deal 28 = .ok (.iconst 0, 1) := by decide +kernel
theorem dX7_deal_29 : decode cX7_deal 29 = .ok (.istore_n 3, 1) := by decide +kernel
theorem dX7_deal_30 : decode cX7_deal 30 = .ok (.iload_n 3, 1) := by decide +kernel
theorem dX7_deal_31 : decode cX7_deal 31 = .ok (.bipush 6, 2) := by decide +kernel
theorem dX7_deal_33 : decode cX7_deal 33 = .ok (.if_icmp .ge 57, 3) := by decide +kernel
theorem dX7_deal_36 : decode cX7_deal 36 = .ok (.bipush 6, 2) := by decide +kernel
theorem dX7_deal_38 : decode cX7_deal 38 = .ok (.iload_n 3, 1) := by decide +kernel
theorem dX7_deal_39 : decode cX7_deal 39 = .ok (.isub, 1) := by decide +kernel
theorem dX7_deal_40 : decode cX7_deal 40 = .ok (.istore 4, 2) := by decide +kernel
theorem dX7_deal_42 : decode cX7_deal 42 = .ok (.iload_n 2, 1) := by decide +kernel
theorem dX7_deal_43 : decode cX7_deal 43 = .ok (.iload 4, 2) := by decide +kernel
theorem dX7_deal_45 : decode cX7_deal 45 = .ok (.invokestatic 73, 3) := by decide +kernel
theorem dX7_deal_48 : decode cX7_deal 48 = .ok (.istore 5, 2) := by decide +kernel
theorem dX7_deal_50 : decode cX7_deal 50 = .ok (.iload_n 2, 1) := by decide +kernel
theorem dX7_deal_51 : decode cX7_deal 51 = .ok (.iload 4, 2) := by decide +kernel
theorem dX7_deal_53 : decode cX7_deal 53 = .ok (.idiv, 1) := by decide +kernel
theorem dX7_deal_54 : decode cX7_deal 54 = .ok (.istore_n 2, 1) := by decide +kernel
theorem dX7_deal_55 : decode cX7_deal 55 = .ok (.aload_n 0, 1) := by decide +kernel
theorem dX7_deal_56 : decode cX7_deal 56 = .ok (.getfield 25, 3) := by decide +kernel
theorem dX7_deal_59 : decode cX7_deal 59 = .ok (.iload_n 3, 1) := by decide +kernel
theorem dX7_deal_60 : decode cX7_deal 60 = .ok (.aload_n 0, 1) := by decide +kernel
theorem dX7_deal_61 : decode cX7_deal 61 = .ok (.getfield 22, 3) := by decide +kernel
theorem dX7_deal_64 : decode cX7_deal 64 = .ok (.iload 5, 2) := by decide +kernel
theorem dX7_deal_66 : decode cX7_deal 66 = .ok (.iaload, 1) := by decide +kernel
theorem dX7_deal_67 : decode cX7_deal 67 = .ok (.iastore, 1) := by decide +kernel
theorem dX7_deal_68 : decode cX7_deal 68 = .ok (.aload_n 0, 1) := by decide +kernel
theorem dX7_deal_69 : decode cX7_deal 69 = .ok (.getfield 22, 3) := by decide +kernel
theorem dX7_deal_72 : decode cX7_deal 72 = .ok (.iload 5, 2) := by decide +kernel
theorem dX7_deal_74 : decode cX7_deal 74 = .ok (.aload_n 0, 1) := by decide +kernel
theorem dX7_deal_75 : decode cX7_deal 75 = .ok (.getfield 22, 3) := by decide +kernel
theorem dX7_deal_78 : decode cX7_deal 78 = .ok (.iload 4, 2) := by decide +kernel
theorem dX7_deal_80 : decode cX7_deal 80 = .ok (.iconst 1, 1) := by decide +kernel
theorem dX7_deal_81 : decode cX7_deal 81 = .ok (.isub, 1) := by decide +kernel
theorem dX7_deal_82 : decode cX7_deal 82 = .ok (.iaload, 1) := by decide +kernel
theorem dX7_deal_83 : decode cX7_deal 83 = .ok (.iastore, 1) := by decide +kernel
theorem dX7_deal_84 : decode cX7_deal 84 = .ok (.iinc 3 1, 3) := by decide +kernel
theorem dX7_deal_87 : decode cX7_deal 87 = .ok (.goto (-57), 3) := by decide +kernel
theorem dX7_deal_90 : decode cX7_deal 90 = .ok (.return_, 1) := by decide +kernel
theorem dX8_init_0 : decode cX8_init 0 = .ok (.aload_n 0, 1) := by decide +kernel
theorem dX8_init_1 : decode cX8_init 1 = .ok (.invokespecial 3, 3) := by decide +kernel
theorem dX8_init_4 : decode cX8_init 4 = .ok (.aload_n 0, 1) := by decide +kernel
theorem dX8_init_5 : decode cX8_init 5 = .ok (.bipush 6, 2) := by decide +kernel
theorem dX8_init_7 : decode cX8_init 7 = .ok (.newarray .int, 2) := by decide +kernel
theorem dX8_init_9 : decode cX8_init 9 = .ok (.putfield 9, 3) := by decide +kernel
theorem dX8_init_12 : decode cX8_init 12 = .ok (.aload_n 0, 1) := by decide +kernel
theorem dX8_init_13 : decode cX8_init 13 = .ok (.bipush 6, 2) := by decide +kernel
theorem dX8_init_15 : decode cX8_init 15 = .ok (.newarray .int, 2) := by decide +kernel
theorem dX8_init_17 : decode cX8_init 17 = .ok (.putfield 15, 3) := by decide +kernel
theorem dX8_init_20 : decode cX8_init 20 = .ok (.aload_n 0, 1) := by decide +kernel
theorem dX8_init_21 : decode cX8_init 21 = .ok (.bipush 6, 2) := by decide +kernel
theorem dX8_init_23 : decode cX8_init 23 = .ok (.newarray .int, 2) := by decide +kernel
theorem dX8_init_25 : decode cX8_init 25 = .ok (.putfield 18, 3) := by decide +kernel
theorem dX8_init_28 : decode cX8_init 28 = .ok (.aload_n 0, 1) := by decide +kernel
theorem dX8_init_29 : decode cX8_init 29 = .ok (.bipush 36, 2) := by decide +kernel
theorem dX8_init_31 : decode cX8_init 31 = .ok (.newarray .int, 2) := by decide +kernel
theorem dX8_init_33 : decode cX8_init 33 = .ok (.putfield 21, 3) := by decide +kernel
theorem dX8_init_36 : decode cX8_init 36 = .ok (.aload_n 0, 1) := by decide +kernel
theorem dX8_init_37 : decode cX8_init 37 = .ok (.bipush 6, 2) := by decide +kernel
theorem dX8_init_39 : decode cX8_init 39 = .ok (.newarray .int, 2) := by decide +kernel
theorem dX8_init_41 : decode cX8_init 41 = .ok (.putfield 24, 3) := by decide +kernel
theorem dX8_init_44 : decode cX8_init 44 = .ok (.aload_n 0, 1) := by decide +kernel
theorem dX8_init_45 : decode cX8_init 45 = .ok (.bipush 6, 2) := by decide +kernel
theorem dX8_init_47 : decode cX8_init 47 = .ok (.newarray .int, 2) := by decide +kernel
theorem dX8_init_49 : decode cX8_init 49 = .ok (.putfield 27, 3) := by decide +kernel
theorem dX8_init_52 : decode cX8_init 52 = .ok (.aload_n 0, 1) := by decide +kernel
theorem dX8_init_53 : decode cX8_init 53 = .ok (.bipush 15, 2) := by decide +kernel
theorem dX8_init_55 : decode cX8_init 55 = .ok (.newarray .int, 2) := by decide +kernel
theorem dX8_init_57 : decode cX8_init 57 = .ok (.putfield 30, 3) := by decide +kernel
theorem dX8_init_60 : decode cX8_init 60 = .ok (.aload_n 0, 1) := by decide +kernel
theorem dX8_init_61 : decode cX8_init 61 = .ok (.sipush 512, 3) := by decide +kernel
theorem dX8_init_64 : decode cX8_init 64 = .ok (.newarray .int, 2) := by decide +kernel
theorem dX8_init_66 : decode cX8_init 66 = .ok (.putfield 33, 3) := by decide +kernel
theorem dX8_init_69 : decode cX8_init 69 = .ok (.aload_n 0, 1) := by decide +kernel
theorem dX8_init_70 : decode cX8_init 70 = .ok (.bipush 64, 2) := by decide +kernel
theorem dX8_init_72 : decode cX8_init 72 = .ok (.newarray .int, 2) := by decide +kernel
theorem dX8_init_74 : decode cX8_init 74 = .ok (.putfield 36, 3) := by decide +kernel
theorem dX8_init_77 : decode cX8_init 77 = .ok (.aload_n 0, 1) := by decide +kernel
theorem dX8_init_78 : decode cX8_init 78 = .ok (.bipush 64, 2) := by decide +kernel
theorem dX8_init_80 : decode cX8_init 80 = .ok (.newarray .int, 2) := by decide +kernel
theorem dX8_init_82 : decode cX8_init 82 = .ok (.putfield 39, 3) := by decide +kernel
theorem dX8_init_85 : decode cX8_init 85 = .ok (.aload_n 0, 1) := by decide +kernel
theorem dX8_init_86 : decode cX8_init 86 = .ok (.iconst 0, 1) := by decide +kernel
theorem dX8_init_87 : decode cX8_init 87 = .ok (.putfield 42, 3) := by decide +kernel
theorem dX8_init_90 : decode cX8_init 90 = .ok (.aload_n 0, 1) := by decide +kernel
theorem dX8_init_91 : decode cX8_init 91 = .ok (.iconst 1, 1) := by decide +kernel
theorem dX8_init_92 : decode cX8_init 92 = .ok (.putfield 46, 3) := by decide +kernel
theorem dX8_init_95 : decode cX8_init 95 = .ok (.return_, 1) := by decide +kernel
theorem dX8_open_0 : decode cX8_open 0 = .ok (.aload_n 0, 1) := by decide +kernel
theorem dX8_open_1 : decode cX8_open 1 = .ok (.iconst 0, 1) := by decide +kernel
theorem dX8_open_2 : decode cX8_open 2 = .ok (.putfield 42, 3) := by decide +kernel
theorem dX8_open_5 : decode cX8_open 5 = .ok (.aload_n 0, 1) := by decide +kernel
theorem dX8_open_6 : decode cX8_open 6 = .ok (.iconst 1, 1) := by decide +kernel
theorem dX8_open_7 : decode cX8_open 7 = .ok (.iconst 0, 1) := by decide +kernel
theorem dX8_open_8 : decode cX8_open 8 = .ok (.iload_n 1, 1) := by decide +kernel
theorem dX8_open_9 : decode cX8_open 9 = .ok (.iconst 3, 1) := by decide +kernel
theorem dX8_open_10 : decode cX8_open 10 = .ok (.invokestatic 49, 3) := by decide +kernel
theorem dX8_open_13 : decode cX8_open 13 = .ok (.invokestatic 55, 3) := by decide +kernel
theorem dX8_open_16 : decode cX8_open 16 = .ok (.ishl, 1) := by decide +kernel
theorem dX8_open_17 : decode cX8_open 17 = .ok (.putfield 46, 3) := by decide +kernel
theorem dX8_open_20 : decode cX8_open 20 = .ok (.aload_n 0, 1) := by decide +kernel
theorem dX8_open_21 : decode cX8_open 21 = .ok (.getfield 30, 3) := by decide +kernel
theorem dX8_open_24 : decode cX8_open 24 = .ok (.iload_n 2, 1) := by decide +kernel
theorem dX8_open_25 : decode cX8_open 25 = .ok (.invokestatic 58, 3) := by decide +kernel
theorem dX8_open_28 : decode cX8_open 28 = .ok (.return_, 1) := by decide +kernel
theorem dX8_add_0 : decode cX8_add 0 = .ok (.aload_n 0, 1) := by decide +kernel
theorem dX8_add_1 : decode cX8_add 1 = .ok (.getfield 42, 3) := by decide +kernel
theorem dX8_add_4 : decode cX8_add 4 = .ok (.iconst 5, 1) := by decide +kernel
theorem dX8_add_5 : decode cX8_add 5 = .ok (.invokestatic 49, 3) := by decide +kernel
theorem dX8_add_8 : decode cX8_add 8 = .ok (.istore 4, 2) := by decide +kernel
theorem dX8_add_10 : decode cX8_add 10 = .ok (.aload_n 0, 1) := by decide +kernel
theorem dX8_add_11 : decode cX8_add 11 = .ok (.getfield 9, 3) := by decide +kernel
theorem dX8_add_14 : decode cX8_add 14 = .ok (.iload 4, 2) := by decide +kernel
theorem dX8_add_16 : decode cX8_add 16 = .ok (.iload_n 1, 1) := by decide +kernel
theorem dX8_add_17 : decode cX8_add 17 = .ok (.iastore, 1) := by decide +kernel
theorem dX8_add_18 : decode cX8_add 18 = .ok (.aload_n 0, 1) := by decide +kernel
theorem dX8_add_19 : decode cX8_add 19 = .ok (.getfield 15, 3) := by decide +kernel
theorem dX8_add_22 : decode cX8_add 22 = .ok (.iload 4, 2) := by decide +kernel
theorem dX8_add_24 : decode cX8_add 24 = .ok (.iload_n 2, 1) := by decide +kernel
theorem dX8_add_25 : decode cX8_add 25 = .ok (.iastore, 1) := by decide +kernel
theorem dX8_add_26 : decode cX8_add 26 = .ok (.aload_n 0, 1) := by decide +kernel
theorem dX8_add_27 : decode cX8_add 27 = .ok (.getfield 18, 3) := by decide +kernel
theorem dX8_add_30 : decode cX8_add 30 = .ok (.iload 4, 2) := by decide +kernel
theorem dX8_add_32 : decode cX8_add 32 = .ok (.iload_n 3, 1) := by decide +kernel
theorem dX8_add_33 : decode cX8_add 33 = .ok (.iastore, 1) := by decide +kernel
theorem dX8_add_34 : decode cX8_add 34 = .ok (.aload_n 0, 1) := by decide +kernel
theorem dX8_add_35 : decode cX8_add 35 = .ok (.iload 4, 2) := by decide +kernel
theorem dX8_add_37 : decode cX8_add 37 = .ok (.iconst 1, 1) := by decide +kernel
theorem dX8_add_38 : decode cX8_add 38 = .ok (.iadd, 1) := by decide +kernel
theorem dX8_add_39 : decode cX8_add 39 = .ok (.putfield 42, 3) := by decide +kernel
theorem dX8_add_42 : decode cX8_add 42 = .ok (.iload 4, 2) := by decide +kernel
theorem dX8_add_44 : decode cX8_add 44 = .ok (.ireturn, 1) := by decide +kernel
theorem dX8_setPrice_0 : decode cX8_setPrice 0 = .ok (.aload_n 0, 1) := by decide +kernel
theorem dX8_setPrice_1 : decode cX8_setPrice 1 = .ok (.getfield 21, 3) := by decide +kernel
theorem dX8_setPrice_4 : decode cX8_setPrice 4 = .ok (.iload_n 1, 1) := by decide +kernel
theorem dX8_setPrice_5 : decode cX8_setPrice 5 = .ok (.bipush 6, 2) := by decide +kernel
theorem dX8_setPrice_7 : decode cX8_setPrice 7 = .ok (.imul, 1) := by decide +kernel
theorem dX8_setPrice_8 : decode cX8_setPrice 8 = .ok (.iload_n 2, 1) := by decide +kernel
theorem dX8_setPrice_9 : decode cX8_setPrice 9 = .ok (.iadd, 1) := by decide +kernel
theorem dX8_setPrice_10 : decode cX8_setPrice 10 = .ok (.iload_n 3, 1) := by decide +kernel
theorem dX8_setPrice_11 : decode cX8_setPrice 11 = .ok (.iastore, 1) := by decide +kernel
theorem dX8_setPrice_12 : decode cX8_setPrice 12 = .ok (.return_, 1) := by decide +kernel
theorem dX8_dayAt_0 : decode cX8_dayAt 0 = .ok (.iconst 0, 1) := by decide +kernel
theorem dX8_dayAt_1 : decode cX8_dayAt 1 = .ok (.istore_n 2, 1) := by decide +kernel
theorem dX8_dayAt_2 : decode cX8_dayAt 2 = .ok (.iload_n 2, 1) := by decide +kernel
theorem dX8_dayAt_3 : decode cX8_dayAt 3 = .ok (.aload_n 0, 1) := by decide +kernel
theorem dX8_dayAt_4 : decode cX8_dayAt 4 = .ok (.getfield 42, 3) := by decide +kernel
theorem dX8_dayAt_7 : decode cX8_dayAt 7 = .ok (.if_icmp .ge 26, 3) := by decide +kernel
theorem dX8_dayAt_10 : decode cX8_dayAt 10 = .ok (.aload_n 0, 1) := by decide +kernel
theorem dX8_dayAt_11 : decode cX8_dayAt 11 = .ok (.getfield 9, 3) := by decide +kernel
theorem dX8_dayAt_14 : decode cX8_dayAt 14 = .ok (.iload_n 2, 1) := by decide +kernel
theorem dX8_dayAt_15 : decode cX8_dayAt 15 = .ok (.iaload, 1) := by decide +kernel
theorem dX8_dayAt_16 : decode cX8_dayAt 16 = .ok (.iload_n 1, 1) := by decide +kernel
theorem dX8_dayAt_17 : decode cX8_dayAt 17 = .ok (.if_icmp .ne 10, 3) := by decide +kernel
theorem dX8_dayAt_20 : decode cX8_dayAt 20 = .ok (.aload_n 0, 1) := by decide +kernel
theorem dX8_dayAt_21 : decode cX8_dayAt 21 = .ok (.getfield 24, 3) := by decide +kernel
theorem dX8_dayAt_24 : decode cX8_dayAt 24 = .ok (.iload_n 2, 1) := by decide +kernel
theorem dX8_dayAt_25 : decode cX8_dayAt 25 = .ok (.iaload, 1) := by decide +kernel
theorem dX8_dayAt_26 : decode cX8_dayAt 26 = .ok (.ireturn, 1) := by decide +kernel
theorem dX8_dayAt_27 : decode cX8_dayAt 27 = .ok (.iinc 2 1, 3) := by decide +kernel
theorem dX8_dayAt_30 : decode cX8_dayAt 30 = .ok (.goto (-28), 3) := by decide +kernel
theorem dX8_dayAt_33 : decode cX8_dayAt 33 = .ok (.iconst 5, 1) := by decide +kernel
theorem dX8_dayAt_34 : decode cX8_dayAt 34 = .ok (.ireturn, 1) := by decide +kernel
theorem dX8_handsAt_0 : decode cX8_handsAt 0 = .ok (.iconst 0, 1) := by decide +kernel
theorem dX8_handsAt_1 : decode cX8_handsAt 1 = .ok (.istore_n 2, 1) := by decide +kernel
theorem dX8_handsAt_2 : decode cX8_handsAt 2 = .ok (.iload_n 2, 1) := by decide +kernel
theorem dX8_handsAt_3 : decode cX8_handsAt 3 = .ok (.aload_n 0, 1) := by decide +kernel
theorem dX8_handsAt_4 : decode cX8_handsAt 4 = .ok (.getfield 42, 3) := by decide +kernel
theorem dX8_handsAt_7 : decode cX8_handsAt 7 = .ok (.if_icmp .ge 26, 3) := by decide +kernel
theorem dX8_handsAt_10 : decode cX8_handsAt 10 = .ok (.aload_n 0, 1) := by decide +kernel
theorem dX8_handsAt_11 : decode cX8_handsAt 11 = .ok (.getfield 9, 3) := by decide +kernel
theorem dX8_handsAt_14 : decode cX8_handsAt 14 = .ok (.iload_n 2, 1) := by decide +kernel
theorem dX8_handsAt_15 : decode cX8_handsAt 15 = .ok (.iaload, 1) := by decide +kernel
theorem dX8_handsAt_16 : decode cX8_handsAt 16 = .ok (.iload_n 1, 1) := by decide +kernel
theorem dX8_handsAt_17 : decode cX8_handsAt 17 = .ok (.if_icmp .ne 10, 3) := by decide +kernel
theorem dX8_handsAt_20 : decode cX8_handsAt 20 = .ok (.aload_n 0, 1) := by decide +kernel
theorem dX8_handsAt_21 : decode cX8_handsAt 21 = .ok (.getfield 27, 3) := by decide +kernel
theorem dX8_handsAt_24 : decode cX8_handsAt 24 = .ok (.iload_n 2, 1) := by decide +kernel
theorem dX8_handsAt_25 : decode cX8_handsAt 25 = .ok (.iaload, 1) := by decide +kernel
theorem dX8_handsAt_26 : decode cX8_handsAt 26 = .ok (.ireturn, 1) := by decide +kernel
theorem dX8_handsAt_27 : decode cX8_handsAt 27 = .ok (.iinc 2 1, 3) := by decide +kernel
theorem dX8_handsAt_30 : decode cX8_handsAt 30 = .ok (.goto (-28), 3) := by decide +kernel
theorem dX8_handsAt_33 : decode cX8_handsAt 33 = .ok (.iconst 0, 1) := by decide +kernel
theorem dX8_handsAt_34 : decode cX8_handsAt 34 = .ok (.ireturn, 1) := by decide +kernel
theorem dX8_settleAll_0 : decode cX8_settleAll 0 = .ok (.aload_n 0, 1) := by decide +kernel
theorem dX8_settleAll_1 : decode cX8_settleAll 1 = .ok (.invokevirtual 64, 3) := by decide +kernel
theorem dX8_settleAll_4 : decode cX8_settleAll 4 = .ok (.aload_n 0, 1) := by decide +kernel
theorem dX8_settleAll_5 : decode cX8_settleAll 5 = .ok (.iconst 0, 1) := by decide +kernel
theorem dX8_settleAll_6 : decode cX8_settleAll 6 = .ok (.invokevirtual 67, 3) := by decide +kernel
theorem dX8_settleAll_9 : decode cX8_settleAll 9 = .ok (.istore_n 1, 1) := by decide +kernel
theorem dX8_settleAll_10 : decode cX8_settleAll 10 = .ok (.iload_n 1, 1) := by decide +kernel
theorem dX8_settleAll_11 : decode cX8_settleAll 11 = .ok (.istore_n 2, 1) := by decide +kernel
theorem dX8_settleAll_12 : decode cX8_settleAll 12 = .ok (.iconst 0, 1) := by decide +kernel
theorem dX8_settleAll_13 : decode cX8_settleAll 13 = .ok (.istore_n 3, 1) := by decide +kernel
theorem dX8_settleAll_14 : decode cX8_settleAll 14 = .ok (.iload_n 3, 1) := by decide +kernel
theorem dX8_settleAll_15 : decode cX8_settleAll 15 = .ok (.aload_n 0, 1) := by decide +kernel
theorem dX8_settleAll_16 : decode cX8_settleAll 16 = .ok (.getfield 42, 3) := by decide +kernel
theorem dX8_settleAll_19 : decode cX8_settleAll 19 = .ok (.if_icmp .ge 18, 3) := by decide +kernel
theorem dX8_settleAll_22 : decode cX8_settleAll 22 = .ok (.iload_n 2, 1) := by decide +kernel
theorem dX8_settleAll_23 : decode cX8_settleAll 23 = .ok (.aload_n 0, 1) := by decide +kernel
theorem dX8_settleAll_24 : decode cX8_settleAll 24 = .ok (.iload_n 3, 1) := by decide +kernel
theorem dX8_settleAll_25 : decode cX8_settleAll 25 = .ok (.iload_n 2, 1) := by decide +kernel
theorem dX8_settleAll_26 : decode cX8_settleAll 26 = .ok (.invokevirtual 71, 3) := by decide +kernel
theorem dX8_settleAll_29 : decode cX8_settleAll 29 = .ok (.isub, 1) := by decide +kernel
theorem dX8_settleAll_30 : decode cX8_settleAll 30 = .ok (.istore_n 2, 1) := by decide +kernel
theorem dX8_settleAll_31 : decode cX8_settleAll 31 = .ok (.iinc 3 1, 3) := by decide +kernel
theorem dX8_settleAll_34 : decode cX8_settleAll 34 = .ok (.goto (-20), 3) := by decide +kernel
theorem dX8_settleAll_37 : decode cX8_settleAll 37 = .ok (.iload_n 1, 1) := by decide +kernel
theorem dX8_settleAll_38 : decode cX8_settleAll 38 = .ok (.ireturn, 1) := by decide +kernel
theorem dX8_settle_0 : decode cX8_settle 0 = .ok (.iconst 0, 1) := by decide +kernel
theorem dX8_settle_1 : decode cX8_settle 1 = .ok (.istore_n 3, 1) := by decide +kernel
theorem dX8_settle_2 : decode cX8_settle 2 = .ok (.iload_n 3, 1) := by decide +kernel
theorem dX8_settle_3 : decode cX8_settle 3 = .ok (.iconst 5, 1) := by decide +kernel
theorem dX8_settle_4 : decode cX8_settle 4 = .ok (.if_icmp .ge 94, 3) := by decide +kernel
theorem dX8_settle_7 : decode cX8_settle 7 = .ok (.aload_n 0, 1) := by decide +kernel
theorem dX8_settle_8 : decode cX8_settle 8 = .ok (.iload_n 1, 1) := by decide +kernel
theorem dX8_settle_9 : decode cX8_settle 9 = .ok (.iload_n 3, 1) := by decide +kernel
theorem dX8_settle_10 : decode cX8_settle 10 = .ok (.invokevirtual 74, 3) := by decide +kernel
theorem dX8_settle_13 : decode cX8_settle 13 = .ok (.istore 4, 2) := by decide +kernel
theorem dX8_settle_15 : decode cX8_settle 15 = .ok (.iconst 1, 1) := by decide +kernel
theorem dX8_settle_16 : decode cX8_settle 16 = .ok (.istore 5, 2) := by decide +kernel
theorem dX8_settle_18 : decode cX8_settle 18 = .ok (.iload 5, 2) := by decide +kernel
theorem dX8_settle_20 : decode cX8_settle 20 = .ok (.aload_n 0, 1) := by decide +kernel
theorem dX8_settle_21 : decode cX8_settle 21 = .ok (.getfield 46, 3) := by decide +kernel
theorem dX8_settle_24 : decode cX8_settle 24 = .ok (.if_icmp .ge 68, 3) := by decide +kernel
theorem dX8_settle_27 : decode cX8_settle 27 = .ok (.iload 4, 2) := by decide +kernel
theorem dX8_settle_29 : decode cX8_settle 29 = .ok (.iload_n 2, 1) := by decide +kernel
theorem dX8_settle_30 : decode cX8_settle 30 = .ok (.if_icmp .gt 62, 3) := by decide +kernel
theorem dX8_settle_33 : decode cX8_settle 33 = .ok (.aload_n 0, 1) := by decide +kernel
theorem dX8_settle_34 : decode cX8_settle 34 = .ok (.iload_n 1, 1) := by decide +kernel
theorem dX8_settle_35 : decode cX8_settle 35 = .ok (.iload_n 3, 1) := by decide +kernel
theorem dX8_settle_36 : decode cX8_settle 36 = .ok (.iload 5, 2) := by decide +kernel
theorem dX8_settle_38 : decode cX8_settle 38 = .ok (.invokevirtual 77, 3) := by decide +kernel
theorem dX8_settle_41 : decode cX8_settle 41 = .ok (.ifCond .ne 6, 3) := by decide +kernel
theorem dX8_settle_44 : decode cX8_settle 44 = .ok (.goto 42, 3) := by decide +kernel
theorem dX8_settle_47 : decode cX8_settle 47 = .ok (.aload_n 0, 1) := by decide +kernel
theorem dX8_settle_48 : decode cX8_settle 48 = .ok (.iload_n 3, 1) := by decide +kernel
theorem dX8_settle_49 : decode cX8_settle 49 = .ok (.iload 5, 2) := by decide +kernel
theorem dX8_settle_51 : decode cX8_settle 51 = .ok (.iconst (-1), 1) := by decide +kernel
theorem dX8_settle_52 : decode cX8_settle 52 = .ok (.invokevirtual 81, 3) := by decide +kernel
theorem dX8_settle_55 : decode cX8_settle 55 = .ok (.iload 4, 2) := by decide +kernel
theorem dX8_settle_57 : decode cX8_settle 57 = .ok (.aload_n 0, 1) := by decide +kernel
theorem dX8_settle_58 : decode cX8_settle 58 = .ok (.iload_n 1, 1) := by decide +kernel
theorem dX8_settle_59 : decode cX8_settle 59 = .ok (.iconst 1, 1) := by decide +kernel
theorem dX8_settle_60 : decode cX8_settle 60 = .ok (.iadd, 1) := by decide +kernel
theorem dX8_settle_61 : decode cX8_settle 61 = .ok (.invokevirtual 67, 3) := by decide +kernel
theorem dX8_settle_64 : decode cX8_settle 64 = .ok (.iadd, 1) := by decide +kernel
theorem dX8_settle_65 : decode cX8_settle 65 = .ok (.iload_n 2, 1) := by decide +kernel
theorem dX8_settle_66 : decode cX8_settle 66 = .ok (.if_icmp .ne 12, 3) := by decide +kernel
theorem dX8_settle_69 : decode cX8_settle 69 = .ok (.aload_n 0, 1) := by decide +kernel
theorem dX8_settle_70 : decode cX8_settle 70 = .ok (.iload_n 1, 1) := by decide +kernel
theorem dX8_settle_71 : decode cX8_settle 71 = .ok (.iload_n 3, 1) := by decide +kernel
theorem dX8_settle_72 : decode cX8_settle 72 = .ok (.iload 5, 2) := by decide +kernel
theorem dX8_settle_74 : decode cX8_settle 74 = .ok (.invokevirtual 85, 3) := by decide +kernel
theorem dX8_settle_77 : decode cX8_settle 77 = .ok (.ireturn, 1) := by decide +kernel
theorem dX8_settle_78 : decode cX8_settle 78 = .ok (.aload_n 0, 1) := by decide +kernel
theorem dX8_settle_79 : decode cX8_settle 79 = .ok (.iload_n 3, 1) := by decide +kernel
theorem dX8_settle_80 : decode cX8_settle 80 = .ok (.iload 5, 2) := by decide +kernel
theorem dX8_settle_82 : decode cX8_settle 82 = .ok (.iconst 1, 1) := by decide +kernel
theorem dX8_settle_83 : decode cX8_settle 83 = .ok (.invokevirtual 81, 3) := by decide +kernel
theorem dX8_settle_86 : decode cX8_settle 86 = .ok (.iinc 5 1, 3) := by decide +kernel
theorem dX8_settle_89 : decode cX8_settle 89 = .ok (.goto (-71), 3) := by decide +kernel
theorem dX8_settle_92 : decode cX8_settle 92 = .ok (.iinc 3 1, 3) := by decide +kernel
theorem dX8_settle_95 : decode cX8_settle 95 = .ok (.goto (-93), 3) := by decide +kernel
theorem dX8_settle_98 : decode cX8_settle 98 = .ok (.aload_n 0, 1) := by decide +kernel
theorem dX8_settle_99 : decode cX8_settle 99 = .ok (.iload_n 1, 1) := by decide +kernel
theorem dX8_settle_100 : decode cX8_settle 100 = .ok (.iconst 5, 1) := by decide +kernel
theorem dX8_settle_101 : decode cX8_settle 101 = .ok (.iconst 0, 1) := by decide +kernel
theorem dX8_settle_102 : decode cX8_settle 102 = .ok (.invokevirtual 85, 3) := by decide +kernel
theorem dX8_settle_105 : decode cX8_settle 105 = .ok (.ireturn, 1) := by decide +kernel
theorem dX8_choose_0 : decode cX8_choose 0 = .ok (.aload_n 0, 1) := by decide +kernel
theorem dX8_choose_1 : decode cX8_choose 1 = .ok (.getfield 24, 3) := by decide +kernel
theorem dX8_choose_4 : decode cX8_choose 4 = .ok (.iload_n 1, 1) := by decide +kernel
theorem dX8_choose_5 : decode cX8_choose 5 = .ok (.iload_n 2, 1) := by decide +kernel
theorem dX8_choose_6 : decode cX8_choose 6 = .ok (.iastore, 1) := by decide +kernel
theorem dX8_choose_7 : decode cX8_choose 7 = .ok (.aload_n 0, 1) := by decide +kernel
theorem dX8_choose_8 : decode cX8_choose 8 = .ok (.getfield 27, 3) := by decide +kernel
theorem dX8_choose_11 : decode cX8_choose 11 = .ok (.iload_n 1, 1) := by decide +kernel
theorem dX8_choose_12 : decode cX8_choose 12 = .ok (.iload_n 3, 1) := by decide +kernel
theorem dX8_choose_13 : decode cX8_choose 13 = .ok (.iastore, 1) := by decide +kernel
theorem dX8_choose_14 : decode cX8_choose 14 = .ok (.aload_n 0, 1) := by decide +kernel
theorem dX8_choose_15 : decode cX8_choose 15 = .ok (.iload_n 1, 1) := by decide +kernel
theorem dX8_choose_16 : decode cX8_choose 16 = .ok (.iload_n 2, 1) := by decide +kernel
theorem dX8_choose_17 : decode cX8_choose 17 = .ok (.invokevirtual 74, 3) := by decide +kernel
theorem dX8_choose_20 : decode cX8_choose 20 = .ok (.ireturn, 1) := by decide +kernel
theorem dX8_priceOf_0 : decode cX8_priceOf 0 = .ok (.aload_n 0, 1) := by decide +kernel
theorem dX8_priceOf_1 : decode cX8_priceOf 1 = .ok (.getfield 21, 3) := by decide +kernel
theorem dX8_priceOf_4 : decode cX8_priceOf 4 = .ok (.iload_n 1, 1) := by decide +kernel
theorem dX8_priceOf_5 : decode cX8_priceOf 5 = .ok (.bipush 6, 2) := by decide +kernel
theorem dX8_priceOf_7 : decode cX8_priceOf 7 = .ok (.imul, 1) := by decide +kernel
theorem dX8_priceOf_8 : decode cX8_priceOf 8 = .ok (.iload_n 2, 1) := by decide +kernel
theorem dX8_priceOf_9 : decode cX8_priceOf 9 = .ok (.iadd, 1) := by decide +kernel
theorem dX8_priceOf_10 : decode cX8_priceOf 10 = .ok (.iaload, 1) := by decide +kernel
theorem dX8_priceOf_11 : decode cX8_priceOf 11 = .ok (.ireturn, 1) := by decide +kernel
theorem dX8_mayTake_0 : decode cX8_mayTake 0 = .ok (.iload_n 3, 1) := by decide +kernel
theorem dX8_mayTake_1 : decode cX8_mayTake 1 = .ok (.aload_n 0, 1) := by decide +kernel
theorem dX8_mayTake_2 : decode cX8_mayTake 2 = .ok (.getfield 18, 3) := by decide +kernel
theorem dX8_mayTake_5 : decode cX8_mayTake 5 = .ok (.iload_n 1, 1) := by decide +kernel
theorem dX8_mayTake_6 : decode cX8_mayTake 6 = .ok (.iaload, 1) := by decide +kernel
theorem dX8_mayTake_7 : decode cX8_mayTake 7 = .ok (.iconst (-1), 1) := by decide +kernel
theorem dX8_mayTake_8 : decode cX8_mayTake 8 = .ok (.ixor, 1) := by decide +kernel
theorem dX8_mayTake_9 : decode cX8_mayTake 9 = .ok (.iand, 1) := by decide +kernel
theorem dX8_mayTake_10 : decode cX8_mayTake 10 = .ok (.ifCond .ne 16, 3) := by decide +kernel
theorem dX8_mayTake_13 : decode cX8_mayTake 13 = .ok (.iload_n 3, 1) := by decide +kernel
theorem dX8_mayTake_14 : decode cX8_mayTake 14 = .ok (.invokestatic 89, 3) := by decide +kernel
theorem dX8_mayTake_17 : decode cX8_mayTake 17 = .ok (.aload_n 0, 1) := by decide +kernel
theorem dX8_mayTake_18 : decode cX8_mayTake 18 = .ok (.getfield 15, 3) := by decide +kernel
theorem dX8_mayTake_21 : decode cX8_mayTake 21 = .ok (.iload_n 1, 1) := by decide +kernel
theorem dX8_mayTake_22 : decode cX8_mayTake 22 = .ok (.iaload, 1) := by decide +kernel
theorem dX8_mayTake_23 : decode cX8_mayTake 23 = .ok (.if_icmp .eq 5, 3) := by decide +kernel
theorem dX8_mayTake_26 : decode cX8_mayTake 26 = .ok (.iconst 0, 1) := by decide +kernel
theorem dX8_mayTake_27 : decode cX8_mayTake 27 = .ok (.ireturn, 1) := by decide +kernel
theorem dX8_mayTake_28 : decode cX8_mayTake 28 = .ok (.iconst 0, 1) := by decide +kernel
theorem dX8_mayTake_29 : decode cX8_mayTake 29 = .ok (.istore 4, 2) := by decide +kernel
theorem dX8_mayTake_31 : decode cX8_mayTake 31 = .ok (.iload 4, 2) := by decide +kernel
theorem dX8_mayTake_33 : decode cX8_mayTake 33 = .ok (.iconst 3, 1) := by decide +kernel
theorem dX8_mayTake_34 : decode cX8_mayTake 34 = .ok (.if_icmp .ge 35, 3) := by decide +kernel
theorem dX8_mayTake_37 : decode cX8_mayTake 37 = .ok (.iload_n 3, 1) := by decide +kernel
theorem dX8_mayTake_38 : decode cX8_mayTake 38 = .ok (.iload 4, 2) := by decide +kernel
theorem dX8_mayTake_40 : decode cX8_mayTake 40 = .ok (.ishr, 1) := by decide +kernel
theorem dX8_mayTake_41 : decode cX8_mayTake 41 = .ok (.iconst 1, 1) := by decide +kernel
theorem dX8_mayTake_42 : decode cX8_mayTake 42 = .ok (.iand, 1) := by decide +kernel
theorem dX8_mayTake_43 : decode cX8_mayTake 43 = .ok (.ifCond .eq 20, 3) := by decide +kernel
theorem dX8_mayTake_46 : decode cX8_mayTake 46 = .ok (.aload_n 0, 1) := by decide +kernel
theorem dX8_mayTake_47 : decode cX8_mayTake 47 = .ok (.getfield 30, 3) := by decide +kernel
theorem dX8_mayTake_50 : decode cX8_mayTake 50 = .ok (.iload_n 2, 1) := by decide +kernel
theorem dX8_mayTake_51 : decode cX8_mayTake 51 = .ok (.iconst 3, 1) := by decide +kernel
theorem dX8_mayTake_52 : decode cX8_mayTake 52 = .ok (.imul, 1) := by decide +kernel
theorem dX8_mayTake_53 : decode cX8_mayTake 53 = .ok (.iload 4, 2) := by decide +kernel
theorem dX8_mayTake_55 : decode cX8_mayTake 55 = .ok (.iadd, 1) := by decide +kernel
theorem dX8_mayTake_56 : decode cX8_mayTake 56 = .ok (.iaload, 1) := by decide +kernel
theorem dX8_mayTake_57 : decode cX8_mayTake 57 = .ok (.iconst 1, 1) := by decide +kernel
theorem dX8_mayTake_58 : decode cX8_mayTake 58 = .ok (.if_icmp .ge 5, 3) := by decide +kernel
theorem dX8_mayTake_61 : decode cX8_mayTake 61 = .ok (.iconst 0, 1) := by decide +kernel
theorem dX8_mayTake_62 : decode cX8_mayTake 62 = .ok (.ireturn, 1) := by decide +kernel
theorem dX8_mayTake_63 : decode cX8_mayTake 63 = .ok (.iinc 4 1, 3) := by decide +kernel
theorem dX8_mayTake_66 : decode cX8_mayTake 66 = .ok (.goto (-35), 3) := by decide +kernel
theorem dX8_mayTake_69 : decode cX8_mayTake 69 = .ok (.iconst 1, 1) := by decide +kernel
theorem dX8_mayTake_70 : decode cX8_mayTake 70 = .ok (.ireturn, 1) := by decide +kernel
theorem dX8_changeRoom_0 : decode cX8_changeRoom 0 = .ok (.iconst 0, 1) := by decide +kernel
theorem dX8_changeRoom_1 : decode cX8_changeRoom 1 = .ok (.istore 4, 2) := by decide +kernel
theorem dX8_changeRoom_3 : decode cX8_changeRoom 3 = .ok (.iload 4, 2) := by decide +kernel
theorem dX8_changeRoom_5 : decode cX8_changeRoom 5 = .ok (.iconst 3, 1) := by decide +kernel
theorem dX8_changeRoom_6 : decode cX8_changeRoom 6 = .ok (.if_icmp .ge 33, 3) := by decide +kernel
theorem dX8_changeRoom_9 : decode cX8_changeRoom 9 = .ok (.iload_n 2, 1) := by decide +kernel
theorem dX8_changeRoom_10 : decode cX8_changeRoom 10 = .ok (.iload 4, 2) := by decide +kernel
theorem dX8_changeRoom_12 : decode cX8_changeRoom 12 = .ok (.ishr, 1) := by decide +kernel
theorem dX8_changeRoom_13 : decode cX8_changeRoom 13 = .ok (.iconst 1, 1) := by decide +kernel
theorem dX8_changeRoom_14 : decode cX8_changeRoom 14 = .ok (.iand, 1) := by decide +kernel
theorem dX8_changeRoom_15 : decode cX8_changeRoom 15 = .ok (.ifCond .eq 18, 3) := by decide +kernel
theorem dX8_changeRoom_18 : decode cX8_changeRoom 18 = .ok (.aload_n 0, 1) := by decide +kernel
theorem dX8_changeRoom_19 : decode cX8_changeRoom 19 = .ok (.getfield 30, 3) := by decide +kernel
theorem dX8_changeRoom_22 : decode cX8_changeRoom 22 = .ok (.iload_n 1, 1) := by decide +kernel
theorem dX8_changeRoom_23 : decode cX8_changeRoom 23 = .ok (.iconst 3, 1) := by decide +kernel
theorem dX8_changeRoom_24 : decode cX8_changeRoom 24 = .ok (.imul, 1) := by decide +kernel
theorem dX8_changeRoom_25 : decode cX8_changeRoom 25 = .ok (.iload 4, 2) := by decide +kernel
theorem dX8_changeRoom_27 : decode cX8_changeRoom 27 = .ok (.iadd, 1) := by decide +kernel
theorem dX8_changeRoom_28 : decode cX8_changeRoom 28 = .ok (.dup2, 1) := by decide +kernel
theorem dX8_changeRoom_29 : decode cX8_changeRoom 29 = .ok (.iaload, 1) := by decide +kernel
theorem dX8_changeRoom_30 : decode cX8_changeRoom 30 = .ok (.iload_n 3, 1) := by decide +kernel
theorem dX8_changeRoom_31 : decode cX8_changeRoom 31 = .ok (.iadd, 1) := by decide +kernel
theorem dX8_changeRoom_32 : decode cX8_changeRoom 32 = .ok (.iastore, 1) := by decide +kernel
theorem dX8_changeRoom_33 : decode cX8_changeRoom 33 = .ok (.iinc 4 1, 3) := by decide +kernel
theorem dX8_changeRoom_36 : decode cX8_changeRoom 36 = .ok (.goto (-33), 3) := by decide +kernel
theorem dX8_changeRoom_39 : decode cX8_changeRoom 39 = .ok (.return_, 1) := by decide +kernel
theorem dX8_fillBound_0 : decode cX8_fillBound 0 = .ok (.iconst 0, 1) := by decide +kernel
theorem dX8_fillBound_1 : decode cX8_fillBound 1 = .ok (.istore_n 1, 1) := by decide +kernel
theorem dX8_fillBound_2 : decode cX8_fillBound 2 = .ok (.iload_n 1, 1) := by decide +kernel
theorem dX8_fillBound_3 : decode cX8_fillBound 3 = .ok (.aload_n 0, 1) := by decide +kernel
theorem dX8_fillBound_4 : decode cX8_fillBound 4 = .ok (.getfield 46, 3) := by decide +kernel
theorem dX8_fillBound_7 : decode cX8_fillBound 7 = .ok (.if_icmp .ge 112, 3) := by decide +kernel
theorem dX8_fillBound_10 : decode cX8_fillBound 10 = .ok (.iload_n 1, 1) := by decide +kernel
theorem dX8_fillBound_11 : decode cX8_fillBound 11 = .ok (.bipush 64, 2) := by decide +kernel
theorem dX8_fillBound_13 : decode cX8_fillBound 13 = .ok (.imul, 1) := by decide +kernel
theorem dX8_fillBound_14 : decode cX8_fillBound 14 = .ok (.istore_n 2, 1) := by decide +kernel
theorem dX8_fillBound_15 : decode cX8_fillBound 15 = .ok (.aload_n 0, 1) := by decide +kernel
theorem dX8_fillBound_16 : decode cX8_fillBound 16 = .ok (.getfield 33, 3) := by decide +kernel
theorem dX8_fillBound_19 : decode cX8_fillBound 19 = .ok (.iload_n 2, 1) := by decide +kernel
theorem dX8_fillBound_20 : decode cX8_fillBound 20 = .ok (.iconst 0, 1) := by decide +kernel
theorem dX8_fillBound_21 : decode cX8_fillBound 21 = .ok (.iastore, 1) := by decide +kernel
theorem dX8_fillBound_22 : decode cX8_fillBound 22 = .ok (.iconst 0, 1) := by decide +kernel
theorem dX8_fillBound_23 : decode cX8_fillBound 23 = .ok (.istore_n 3, 1) := by decide +kernel
theorem dX8_fillBound_24 : decode cX8_fillBound 24 = .ok (.iload_n 3, 1) := by decide +kernel
theorem dX8_fillBound_25 : decode cX8_fillBound 25 = .ok (.aload_n 0, 1) := by decide +kernel
theorem dX8_fillBound_26 : decode cX8_fillBound 26 = .ok (.getfield 42, 3) := by decide +kernel
theorem dX8_fillBound_29 : decode cX8_fillBound 29 = .ok (.if_icmp .ge 84, 3) := by decide +kernel
theorem dX8_fillBound_32 : decode cX8_fillBound 32 = .ok (.aload_n 0, 1) := by decide +kernel
theorem dX8_fillBound_33 : decode cX8_fillBound 33 = .ok (.getfield 18, 3) := by decide +kernel
theorem dX8_fillBound_36 : decode cX8_fillBound 36 = .ok (.iload_n 3, 1) := by decide +kernel
theorem dX8_fillBound_37 : decode cX8_fillBound 37 = .ok (.iaload, 1) := by decide +kernel
theorem dX8_fillBound_38 : decode cX8_fillBound 38 = .ok (.iload_n 1, 1) := by decide +kernel
theorem dX8_fillBound_39 : decode cX8_fillBound 39 = .ok (.iconst (-1), 1) := by decide +kernel
theorem dX8_fillBound_40 : decode cX8_fillBound 40 = .ok (.ixor, 1) := by decide +kernel
theorem dX8_fillBound_41 : decode cX8_fillBound 41 = .ok (.iand, 1) := by decide +kernel
theorem dX8_fillBound_42 : decode cX8_fillBound 42 = .ok (.invokestatic 89, 3) := by decide +kernel
theorem dX8_fillBound_45 : decode cX8_fillBound 45 = .ok (.istore 4, 2) := by decide +kernel
theorem dX8_fillBound_47 : decode cX8_fillBound 47 = .ok (.iconst 0, 1) := by decide +kernel
theorem dX8_fillBound_48 : decode cX8_fillBound 48 = .ok (.aload_n 0, 1) := by decide +kernel
theorem dX8_fillBound_49 : decode cX8_fillBound 49 = .ok (.getfield 15, 3) := by decide +kernel
theorem dX8_fillBound_52 : decode cX8_fillBound 52 = .ok (.iload_n 3, 1) := by decide +kernel
theorem dX8_fillBound_53 : decode cX8_fillBound 53 = .ok (.iaload, 1) := by decide +kernel
theorem dX8_fillBound_54 : decode cX8_fillBound 54 = .ok (.iload 4, 2) := by decide +kernel
theorem dX8_fillBound_56 : decode cX8_fillBound 56 = .ok (.isub, 1) := by decide +kernel
theorem dX8_fillBound_57 : decode cX8_fillBound 57 = .ok (.invokestatic 55, 3) := by decide +kernel
theorem dX8_fillBound_60 : decode cX8_fillBound 60 = .ok (.istore 5, 2) := by decide +kernel
theorem dX8_fillBound_62 : decode cX8_fillBound 62 = .ok (.iconst 1, 1) := by decide +kernel
theorem dX8_fillBound_63 : decode cX8_fillBound 63 = .ok (.iload_n 3, 1) := by decide +kernel
theorem dX8_fillBound_64 : decode cX8_fillBound 64 = .ok (.ishl, 1) := by decide +kernel
theorem dX8_fillBound_65 : decode cX8_fillBound 65 = .ok (.istore 6, 2) := by decide +kernel
theorem dX8_fillBound_67 : decode cX8_fillBound 67 = .ok (.iconst 0, 1) := by decide +kernel
theorem dX8_fillBound_68 : decode cX8_fillBound 68 = .ok (.istore 7, 2) := by decide +kernel
theorem dX8_fillBound_70 : decode cX8_fillBound 70 = .ok (.iload 7, 2) := by decide +kernel
theorem dX8_fillBound_72 : decode cX8_fillBound 72 = .ok (.iload 6, 2) := by decide +kernel
theorem dX8_fillBound_74 : decode cX8_fillBound 74 = .ok (.if_icmp .ge 33, 3) := by decide +kernel
theorem dX8_fillBound_77 : decode cX8_fillBound 77 = .ok (.aload_n 0, 1) := by decide +kernel
theorem dX8_fillBound_78 : decode cX8_fillBound 78 = .ok (.getfield 33, 3) := by decide +kernel
theorem dX8_fillBound_81 : decode cX8_fillBound 81 = .ok (.iload_n 2, 1) := by decide +kernel
theorem dX8_fillBound_82 : decode cX8_fillBound 82 = .ok (.iload 6, 2) := by decide +kernel
theorem dX8_fillBound_84 : decode cX8_fillBound 84 = .ok (.iadd, 1) := by decide +kernel
theorem dX8_fillBound_85 : decode cX8_fillBound 85 = .ok (.iload 7, 2) := by decide +kernel
theorem dX8_fillBound_87 : decode cX8_fillBound 87 = .ok (.iadd, 1) := by decide +kernel
theorem dX8_fillBound_88 : decode cX8_fillBound 88 = .ok (.aload_n 0, 1) := by decide +kernel
theorem dX8_fillBound_89 : decode cX8_fillBound 89 = .ok (.getfield 33, 3) := by decide +kernel
theorem dX8_fillBound_92 : decode cX8_fillBound 92 = .ok (.iload_n 2, 1) := by decide +kernel
theorem dX8_fillBound_93 : decode cX8_fillBound 93 = .ok (.iload 7, 2) := by decide +kernel
theorem dX8_fillBound_95 : decode cX8_fillBound 95 = .ok (.iadd, 1) := by decide +kernel
theorem dX8_fillBound_96 : decode cX8_fillBound 96 = .ok (.iaload, 1) := by decide +kernel
theorem dX8_fillBound_97 : decode cX8_fillBound 97 = .ok (.iload 5, 2) := by decide +kernel
theorem dX8_fillBound_99 : decode cX8_fillBound 99 = .ok (.iadd, 1) := by decide +kernel
theorem dX8_fillBound_100 : decode cX8_fillBound 100 = .ok (.iastore, 1) := by decide +kernel
theorem dX8_fillBound_101 : decode cX8_fillBound 101 = .ok (.iinc 7 1, 3) := by decide +kernel
theorem dX8_fillBound_104 : decode cX8_fillBound 104 = .ok (.goto (-34), 3) := by decide +kernel
theorem dX8_fillBound_107 : decode cX8_fillBound 107 = .ok (.iinc 3 1, 3) := by decide +kernel
theorem dX8_fillBound_110 : decode cX8_fillBound 110 = .ok (.goto (-86), 3) := by decide +kernel
theorem dX8_fillBound_113 : decode cX8_fillBound 113 = .ok (.iinc 1 1, 3) := by decide +kernel
theorem dX8_fillBound_116 : decode cX8_fillBound 116 = .ok (.goto (-114), 3) := by decide +kernel
theorem dX8_fillBound_119 : decode cX8_fillBound 119 = .ok (.return_, 1) := by decide +kernel
theorem dX8_leastFrom_0 : decode cX8_leastFrom 0 = .ok (.iconst 1, 1) := by decide +kernel
theorem dX8_leastFrom_1 : decode cX8_leastFrom 1 = .ok (.iload_n 1, 1) := by decide +kernel
theorem dX8_leastFrom_2 : decode cX8_leastFrom 2 = .ok (.ishl, 1) := by decide +kernel
theorem dX8_leastFrom_3 : decode cX8_leastFrom 3 = .ok (.istore_n 2, 1) := by decide +kernel
theorem dX8_leastFrom_4 : decode cX8_leastFrom 4 = .ok (.iconst 1, 1) := by decide +kernel
theorem dX8_leastFrom_5 : decode cX8_leastFrom 5 = .ok (.aload_n 0, 1) := by decide +kernel
theorem dX8_leastFrom_6 : decode cX8_leastFrom 6 = .ok (.getfield 42, 3) := by decide +kernel
theorem dX8_leastFrom_9 : decode cX8_leastFrom 9 = .ok (.ishl, 1) := by decide +kernel
theorem dX8_leastFrom_10 : decode cX8_leastFrom 10 = .ok (.iload_n 2, 1) := by decide +kernel
theorem dX8_leastFrom_11 : decode cX8_leastFrom 11 = .ok (.isub, 1) := by decide +kernel
theorem dX8_leastFrom_12 : decode cX8_leastFrom 12 = .ok (.istore_n 3, 1) := by decide +kernel
theorem dX8_leastFrom_13 : decode cX8_leastFrom 13 = .ok (.aload_n 0, 1) := by decide +kernel
theorem dX8_leastFrom_14 : decode cX8_leastFrom 14 = .ok (.aload_n 0, 1) := by decide +kernel
theorem dX8_leastFrom_15 : decode cX8_leastFrom 15 = .ok (.getfield 39, 3) := by decide +kernel
theorem dX8_leastFrom_18 : decode cX8_leastFrom 18 = .ok (.iload_n 1, 1) := by decide +kernel
theorem dX8_leastFrom_19 : decode cX8_leastFrom 19 = .ok (.iconst 5, 1) := by decide +kernel
theorem dX8_leastFrom_20 : decode cX8_leastFrom 20 = .ok (.invokevirtual 94, 3) := by decide +kernel
theorem dX8_leastFrom_23 : decode cX8_leastFrom 23 = .ok (.iconst 4, 1) := by decide +kernel
theorem dX8_leastFrom_24 : decode cX8_leastFrom 24 = .ok (.istore 4, 2) := by decide +kernel
theorem dX8_leastFrom_26 : decode cX8_leastFrom 26 = .ok (.iload 4, 2) := by decide +kernel
theorem dX8_leastFrom_28 : decode cX8_leastFrom 28 = .ok (.ifCond .lt 58, 3) := by decide +kernel
theorem dX8_leastFrom_31 : decode cX8_leastFrom 31 = .ok (.aload_n 0, 1) := by decide +kernel
theorem dX8_leastFrom_32 : decode cX8_leastFrom 32 = .ok (.aload_n 0, 1) := by decide +kernel
theorem dX8_leastFrom_33 : decode cX8_leastFrom 33 = .ok (.getfield 36, 3) := by decide +kernel
theorem dX8_leastFrom_36 : decode cX8_leastFrom 36 = .ok (.iload_n 1, 1) := by decide +kernel
theorem dX8_leastFrom_37 : decode cX8_leastFrom 37 = .ok (.iload 4, 2) := by decide +kernel
theorem dX8_leastFrom_39 : decode cX8_leastFrom 39 = .ok (.invokevirtual 94, 3) := by decide +kernel
theorem dX8_leastFrom_42 : decode cX8_leastFrom 42 = .ok (.aload_n 0, 1) := by decide +kernel
theorem dX8_leastFrom_43 : decode cX8_leastFrom 43 = .ok (.iload 4, 2) := by decide +kernel
theorem dX8_leastFrom_45 : decode cX8_leastFrom 45 = .ok (.iload_n 2, 1) := by decide +kernel
theorem dX8_leastFrom_46 : decode cX8_leastFrom 46 = .ok (.iload_n 3, 1) := by decide +kernel
theorem dX8_leastFrom_47 : decode cX8_leastFrom 47 = .ok (.invokevirtual 98, 3) := by decide +kernel
theorem dX8_leastFrom_50 : decode cX8_leastFrom 50 = .ok (.iload_n 3, 1) := by decide +kernel
theorem dX8_leastFrom_51 : decode cX8_leastFrom 51 = .ok (.istore 5, 2) := by decide +kernel
theorem dX8_leastFrom_53 : decode cX8_leastFrom 53 = .ok (.iload 5, 2) := by decide +kernel
theorem dX8_leastFrom_55 : decode cX8_leastFrom 55 = .ok (.ifCond .le 25, 3) := by decide +kernel
theorem dX8_leastFrom_58 : decode cX8_leastFrom 58 = .ok (.aload_n 0, 1) := by decide +kernel
theorem dX8_leastFrom_59 : decode cX8_leastFrom 59 = .ok (.getfield 39, 3) := by decide +kernel
theorem dX8_leastFrom_62 : decode cX8_leastFrom 62 = .ok (.iload 5, 2) := by decide +kernel
theorem dX8_leastFrom_64 : decode cX8_leastFrom 64 = .ok (.aload_n 0, 1) := by decide +kernel
theorem dX8_leastFrom_65 : decode cX8_leastFrom 65 = .ok (.iload 5, 2) := by decide +kernel
theorem dX8_leastFrom_67 : decode cX8_leastFrom 67 = .ok (.invokevirtual 101, 3) := by decide +kernel
theorem dX8_leastFrom_70 : decode cX8_leastFrom 70 = .ok (.iastore, 1) := by decide +kernel
theorem dX8_leastFrom_71 : decode cX8_leastFrom 71 = .ok (.iload 5, 2) := by decide +kernel
theorem dX8_leastFrom_73 : decode cX8_leastFrom 73 = .ok (.iload_n 2, 1) := by decide +kernel
theorem dX8_leastFrom_74 : decode cX8_leastFrom 74 = .ok (.isub, 1) := by decide +kernel
theorem dX8_leastFrom_75 : decode cX8_leastFrom 75 = .ok (.istore 5, 2) := by decide +kernel
theorem dX8_leastFrom_77 : decode cX8_leastFrom 77 = .ok (.goto (-24), 3) := by decide +kernel
theorem dX8_leastFrom_80 : decode cX8_leastFrom 80 = .ok (.iinc 4 (-1), 3) := by decide +kernel
theorem dX8_leastFrom_83 : decode cX8_leastFrom 83 = .ok (.goto (-57), 3) := by decide +kernel
theorem dX8_leastFrom_86 : decode cX8_leastFrom 86 = .ok (.aload_n 0, 1) := by decide +kernel
theorem dX8_leastFrom_87 : decode cX8_leastFrom 87 = .ok (.getfield 39, 3) := by decide +kernel
theorem dX8_leastFrom_90 : decode cX8_leastFrom 90 = .ok (.iload_n 3, 1) := by decide +kernel
theorem dX8_leastFrom_91 : decode cX8_leastFrom 91 = .ok (.iaload, 1) := by decide +kernel
theorem dX8_leastFrom_92 : decode cX8_leastFrom 92 = .ok (.ireturn, 1) := by decide +kernel
theorem dX8_leastWithDay_0 : decode cX8_leastWithDay 0 = .ok (.aload_n 0, 1) := by decide +kernel
theorem dX8_leastWithDay_1 : decode cX8_leastWithDay 1 = .ok (.getfield 39, 3) := by decide +kernel
theorem dX8_leastWithDay_4 : decode cX8_leastWithDay 4 = .ok (.iload_n 1, 1) := by decide +kernel
theorem dX8_leastWithDay_5 : decode cX8_leastWithDay 5 = .ok (.iaload, 1) := by decide +kernel
theorem dX8_leastWithDay_6 : decode cX8_leastWithDay 6 = .ok (.istore_n 2, 1) := by decide +kernel
theorem dX8_leastWithDay_7 : decode cX8_leastWithDay 7 = .ok (.iload_n 1, 1) := by decide +kernel
theorem dX8_leastWithDay_8 : decode cX8_leastWithDay 8 = .ok (.istore_n 3, 1) := by decide +kernel
theorem dX8_leastWithDay_9 : decode cX8_leastWithDay 9 = .ok (.iconst 0, 1) := by decide +kernel
theorem dX8_leastWithDay_10 : decode cX8_leastWithDay 10 = .ok (.istore 4, 2) := by decide +kernel
theorem dX8_leastWithDay_12 : decode cX8_leastWithDay 12 = .ok (.iload 4, 2) := by decide +kernel
theorem dX8_leastWithDay_14 : decode cX8_leastWithDay 14 = .ok (.bipush 64, 2) := by decide +kernel
theorem dX8_leastWithDay_16 : decode cX8_leastWithDay 16 = .ok (.if_icmp .ge 39, 3) := by decide +kernel
theorem dX8_leastWithDay_19 : decode cX8_leastWithDay 19 = .ok (.iload_n 3, 1) := by decide +kernel
theorem dX8_leastWithDay_20 : decode cX8_leastWithDay 20 = .ok (.ifCond .eq 35, 3) := by decide +kernel
theorem dX8_leastWithDay_23 : decode cX8_leastWithDay 23 = .ok (.iload_n 2, 1) := by decide +kernel
theorem dX8_leastWithDay_24 : decode cX8_leastWithDay 24 = .ok (.aload_n 0, 1) := by decide +kernel
theorem dX8_leastWithDay_25 : decode cX8_leastWithDay 25 = .ok (.getfield 36, 3) := by decide +kernel
theorem dX8_leastWithDay_28 : decode cX8_leastWithDay 28 = .ok (.iload_n 3, 1) := by decide +kernel
theorem dX8_leastWithDay_29 : decode cX8_leastWithDay 29 = .ok (.iaload, 1) := by decide +kernel
theorem dX8_leastWithDay_30 : decode cX8_leastWithDay 30 = .ok (.aload_n 0, 1) := by decide +kernel
theorem dX8_leastWithDay_31 : decode cX8_leastWithDay 31 = .ok (.getfield 39, 3) := by decide +kernel
theorem dX8_leastWithDay_34 : decode cX8_leastWithDay 34 = .ok (.iload_n 1, 1) := by decide +kernel
theorem dX8_leastWithDay_35 : decode cX8_leastWithDay 35 = .ok (.iload_n 3, 1) := by decide +kernel
theorem dX8_leastWithDay_36 : decode cX8_leastWithDay 36 = .ok (.ixor, 1) := by decide +kernel
theorem dX8_leastWithDay_37 : decode cX8_leastWithDay 37 = .ok (.iaload, 1) := by decide +kernel
theorem dX8_leastWithDay_38 : decode cX8_leastWithDay 38 = .ok (.iadd, 1) := by decide +kernel
theorem dX8_leastWithDay_39 : decode cX8_leastWithDay 39 = .ok (.invokestatic 49, 3) := by decide +kernel
theorem dX8_leastWithDay_42 : decode cX8_leastWithDay 42 = .ok (.istore_n 2, 1) := by decide +kernel
theorem dX8_leastWithDay_43 : decode cX8_leastWithDay 43 = .ok (.iload_n 3, 1) := by decide +kernel
theorem dX8_leastWithDay_44 : decode cX8_leastWithDay 44 = .ok (.iconst 1, 1) := by decide +kernel
theorem dX8_leastWithDay_45 : decode cX8_leastWithDay 45 = .ok (.isub, 1) := by decide +kernel
theorem dX8_leastWithDay_46 : decode cX8_leastWithDay 46 = .ok (.iload_n 1, 1) := by decide +kernel
theorem dX8_leastWithDay_47 : decode cX8_leastWithDay 47 = .ok (.iand, 1) := by decide +kernel
theorem dX8_leastWithDay_48 : decode cX8_leastWithDay 48 = .ok (.istore_n 3, 1) := by decide +kernel
theorem dX8_leastWithDay_49 : decode cX8_leastWithDay 49 = .ok (.iinc 4 1, 3) := by decide +kernel
theorem dX8_leastWithDay_52 : decode cX8_leastWithDay 52 = .ok (.goto (-40), 3) := by decide +kernel
theorem dX8_leastWithDay_55 : decode cX8_leastWithDay 55 = .ok (.iload_n 2, 1) := by decide +kernel
theorem dX8_leastWithDay_56 : decode cX8_leastWithDay 56 = .ok (.ireturn, 1) := by decide +kernel
theorem dX8_fillSums_0 : decode cX8_fillSums 0 = .ok (.aload_n 1, 1) := by decide +kernel
theorem dX8_fillSums_1 : decode cX8_fillSums 1 = .ok (.iconst 0, 1) := by decide +kernel
theorem dX8_fillSums_2 : decode cX8_fillSums 2 = .ok (.iconst 0, 1) := by decide +kernel
theorem dX8_fillSums_3 : decode cX8_fillSums 3 = .ok (.iastore, 1) := by decide +kernel
theorem dX8_fillSums_4 : decode cX8_fillSums 4 = .ok (.iload_n 2, 1) := by decide +kernel
theorem dX8_fillSums_5 : decode cX8_fillSums 5 = .ok (.istore 4, 2) := by decide +kernel
theorem dX8_fillSums_7 : decode cX8_fillSums 7 = .ok (.iload 4, 2) := by decide +kernel
theorem dX8_fillSums_9 : decode cX8_fillSums 9 = .ok (.aload_n 0, 1) := by decide +kernel
theorem dX8_fillSums_10 : decode cX8_fillSums 10 = .ok (.getfield 42, 3) := by decide +kernel
theorem dX8_fillSums_13 : decode cX8_fillSums 13 = .ok (.if_icmp .ge 59, 3) := by decide +kernel
theorem dX8_fillSums_16 : decode cX8_fillSums 16 = .ok (.iconst 1, 1) := by decide +kernel
theorem dX8_fillSums_17 : decode cX8_fillSums 17 = .ok (.iload 4, 2) := by decide +kernel
theorem dX8_fillSums_19 : decode cX8_fillSums 19 = .ok (.ishl, 1) := by decide +kernel
theorem dX8_fillSums_20 : decode cX8_fillSums 20 = .ok (.istore 5, 2) := by decide +kernel
theorem dX8_fillSums_22 : decode cX8_fillSums 22 = .ok (.aload_n 0, 1) := by decide +kernel
theorem dX8_fillSums_23 : decode cX8_fillSums 23 = .ok (.iload 4, 2) := by decide +kernel
theorem dX8_fillSums_25 : decode cX8_fillSums 25 = .ok (.iload_n 3, 1) := by decide +kernel
theorem dX8_fillSums_26 : decode cX8_fillSums 26 = .ok (.invokevirtual 74, 3) := by decide +kernel
theorem dX8_fillSums_29 : decode cX8_fillSums 29 = .ok (.istore 6, 2) := by decide +kernel
theorem dX8_fillSums_31 : decode cX8_fillSums 31 = .ok (.iconst 0, 1) := by decide +kernel
theorem dX8_fillSums_32 : decode cX8_fillSums 32 = .ok (.istore 7, 2) := by decide +kernel
theorem dX8_fillSums_34 : decode cX8_fillSums 34 = .ok (.iload 7, 2) := by decide +kernel
theorem dX8_fillSums_36 : decode cX8_fillSums 36 = .ok (.iload 5, 2) := by decide +kernel
theorem dX8_fillSums_38 : decode cX8_fillSums 38 = .ok (.if_icmp .ge 28, 3) := by decide +kernel
theorem dX8_fillSums_41 : decode cX8_fillSums 41 = .ok (.aload_n 1, 1) := by decide +kernel
theorem dX8_fillSums_42 : decode cX8_fillSums 42 = .ok (.iload 5, 2) := by decide +kernel
theorem dX8_fillSums_44 : decode cX8_fillSums 44 = .ok (.iload 7, 2) := by decide +kernel
theorem dX8_fillSums_46 : decode cX8_fillSums 46 = .ok (.iadd, 1) := by decide +kernel
theorem dX8_fillSums_47 : decode cX8_fillSums 47 = .ok (.aload_n 1, 1) := by decide +kernel
theorem dX8_fillSums_48 : decode cX8_fillSums 48 = .ok (.iload 7, 2) := by decide +kernel
theorem dX8_fillSums_50 : decode cX8_fillSums 50 = .ok (.iaload, 1) := by decide +kernel
theorem dX8_fillSums_51 : decode cX8_fillSums 51 = .ok (.iload 6, 2) := by decide +kernel
theorem dX8_fillSums_53 : decode cX8_fillSums 53 = .ok (.iadd, 1) := by decide +kernel
theorem dX8_fillSums_54 : decode cX8_fillSums 54 = .ok (.iastore, 1) := by decide +kernel
theorem dX8_fillSums_55 : decode cX8_fillSums 55 = .ok (.iload 7, 2) := by decide +kernel
theorem dX8_fillSums_57 : decode cX8_fillSums 57 = .ok (.iconst 1, 1) := by decide +kernel
theorem dX8_fillSums_58 : decode cX8_fillSums 58 = .ok (.iload_n 2, 1) := by decide +kernel
theorem dX8_fillSums_59 : decode cX8_fillSums 59 = .ok (.ishl, 1) := by decide +kernel
theorem dX8_fillSums_60 : decode cX8_fillSums 60 = .ok (.iadd, 1) := by decide +kernel
theorem dX8_fillSums_61 : decode cX8_fillSums 61 = .ok (.istore 7, 2) := by decide +kernel
theorem dX8_fillSums_63 : decode cX8_fillSums 63 = .ok (.goto (-29), 3) := by decide +kernel
theorem dX8_fillSums_66 : decode cX8_fillSums 66 = .ok (.iinc 4 1, 3) := by decide +kernel
theorem dX8_fillSums_69 : decode cX8_fillSums 69 = .ok (.goto (-62), 3) := by decide +kernel
theorem dX8_fillSums_72 : decode cX8_fillSums 72 = .ok (.return_, 1) := by decide +kernel
theorem dX8_barWhatFitsNot_0 : decode cX8_barWhatFitsNot 0 = .ok (.iconst 0, 1) := by decide +kernel
theorem dX8_barWhatFitsNot_1 : decode cX8_barWhatFitsNot 1 = .ok (.istore 4, 2) := by decide +kernel
theorem dX8_barWhatFitsNot_3 : decode cX8_barWhatFitsNot 3 = .ok (.iload 4, 2) := by decide +kernel
theorem dX8_barWhatFitsNot_5 : decode cX8_barWhatFitsNot 5 = .ok (.aload_n 0, 1) := by decide +kernel
theorem dX8_barWhatFitsNot_6 : decode cX8_barWhatFitsNot 6 = .ok (.getfield 46, 3) := by decide +kernel
theorem dX8_barWhatFitsNot_9 : decode cX8_barWhatFitsNot 9 = .ok (.if_icmp .ge 63, 3) := by decide +kernel
theorem dX8_barWhatFitsNot_12 : decode cX8_barWhatFitsNot 12 = .ok (.aload_n 0, 1) := by decide +kernel
theorem dX8_barWhatFitsNot_13 : decode cX8_barWhatFitsNot 13 = .ok (.iload_n 1, 1) := by decide +kernel
theorem dX8_barWhatFitsNot_14 : decode cX8_barWhatFitsNot 14 = .ok (.iload 4, 2) := by decide +kernel
theorem dX8_barWhatFitsNot_16 : decode cX8_barWhatFitsNot 16 = .ok (.invokevirtual 104, 3) := by decide +kernel
theorem dX8_barWhatFitsNot_19 : decode cX8_barWhatFitsNot 19 = .ok (.istore 5, 2) := by decide +kernel
theorem dX8_barWhatFitsNot_21 : decode cX8_barWhatFitsNot 21 = .ok (.iload_n 2, 1) := by decide +kernel
theorem dX8_barWhatFitsNot_22 : decode cX8_barWhatFitsNot 22 = .ok (.istore 6, 2) := by decide +kernel
theorem dX8_barWhatFitsNot_24 : decode cX8_barWhatFitsNot 24 = .ok (.iload 6, 2) := by decide +kernel
theorem dX8_barWhatFitsNot_26 : decode cX8_barWhatFitsNot 26 = .ok (.iload_n 3, 1) := by decide +kernel
theorem dX8_barWhatFitsNot_27 : decode cX8_barWhatFitsNot 27 = .ok (.if_icmp .gt 39, 3) := by decide +kernel
theorem dX8_barWhatFitsNot_30 : decode cX8_barWhatFitsNot 30 = .ok (.aload_n 0, 1) := by decide +kernel
theorem dX8_barWhatFitsNot_31 : decode cX8_barWhatFitsNot 31 = .ok (.getfield 33, 3) := by decide +kernel
theorem dX8_barWhatFitsNot_34 : decode cX8_barWhatFitsNot 34 = .ok (.iload 4, 2) := by decide +kernel
theorem dX8_barWhatFitsNot_36 : decode cX8_barWhatFitsNot 36 = .ok (.bipush 64, 2) := by decide +kernel
theorem dX8_barWhatFitsNot_38 : decode cX8_barWhatFitsNot 38 = .ok (.imul, 1) := by decide +kernel
theorem dX8_barWhatFitsNot_39 : decode cX8_barWhatFitsNot 39 = .ok (.iload 6, 2) := by decide +kernel
theorem dX8_barWhatFitsNot_41 : decode cX8_barWhatFitsNot 41 = .ok (.iadd, 1) := by decide +kernel
theorem dX8_barWhatFitsNot_42 : decode cX8_barWhatFitsNot 42 = .ok (.iaload, 1) := by decide +kernel
theorem dX8_barWhatFitsNot_43 : decode cX8_barWhatFitsNot 43 = .ok (.iload 5, 2) := by decide +kernel
theorem dX8_barWhatFitsNot_45 : decode cX8_barWhatFitsNot 45 = .ok (.if_icmp .le 12, 3) := by decide +kernel
theorem dX8_barWhatFitsNot_48 : decode cX8_barWhatFitsNot 48 = .ok (.aload_n 0, 1) := by decide +kernel
theorem dX8_barWhatFitsNot_49 : decode cX8_barWhatFitsNot 49 = .ok (.getfield 36, 3) := by decide +kernel
theorem dX8_barWhatFitsNot_52 : decode cX8_barWhatFitsNot 52 = .ok (.iload 6, 2) := by decide +kernel
theorem dX8_barWhatFitsNot_54 : decode cX8_barWhatFitsNot 54 = .ok (.ldc 107, 2) := by decide +kernel
theorem dX8_barWhatFitsNot_56 : decode cX8_barWhatFitsNot 56 = .ok (.iastore, 1) := by decide +kernel
theorem dX8_barWhatFitsNot_57 : decode cX8_barWhatFitsNot 57 = .ok (.iload 6, 2) := by decide +kernel
theorem dX8_barWhatFitsNot_59 : decode cX8_barWhatFitsNot 59 = .ok (.iload_n 2, 1) := by decide +kernel
theorem dX8_barWhatFitsNot_60 : decode cX8_barWhatFitsNot 60 = .ok (.iadd, 1) := by decide +kernel
theorem dX8_barWhatFitsNot_61 : decode cX8_barWhatFitsNot 61 = .ok (.istore 6, 2) := by decide +kernel
theorem dX8_barWhatFitsNot_63 : decode cX8_barWhatFitsNot 63 = .ok (.goto (-39), 3) := by decide +kernel
theorem dX8_barWhatFitsNot_66 : decode cX8_barWhatFitsNot 66 = .ok (.iinc 4 1, 3) := by decide +kernel
theorem dX8_barWhatFitsNot_69 : decode cX8_barWhatFitsNot 69 = .ok (.goto (-66), 3) := by decide +kernel
theorem dX8_barWhatFitsNot_72 : decode cX8_barWhatFitsNot 72 = .ok (.return_, 1) := by decide +kernel
theorem dX8_roomOf_0 : decode cX8_roomOf 0 = .ok (.iconst 0, 1) := by decide +kernel
theorem dX8_roomOf_1 : decode cX8_roomOf 1 = .ok (.istore_n 3, 1) := by decide +kernel
theorem dX8_roomOf_2 : decode cX8_roomOf 2 = .ok (.iconst 0, 1) := by decide +kernel
theorem dX8_roomOf_3 : decode cX8_roomOf 3 = .ok (.istore 4, 2) := by decide +kernel
theorem dX8_roomOf_5 : decode cX8_roomOf 5 = .ok (.iload 4, 2) := by decide +kernel
theorem dX8_roomOf_7 : decode cX8_roomOf 7 = .ok (.iconst 3, 1) := by decide +kernel
theorem dX8_roomOf_8 : decode cX8_roomOf 8 = .ok (.if_icmp .ge 32, 3) := by decide +kernel
theorem dX8_roomOf_11 : decode cX8_roomOf 11 = .ok (.iload_n 2, 1) := by decide +kernel
theorem dX8_roomOf_12 : decode cX8_roomOf 12 = .ok (.iload 4, 2) := by decide +kernel
theorem dX8_roomOf_14 : decode cX8_roomOf 14 = .ok (.ishr, 1) := by decide +kernel
theorem dX8_roomOf_15 : decode cX8_roomOf 15 = .ok (.iconst 1, 1) := by decide +kernel
theorem dX8_roomOf_16 : decode cX8_roomOf 16 = .ok (.iand, 1) := by decide +kernel
theorem dX8_roomOf_17 : decode cX8_roomOf 17 = .ok (.ifCond .eq 17, 3) := by decide +kernel
theorem dX8_roomOf_20 : decode cX8_roomOf 20 = .ok (.iload_n 3, 1) := by decide +kernel
theorem dX8_roomOf_21 : decode cX8_roomOf 21 = .ok (.aload_n 0, 1) := by decide +kernel
theorem dX8_roomOf_22 : decode cX8_roomOf 22 = .ok (.getfield 30, 3) := by decide +kernel
theorem dX8_roomOf_25 : decode cX8_roomOf 25 = .ok (.iload_n 1, 1) := by decide +kernel
theorem dX8_roomOf_26 : decode cX8_roomOf 26 = .ok (.iconst 3, 1) := by decide +kernel
theorem dX8_roomOf_27 : decode cX8_roomOf 27 = .ok (.imul, 1) := by decide +kernel
theorem dX8_roomOf_28 : decode cX8_roomOf 28 = .ok (.iload 4, 2) := by decide +kernel
theorem dX8_roomOf_30 : decode cX8_roomOf 30 = .ok (.iadd, 1) := by decide +kernel
theorem dX8_roomOf_31 : decode cX8_roomOf 31 = .ok (.iaload, 1) := by decide +kernel
theorem dX8_roomOf_32 : decode cX8_roomOf 32 = .ok (.iadd, 1) := by decide +kernel
theorem dX8_roomOf_33 : decode cX8_roomOf 33 = .ok (.istore_n 3, 1) := by decide +kernel
theorem dX8_roomOf_34 : decode cX8_roomOf 34 = .ok (.iinc 4 1, 3) := by decide +kernel
theorem dX8_roomOf_37 : decode cX8_roomOf 37 = .ok (.goto (-32), 3) := by decide +kernel
theorem dX8_roomOf_40 : decode cX8_roomOf 40 = .ok (.iload_n 3, 1) := by decide +kernel
theorem dX8_roomOf_41 : decode cX8_roomOf 41 = .ok (.ireturn, 1) := by decide +kernel
theorem dX9_init_0 : decode cX9_init 0 = .ok (.aload_n 0, 1) := by decide +kernel
theorem dX9_init_1 : decode cX9_init 1 = .ok (.invokespecial 3, 3) := by decide +kernel
theorem dX9_init_4 : decode cX9_init 4 = .ok (.aload_n 0, 1) := by decide +kernel
theorem dX9_init_5 : decode cX9_init 5 = .ok (.bipush 8, 2) := by decide +kernel
theorem dX9_init_7 : decode cX9_init 7 = .ok (.newarray .int, 2) := by decide +kernel
theorem dX9_init_9 : decode cX9_init 9 = .ok (.putfield 9, 3) := by decide +kernel
theorem dX9_init_12 : decode cX9_init 12 = .ok (.aload_n 0, 1) := by decide +kernel
theorem dX9_init_13 : decode cX9_init 13 = .ok (.bipush 50, 2) := by decide +kernel
theorem dX9_init_15 : decode cX9_init 15 = .ok (.newarray .boolean, 2) := by decide +kernel
theorem dX9_init_17 : decode cX9_init 17 = .ok (.putfield 13, 3) := by decide +kernel
theorem dX9_init_20 : decode cX9_init 20 = .ok (.aload_n 0, 1) := by decide +kernel
theorem dX9_init_21 : decode cX9_init 21 = .ok (.iconst 4, 1) := by decide +kernel
theorem dX9_init_22 : decode cX9_init 22 = .ok (.newarray .int, 2) := by decide +kernel
theorem dX9_init_24 : decode cX9_init 24 = .ok (.putfield 17, 3) := by decide +kernel
theorem dX9_init_27 : decode cX9_init 27 = .ok (.aload_n 0, 1) := by decide +kernel
theorem dX9_init_28 : decode cX9_init 28 = .ok (.bipush 20, 2) := by decide +kernel
theorem dX9_init_30 : decode cX9_init 30 = .ok (.newarray .int, 2) := by decide +kernel
theorem dX9_init_32 : decode cX9_init 32 = .ok (.putfield 20, 3) := by decide +kernel
theorem dX9_init_35 : decode cX9_init 35 = .ok (.aload_n 0, 1) := by decide +kernel
theorem dX9_init_36 : decode cX9_init 36 = .ok (.iconst 5, 1) := by decide +kernel
theorem dX9_init_37 : decode cX9_init 37 = .ok (.newarray .int, 2) := by decide +kernel
theorem dX9_init_39 : decode cX9_init 39 = .ok (.putfield 23, 3) := by decide +kernel
theorem dX9_init_42 : decode cX9_init 42 = .ok (.aload_n 0, 1) := by decide +kernel
theorem dX9_init_43 : decode cX9_init 43 = .ok (.new 26, 3) := by decide +kernel
theorem dX9_init_46 : decode cX9_init 46 = .ok (.dup, 1) := by decide +kernel
theorem dX9_init_47 : decode cX9_init 47 = .ok (.invokespecial 28, 3) := by decide +kernel
theorem dX9_init_50 : decode cX9_init 50 = .ok (.putfield 29, 3) := by decide +kernel
theorem dX9_init_53 : decode cX9_init 53 = .ok (.aload_n 0, 1) := by decide +kernel
theorem dX9_init_54 : decode cX9_init 54 = .ok (.new 33, 3) := by decide +kernel
theorem dX9_init_57 : decode cX9_init 57 = .ok (.dup, 1) := by decide +kernel
theorem dX9_init_58 : decode cX9_init 58 = .ok (.invokespecial 35, 3) := by decide +kernel
theorem dX9_init_61 : decode cX9_init 61 = .ok (.putfield 36, 3) := by decide +kernel
theorem dX9_init_64 : decode cX9_init 64 = .ok (.aload_n 0, 1) := by decide +kernel
theorem dX9_init_65 : decode cX9_init 65 = .ok (.new 40, 3) := by decide +kernel
theorem dX9_init_68 : decode cX9_init 68 = .ok (.dup, 1) := by decide +kernel
theorem dX9_init_69 : decode cX9_init 69 = .ok (.aload_n 0, 1) := by decide +kernel
theorem dX9_init_70 : decode cX9_init 70 = .ok (.getfield 29, 3) := by decide +kernel
theorem dX9_init_73 : decode cX9_init 73 = .ok (.invokespecial 42, 3) := by decide +kernel
theorem dX9_init_76 : decode cX9_init 76 = .ok (.putfield 45, 3) := by decide +kernel
theorem dX9_init_79 : decode cX9_init 79 = .ok (.aload_n 0, 1) := by decide +kernel
theorem dX9_init_80 : decode cX9_init 80 = .ok (.new 49, 3) := by decide +kernel
theorem dX9_init_83 : decode cX9_init 83 = .ok (.dup, 1) := by decide +kernel
theorem dX9_init_84 : decode cX9_init 84 = .ok (.invokespecial 51, 3) := by decide +kernel
theorem dX9_init_87 : decode cX9_init 87 = .ok (.putfield 52, 3) := by decide +kernel
theorem dX9_init_90 : decode cX9_init 90 = .ok (.aload_n 0, 1) := by decide +kernel
theorem dX9_init_91 : decode cX9_init 91 = .ok (.new 56, 3) := by decide +kernel
theorem dX9_init_94 : decode cX9_init 94 = .ok (.dup, 1) := by decide +kernel
theorem dX9_init_95 : decode cX9_init 95 = .ok (.invokespecial 58, 3) := by decide +kernel
theorem dX9_init_98 : decode cX9_init 98 = .ok (.putfield 59, 3) := by decide +kernel
theorem dX9_init_101 : decode cX9_init 101 = .ok (.aload_n 0, 1) := by decide +kernel
theorem dX9_init_102 : decode cX9_init 102 = .ok (.new 63, 3) := by decide +kernel
theorem dX9_init_105 : decode cX9_init 105 = .ok (.dup, 1) := by decide +kernel
theorem dX9_init_106 : decode cX9_init 106 = .ok (.aload_n 0, 1) := by decide +kernel
theorem dX9_init_107 : decode cX9_init 107 = .ok (.getfield 45, 3) := by decide +kernel
theorem dX9_init_110 : decode cX9_init 110 = .ok (.invokespecial 65, 3) := by decide +kernel
theorem dX9_init_113 : decode cX9_init 113 = .ok (.putfield 68, 3) := by decide +kernel
theorem dX9_init_116 : decode cX9_init 116 = .ok (.aload_n 0, 1) := by decide +kernel
theorem dX9_init_117 : decode cX9_init 117 = .ok (.new 72, 3) := by decide +kernel
theorem dX9_init_120 : decode cX9_init 120 = .ok (.dup, 1) := by decide +kernel
theorem dX9_init_121 : decode cX9_init 121 = .ok (.aload_n 0, 1) := by decide +kernel
theorem dX9_init_122 : decode cX9_init 122 = .ok (.getfield 36, 3) := by decide +kernel
theorem dX9_init_125 : decode cX9_init 125 = .ok (.invokespecial 74, 3) := by decide +kernel
theorem dX9_init_128 : decode cX9_init 128 = .ok (.putfield 77, 3) := by decide +kernel
theorem dX9_init_131 : decode cX9_init 131 = .ok (.aload_n 0, 1) := by decide +kernel
theorem dX9_init_132 : decode cX9_init 132 = .ok (.new 81, 3) := by decide +kernel
theorem dX9_init_135 : decode cX9_init 135 = .ok (.dup, 1) := by decide +kernel
theorem dX9_init_136 : decode cX9_init 136 = .ok (.invokespecial 83, 3) := by decide +kernel
theorem dX9_init_139 : decode cX9_init 139 = .ok (.putfield 84, 3) := by decide +kernel
theorem dX9_init_142 : decode cX9_init 142 = .ok (.aload_n 0, 1) := by decide +kernel
theorem dX9_init_143 : decode cX9_init 143 = .ok (.new 88, 3) := by decide +kernel
theorem dX9_init_146 : decode cX9_init 146 = .ok (.dup, 1) := by decide +kernel
theorem dX9_init_147 : decode cX9_init 147 = .ok (.invokespecial 90, 3) := by decide +kernel
theorem dX9_init_150 : decode cX9_init 150 = .ok (.putfield 91, 3) := by decide +kernel
theorem dX9_init_153 : decode cX9_init 153 = .ok (.aload_n 0, 1) := by decide +kernel
theorem dX9_init_154 : decode cX9_init 154 = .ok (.iconst 0, 1) := by decide +kernel
theorem dX9_init_155 : decode cX9_init 155 = .ok (.putfield 95, 3) := by decide +kernel
theorem dX9_init_158 : decode cX9_init 158 = .ok (.aload_n 0, 1) := by decide +kernel
theorem dX9_init_159 : decode cX9_init 159 = .ok (.iconst 2, 1) := by decide +kernel
theorem dX9_init_160 : decode cX9_init 160 = .ok (.putfield 99, 3) := by decide +kernel
theorem dX9_init_163 : decode cX9_init 163 = .ok (.aload_n 0, 1) := by decide +kernel
theorem dX9_init_164 : decode cX9_init 164 = .ok (.getfield 17, 3) := by decide +kernel
theorem dX9_init_167 : decode cX9_init 167 = .ok (.bipush 10, 2) := by decide +kernel
theorem dX9_init_169 : decode cX9_init 169 = .ok (.invokestatic 102, 3) := by decide +kernel
theorem dX9_init_172 : decode cX9_init 172 = .ok (.return_, 1) := by decide +kernel
theorem dX9_days_0 : decode cX9_days 0 = .ok (.iload_n 1, 1) := by decide +kernel
theorem dX9_days_1 : decode cX9_days 1 = .ok (.iconst 1, 1) := by decide +kernel
theorem dX9_days_2 : decode cX9_days 2 = .ok (.if_icmp .ge 10, 3) := by decide +kernel
theorem dX9_days_5 : decode cX9_days 5 = .ok (.aload_n 0, 1) := by decide +kernel
theorem dX9_days_6 : decode cX9_days 6 = .ok (.bipush (-4), 2) := by decide +kernel
theorem dX9_days_8 : decode cX9_days 8 = .ok (.invokevirtual 108, 3) := by decide +kernel
theorem dX9_days_11 : decode cX9_days 11 = .ok (.ireturn, 1) := by decide +kernel
theorem dX9_days_12 : decode cX9_days 12 = .ok (.iload_n 1, 1) := by decide +kernel
theorem dX9_days_13 : decode cX9_days 13 = .ok (.sipush 1500, 3) := by decide +kernel
theorem dX9_days_16 : decode cX9_days 16 = .ok (.aload_n 0, 1) := by decide +kernel
theorem dX9_days_17 : decode cX9_days 17 = .ok (.getfield 95, 3) := by decide +kernel
theorem dX9_days_20 : decode cX9_days 20 = .ok (.isub, 1) := by decide +kernel
theorem dX9_days_21 : decode cX9_days 21 = .ok (.if_icmp .le 10, 3) := by decide +kernel
theorem dX9_days_24 : decode cX9_days 24 = .ok (.aload_n 0, 1) := by decide +kernel
theorem dX9_days_25 : decode cX9_days 25 = .ok (.bipush (-6), 2) := by decide +kernel
theorem dX9_days_27 : decode cX9_days 27 = .ok (.invokevirtual 108, 3) := by decide +kernel
theorem dX9_days_30 : decode cX9_days 30 = .ok (.ireturn, 1) := by decide +kernel
theorem dX9_days_31 : decode cX9_days 31 = .ok (.aload_n 0, 1) := by decide +kernel
theorem dX9_days_32 : decode cX9_days 32 = .ok (.dup, 1) := by decide +kernel
theorem dX9_days_33 : decode cX9_days 33 = .ok (.getfield 95, 3) := by decide +kernel
theorem dX9_days_36 : decode cX9_days 36 = .ok (.iload_n 1, 1) := by decide +kernel
theorem dX9_days_37 : decode cX9_days 37 = .ok (.iadd, 1) := by decide +kernel
theorem dX9_days_38 : decode cX9_days 38 = .ok (.putfield 95, 3) := by decide +kernel
theorem dX9_days_41 : decode cX9_days 41 = .ok (.aload_n 0, 1) := by decide +kernel
theorem dX9_days_42 : decode cX9_days 42 = .ok (.getfield 95, 3) := by decide +kernel
theorem dX9_days_45 : decode cX9_days 45 = .ok (.ireturn, 1) := by decide +kernel
theorem dX9_code_0 : decode cX9_code 0 = .ok (.iload_n 1, 1) := by decide +kernel
theorem dX9_code_1 : decode cX9_code 1 = .ok (.iconst 5, 1) := by decide +kernel
theorem dX9_code_2 : decode cX9_code 2 = .ok (.invokestatic 112, 3) := by decide +kernel
theorem dX9_code_5 : decode cX9_code 5 = .ok (.ifCond .ne 9, 3) := by decide +kernel
theorem dX9_code_8 : decode cX9_code 8 = .ok (.aload_n 0, 1) := by decide +kernel
theorem dX9_code_9 : decode cX9_code 9 = .ok (.iconst (-1), 1) := by decide +kernel
theorem dX9_code_10 : decode cX9_code 10 = .ok (.invokevirtual 108, 3) := by decide +kernel
theorem dX9_code_13 : decode cX9_code 13 = .ok (.ireturn, 1) := by decide +kernel
theorem dX9_code_14 : decode cX9_code 14 = .ok (.iload_n 2, 1) := by decide +kernel
theorem dX9_code_15 : decode cX9_code 15 = .ok (.ifCond .lt 11, 3) := by decide +kernel
theorem dX9_code_18 : decode cX9_code 18 = .ok (.iload_n 3, 1) := by decide +kernel
theorem dX9_code_19 : decode cX9_code 19 = .ok (.aload_n 0, 1) := by decide +kernel
theorem dX9_code_20 : decode cX9_code 20 = .ok (.getfield 95, 3) := by decide +kernel
theorem dX9_code_23 : decode cX9_code 23 = .ok (.if_icmp .ge 10, 3) := by decide +kernel
theorem dX9_code_26 : decode cX9_code 26 = .ok (.aload_n 0, 1) := by decide +kernel
theorem dX9_code_27 : decode cX9_code 27 = .ok (.bipush (-4), 2) := by decide +kernel
theorem dX9_code_29 : decode cX9_code 29 = .ok (.invokevirtual 108, 3) := by decide +kernel
theorem dX9_code_32 : decode cX9_code 32 = .ok (.ireturn, 1) := by decide +kernel
theorem dX9_code_33 : decode cX9_code 33 = .ok (.iload_n 2, 1) := by decide +kernel
theorem dX9_code_34 : decode cX9_code 34 = .ok (.bipush 50, 2) := by decide +kernel
theorem dX9_code_36 : decode cX9_code 36 = .ok (.if_icmp .gt 20, 3) := by decide +kernel
theorem dX9_code_39 : decode cX9_code 39 = .ok (.iload_n 3, 1) := by decide +kernel
theorem dX9_code_40 : decode cX9_code 40 = .ok (.sipush 1500, 3) := by decide +kernel
theorem dX9_code_43 : decode cX9_code 43 = .ok (.if_icmp .gt 13, 3) := by decide +kernel
theorem dX9_code_46 : decode cX9_code 46 = .ok (.aload_n 0, 1) := by decide +kernel
theorem dX9_code_47 : decode cX9_code 47 = .ok (.getfield 29, 3) := by decide +kernel
theorem dX9_code_50 : decode cX9_code 50 = .ok (.invokevirtual 116, 3) := by decide +kernel
theorem dX9_code_53 : decode cX9_code 53 = .ok (.ifCond .eq 10, 3) := by decide +kernel
theorem dX9_code_56 : decode cX9_code 56 = .ok (.aload_n 0, 1) := by decide +kernel
theorem dX9_code_57 : decode cX9_code 57 = .ok (.bipush (-6), 2) := by decide +kernel
theorem dX9_code_59 : decode cX9_code 59 = .ok (.invokevirtual 108, 3) := by decide +kernel
theorem dX9_code_62 : decode cX9_code 62 = .ok (.ireturn, 1) := by decide +kernel
theorem dX9_code_63 : decode cX9_code 63 = .ok (.aload_n 0, 1) := by decide +kernel
theorem dX9_code_64 : decode cX9_code 64 = .ok (.getfield 29, 3) := by decide +kernel
theorem dX9_code_67 : decode cX9_code 67 = .ok (.iload_n 1, 1) := by decide +kernel
theorem dX9_code_68 : decode cX9_code 68 = .ok (.iload_n 2, 1) := by decide +kernel
theorem dX9_code_69 : decode cX9_code 69 = .ok (.iload_n 3, 1) := by decide +kernel
theorem dX9_code_70 : decode cX9_code 70 = .ok (.invokevirtual 120, 3) := by decide +kernel
theorem dX9_code_73 : decode cX9_code 73 = .ok (.ireturn, 1) := by decide +kernel
theorem dX9_turn_0 : decode cX9_turn 0 = .ok (.aload_n 0, 1) := by decide +kernel
theorem dX9_turn_1 : decode cX9_turn 1 = .ok (.getfield 29, 3) := by decide +kernel
theorem dX9_turn_4 : decode cX9_turn 4 = .ok (.iload_n 1, 1) := by decide +kernel
theorem dX9_turn_5 : decode cX9_turn 5 = .ok (.invokevirtual 124, 3) := by decide +kernel
theorem dX9_turn_8 : decode cX9_turn 8 = .ok (.ifCond .eq 14, 3) := by decide +kernel
theorem dX9_turn_11 : decode cX9_turn 11 = .ok (.aload_n 0, 1) := by decide +kernel
theorem dX9_turn_12 : decode cX9_turn 12 = .ok (.getfield 29, 3) := by decide +kernel
theorem dX9_turn_15 : decode cX9_turn 15 = .ok (.iload_n 2, 1) := by decide +kernel
theorem dX9_turn_16 : decode cX9_turn 16 = .ok (.invokevirtual 124, 3) := by decide +kernel
theorem dX9_turn_19 : decode cX9_turn 19 = .ok (.ifCond .ne 9, 3) := by decide +kernel
theorem dX9_turn_22 : decode cX9_turn 22 = .ok (.aload_n 0, 1) := by decide +kernel
theorem dX9_turn_23 : decode cX9_turn 23 = .ok (.iconst (-1), 1) := by decide +kernel
theorem dX9_turn_24 : decode cX9_turn 24 = .ok (.invokevirtual 108, 3) := by decide +kernel
theorem dX9_turn_27 : decode cX9_turn 27 = .ok (.ireturn, 1) := by decide +kernel
theorem dX9_turn_28 : decode cX9_turn 28 = .ok (.aload_n 0, 1) := by decide +kernel
theorem dX9_turn_29 : decode cX9_turn 29 = .ok (.getfield 29, 3) := by decide +kernel
theorem dX9_turn_32 : decode cX9_turn 32 = .ok (.iload_n 1, 1) := by decide +kernel
theorem dX9_turn_33 : decode cX9_turn 33 = .ok (.invokevirtual 128, 3) := by decide +kernel
theorem dX9_turn_36 : decode cX9_turn 36 = .ok (.ifCond .ne 8, 3) := by decide +kernel
theorem dX9_turn_39 : decode cX9_turn 39 = .ok (.iload_n 2, 1) := by decide +kernel
theorem dX9_turn_40 : decode cX9_turn 40 = .ok (.iload_n 1, 1) := by decide +kernel
theorem dX9_turn_41 : decode cX9_turn 41 = .ok (.if_icmp .gt 10, 3) := by decide +kernel
theorem dX9_turn_44 : decode cX9_turn 44 = .ok (.aload_n 0, 1) := by decide +kernel
theorem dX9_turn_45 : decode cX9_turn 45 = .ok (.bipush (-3), 2) := by decide +kernel
theorem dX9_turn_47 : decode cX9_turn 47 = .ok (.invokevirtual 108, 3) := by decide +kernel
theorem dX9_turn_50 : decode cX9_turn 50 = .ok (.ireturn, 1) := by decide +kernel
theorem dX9_turn_51 : decode cX9_turn 51 = .ok (.iload_n 3, 1) := by decide +kernel
theorem dX9_turn_52 : decode cX9_turn 52 = .ok (.aload_n 0, 1) := by decide +kernel
theorem dX9_turn_53 : decode cX9_turn 53 = .ok (.getfield 95, 3) := by decide +kernel
theorem dX9_turn_56 : decode cX9_turn 56 = .ok (.if_icmp .ge 10, 3) := by decide +kernel
theorem dX9_turn_59 : decode cX9_turn 59 = .ok (.aload_n 0, 1) := by decide +kernel
theorem dX9_turn_60 : decode cX9_turn 60 = .ok (.bipush (-4), 2) := by decide +kernel
theorem dX9_turn_62 : decode cX9_turn 62 = .ok (.invokevirtual 108, 3) := by decide +kernel
theorem dX9_turn_65 : decode cX9_turn 65 = .ok (.ireturn, 1) := by decide +kernel
theorem dX9_turn_66 : decode cX9_turn 66 = .ok (.iload_n 3, 1) := by decide +kernel
theorem dX9_turn_67 : decode cX9_turn 67 = .ok (.sipush 1500, 3) := by decide +kernel
theorem dX9_turn_70 : decode cX9_turn 70 = .ok (.if_icmp .le 10, 3) := by decide +kernel
theorem dX9_turn_73 : decode cX9_turn 73 = .ok (.aload_n 0, 1) := by decide +kernel
theorem dX9_turn_74 : decode cX9_turn 74 = .ok (.bipush (-6), 2) := by decide +kernel
theorem dX9_turn_76 : decode cX9_turn 76 = .ok (.invokevirtual 108, 3) := by decide +kernel
theorem dX9_turn_79 : decode cX9_turn 79 = .ok (.ireturn, 1) := by decide +kernel
theorem dX9_turn_80 : decode cX9_turn 80 = .ok (.aload_n 0, 1) := by decide +kernel
theorem dX9_turn_81 : decode cX9_turn 81 = .ok (.getfield 29, 3) := by decide +kernel
theorem dX9_turn_84 : decode cX9_turn 84 = .ok (.iload_n 1, 1) := by decide +kernel
theorem dX9_turn_85 : decode cX9_turn 85 = .ok (.iload_n 2, 1) := by decide +kernel
theorem dX9_turn_86 : decode cX9_turn 86 = .ok (.iload_n 3, 1) := by decide +kernel
theorem dX9_turn_87 : decode cX9_turn 87 = .ok (.invokevirtual 131, 3) := by decide +kernel
theorem dX9_turn_90 : decode cX9_turn 90 = .ok (.iconst 1, 1) := by decide +kernel
theorem dX9_turn_91 : decode cX9_turn 91 = .ok (.ireturn, 1) := by decide +kernel
theorem dX9_stands_0 : decode cX9_stands 0 = .ok (.aload_n 0, 1) := by decide +kernel
theorem dX9_stands_1 : decode cX9_stands 1 = .ok (.getfield 29, 3) := by decide +kernel
theorem dX9_stands_4 : decode cX9_stands 4 = .ok (.iload_n 1, 1) := by decide +kernel
theorem dX9_stands_5 : decode cX9_stands 5 = .ok (.invokevirtual 124, 3) := by decide +kernel
theorem dX9_stands_8 : decode cX9_stands 8 = .ok (.ifCond .ne 9, 3) := by decide +kernel
theorem dX9_stands_11 : decode cX9_stands 11 = .ok (.aload_n 0, 1) := by decide +kernel
theorem dX9_stands_12 : decode cX9_stands 12 = .ok (.iconst (-1), 1) := by decide +kernel
theorem dX9_stands_13 : decode cX9_stands 13 = .ok (.invokevirtual 108, 3) := by decide +kernel
theorem dX9_stands_16 : decode cX9_stands 16 = .ok (.ireturn, 1) := by decide +kernel
theorem dX9_stands_17 : decode cX9_stands 17 = .ok (.iload_n 2, 1) := by decide +kernel
theorem dX9_stands_18 : decode cX9_stands 18 = .ok (.ifCond .ge 10, 3) := by decide +kernel
theorem dX9_stands_21 : decode cX9_stands 21 = .ok (.aload_n 0, 1) := by decide +kernel
theorem dX9_stands_22 : decode cX9_stands 22 = .ok (.bipush (-4), 2) := by decide +kernel
theorem dX9_stands_24 : decode cX9_stands 24 = .ok (.invokevirtual 108, 3) := by decide +kernel
theorem dX9_stands_27 : decode cX9_stands 27 = .ok (.ireturn, 1) := by decide +kernel
theorem dX9_stands_28 : decode cX9_stands 28 = .ok (.iload_n 2, 1) := by decide +kernel
theorem dX9_stands_29 : decode cX9_stands 29 = .ok (.sipush 1500, 3) := by decide +kernel
theorem dX9_stands_32 : decode cX9_stands 32 = .ok (.if_icmp .le 10, 3) := by decide +kernel
theorem dX9_stands_35 : decode cX9_stands 35 = .ok (.aload_n 0, 1) := by decide +kernel
theorem dX9_stands_36 : decode cX9_stands 36 = .ok (.bipush (-6), 2) := by decide +kernel
theorem dX9_stands_38 : decode cX9_stands 38 = .ok (.invokevirtual 108, 3) := by decide +kernel
theorem dX9_stands_41 : decode cX9_stands 41 = .ok (.ireturn, 1) := by decide +kernel
theorem dX9_stands_42 : decode cX9_stands 42 = .ok (.aload_n 0, 1) := by decide +kernel
theorem dX9_stands_43 : decode cX9_stands 43 = .ok (.getfield 29, 3) := by decide +kernel
theorem dX9_stands_46 : decode cX9_stands 46 = .ok (.iload_n 1, 1) := by decide +kernel
theorem dX9_stands_47 : decode cX9_stands 47 = .ok (.iload_n 2, 1) := by decide +kernel
theorem dX9_stands_48 : decode cX9_stands 48 = .ok (.invokevirtual 135, 3) := by decide +kernel
theorem dX9_stands_51 : decode cX9_stands 51 = .ok (.ireturn, 1) := by decide +kernel
theorem dX9_most_0 : decode cX9_most 0 = .ok (.iload_n 1, 1) := by decide +kernel
theorem dX9_most_1 : decode cX9_most 1 = .ok (.iconst 5, 1) := by decide +kernel
theorem dX9_most_2 : decode cX9_most 2 = .ok (.invokestatic 112, 3) := by decide +kernel
theorem dX9_most_5 : decode cX9_most 5 = .ok (.ifCond .ne 9, 3) := by decide +kernel
theorem dX9_most_8 : decode cX9_most 8 = .ok (.aload_n 0, 1) := by decide +kernel
theorem dX9_most_9 : decode cX9_most 9 = .ok (.iconst (-1), 1) := by decide +kernel
theorem dX9_most_10 : decode cX9_most 10 = .ok (.invokevirtual 108, 3) := by decide +kernel
theorem dX9_most_13 : decode cX9_most 13 = .ok (.ireturn, 1) := by decide +kernel
theorem dX9_most_14 : decode cX9_most 14 = .ok (.iload_n 2, 1) := by decide +kernel
theorem dX9_most_15 : decode cX9_most 15 = .ok (.ifCond .ge 10, 3) := by decide +kernel
theorem dX9_most_18 : decode cX9_most 18 = .ok (.aload_n 0, 1) := by decide +kernel
theorem dX9_most_19 : decode cX9_most 19 = .ok (.bipush (-4), 2) := by decide +kernel
theorem dX9_most_21 : decode cX9_most 21 = .ok (.invokevirtual 108, 3) := by decide +kernel
theorem dX9_most_24 : decode cX9_most 24 = .ok (.ireturn, 1) := by decide +kernel
theorem dX9_most_25 : decode cX9_most 25 = .ok (.iload_n 2, 1) := by decide +kernel
theorem dX9_most_26 : decode cX9_most 26 = .ok (.sipush 200, 3) := by decide +kernel
theorem dX9_most_29 : decode cX9_most 29 = .ok (.if_icmp .le 10, 3) := by decide +kernel
theorem dX9_most_32 : decode cX9_most 32 = .ok (.aload_n 0, 1) := by decide +kernel
theorem dX9_most_33 : decode cX9_most 33 = .ok (.bipush (-6), 2) := by decide +kernel
theorem dX9_most_35 : decode cX9_most 35 = .ok (.invokevirtual 108, 3) := by decide +kernel
theorem dX9_most_38 : decode cX9_most 38 = .ok (.ireturn, 1) := by decide +kernel
theorem dX9_most_39 : decode cX9_most 39 = .ok (.aload_n 0, 1) := by decide +kernel
theorem dX9_most_40 : decode cX9_most 40 = .ok (.getfield 29, 3) := by decide +kernel
theorem dX9_most_43 : decode cX9_most 43 = .ok (.iload_n 1, 1) := by decide +kernel
theorem dX9_most_44 : decode cX9_most 44 = .ok (.iload_n 2, 1) := by decide +kernel
theorem dX9_most_45 : decode cX9_most 45 = .ok (.invokevirtual 139, 3) := by decide +kernel
theorem dX9_most_48 : decode cX9_most 48 = .ok (.ireturn, 1) := by decide +kernel
theorem dX9_kitchen_0 : decode cX9_kitchen 0 = .ok (.iload_n 1, 1) := by decide +kernel
theorem dX9_kitchen_1 : decode cX9_kitchen 1 = .ok (.iconst 4, 1) := by decide +kernel
theorem dX9_kitchen_2 : decode cX9_kitchen 2 = .ok (.invokestatic 112, 3) := by decide +kernel
theorem dX9_kitchen_5 : decode cX9_kitchen 5 = .ok (.ifCond .ne 10, 3) := by decide +kernel
theorem dX9_kitchen_8 : decode cX9_kitchen 8 = .ok (.aload_n 0, 1) := by decide +kernel
theorem dX9_kitchen_9 : decode cX9_kitchen 9 = .ok (.bipush (-2), 2) := by decide +kernel
theorem dX9_kitchen_11 : decode cX9_kitchen 11 = .ok (.invokevirtual 108, 3) := by decide +kernel
theorem dX9_kitchen_14 : decode cX9_kitchen 14 = .ok (.ireturn, 1) := by decide +kernel
theorem dX9_kitchen_15 : decode cX9_kitchen 15 = .ok (.iload_n 2, 1) := by decide +kernel
theorem dX9_kitchen_16 : decode cX9_kitchen 16 = .ok (.bipush 6, 2) := by decide +kernel
theorem dX9_kitchen_18 : decode cX9_kitchen 18 = .ok (.invokestatic 112, 3) := by decide +kernel
theorem dX9_kitchen_21 : decode cX9_kitchen 21 = .ok (.ifCond .eq 13, 3) := by decide +kernel
theorem dX9_kitchen_24 : decode cX9_kitchen 24 = .ok (.iload 4, 2) := by decide +kernel
theorem dX9_kitchen_26 : decode cX9_kitchen 26 = .ok (.bipush 10, 2) := by decide +kernel
theorem dX9_kitchen_28 : decode cX9_kitchen 28 = .ok (.invokestatic 112, 3) := by decide +kernel
theorem dX9_kitchen_31 : decode cX9_kitchen 31 = .ok (.ifCond .ne 9, 3) := by decide +kernel
theorem dX9_kitchen_34 : decode cX9_kitchen 34 = .ok (.aload_n 0, 1) := by decide +kernel
theorem dX9_kitchen_35 : decode cX9_kitchen 35 = .ok (.iconst (-1), 1) := by decide +kernel
theorem dX9_kitchen_36 : decode cX9_kitchen 36 = .ok (.invokevirtual 108, 3) := by decide +kernel
theorem dX9_kitchen_39 : decode cX9_kitchen 39 = .ok (.ireturn, 1) := by decide +kernel
theorem dX9_kitchen_40 : decode cX9_kitchen 40 = .ok (.iload_n 3, 1) := by decide +kernel
theorem dX9_kitchen_41 : decode cX9_kitchen 41 = .ok (.iconst 1, 1) := by decide +kernel
theorem dX9_kitchen_42 : decode cX9_kitchen 42 = .ok (.if_icmp .lt 8, 3) := by decide +kernel
theorem dX9_kitchen_45 : decode cX9_kitchen 45 = .ok (.iload 5, 2) := by decide +kernel
theorem dX9_kitchen_47 : decode cX9_kitchen 47 = .ok (.ifCond .ge 10, 3) := by decide +kernel
theorem dX9_kitchen_50 : decode cX9_kitchen 50 = .ok (.aload_n 0, 1) := by decide +kernel
theorem dX9_kitchen_51 : decode cX9_kitchen 51 = .ok (.bipush (-4), 2) := by decide +kernel
theorem dX9_kitchen_53 : decode cX9_kitchen 53 = .ok (.invokevirtual 108, 3) := by decide +kernel
theorem dX9_kitchen_56 : decode cX9_kitchen 56 = .ok (.ireturn, 1) := by decide +kernel
theorem dX9_kitchen_57 : decode cX9_kitchen 57 = .ok (.iload_n 3, 1) := by decide +kernel
theorem dX9_kitchen_58 : decode cX9_kitchen 58 = .ok (.sipush 999, 3) := by decide +kernel
theorem dX9_kitchen_61 : decode cX9_kitchen 61 = .ok (.if_icmp .gt 21, 3) := by decide +kernel
theorem dX9_kitchen_64 : decode cX9_kitchen 64 = .ok (.iload 5, 2) := by decide +kernel
theorem dX9_kitchen_66 : decode cX9_kitchen 66 = .ok (.sipush 255, 3) := by decide +kernel
theorem dX9_kitchen_69 : decode cX9_kitchen 69 = .ok (.if_icmp .gt 13, 3) := by decide +kernel
theorem dX9_kitchen_72 : decode cX9_kitchen 72 = .ok (.aload_n 0, 1) := by decide +kernel
theorem dX9_kitchen_73 : decode cX9_kitchen 73 = .ok (.getfield 36, 3) := by decide +kernel
theorem dX9_kitchen_76 : decode cX9_kitchen 76 = .ok (.invokevirtual 142, 3) := by decide +kernel
theorem dX9_kitchen_79 : decode cX9_kitchen 79 = .ok (.ifCond .eq 10, 3) := by decide +kernel
theorem dX9_kitchen_82 : decode cX9_kitchen 82 = .ok (.aload_n 0, 1) := by decide +kernel
theorem dX9_kitchen_83 : decode cX9_kitchen 83 = .ok (.bipush (-6), 2) := by decide +kernel
theorem dX9_kitchen_85 : decode cX9_kitchen 85 = .ok (.invokevirtual 108, 3) := by decide +kernel
theorem dX9_kitchen_88 : decode cX9_kitchen 88 = .ok (.ireturn, 1) := by decide +kernel
theorem dX9_kitchen_89 : decode cX9_kitchen 89 = .ok (.aload_n 0, 1) := by decide +kernel
theorem dX9_kitchen_90 : decode cX9_kitchen 90 = .ok (.getfield 36, 3) := by decide +kernel
theorem dX9_kitchen_93 : decode cX9_kitchen 93 = .ok (.iload_n 1, 1) := by decide +kernel
theorem dX9_kitchen_94 : decode cX9_kitchen 94 = .ok (.iload_n 2, 1) := by decide +kernel
theorem dX9_kitchen_95 : decode cX9_kitchen 95 = .ok (.iload_n 3, 1) := by decide +kernel
theorem dX9_kitchen_96 : decode cX9_kitchen 96 = .ok (.iload 4, 2) := by decide +kernel
theorem dX9_kitchen_98 : decode cX9_kitchen 98 = .ok (.iload 5, 2) := by decide +kernel
theorem dX9_kitchen_100 : decode cX9_kitchen 100 = .ok (.invokevirtual 143, 3) := by decide +kernel
theorem dX9_kitchen_103 : decode cX9_kitchen 103 = .ok (.ireturn, 1) := by decide +kernel
theorem dX9_hard_0 : decode cX9_hard 0 = .ok (.aload_n 0, 1) := by decide +kernel
theorem dX9_hard_1 : decode cX9_hard 1 = .ok (.getfield 36, 3) := by decide +kernel
theorem dX9_hard_4 : decode cX9_hard 4 = .ok (.iload_n 1, 1) := by decide +kernel
theorem dX9_hard_5 : decode cX9_hard 5 = .ok (.invokevirtual 146, 3) := by decide +kernel
theorem dX9_hard_8 : decode cX9_hard 8 = .ok (.ifCond .ne 9, 3) := by decide +kernel
theorem dX9_hard_11 : decode cX9_hard 11 = .ok (.aload_n 0, 1) := by decide +kernel
theorem dX9_hard_12 : decode cX9_hard 12 = .ok (.iconst (-1), 1) := by decide +kernel
theorem dX9_hard_13 : decode cX9_hard 13 = .ok (.invokevirtual 108, 3) := by decide +kernel
theorem dX9_hard_16 : decode cX9_hard 16 = .ok (.ireturn, 1) := by decide +kernel
theorem dX9_hard_17 : decode cX9_hard 17 = .ok (.aload_n 0, 1) := by decide +kernel
theorem dX9_hard_18 : decode cX9_hard 18 = .ok (.getfield 36, 3) := by decide +kernel
theorem dX9_hard_21 : decode cX9_hard 21 = .ok (.iload_n 1, 1) := by decide +kernel
theorem dX9_hard_22 : decode cX9_hard 22 = .ok (.invokevirtual 147, 3) := by decide +kernel
theorem dX9_hard_25 : decode cX9_hard 25 = .ok (.iload_n 2, 1) := by decide +kernel
theorem dX9_hard_26 : decode cX9_hard 26 = .ok (.if_icmp .ne 5, 3) := by decide +kernel
theorem dX9_hard_29 : decode cX9_hard 29 = .ok (.iconst 0, 1) := by decide +kernel
theorem dX9_hard_30 : decode cX9_hard 30 = .ok (.ireturn, 1) := by decide +kernel
theorem dX9_hard_31 : decode cX9_hard 31 = .ok (.aload_n 0, 1) := by decide +kernel
theorem dX9_hard_32 : decode cX9_hard 32 = .ok (.getfield 36, 3) := by decide +kernel
theorem dX9_hard_35 : decode cX9_hard 35 = .ok (.iload_n 1, 1) := by decide +kernel
theorem dX9_hard_36 : decode cX9_hard 36 = .ok (.iload_n 2, 1) := by decide +kernel
theorem dX9_hard_37 : decode cX9_hard 37 = .ok (.invokevirtual 150, 3) := by decide +kernel
theorem dX9_hard_40 : decode cX9_hard 40 = .ok (.iconst 1, 1) := by decide +kernel
theorem dX9_hard_41 : decode cX9_hard 41 = .ok (.ireturn, 1) := by decide +kernel
theorem dX9_kin_0 : decode cX9_kin 0 = .ok (.iload_n 1, 1) := by decide +kernel
theorem dX9_kin_1 : decode cX9_kin 1 = .ok (.iconst 5, 1) := by decide +kernel
theorem dX9_kin_2 : decode cX9_kin 2 = .ok (.invokestatic 112, 3) := by decide +kernel
theorem dX9_kin_5 : decode cX9_kin 5 = .ok (.ifCond .eq 12, 3) := by decide +kernel
theorem dX9_kin_8 : decode cX9_kin 8 = .ok (.iload_n 2, 1) := by decide +kernel
theorem dX9_kin_9 : decode cX9_kin 9 = .ok (.bipush 10, 2) := by decide +kernel
theorem dX9_kin_11 : decode cX9_kin 11 = .ok (.invokestatic 112, 3) := by decide +kernel
theorem dX9_kin_14 : decode cX9_kin 14 = .ok (.ifCond .ne 9, 3) := by decide +kernel
theorem dX9_kin_17 : decode cX9_kin 17 = .ok (.aload_n 0, 1) := by decide +kernel
theorem dX9_kin_18 : decode cX9_kin 18 = .ok (.iconst (-1), 1) := by decide +kernel
theorem dX9_kin_19 : decode cX9_kin 19 = .ok (.invokevirtual 108, 3) := by decide +kernel
theorem dX9_kin_22 : decode cX9_kin 22 = .ok (.ireturn, 1) := by decide +kernel
theorem dX9_kin_23 : decode cX9_kin 23 = .ok (.aload_n 0, 1) := by decide +kernel
theorem dX9_kin_24 : decode cX9_kin 24 = .ok (.iload_n 1, 1) := by decide +kernel
theorem dX9_kin_25 : decode cX9_kin 25 = .ok (.iload_n 2, 1) := by decide +kernel
theorem dX9_kin_26 : decode cX9_kin 26 = .ok (.invokevirtual 154, 3) := by decide +kernel
theorem dX9_kin_29 : decode cX9_kin 29 = .ok (.iload_n 3, 1) := by decide +kernel
theorem dX9_kin_30 : decode cX9_kin 30 = .ok (.if_icmp .ne 5, 3) := by decide +kernel
theorem dX9_kin_33 : decode cX9_kin 33 = .ok (.iconst 0, 1) := by decide +kernel
theorem dX9_kin_34 : decode cX9_kin 34 = .ok (.ireturn, 1) := by decide +kernel
theorem dX9_kin_35 : decode cX9_kin 35 = .ok (.aload_n 0, 1) := by decide +kernel
theorem dX9_kin_36 : decode cX9_kin 36 = .ok (.getfield 13, 3) := by decide +kernel
theorem dX9_kin_39 : decode cX9_kin 39 = .ok (.iload_n 1, 1) := by decide +kernel
theorem dX9_kin_40 : decode cX9_kin 40 = .ok (.bipush 10, 2) := by decide +kernel
theorem dX9_kin_42 : decode cX9_kin 42 = .ok (.imul, 1) := by decide +kernel
theorem dX9_kin_43 : decode cX9_kin 43 = .ok (.iload_n 2, 1) := by decide +kernel
theorem dX9_kin_44 : decode cX9_kin 44 = .ok (.iadd, 1) := by decide +kernel
theorem dX9_kin_45 : decode cX9_kin 45 = .ok (.iload_n 3, 1) := by decide +kernel
theorem dX9_kin_46 : decode cX9_kin 46 = .ok (.bastore, 1) := by decide +kernel
theorem dX9_kin_47 : decode cX9_kin 47 = .ok (.iconst 1, 1) := by decide +kernel
theorem dX9_kin_48 : decode cX9_kin 48 = .ok (.ireturn, 1) := by decide +kernel
theorem dX9_look_0 : decode cX9_look 0 = .ok (.aload_n 0, 1) := by decide +kernel
theorem dX9_look_1 : decode cX9_look 1 = .ok (.getfield 36, 3) := by decide +kernel
theorem dX9_look_4 : decode cX9_look 4 = .ok (.iload_n 1, 1) := by decide +kernel
theorem dX9_look_5 : decode cX9_look 5 = .ok (.invokevirtual 146, 3) := by decide +kernel
theorem dX9_look_8 : decode cX9_look 8 = .ok (.ifCond .eq 11, 3) := by decide +kernel
theorem dX9_look_11 : decode cX9_look 11 = .ok (.iload_n 2, 1) := by decide +kernel
theorem dX9_look_12 : decode cX9_look 12 = .ok (.iconst 5, 1) := by decide +kernel
theorem dX9_look_13 : decode cX9_look 13 = .ok (.invokestatic 112, 3) := by decide +kernel
theorem dX9_look_16 : decode cX9_look 16 = .ok (.ifCond .ne 9, 3) := by decide +kernel
theorem dX9_look_19 : decode cX9_look 19 = .ok (.aload_n 0, 1) := by decide +kernel
theorem dX9_look_20 : decode cX9_look 20 = .ok (.iconst (-1), 1) := by decide +kernel
theorem dX9_look_21 : decode cX9_look 21 = .ok (.invokevirtual 108, 3) := by decide +kernel
theorem dX9_look_24 : decode cX9_look 24 = .ok (.ireturn, 1) := by decide +kernel
theorem dX9_look_25 : decode cX9_look 25 = .ok (.aload_n 0, 1) := by decide +kernel
theorem dX9_look_26 : decode cX9_look 26 = .ok (.iload_n 2, 1) := by decide +kernel
theorem dX9_look_27 : decode cX9_look 27 = .ok (.aload_n 0, 1) := by decide +kernel
theorem dX9_look_28 : decode cX9_look 28 = .ok (.getfield 36, 3) := by decide +kernel
theorem dX9_look_31 : decode cX9_look 31 = .ok (.iload_n 1, 1) := by decide +kernel
theorem dX9_look_32 : decode cX9_look 32 = .ok (.invokevirtual 157, 3) := by decide +kernel
theorem dX9_look_35 : decode cX9_look 35 = .ok (.invokevirtual 154, 3) := by decide +kernel
theorem dX9_look_38 : decode cX9_look 38 = .ok (.ifCond .eq 10, 3) := by decide +kernel
theorem dX9_look_41 : decode cX9_look 41 = .ok (.aload_n 0, 1) := by decide +kernel
theorem dX9_look_42 : decode cX9_look 42 = .ok (.bipush (-7), 2) := by decide +kernel
theorem dX9_look_44 : decode cX9_look 44 = .ok (.invokevirtual 108, 3) := by decide +kernel
theorem dX9_look_47 : decode cX9_look 47 = .ok (.ireturn, 1) := by decide +kernel
theorem dX9_look_48 : decode cX9_look 48 = .ok (.iload_n 3, 1) := by decide +kernel
theorem dX9_look_49 : decode cX9_look 49 = .ok (.aload_n 0, 1) := by decide +kernel
theorem dX9_look_50 : decode cX9_look 50 = .ok (.getfield 95, 3) := by decide +kernel
theorem dX9_look_53 : decode cX9_look 53 = .ok (.if_icmp .le 10, 3) := by decide +kernel
theorem dX9_look_56 : decode cX9_look 56 = .ok (.aload_n 0, 1) := by decide +kernel
theorem dX9_look_57 : decode cX9_look 57 = .ok (.bipush (-3), 2) := by decide +kernel
theorem dX9_look_59 : decode cX9_look 59 = .ok (.invokevirtual 108, 3) := by decide +kernel
theorem dX9_look_62 : decode cX9_look 62 = .ok (.ireturn, 1) := by decide +kernel
theorem dX9_look_63 : decode cX9_look 63 = .ok (.iload_n 3, 1) := by decide +kernel
theorem dX9_look_64 : decode cX9_look 64 = .ok (.ifCond .ge 10, 3) := by decide +kernel
theorem dX9_look_67 : decode cX9_look 67 = .ok (.aload_n 0, 1) := by decide +kernel
theorem dX9_look_68 : decode cX9_look 68 = .ok (.bipush (-4), 2) := by decide +kernel
theorem dX9_look_70 : decode cX9_look 70 = .ok (.invokevirtual 108, 3) := by decide +kernel
theorem dX9_look_73 : decode cX9_look 73 = .ok (.ireturn, 1) := by decide +kernel
theorem dX9_look_74 : decode cX9_look 74 = .ok (.aload_n 0, 1) := by decide +kernel
theorem dX9_look_75 : decode cX9_look 75 = .ok (.getfield 45, 3) := by decide +kernel
theorem dX9_look_78 : decode cX9_look 78 = .ok (.invokevirtual 160, 3) := by decide +kernel
theorem dX9_look_81 : decode cX9_look 81 = .ok (.ifCond .eq 10, 3) := by decide +kernel
theorem dX9_look_84 : decode cX9_look 84 = .ok (.aload_n 0, 1) := by decide +kernel
theorem dX9_look_85 : decode cX9_look 85 = .ok (.bipush (-6), 2) := by decide +kernel
theorem dX9_look_87 : decode cX9_look 87 = .ok (.invokevirtual 108, 3) := by decide +kernel
theorem dX9_look_90 : decode cX9_look 90 = .ok (.ireturn, 1) := by decide +kernel
theorem dX9_look_91 : decode cX9_look 91 = .ok (.aload_n 0, 1) := by decide +kernel
theorem dX9_look_92 : decode cX9_look 92 = .ok (.getfield 45, 3) := by decide +kernel
theorem dX9_look_95 : decode cX9_look 95 = .ok (.iload_n 1, 1) := by decide +kernel
theorem dX9_look_96 : decode cX9_look 96 = .ok (.iload_n 2, 1) := by decide +kernel
theorem dX9_look_97 : decode cX9_look 97 = .ok (.iload_n 3, 1) := by decide +kernel
theorem dX9_look_98 : decode cX9_look 98 = .ok (.aload_n 0, 1) := by decide +kernel
theorem dX9_look_99 : decode cX9_look 99 = .ok (.getfield 95, 3) := by decide +kernel
theorem dX9_look_102 : decode cX9_look 102 = .ok (.invokevirtual 161, 3) := by decide +kernel
theorem dX9_look_105 : decode cX9_look 105 = .ok (.ireturn, 1) := by decide +kernel
theorem dX9_find_0 : decode cX9_find 0 = .ok (.aload_n 0, 1) := by decide +kernel
theorem dX9_find_1 : decode cX9_find 1 = .ok (.getfield 29, 3) := by decide +kernel
theorem dX9_find_4 : decode cX9_find 4 = .ok (.iload_n 1, 1) := by decide +kernel
theorem dX9_find_5 : decode cX9_find 5 = .ok (.invokevirtual 124, 3) := by decide +kernel
theorem dX9_find_8 : decode cX9_find 8 = .ok (.ifCond .ne 9, 3) := by decide +kernel
theorem dX9_find_11 : decode cX9_find 11 = .ok (.aload_n 0, 1) := by decide +kernel
theorem dX9_find_12 : decode cX9_find 12 = .ok (.iconst (-1), 1) := by decide +kernel
theorem dX9_find_13 : decode cX9_find 13 = .ok (.invokevirtual 108, 3) := by decide +kernel
theorem dX9_find_16 : decode cX9_find 16 = .ok (.ireturn, 1) := by decide +kernel
theorem dX9_find_17 : decode cX9_find 17 = .ok (.aload_n 0, 1) := by decide +kernel
theorem dX9_find_18 : decode cX9_find 18 = .ok (.getfield 45, 3) := by decide +kernel
theorem dX9_find_21 : decode cX9_find 21 = .ok (.invokevirtual 164, 3) := by decide +kernel
theorem dX9_find_24 : decode cX9_find 24 = .ok (.iconst 1, 1) := by decide +kernel
theorem dX9_find_25 : decode cX9_find 25 = .ok (.isub, 1) := by decide +kernel
theorem dX9_find_26 : decode cX9_find 26 = .ok (.istore_n 3, 1) := by decide +kernel
theorem dX9_find_27 : decode cX9_find 27 = .ok (.aload_n 0, 1) := by decide +kernel
theorem dX9_find_28 : decode cX9_find 28 = .ok (.getfield 45, 3) := by decide +kernel
theorem dX9_find_31 : decode cX9_find 31 = .ok (.iload_n 3, 1) := by decide +kernel
theorem dX9_find_32 : decode cX9_find 32 = .ok (.invokevirtual 168, 3) := by decide +kernel
theorem dX9_find_35 : decode cX9_find 35 = .ok (.ifCond .eq 14, 3) := by decide +kernel
theorem dX9_find_38 : decode cX9_find 38 = .ok (.aload_n 0, 1) := by decide +kernel
theorem dX9_find_39 : decode cX9_find 39 = .ok (.getfield 45, 3) := by decide +kernel
theorem dX9_find_42 : decode cX9_find 42 = .ok (.iload_n 3, 1) := by decide +kernel
theorem dX9_find_43 : decode cX9_find 43 = .ok (.invokevirtual 169, 3) := by decide +kernel
theorem dX9_find_46 : decode cX9_find 46 = .ok (.ifCond .eq 10, 3) := by decide +kernel
theorem dX9_find_49 : decode cX9_find 49 = .ok (.aload_n 0, 1) := by decide +kernel
theorem dX9_find_50 : decode cX9_find 50 = .ok (.bipush (-3), 2) := by decide +kernel
theorem dX9_find_52 : decode cX9_find 52 = .ok (.invokevirtual 108, 3) := by decide +kernel
theorem dX9_find_55 : decode cX9_find 55 = .ok (.ireturn, 1) := by decide +kernel
theorem dX9_find_56 : decode cX9_find 56 = .ok (.aload_n 0, 1) := by decide +kernel
theorem dX9_find_57 : decode cX9_find 57 = .ok (.getfield 29, 3) := by decide +kernel
theorem dX9_find_60 : decode cX9_find 60 = .ok (.iload_n 1, 1) := by decide +kernel
theorem dX9_find_61 : decode cX9_find 61 = .ok (.aload_n 0, 1) := by decide +kernel
theorem dX9_find_62 : decode cX9_find 62 = .ok (.getfield 45, 3) := by decide +kernel
theorem dX9_find_65 : decode cX9_find 65 = .ok (.iload_n 3, 1) := by decide +kernel
theorem dX9_find_66 : decode cX9_find 66 = .ok (.invokevirtual 172, 3) := by decide +kernel
theorem dX9_find_69 : decode cX9_find 69 = .ok (.invokevirtual 175, 3) := by decide +kernel
theorem dX9_find_72 : decode cX9_find 72 = .ok (.ifCond .ne 10, 3) := by decide +kernel
theorem dX9_find_75 : decode cX9_find 75 = .ok (.aload_n 0, 1) := by decide +kernel
theorem dX9_find_76 : decode cX9_find 76 = .ok (.bipush (-3), 2) := by decide +kernel
theorem dX9_find_78 : decode cX9_find 78 = .ok (.invokevirtual 108, 3) := by decide +kernel
theorem dX9_find_81 : decode cX9_find 81 = .ok (.ireturn, 1) := by decide +kernel
theorem dX9_find_82 : decode cX9_find 82 = .ok (.iload_n 2, 1) := by decide +kernel
theorem dX9_find_83 : decode cX9_find 83 = .ok (.iconst 1, 1) := by decide +kernel
theorem dX9_find_84 : decode cX9_find 84 = .ok (.if_icmp .ge 10, 3) := by decide +kernel
theorem dX9_find_87 : decode cX9_find 87 = .ok (.aload_n 0, 1) := by decide +kernel
theorem dX9_find_88 : decode cX9_find 88 = .ok (.bipush (-4), 2) := by decide +kernel
theorem dX9_find_90 : decode cX9_find 90 = .ok (.invokevirtual 108, 3) := by decide +kernel
theorem dX9_find_93 : decode cX9_find 93 = .ok (.ireturn, 1) := by decide +kernel
theorem dX9_find_94 : decode cX9_find 94 = .ok (.iload_n 2, 1) := by decide +kernel
theorem dX9_find_95 : decode cX9_find 95 = .ok (.bipush 9, 2) := by decide +kernel
theorem dX9_find_97 : decode cX9_find 97 = .ok (.if_icmp .gt 19, 3) := by decide +kernel
theorem dX9_find_100 : decode cX9_find 100 = .ok (.iload_n 2, 1) := by decide +kernel
theorem dX9_find_101 : decode cX9_find 101 = .ok (.bipush 99, 2) := by decide +kernel
theorem dX9_find_103 : decode cX9_find 103 = .ok (.aload_n 0, 1) := by decide +kernel
theorem dX9_find_104 : decode cX9_find 104 = .ok (.getfield 45, 3) := by decide +kernel
theorem dX9_find_107 : decode cX9_find 107 = .ok (.iload_n 3, 1) := by decide +kernel
theorem dX9_find_108 : decode cX9_find 108 = .ok (.iload_n 1, 1) := by decide +kernel
theorem dX9_find_109 : decode cX9_find 109 = .ok (.invokevirtual 178, 3) := by decide +kernel
theorem dX9_find_112 : decode cX9_find 112 = .ok (.isub, 1) := by decide +kernel
theorem dX9_find_113 : decode cX9_find 113 = .ok (.if_icmp .le 10, 3) := by decide +kernel
theorem dX9_find_116 : decode cX9_find 116 = .ok (.aload_n 0, 1) := by decide +kernel
theorem dX9_find_117 : decode cX9_find 117 = .ok (.bipush (-6), 2) := by decide +kernel
theorem dX9_find_119 : decode cX9_find 119 = .ok (.invokevirtual 108, 3) := by decide +kernel
theorem dX9_find_122 : decode cX9_find 122 = .ok (.ireturn, 1) := by decide +kernel
theorem dX9_find_123 : decode cX9_find 123 = .ok (.aload_n 0, 1) := by decide +kernel
theorem dX9_find_124 : decode cX9_find 124 = .ok (.getfield 45, 3) := by decide +kernel
theorem dX9_find_127 : decode cX9_find 127 = .ok (.iload_n 3, 1) := by decide +kernel
theorem dX9_find_128 : decode cX9_find 128 = .ok (.iload_n 1, 1) := by decide +kernel
theorem dX9_find_129 : decode cX9_find 129 = .ok (.iload_n 2, 1) := by decide +kernel
theorem dX9_find_130 : decode cX9_find 130 = .ok (.invokevirtual 181, 3) := by decide +kernel
theorem dX9_find_133 : decode cX9_find 133 = .ok (.ireturn, 1) := by decide +kernel
theorem dX9_back_0 : decode cX9_back 0 = .ok (.aload_n 0, 1) := by decide +kernel
theorem dX9_back_1 : decode cX9_back 1 = .ok (.getfield 45, 3) := by decide +kernel
theorem dX9_back_4 : decode cX9_back 4 = .ok (.iload_n 1, 1) := by decide +kernel
theorem dX9_back_5 : decode cX9_back 5 = .ok (.invokevirtual 168, 3) := by decide +kernel
theorem dX9_back_8 : decode cX9_back 8 = .ok (.ifCond .ne 9, 3) := by decide +kernel
theorem dX9_back_11 : decode cX9_back 11 = .ok (.aload_n 0, 1) := by decide +kernel
theorem dX9_back_12 : decode cX9_back 12 = .ok (.iconst (-1), 1) := by decide +kernel
theorem dX9_back_13 : decode cX9_back 13 = .ok (.invokevirtual 108, 3) := by decide +kernel
theorem dX9_back_16 : decode cX9_back 16 = .ok (.ireturn, 1) := by decide +kernel
theorem dX9_back_17 : decode cX9_back 17 = .ok (.aload_n 0, 1) := by decide +kernel
theorem dX9_back_18 : decode cX9_back 18 = .ok (.getfield 45, 3) := by decide +kernel
theorem dX9_back_21 : decode cX9_back 21 = .ok (.iload_n 1, 1) := by decide +kernel
theorem dX9_back_22 : decode cX9_back 22 = .ok (.invokevirtual 169, 3) := by decide +kernel
theorem dX9_back_25 : decode cX9_back 25 = .ok (.ifCond .eq 10, 3) := by decide +kernel
theorem dX9_back_28 : decode cX9_back 28 = .ok (.aload_n 0, 1) := by decide +kernel
theorem dX9_back_29 : decode cX9_back 29 = .ok (.bipush (-3), 2) := by decide +kernel
theorem dX9_back_31 : decode cX9_back 31 = .ok (.invokevirtual 108, 3) := by decide +kernel
theorem dX9_back_34 : decode cX9_back 34 = .ok (.ireturn, 1) := by decide +kernel
theorem dX9_back_35 : decode cX9_back 35 = .ok (.aload_n 0, 1) := by decide +kernel
theorem dX9_back_36 : decode cX9_back 36 = .ok (.getfield 45, 3) := by decide +kernel
theorem dX9_back_39 : decode cX9_back 39 = .ok (.iload_n 1, 1) := by decide +kernel
theorem dX9_back_40 : decode cX9_back 40 = .ok (.aload_n 0, 1) := by decide +kernel
theorem dX9_back_41 : decode cX9_back 41 = .ok (.getfield 95, 3) := by decide +kernel
theorem dX9_back_44 : decode cX9_back 44 = .ok (.invokevirtual 184, 3) := by decide +kernel
theorem dX9_back_47 : decode cX9_back 47 = .ok (.iconst 1, 1) := by decide +kernel
theorem dX9_back_48 : decode cX9_back 48 = .ok (.ireturn, 1) := by decide +kernel
theorem dX9_score_0 : decode cX9_score 0 = .ok (.aload_n 0, 1) := by decide +kernel
theorem dX9_score_1 : decode cX9_score 1 = .ok (.getfield 45, 3) := by decide +kernel
theorem dX9_score_4 : decode cX9_score 4 = .ok (.iload_n 1, 1) := by decide +kernel
theorem dX9_score_5 : decode cX9_score 5 = .ok (.invokevirtual 168, 3) := by decide +kernel
theorem dX9_score_8 : decode cX9_score 8 = .ok (.ifCond .ne 9, 3) := by decide +kernel
theorem dX9_score_11 : decode cX9_score 11 = .ok (.aload_n 0, 1) := by decide +kernel
theorem dX9_score_12 : decode cX9_score 12 = .ok (.iconst (-1), 1) := by decide +kernel
theorem dX9_score_13 : decode cX9_score 13 = .ok (.invokevirtual 108, 3) := by decide +kernel
theorem dX9_score_16 : decode cX9_score 16 = .ok (.ireturn, 1) := by decide +kernel
theorem dX9_score_17 : decode cX9_score 17 = .ok (.iload_n 2, 1) := by decide +kernel
theorem dX9_score_18 : decode cX9_score 18 = .ok (.ifCond .ge 10, 3) := by decide +kernel
theorem dX9_score_21 : decode cX9_score 21 = .ok (.aload_n 0, 1) := by decide +kernel
theorem dX9_score_22 : decode cX9_score 22 = .ok (.bipush (-4), 2) := by decide +kernel
theorem dX9_score_24 : decode cX9_score 24 = .ok (.invokevirtual 108, 3) := by decide +kernel
theorem dX9_score_27 : decode cX9_score 27 = .ok (.ireturn, 1) := by decide +kernel
theorem dX9_score_28 : decode cX9_score 28 = .ok (.iload_n 2, 1) := by decide +kernel
theorem dX9_score_29 : decode cX9_score 29 = .ok (.sipush 1500, 3) := by decide +kernel
theorem dX9_score_32 : decode cX9_score 32 = .ok (.if_icmp .le 10, 3) := by decide +kernel
theorem dX9_score_35 : decode cX9_score 35 = .ok (.aload_n 0, 1) := by decide +kernel
theorem dX9_score_36 : decode cX9_score 36 = .ok (.bipush (-6), 2) := by decide +kernel
theorem dX9_score_38 : decode cX9_score 38 = .ok (.invokevirtual 108, 3) := by decide +kernel
theorem dX9_score_41 : decode cX9_score 41 = .ok (.ireturn, 1) := by decide +kernel
theorem dX9_score_42 : decode cX9_score 42 = .ok (.aload_n 0, 1) := by decide +kernel
theorem dX9_score_43 : decode cX9_score 43 = .ok (.getfield 45, 3) := by decide +kernel
theorem dX9_score_46 : decode cX9_score 46 = .ok (.iload_n 1, 1) := by decide +kernel
theorem dX9_score_47 : decode cX9_score 47 = .ok (.iload_n 2, 1) := by decide +kernel
theorem dX9_score_48 : decode cX9_score 48 = .ok (.invokevirtual 188, 3) := by decide +kernel
theorem dX9_score_51 : decode cX9_score 51 = .ok (.ireturn, 1) := by decide +kernel
theorem dX9_table_0 : decode cX9_table 0 = .ok (.iload_n 1, 1) := by decide +kernel
theorem dX9_table_1 : decode cX9_table 1 = .ok (.aload_n 0, 1) := by decide +kernel
theorem dX9_table_2 : decode cX9_table 2 = .ok (.getfield 95, 3) := by decide +kernel
theorem dX9_table_5 : decode cX9_table 5 = .ok (.if_icmp .lt 25, 3) := by decide +kernel
theorem dX9_table_8 : decode cX9_table 8 = .ok (.iload_n 2, 1) := by decide +kernel
theorem dX9_table_9 : decode cX9_table 9 = .ok (.ifCond .lt 21, 3) := by decide +kernel
theorem dX9_table_12 : decode cX9_table 12 = .ok (.iload_n 2, 1) := by decide +kernel
theorem dX9_table_13 : decode cX9_table 13 = .ok (.iload_n 3, 1) := by decide +kernel
theorem dX9_table_14 : decode cX9_table 14 = .ok (.if_icmp .gt 16, 3) := by decide +kernel
theorem dX9_table_17 : decode cX9_table 17 = .ok (.iload_n 3, 1) := by decide +kernel
theorem dX9_table_18 : decode cX9_table 18 = .ok (.iload 4, 2) := by decide +kernel
theorem dX9_table_20 : decode cX9_table 20 = .ok (.if_icmp .gt 10, 3) := by decide +kernel
theorem dX9_table_23 : decode cX9_table 23 = .ok (.iload 4, 2) := by decide +kernel
theorem dX9_table_25 : decode cX9_table 25 = .ok (.iload 5, 2) := by decide +kernel
theorem dX9_table_27 : decode cX9_table 27 = .ok (.if_icmp .le 10, 3) := by decide +kernel
theorem dX9_table_30 : decode cX9_table 30 = .ok (.aload_n 0, 1) := by decide +kernel
theorem dX9_table_31 : decode cX9_table 31 = .ok (.bipush (-4), 2) := by decide +kernel
theorem dX9_table_33 : decode cX9_table 33 = .ok (.invokevirtual 108, 3) := by decide +kernel
theorem dX9_table_36 : decode cX9_table 36 = .ok (.ireturn, 1) := by decide +kernel
theorem dX9_table_37 : decode cX9_table 37 = .ok (.iload_n 1, 1) := by decide +kernel
theorem dX9_table_38 : decode cX9_table 38 = .ok (.sipush 1500, 3) := by decide +kernel
theorem dX9_table_41 : decode cX9_table 41 = .ok (.if_icmp .gt 21, 3) := by decide +kernel
theorem dX9_table_44 : decode cX9_table 44 = .ok (.iload 5, 2) := by decide +kernel
theorem dX9_table_46 : decode cX9_table 46 = .ok (.sipush 999, 3) := by decide +kernel
theorem dX9_table_49 : decode cX9_table 49 = .ok (.if_icmp .gt 13, 3) := by decide +kernel
theorem dX9_table_52 : decode cX9_table 52 = .ok (.aload_n 0, 1) := by decide +kernel
theorem dX9_table_53 : decode cX9_table 53 = .ok (.getfield 52, 3) := by decide +kernel
theorem dX9_table_56 : decode cX9_table 56 = .ok (.invokevirtual 191, 3) := by decide +kernel
theorem dX9_table_59 : decode cX9_table 59 = .ok (.ifCond .eq 10, 3) := by decide +kernel
theorem dX9_table_62 : decode cX9_table 62 = .ok (.aload_n 0, 1) := by decide +kernel
theorem dX9_table_63 : decode cX9_table 63 = .ok (.bipush (-6), 2) := by decide +kernel
theorem dX9_table_65 : decode cX9_table 65 = .ok (.invokevirtual 108, 3) := by decide +kernel
theorem dX9_table_68 : decode cX9_table 68 = .ok (.ireturn, 1) := by decide +kernel
theorem dX9_table_69 : decode cX9_table 69 = .ok (.aload_n 0, 1) := by decide +kernel
theorem dX9_table_70 : decode cX9_table 70 = .ok (.getfield 52, 3) := by decide +kernel
theorem dX9_table_73 : decode cX9_table 73 = .ok (.iload_n 1, 1) := by decide +kernel
theorem dX9_table_74 : decode cX9_table 74 = .ok (.iload_n 2, 1) := by decide +kernel
theorem dX9_table_75 : decode cX9_table 75 = .ok (.iload_n 3, 1) := by decide +kernel
theorem dX9_table_76 : decode cX9_table 76 = .ok (.iload 4, 2) := by decide +kernel
theorem dX9_table_78 : decode cX9_table 78 = .ok (.iload 5, 2) := by decide +kernel
theorem dX9_table_80 : decode cX9_table 80 = .ok (.invokevirtual 192, 3) := by decide +kernel
theorem dX9_table_83 : decode cX9_table 83 = .ok (.ireturn, 1) := by decide +kernel
end
section
theorem dX9_star_0 : decode cX9_star 0 = .ok (.aload_n 0, 1) := by decide +kernel
theorem dX9_star_1 : decode cX9_star 1 = .ok (.getfield 36, 3) := by decide +kernel
theorem dX9_star_4 : decode cX9_star 4 = .ok (.iload_n 1, 1) := by decide +kernel
theorem dX9_star_5 : decode cX9_star 5 = .ok (.invokevirtual 146, 3) := by decide +kernel
theorem dX9_star_8 : decode cX9_star 8 = .ok (.ifCond .ne 9, 3) := by decide +kernel
theorem dX9_star_11 : decode cX9_star 11 = .ok (.aload_n 0, 1) := by decide +kernel
theorem dX9_star_12 : decode cX9_star 12 = .ok (.iconst (-1), 1) := by decide +kernel
theorem dX9_star_13 : decode cX9_star 13 = .ok (.invokevirtual 108, 3) := by decide +kernel
theorem dX9_star_16 : decode cX9_star 16 = .ok (.ireturn, 1) := by decide +kernel
theorem dX9_star_17 : decode cX9_star 17 = .ok (.iload_n 2, 1) := by decide +kernel
theorem dX9_star_18 : decode cX9_star 18 = .ok (.ifCond .lt 7, 3) := by decide +kernel
theorem dX9_star_21 : decode cX9_star 21 = .ok (.iload_n 3, 1) := by decide +kernel
theorem dX9_star_22 : decode cX9_star 22 = .ok (.ifCond .ge 10, 3) := by decide +kernel
theorem dX9_star_25 : decode cX9_star 25 = .ok (.aload_n 0, 1) := by decide +kernel
theorem dX9_star_26 : decode cX9_star 26 = .ok (.bipush (-4), 2) := by decide +kernel
theorem dX9_star_28 : decode cX9_star 28 = .ok (.invokevirtual 108, 3) := by decide +kernel
theorem dX9_star_31 : decode cX9_star 31 = .ok (.ireturn, 1) := by decide +kernel
theorem dX9_star_32 : decode cX9_star 32 = .ok (.iload_n 2, 1) := by decide +kernel
theorem dX9_star_33 : decode cX9_star 33 = .ok (.sipush 1500, 3) := by decide +kernel
theorem dX9_star_36 : decode cX9_star 36 = .ok (.if_icmp .gt 10, 3) := by decide +kernel
theorem dX9_star_39 : decode cX9_star 39 = .ok (.iload_n 3, 1) := by decide +kernel
theorem dX9_star_40 : decode cX9_star 40 = .ok (.sipush 1500, 3) := by decide +kernel
theorem dX9_star_43 : decode cX9_star 43 = .ok (.if_icmp .le 10, 3) := by decide +kernel
theorem dX9_star_46 : decode cX9_star 46 = .ok (.aload_n 0, 1) := by decide +kernel
theorem dX9_star_47 : decode cX9_star 47 = .ok (.bipush (-6), 2) := by decide +kernel
theorem dX9_star_49 : decode cX9_star 49 = .ok (.invokevirtual 108, 3) := by decide +kernel
theorem dX9_star_52 : decode cX9_star 52 = .ok (.ireturn, 1) := by decide +kernel
theorem dX9_star_53 : decode cX9_star 53 = .ok (.aload_n 0, 1) := by decide +kernel
theorem dX9_star_54 : decode cX9_star 54 = .ok (.iload_n 1, 1) := by decide +kernel
theorem dX9_star_55 : decode cX9_star 55 = .ok (.iload_n 2, 1) := by decide +kernel
theorem dX9_star_56 : decode cX9_star 56 = .ok (.iload_n 3, 1) := by decide +kernel
theorem dX9_star_57 : decode cX9_star 57 = .ok (.invokevirtual 193, 3) := by decide +kernel
theorem dX9_star_60 : decode cX9_star 60 = .ok (.ireturn, 1) := by decide +kernel
theorem dX9_show_0 : decode cX9_show 0 = .ok (.aload_n 0, 1) := by decide +kernel
theorem dX9_show_1 : decode cX9_show 1 = .ok (.getfield 36, 3) := by decide +kernel
theorem dX9_show_4 : decode cX9_show 4 = .ok (.iload_n 1, 1) := by decide +kernel
theorem dX9_show_5 : decode cX9_show 5 = .ok (.invokevirtual 146, 3) := by decide +kernel
theorem dX9_show_8 : decode cX9_show 8 = .ok (.ifCond .ne 9, 3) := by decide +kernel
theorem dX9_show_11 : decode cX9_show 11 = .ok (.aload_n 0, 1) := by decide +kernel
theorem dX9_show_12 : decode cX9_show 12 = .ok (.iconst (-1), 1) := by decide +kernel
theorem dX9_show_13 : decode cX9_show 13 = .ok (.invokevirtual 108, 3) := by decide +kernel
theorem dX9_show_16 : decode cX9_show 16 = .ok (.ireturn, 1) := by decide +kernel
theorem dX9_show_17 : decode cX9_show 17 = .ok (.iload_n 2, 1) := by decide +kernel
theorem dX9_show_18 : decode cX9_show 18 = .ok (.ifCond .ge 10, 3) := by decide +kernel
theorem dX9_show_21 : decode cX9_show 21 = .ok (.aload_n 0, 1) := by decide +kernel
theorem dX9_show_22 : decode cX9_show 22 = .ok (.bipush (-4), 2) := by decide +kernel
theorem dX9_show_24 : decode cX9_show 24 = .ok (.invokevirtual 108, 3) := by decide +kernel
theorem dX9_show_27 : decode cX9_show 27 = .ok (.ireturn, 1) := by decide +kernel
theorem dX9_show_28 : decode cX9_show 28 = .ok (.iload_n 2, 1) := by decide +kernel
theorem dX9_show_29 : decode cX9_show 29 = .ok (.iconst 5, 1) := by decide +kernel
theorem dX9_show_30 : decode cX9_show 30 = .ok (.if_icmp .le 10, 3) := by decide +kernel
theorem dX9_show_33 : decode cX9_show 33 = .ok (.aload_n 0, 1) := by decide +kernel
theorem dX9_show_34 : decode cX9_show 34 = .ok (.bipush (-6), 2) := by decide +kernel
theorem dX9_show_36 : decode cX9_show 36 = .ok (.invokevirtual 108, 3) := by decide +kernel
theorem dX9_show_39 : decode cX9_show 39 = .ok (.ireturn, 1) := by decide +kernel
theorem dX9_show_40 : decode cX9_show 40 = .ok (.aload_n 0, 1) := by decide +kernel
theorem dX9_show_41 : decode cX9_show 41 = .ok (.getfield 36, 3) := by decide +kernel
theorem dX9_show_44 : decode cX9_show 44 = .ok (.iload_n 1, 1) := by decide +kernel
theorem dX9_show_45 : decode cX9_show 45 = .ok (.iload_n 2, 1) := by decide +kernel
theorem dX9_show_46 : decode cX9_show 46 = .ok (.invokevirtual 196, 3) := by decide +kernel
theorem dX9_show_49 : decode cX9_show 49 = .ok (.ireturn, 1) := by decide +kernel
theorem dX9_falses_0 : decode cX9_falses 0 = .ok (.iconst 0, 1) := by decide +kernel
theorem dX9_falses_1 : decode cX9_falses 1 = .ok (.istore_n 1, 1) := by decide +kernel
theorem dX9_falses_2 : decode cX9_falses 2 = .ok (.iconst 0, 1) := by decide +kernel
theorem dX9_falses_3 : decode cX9_falses 3 = .ok (.istore_n 2, 1) := by decide +kernel
theorem dX9_falses_4 : decode cX9_falses 4 = .ok (.iload_n 2, 1) := by decide +kernel
theorem dX9_falses_5 : decode cX9_falses 5 = .ok (.aload_n 0, 1) := by decide +kernel
theorem dX9_falses_6 : decode cX9_falses 6 = .ok (.getfield 36, 3) := by decide +kernel
theorem dX9_falses_9 : decode cX9_falses 9 = .ok (.invokevirtual 199, 3) := by decide +kernel
theorem dX9_falses_12 : decode cX9_falses 12 = .ok (.if_icmp .ge 36, 3) := by decide +kernel
theorem dX9_falses_15 : decode cX9_falses 15 = .ok (.aload_n 0, 1) := by decide +kernel
theorem dX9_falses_16 : decode cX9_falses 16 = .ok (.getfield 36, 3) := by decide +kernel
theorem dX9_falses_19 : decode cX9_falses 19 = .ok (.iload_n 2, 1) := by decide +kernel
theorem dX9_falses_20 : decode cX9_falses 20 = .ok (.invokevirtual 200, 3) := by decide +kernel
theorem dX9_falses_23 : decode cX9_falses 23 = .ok (.aload_n 0, 1) := by decide +kernel
theorem dX9_falses_24 : decode cX9_falses 24 = .ok (.iload_n 2, 1) := by decide +kernel
theorem dX9_falses_25 : decode cX9_falses 25 = .ok (.aload_n 0, 1) := by decide +kernel
theorem dX9_falses_26 : decode cX9_falses 26 = .ok (.getfield 95, 3) := by decide +kernel
theorem dX9_falses_29 : decode cX9_falses 29 = .ok (.aload_n 0, 1) := by decide +kernel
theorem dX9_falses_30 : decode cX9_falses 30 = .ok (.getfield 95, 3) := by decide +kernel
theorem dX9_falses_33 : decode cX9_falses 33 = .ok (.invokevirtual 193, 3) := by decide +kernel
theorem dX9_falses_36 : decode cX9_falses 36 = .ok (.if_icmp .le 6, 3) := by decide +kernel
theorem dX9_falses_39 : decode cX9_falses 39 = .ok (.iinc 1 1, 3) := by decide +kernel
theorem dX9_falses_42 : decode cX9_falses 42 = .ok (.iinc 2 1, 3) := by decide +kernel
theorem dX9_falses_45 : decode cX9_falses 45 = .ok (.goto (-41), 3) := by decide +kernel
theorem dX9_falses_48 : decode cX9_falses 48 = .ok (.iload_n 1, 1) := by decide +kernel
theorem dX9_falses_49 : decode cX9_falses 49 = .ok (.ireturn, 1) := by decide +kernel
theorem dX9_base_0 : decode cX9_base 0 = .ok (.iload_n 1, 1) := by decide +kernel
theorem dX9_base_1 : decode cX9_base 1 = .ok (.iconst 4, 1) := by decide +kernel
theorem dX9_base_2 : decode cX9_base 2 = .ok (.invokestatic 112, 3) := by decide +kernel
theorem dX9_base_5 : decode cX9_base 5 = .ok (.ifCond .ne 10, 3) := by decide +kernel
theorem dX9_base_8 : decode cX9_base 8 = .ok (.aload_n 0, 1) := by decide +kernel
theorem dX9_base_9 : decode cX9_base 9 = .ok (.bipush (-2), 2) := by decide +kernel
theorem dX9_base_11 : decode cX9_base 11 = .ok (.invokevirtual 108, 3) := by decide +kernel
theorem dX9_base_14 : decode cX9_base 14 = .ok (.ireturn, 1) := by decide +kernel
theorem dX9_base_15 : decode cX9_base 15 = .ok (.iload_n 2, 1) := by decide +kernel
theorem dX9_base_16 : decode cX9_base 16 = .ok (.iconst 1, 1) := by decide +kernel
theorem dX9_base_17 : decode cX9_base 17 = .ok (.if_icmp .ge 10, 3) := by decide +kernel
theorem dX9_base_20 : decode cX9_base 20 = .ok (.aload_n 0, 1) := by decide +kernel
theorem dX9_base_21 : decode cX9_base 21 = .ok (.bipush (-4), 2) := by decide +kernel
theorem dX9_base_23 : decode cX9_base 23 = .ok (.invokevirtual 108, 3) := by decide +kernel
theorem dX9_base_26 : decode cX9_base 26 = .ok (.ireturn, 1) := by decide +kernel
theorem dX9_base_27 : decode cX9_base 27 = .ok (.iload_n 2, 1) := by decide +kernel
theorem dX9_base_28 : decode cX9_base 28 = .ok (.bipush 50, 2) := by decide +kernel
theorem dX9_base_30 : decode cX9_base 30 = .ok (.if_icmp .le 10, 3) := by decide +kernel
theorem dX9_base_33 : decode cX9_base 33 = .ok (.aload_n 0, 1) := by decide +kernel
theorem dX9_base_34 : decode cX9_base 34 = .ok (.bipush (-6), 2) := by decide +kernel
theorem dX9_base_36 : decode cX9_base 36 = .ok (.invokevirtual 108, 3) := by decide +kernel
theorem dX9_base_39 : decode cX9_base 39 = .ok (.ireturn, 1) := by decide +kernel
theorem dX9_base_40 : decode cX9_base 40 = .ok (.aload_n 0, 1) := by decide +kernel
theorem dX9_base_41 : decode cX9_base 41 = .ok (.getfield 17, 3) := by decide +kernel
theorem dX9_base_44 : decode cX9_base 44 = .ok (.iload_n 1, 1) := by decide +kernel
theorem dX9_base_45 : decode cX9_base 45 = .ok (.iaload, 1) := by decide +kernel
theorem dX9_base_46 : decode cX9_base 46 = .ok (.istore_n 3, 1) := by decide +kernel
theorem dX9_base_47 : decode cX9_base 47 = .ok (.aload_n 0, 1) := by decide +kernel
theorem dX9_base_48 : decode cX9_base 48 = .ok (.getfield 17, 3) := by decide +kernel
theorem dX9_base_51 : decode cX9_base 51 = .ok (.iload_n 1, 1) := by decide +kernel
theorem dX9_base_52 : decode cX9_base 52 = .ok (.iload_n 2, 1) := by decide +kernel
theorem dX9_base_53 : decode cX9_base 53 = .ok (.iastore, 1) := by decide +kernel
theorem dX9_base_54 : decode cX9_base 54 = .ok (.iload_n 3, 1) := by decide +kernel
theorem dX9_base_55 : decode cX9_base 55 = .ok (.ireturn, 1) := by decide +kernel
theorem dX9_risk_0 : decode cX9_risk 0 = .ok (.aload_n 0, 1) := by decide +kernel
theorem dX9_risk_1 : decode cX9_risk 1 = .ok (.getfield 36, 3) := by decide +kernel
theorem dX9_risk_4 : decode cX9_risk 4 = .ok (.iload_n 1, 1) := by decide +kernel
theorem dX9_risk_5 : decode cX9_risk 5 = .ok (.invokevirtual 146, 3) := by decide +kernel
theorem dX9_risk_8 : decode cX9_risk 8 = .ok (.ifCond .ne 9, 3) := by decide +kernel
theorem dX9_risk_11 : decode cX9_risk 11 = .ok (.aload_n 0, 1) := by decide +kernel
theorem dX9_risk_12 : decode cX9_risk 12 = .ok (.iconst (-1), 1) := by decide +kernel
theorem dX9_risk_13 : decode cX9_risk 13 = .ok (.invokevirtual 108, 3) := by decide +kernel
theorem dX9_risk_16 : decode cX9_risk 16 = .ok (.ireturn, 1) := by decide +kernel
theorem dX9_risk_17 : decode cX9_risk 17 = .ok (.iload_n 2, 1) := by decide +kernel
theorem dX9_risk_18 : decode cX9_risk 18 = .ok (.ifCond .ne 9, 3) := by decide +kernel
theorem dX9_risk_21 : decode cX9_risk 21 = .ok (.aload_n 0, 1) := by decide +kernel
theorem dX9_risk_22 : decode cX9_risk 22 = .ok (.iload_n 1, 1) := by decide +kernel
theorem dX9_risk_23 : decode cX9_risk 23 = .ok (.invokevirtual 203, 3) := by decide +kernel
theorem dX9_risk_26 : decode cX9_risk 26 = .ok (.ireturn, 1) := by decide +kernel
theorem dX9_risk_27 : decode cX9_risk 27 = .ok (.iload_n 2, 1) := by decide +kernel
theorem dX9_risk_28 : decode cX9_risk 28 = .ok (.iconst 1, 1) := by decide +kernel
theorem dX9_risk_29 : decode cX9_risk 29 = .ok (.if_icmp .ne 14, 3) := by decide +kernel
theorem dX9_risk_32 : decode cX9_risk 32 = .ok (.aload_n 0, 1) := by decide +kernel
theorem dX9_risk_33 : decode cX9_risk 33 = .ok (.iload_n 1, 1) := by decide +kernel
theorem dX9_risk_34 : decode cX9_risk 34 = .ok (.aload_n 0, 1) := by decide +kernel
theorem dX9_risk_35 : decode cX9_risk 35 = .ok (.iload_n 1, 1) := by decide +kernel
theorem dX9_risk_36 : decode cX9_risk 36 = .ok (.invokevirtual 203, 3) := by decide +kernel
theorem dX9_risk_39 : decode cX9_risk 39 = .ok (.invokevirtual 206, 3) := by decide +kernel
theorem dX9_risk_42 : decode cX9_risk 42 = .ok (.ireturn, 1) := by decide +kernel
theorem dX9_risk_43 : decode cX9_risk 43 = .ok (.aload_n 0, 1) := by decide +kernel
theorem dX9_risk_44 : decode cX9_risk 44 = .ok (.bipush (-2), 2) := by decide +kernel
theorem dX9_risk_46 : decode cX9_risk 46 = .ok (.invokevirtual 108, 3) := by decide +kernel
theorem dX9_risk_49 : decode cX9_risk 49 = .ok (.ireturn, 1) := by decide +kernel
theorem dX9_delay_0 : decode cX9_delay 0 = .ok (.aload_n 0, 1) := by decide +kernel
theorem dX9_delay_1 : decode cX9_delay 1 = .ok (.getfield 36, 3) := by decide +kernel
theorem dX9_delay_4 : decode cX9_delay 4 = .ok (.iload_n 1, 1) := by decide +kernel
theorem dX9_delay_5 : decode cX9_delay 5 = .ok (.invokevirtual 146, 3) := by decide +kernel
theorem dX9_delay_8 : decode cX9_delay 8 = .ok (.ifCond .ne 9, 3) := by decide +kernel
theorem dX9_delay_11 : decode cX9_delay 11 = .ok (.aload_n 0, 1) := by decide +kernel
theorem dX9_delay_12 : decode cX9_delay 12 = .ok (.iconst (-1), 1) := by decide +kernel
theorem dX9_delay_13 : decode cX9_delay 13 = .ok (.invokevirtual 108, 3) := by decide +kernel
theorem dX9_delay_16 : decode cX9_delay 16 = .ok (.ireturn, 1) := by decide +kernel
theorem dX9_delay_17 : decode cX9_delay 17 = .ok (.iload_n 2, 1) := by decide +kernel
theorem dX9_delay_18 : decode cX9_delay 18 = .ok (.ifCond .ge 10, 3) := by decide +kernel
theorem dX9_delay_21 : decode cX9_delay 21 = .ok (.aload_n 0, 1) := by decide +kernel
theorem dX9_delay_22 : decode cX9_delay 22 = .ok (.bipush (-4), 2) := by decide +kernel
theorem dX9_delay_24 : decode cX9_delay 24 = .ok (.invokevirtual 108, 3) := by decide +kernel
theorem dX9_delay_27 : decode cX9_delay 27 = .ok (.ireturn, 1) := by decide +kernel
theorem dX9_delay_28 : decode cX9_delay 28 = .ok (.iload_n 2, 1) := by decide +kernel
theorem dX9_delay_29 : decode cX9_delay 29 = .ok (.sipush 1500, 3) := by decide +kernel
theorem dX9_delay_32 : decode cX9_delay 32 = .ok (.if_icmp .le 10, 3) := by decide +kernel
theorem dX9_delay_35 : decode cX9_delay 35 = .ok (.aload_n 0, 1) := by decide +kernel
theorem dX9_delay_36 : decode cX9_delay 36 = .ok (.bipush (-6), 2) := by decide +kernel
theorem dX9_delay_38 : decode cX9_delay 38 = .ok (.invokevirtual 108, 3) := by decide +kernel
theorem dX9_delay_41 : decode cX9_delay 41 = .ok (.ireturn, 1) := by decide +kernel
theorem dX9_delay_42 : decode cX9_delay 42 = .ok (.aload_n 0, 1) := by decide +kernel
theorem dX9_delay_43 : decode cX9_delay 43 = .ok (.iload_n 1, 1) := by decide +kernel
theorem dX9_delay_44 : decode cX9_delay 44 = .ok (.invokevirtual 203, 3) := by decide +kernel
theorem dX9_delay_47 : decode cX9_delay 47 = .ok (.istore_n 3, 1) := by decide +kernel
theorem dX9_delay_48 : decode cX9_delay 48 = .ok (.iload_n 3, 1) := by decide +kernel
theorem dX9_delay_49 : decode cX9_delay 49 = .ok (.aload_n 0, 1) := by decide +kernel
theorem dX9_delay_50 : decode cX9_delay 50 = .ok (.iload_n 1, 1) := by decide +kernel
theorem dX9_delay_51 : decode cX9_delay 51 = .ok (.iload_n 3, 1) := by decide +kernel
theorem dX9_delay_52 : decode cX9_delay 52 = .ok (.invokevirtual 206, 3) := by decide +kernel
theorem dX9_delay_55 : decode cX9_delay 55 = .ok (.iload_n 2, 1) := by decide +kernel
theorem dX9_delay_56 : decode cX9_delay 56 = .ok (.invokestatic 209, 3) := by decide +kernel
theorem dX9_delay_59 : decode cX9_delay 59 = .ok (.ireturn, 1) := by decide +kernel
theorem dX9_capacity_0 : decode cX9_capacity 0 = .ok (.iload_n 1, 1) := by decide +kernel
theorem dX9_capacity_1 : decode cX9_capacity 1 = .ok (.iconst 1, 1) := by decide +kernel
theorem dX9_capacity_2 : decode cX9_capacity 2 = .ok (.if_icmp .ge 10, 3) := by decide +kernel
theorem dX9_capacity_5 : decode cX9_capacity 5 = .ok (.aload_n 0, 1) := by decide +kernel
theorem dX9_capacity_6 : decode cX9_capacity 6 = .ok (.bipush (-4), 2) := by decide +kernel
theorem dX9_capacity_8 : decode cX9_capacity 8 = .ok (.invokevirtual 108, 3) := by decide +kernel
theorem dX9_capacity_11 : decode cX9_capacity 11 = .ok (.ireturn, 1) := by decide +kernel
theorem dX9_capacity_12 : decode cX9_capacity 12 = .ok (.iload_n 1, 1) := by decide +kernel
theorem dX9_capacity_13 : decode cX9_capacity 13 = .ok (.bipush 9, 2) := by decide +kernel
theorem dX9_capacity_15 : decode cX9_capacity 15 = .ok (.if_icmp .le 10, 3) := by decide +kernel
theorem dX9_capacity_18 : decode cX9_capacity 18 = .ok (.aload_n 0, 1) := by decide +kernel
theorem dX9_capacity_19 : decode cX9_capacity 19 = .ok (.bipush (-6), 2) := by decide +kernel
theorem dX9_capacity_21 : decode cX9_capacity 21 = .ok (.invokevirtual 108, 3) := by decide +kernel
theorem dX9_capacity_24 : decode cX9_capacity 24 = .ok (.ireturn, 1) := by decide +kernel
theorem dX9_capacity_25 : decode cX9_capacity 25 = .ok (.aload_n 0, 1) := by decide +kernel
theorem dX9_capacity_26 : decode cX9_capacity 26 = .ok (.getfield 99, 3) := by decide +kernel
theorem dX9_capacity_29 : decode cX9_capacity 29 = .ok (.istore_n 2, 1) := by decide +kernel
theorem dX9_capacity_30 : decode cX9_capacity 30 = .ok (.aload_n 0, 1) := by decide +kernel
theorem dX9_capacity_31 : decode cX9_capacity 31 = .ok (.iload_n 1, 1) := by decide +kernel
theorem dX9_capacity_32 : decode cX9_capacity 32 = .ok (.putfield 99, 3) := by decide +kernel
theorem dX9_capacity_35 : decode cX9_capacity 35 = .ok (.iload_n 2, 1) := by decide +kernel
theorem dX9_capacity_36 : decode cX9_capacity 36 = .ok (.ireturn, 1) := by decide +kernel
theorem dX9_rounds_0 : decode cX9_rounds 0 = .ok (.iload_n 1, 1) := by decide +kernel
theorem dX9_rounds_1 : decode cX9_rounds 1 = .ok (.iconst 1, 1) := by decide +kernel
theorem dX9_rounds_2 : decode cX9_rounds 2 = .ok (.if_icmp .ge 10, 3) := by decide +kernel
theorem dX9_rounds_5 : decode cX9_rounds 5 = .ok (.aload_n 0, 1) := by decide +kernel
theorem dX9_rounds_6 : decode cX9_rounds 6 = .ok (.bipush (-4), 2) := by decide +kernel
theorem dX9_rounds_8 : decode cX9_rounds 8 = .ok (.invokevirtual 108, 3) := by decide +kernel
theorem dX9_rounds_11 : decode cX9_rounds 11 = .ok (.ireturn, 1) := by decide +kernel
theorem dX9_rounds_12 : decode cX9_rounds 12 = .ok (.iload_n 1, 1) := by decide +kernel
theorem dX9_rounds_13 : decode cX9_rounds 13 = .ok (.iconst 3, 1) := by decide +kernel
theorem dX9_rounds_14 : decode cX9_rounds 14 = .ok (.if_icmp .gt 16, 3) := by decide +kernel
theorem dX9_rounds_17 : decode cX9_rounds 17 = .ok (.aload_n 0, 1) := by decide +kernel
theorem dX9_rounds_18 : decode cX9_rounds 18 = .ok (.getfield 95, 3) := by decide +kernel
theorem dX9_rounds_21 : decode cX9_rounds 21 = .ok (.bipush 7, 2) := by decide +kernel
theorem dX9_rounds_23 : decode cX9_rounds 23 = .ok (.iadd, 1) := by decide +kernel
theorem dX9_rounds_24 : decode cX9_rounds 24 = .ok (.sipush 1500, 3) := by decide +kernel
theorem dX9_rounds_27 : decode cX9_rounds 27 = .ok (.if_icmp .le 10, 3) := by decide +kernel
theorem dX9_rounds_30 : decode cX9_rounds 30 = .ok (.aload_n 0, 1) := by decide +kernel
theorem dX9_rounds_31 : decode cX9_rounds 31 = .ok (.bipush (-6), 2) := by decide +kernel
theorem dX9_rounds_33 : decode cX9_rounds 33 = .ok (.invokevirtual 108, 3) := by decide +kernel
theorem dX9_rounds_36 : decode cX9_rounds 36 = .ok (.ireturn, 1) := by decide +kernel
theorem dX9_rounds_37 : decode cX9_rounds 37 = .ok (.aload_n 0, 1) := by decide +kernel
theorem dX9_rounds_38 : decode cX9_rounds 38 = .ok (.iload_n 1, 1) := by decide +kernel
theorem dX9_rounds_39 : decode cX9_rounds 39 = .ok (.invokevirtual 212, 3) := by decide +kernel
theorem dX9_rounds_42 : decode cX9_rounds 42 = .ok (.ireturn, 1) := by decide +kernel
theorem dX9_roundOf_0 : decode cX9_roundOf 0 = .ok (.aload_n 0, 1) := by decide +kernel
theorem dX9_roundOf_1 : decode cX9_roundOf 1 = .ok (.getfield 36, 3) := by decide +kernel
theorem dX9_roundOf_4 : decode cX9_roundOf 4 = .ok (.iload_n 2, 1) := by decide +kernel
theorem dX9_roundOf_5 : decode cX9_roundOf 5 = .ok (.invokevirtual 146, 3) := by decide +kernel
theorem dX9_roundOf_8 : decode cX9_roundOf 8 = .ok (.ifCond .ne 9, 3) := by decide +kernel
theorem dX9_roundOf_11 : decode cX9_roundOf 11 = .ok (.aload_n 0, 1) := by decide +kernel
theorem dX9_roundOf_12 : decode cX9_roundOf 12 = .ok (.iconst (-1), 1) := by decide +kernel
theorem dX9_roundOf_13 : decode cX9_roundOf 13 = .ok (.invokevirtual 108, 3) := by decide +kernel
theorem dX9_roundOf_16 : decode cX9_roundOf 16 = .ok (.ireturn, 1) := by decide +kernel
theorem dX9_roundOf_17 : decode cX9_roundOf 17 = .ok (.iload_n 3, 1) := by decide +kernel
theorem dX9_roundOf_18 : decode cX9_roundOf 18 = .ok (.ifCond .lt 8, 3) := by decide +kernel
theorem dX9_roundOf_21 : decode cX9_roundOf 21 = .ok (.iload_n 3, 1) := by decide +kernel
theorem dX9_roundOf_22 : decode cX9_roundOf 22 = .ok (.iconst 1, 1) := by decide +kernel
theorem dX9_roundOf_23 : decode cX9_roundOf 23 = .ok (.if_icmp .le 10, 3) := by decide +kernel
theorem dX9_roundOf_26 : decode cX9_roundOf 26 = .ok (.aload_n 0, 1) := by decide +kernel
theorem dX9_roundOf_27 : decode cX9_roundOf 27 = .ok (.bipush (-2), 2) := by decide +kernel
theorem dX9_roundOf_29 : decode cX9_roundOf 29 = .ok (.invokevirtual 108, 3) := by decide +kernel
theorem dX9_roundOf_32 : decode cX9_roundOf 32 = .ok (.ireturn, 1) := by decide +kernel
theorem dX9_roundOf_33 : decode cX9_roundOf 33 = .ok (.iload_n 1, 1) := by decide +kernel
theorem dX9_roundOf_34 : decode cX9_roundOf 34 = .ok (.iconst 1, 1) := by decide +kernel
theorem dX9_roundOf_35 : decode cX9_roundOf 35 = .ok (.if_icmp .ge 10, 3) := by decide +kernel
theorem dX9_roundOf_38 : decode cX9_roundOf 38 = .ok (.aload_n 0, 1) := by decide +kernel
theorem dX9_roundOf_39 : decode cX9_roundOf 39 = .ok (.bipush (-4), 2) := by decide +kernel
theorem dX9_roundOf_41 : decode cX9_roundOf 41 = .ok (.invokevirtual 108, 3) := by decide +kernel
theorem dX9_roundOf_44 : decode cX9_roundOf 44 = .ok (.ireturn, 1) := by decide +kernel
theorem dX9_roundOf_45 : decode cX9_roundOf 45 = .ok (.iload_n 1, 1) := by decide +kernel
theorem dX9_roundOf_46 : decode cX9_roundOf 46 = .ok (.iconst 3, 1) := by decide +kernel
theorem dX9_roundOf_47 : decode cX9_roundOf 47 = .ok (.if_icmp .gt 16, 3) := by decide +kernel
theorem dX9_roundOf_50 : decode cX9_roundOf 50 = .ok (.aload_n 0, 1) := by decide +kernel
theorem dX9_roundOf_51 : decode cX9_roundOf 51 = .ok (.getfield 95, 3) := by decide +kernel
theorem dX9_roundOf_54 : decode cX9_roundOf 54 = .ok (.bipush 7, 2) := by decide +kernel
theorem dX9_roundOf_56 : decode cX9_roundOf 56 = .ok (.iadd, 1) := by decide +kernel
theorem dX9_roundOf_57 : decode cX9_roundOf 57 = .ok (.sipush 1500, 3) := by decide +kernel
theorem dX9_roundOf_60 : decode cX9_roundOf 60 = .ok (.if_icmp .le 10, 3) := by decide +kernel
theorem dX9_roundOf_63 : decode cX9_roundOf 63 = .ok (.aload_n 0, 1) := by decide +kernel
theorem dX9_roundOf_64 : decode cX9_roundOf 64 = .ok (.bipush (-6), 2) := by decide +kernel
theorem dX9_roundOf_66 : decode cX9_roundOf 66 = .ok (.invokevirtual 108, 3) := by decide +kernel
theorem dX9_roundOf_69 : decode cX9_roundOf 69 = .ok (.ireturn, 1) := by decide +kernel
theorem dX9_roundOf_70 : decode cX9_roundOf 70 = .ok (.aload_n 0, 1) := by decide +kernel
theorem dX9_roundOf_71 : decode cX9_roundOf 71 = .ok (.iload_n 1, 1) := by decide +kernel
theorem dX9_roundOf_72 : decode cX9_roundOf 72 = .ok (.invokevirtual 212, 3) := by decide +kernel
theorem dX9_roundOf_75 : decode cX9_roundOf 75 = .ok (.pop, 1) := by decide +kernel
theorem dX9_roundOf_76 : decode cX9_roundOf 76 = .ok (.iload_n 3, 1) := by decide +kernel
theorem dX9_roundOf_77 : decode cX9_roundOf 77 = .ok (.iconst 1, 1) := by decide +kernel
theorem dX9_roundOf_78 : decode cX9_roundOf 78 = .ok (.if_icmp .ne 12, 3) := by decide +kernel
theorem dX9_roundOf_81 : decode cX9_roundOf 81 = .ok (.aload_n 0, 1) := by decide +kernel
theorem dX9_roundOf_82 : decode cX9_roundOf 82 = .ok (.getfield 59, 3) := by decide +kernel
theorem dX9_roundOf_85 : decode cX9_roundOf 85 = .ok (.iload_n 2, 1) := by decide +kernel
theorem dX9_roundOf_86 : decode cX9_roundOf 86 = .ok (.invokevirtual 215, 3) := by decide +kernel
theorem dX9_roundOf_89 : decode cX9_roundOf 89 = .ok (.ireturn, 1) := by decide +kernel
theorem dX9_roundOf_90 : decode cX9_roundOf 90 = .ok (.aload_n 0, 1) := by decide +kernel
theorem dX9_roundOf_91 : decode cX9_roundOf 91 = .ok (.getfield 59, 3) := by decide +kernel
theorem dX9_roundOf_94 : decode cX9_roundOf 94 = .ok (.iload_n 2, 1) := by decide +kernel
theorem dX9_roundOf_95 : decode cX9_roundOf 95 = .ok (.invokevirtual 218, 3) := by decide +kernel
theorem dX9_roundOf_98 : decode cX9_roundOf 98 = .ok (.istore 4, 2) := by decide +kernel
theorem dX9_roundOf_100 : decode cX9_roundOf 100 = .ok (.iload 4, 2) := by decide +kernel
theorem dX9_roundOf_102 : decode cX9_roundOf 102 = .ok (.iconst 5, 1) := by decide +kernel
theorem dX9_roundOf_103 : decode cX9_roundOf 103 = .ok (.if_icmp .ge 13, 3) := by decide +kernel
theorem dX9_roundOf_106 : decode cX9_roundOf 106 = .ok (.aload_n 0, 1) := by decide +kernel
theorem dX9_roundOf_107 : decode cX9_roundOf 107 = .ok (.getfield 95, 3) := by decide +kernel
theorem dX9_roundOf_110 : decode cX9_roundOf 110 = .ok (.iload 4, 2) := by decide +kernel
theorem dX9_roundOf_112 : decode cX9_roundOf 112 = .ok (.iadd, 1) := by decide +kernel
theorem dX9_roundOf_113 : decode cX9_roundOf 113 = .ok (.goto 5, 3) := by decide +kernel
theorem dX9_roundOf_116 : decode cX9_roundOf 116 = .ok (.bipush (-9), 2) := by decide +kernel
theorem dX9_roundOf_118 : decode cX9_roundOf 118 = .ok (.ireturn, 1) := by decide +kernel
theorem dX9_doubles_0 : decode cX9_doubles 0 = .ok (.aload_n 0, 1) := by decide +kernel
theorem dX9_doubles_1 : decode cX9_doubles 1 = .ok (.getfield 68, 3) := by decide +kernel
theorem dX9_doubles_4 : decode cX9_doubles 4 = .ok (.invokevirtual 221, 3) := by decide +kernel
theorem dX9_doubles_7 : decode cX9_doubles 7 = .ok (.ireturn, 1) := by decide +kernel
theorem dX9_habit_0 : decode cX9_habit 0 = .ok (.iload_n 1, 1) := by decide +kernel
theorem dX9_habit_1 : decode cX9_habit 1 = .ok (.iconst 5, 1) := by decide +kernel
theorem dX9_habit_2 : decode cX9_habit 2 = .ok (.invokestatic 112, 3) := by decide +kernel
theorem dX9_habit_5 : decode cX9_habit 5 = .ok (.ifCond .ne 9, 3) := by decide +kernel
theorem dX9_habit_8 : decode cX9_habit 8 = .ok (.aload_n 0, 1) := by decide +kernel
theorem dX9_habit_9 : decode cX9_habit 9 = .ok (.iconst (-1), 1) := by decide +kernel
theorem dX9_habit_10 : decode cX9_habit 10 = .ok (.invokevirtual 224, 3) := by decide +kernel
theorem dX9_habit_13 : decode cX9_habit 13 = .ok (.lreturn, 1) := by decide +kernel
theorem dX9_habit_14 : decode cX9_habit 14 = .ok (.iload_n 2, 1) := by decide +kernel
theorem dX9_habit_15 : decode cX9_habit 15 = .ok (.ifCond .lt 8, 3) := by decide +kernel
theorem dX9_habit_18 : decode cX9_habit 18 = .ok (.iload_n 2, 1) := by decide +kernel
theorem dX9_habit_19 : decode cX9_habit 19 = .ok (.iconst 1, 1) := by decide +kernel
theorem dX9_habit_20 : decode cX9_habit 20 = .ok (.if_icmp .le 10, 3) := by decide +kernel
theorem dX9_habit_23 : decode cX9_habit 23 = .ok (.aload_n 0, 1) := by decide +kernel
theorem dX9_habit_24 : decode cX9_habit 24 = .ok (.bipush (-2), 2) := by decide +kernel
theorem dX9_habit_26 : decode cX9_habit 26 = .ok (.invokevirtual 224, 3) := by decide +kernel
theorem dX9_habit_29 : decode cX9_habit 29 = .ok (.lreturn, 1) := by decide +kernel
theorem dX9_habit_30 : decode cX9_habit 30 = .ok (.aload_n 0, 1) := by decide +kernel
theorem dX9_habit_31 : decode cX9_habit 31 = .ok (.getfield 68, 3) := by decide +kernel
theorem dX9_habit_34 : decode cX9_habit 34 = .ok (.invokevirtual 228, 3) := by decide +kernel
theorem dX9_habit_37 : decode cX9_habit 37 = .ok (.aload_n 0, 1) := by decide +kernel
theorem dX9_habit_38 : decode cX9_habit 38 = .ok (.getfield 68, 3) := by decide +kernel
theorem dX9_habit_41 : decode cX9_habit 41 = .ok (.iload_n 1, 1) := by decide +kernel
theorem dX9_habit_42 : decode cX9_habit 42 = .ok (.invokevirtual 231, 3) := by decide +kernel
theorem dX9_habit_45 : decode cX9_habit 45 = .ok (.ifCond .ne 10, 3) := by decide +kernel
theorem dX9_habit_48 : decode cX9_habit 48 = .ok (.aload_n 0, 1) := by decide +kernel
theorem dX9_habit_49 : decode cX9_habit 49 = .ok (.bipush (-3), 2) := by decide +kernel
theorem dX9_habit_51 : decode cX9_habit 51 = .ok (.invokevirtual 224, 3) := by decide +kernel
theorem dX9_habit_54 : decode cX9_habit 54 = .ok (.lreturn, 1) := by decide +kernel
theorem dX9_habit_55 : decode cX9_habit 55 = .ok (.aload_n 0, 1) := by decide +kernel
theorem dX9_habit_56 : decode cX9_habit 56 = .ok (.getfield 68, 3) := by decide +kernel
theorem dX9_habit_59 : decode cX9_habit 59 = .ok (.iload_n 1, 1) := by decide +kernel
theorem dX9_habit_60 : decode cX9_habit 60 = .ok (.invokevirtual 234, 3) := by decide +kernel
theorem dX9_habit_63 : decode cX9_habit 63 = .ok (.iload_n 2, 1) := by decide +kernel
theorem dX9_habit_64 : decode cX9_habit 64 = .ok (.invokevirtual 238, 3) := by decide +kernel
theorem dX9_habit_67 : decode cX9_habit 67 = .ok (.lreturn, 1) := by decide +kernel
theorem dX9_evened_0 : decode cX9_evened 0 = .ok (.aload_n 0, 1) := by decide +kernel
theorem dX9_evened_1 : decode cX9_evened 1 = .ok (.getfield 45, 3) := by decide +kernel
theorem dX9_evened_4 : decode cX9_evened 4 = .ok (.iload_n 1, 1) := by decide +kernel
theorem dX9_evened_5 : decode cX9_evened 5 = .ok (.invokevirtual 168, 3) := by decide +kernel
theorem dX9_evened_8 : decode cX9_evened 8 = .ok (.ifCond .ne 9, 3) := by decide +kernel
theorem dX9_evened_11 : decode cX9_evened 11 = .ok (.aload_n 0, 1) := by decide +kernel
theorem dX9_evened_12 : decode cX9_evened 12 = .ok (.iconst (-1), 1) := by decide +kernel
theorem dX9_evened_13 : decode cX9_evened 13 = .ok (.invokevirtual 224, 3) := by decide +kernel
theorem dX9_evened_16 : decode cX9_evened 16 = .ok (.lreturn, 1) := by decide +kernel
theorem dX9_evened_17 : decode cX9_evened 17 = .ok (.iload_n 2, 1) := by decide +kernel
theorem dX9_evened_18 : decode cX9_evened 18 = .ok (.ifCond .lt 8, 3) := by decide +kernel
theorem dX9_evened_21 : decode cX9_evened 21 = .ok (.iload_n 2, 1) := by decide +kernel
theorem dX9_evened_22 : decode cX9_evened 22 = .ok (.iconst 1, 1) := by decide +kernel
theorem dX9_evened_23 : decode cX9_evened 23 = .ok (.if_icmp .le 10, 3) := by decide +kernel
theorem dX9_evened_26 : decode cX9_evened 26 = .ok (.aload_n 0, 1) := by decide +kernel
theorem dX9_evened_27 : decode cX9_evened 27 = .ok (.bipush (-2), 2) := by decide +kernel
theorem dX9_evened_29 : decode cX9_evened 29 = .ok (.invokevirtual 224, 3) := by decide +kernel
theorem dX9_evened_32 : decode cX9_evened 32 = .ok (.lreturn, 1) := by decide +kernel
theorem dX9_evened_33 : decode cX9_evened 33 = .ok (.aload_n 0, 1) := by decide +kernel
theorem dX9_evened_34 : decode cX9_evened 34 = .ok (.getfield 68, 3) := by decide +kernel
theorem dX9_evened_37 : decode cX9_evened 37 = .ok (.invokevirtual 228, 3) := by decide +kernel
theorem dX9_evened_40 : decode cX9_evened 40 = .ok (.aload_n 0, 1) := by decide +kernel
theorem dX9_evened_41 : decode cX9_evened 41 = .ok (.iload_n 1, 1) := by decide +kernel
theorem dX9_evened_42 : decode cX9_evened 42 = .ok (.invokevirtual 241, 3) := by decide +kernel
theorem dX9_evened_45 : decode cX9_evened 45 = .ok (.aload_n 0, 1) := by decide +kernel
theorem dX9_evened_46 : decode cX9_evened 46 = .ok (.getfield 91, 3) := by decide +kernel
theorem dX9_evened_49 : decode cX9_evened 49 = .ok (.iload_n 2, 1) := by decide +kernel
theorem dX9_evened_50 : decode cX9_evened 50 = .ok (.invokevirtual 238, 3) := by decide +kernel
theorem dX9_evened_53 : decode cX9_evened 53 = .ok (.lreturn, 1) := by decide +kernel
theorem dX9_others_0 : decode cX9_others 0 = .ok (.aload_n 0, 1) := by decide +kernel
theorem dX9_others_1 : decode cX9_others 1 = .ok (.getfield 68, 3) := by decide +kernel
theorem dX9_others_4 : decode cX9_others 4 = .ok (.invokevirtual 228, 3) := by decide +kernel
theorem dX9_others_7 : decode cX9_others 7 = .ok (.iconst 0, 1) := by decide +kernel
theorem dX9_others_8 : decode cX9_others 8 = .ok (.istore_n 1, 1) := by decide +kernel
theorem dX9_others_9 : decode cX9_others 9 = .ok (.iconst 0, 1) := by decide +kernel
theorem dX9_others_10 : decode cX9_others 10 = .ok (.istore_n 2, 1) := by decide +kernel
theorem dX9_others_11 : decode cX9_others 11 = .ok (.iload_n 2, 1) := by decide +kernel
theorem dX9_others_12 : decode cX9_others 12 = .ok (.aload_n 0, 1) := by decide +kernel
theorem dX9_others_13 : decode cX9_others 13 = .ok (.getfield 36, 3) := by decide +kernel
theorem dX9_others_16 : decode cX9_others 16 = .ok (.invokevirtual 199, 3) := by decide +kernel
theorem dX9_others_19 : decode cX9_others 19 = .ok (.if_icmp .ge 41, 3) := by decide +kernel
theorem dX9_others_22 : decode cX9_others 22 = .ok (.aload_n 0, 1) := by decide +kernel
theorem dX9_others_23 : decode cX9_others 23 = .ok (.getfield 45, 3) := by decide +kernel
theorem dX9_others_26 : decode cX9_others 26 = .ok (.iload_n 2, 1) := by decide +kernel
theorem dX9_others_27 : decode cX9_others 27 = .ok (.aload_n 0, 1) := by decide +kernel
theorem dX9_others_28 : decode cX9_others 28 = .ok (.getfield 95, 3) := by decide +kernel
theorem dX9_others_31 : decode cX9_others 31 = .ok (.aload_n 0, 1) := by decide +kernel
theorem dX9_others_32 : decode cX9_others 32 = .ok (.getfield 95, 3) := by decide +kernel
theorem dX9_others_35 : decode cX9_others 35 = .ok (.invokevirtual 245, 3) := by decide +kernel
theorem dX9_others_38 : decode cX9_others 38 = .ok (.istore_n 3, 1) := by decide +kernel
theorem dX9_others_39 : decode cX9_others 39 = .ok (.iload_n 3, 1) := by decide +kernel
theorem dX9_others_40 : decode cX9_others 40 = .ok (.ifCond .lt 14, 3) := by decide +kernel
theorem dX9_others_43 : decode cX9_others 43 = .ok (.aload_n 0, 1) := by decide +kernel
theorem dX9_others_44 : decode cX9_others 44 = .ok (.iload_n 3, 1) := by decide +kernel
theorem dX9_others_45 : decode cX9_others 45 = .ok (.invokevirtual 248, 3) := by decide +kernel
theorem dX9_others_48 : decode cX9_others 48 = .ok (.ifCond .eq 6, 3) := by decide +kernel
theorem dX9_others_51 : decode cX9_others 51 = .ok (.iinc 1 1, 3) := by decide +kernel
theorem dX9_others_54 : decode cX9_others 54 = .ok (.iinc 2 1, 3) := by decide +kernel
theorem dX9_others_57 : decode cX9_others 57 = .ok (.goto (-46), 3) := by decide +kernel
theorem dX9_others_60 : decode cX9_others 60 = .ok (.iload_n 1, 1) := by decide +kernel
theorem dX9_others_61 : decode cX9_others 61 = .ok (.ireturn, 1) := by decide +kernel
theorem dX9_swap_0 : decode cX9_swap 0 = .ok (.iload_n 1, 1) := by decide +kernel
theorem dX9_swap_1 : decode cX9_swap 1 = .ok (.ifCond .lt 8, 3) := by decide +kernel
theorem dX9_swap_4 : decode cX9_swap 4 = .ok (.iload_n 2, 1) := by decide +kernel
theorem dX9_swap_5 : decode cX9_swap 5 = .ok (.iconst 2, 1) := by decide +kernel
theorem dX9_swap_6 : decode cX9_swap 6 = .ok (.if_icmp .ge 10, 3) := by decide +kernel
theorem dX9_swap_9 : decode cX9_swap 9 = .ok (.aload_n 0, 1) := by decide +kernel
theorem dX9_swap_10 : decode cX9_swap 10 = .ok (.bipush (-4), 2) := by decide +kernel
theorem dX9_swap_12 : decode cX9_swap 12 = .ok (.invokevirtual 108, 3) := by decide +kernel
theorem dX9_swap_15 : decode cX9_swap 15 = .ok (.ireturn, 1) := by decide +kernel
theorem dX9_swap_16 : decode cX9_swap 16 = .ok (.iload_n 1, 1) := by decide +kernel
theorem dX9_swap_17 : decode cX9_swap 17 = .ok (.sipush 9999, 3) := by decide +kernel
theorem dX9_swap_20 : decode cX9_swap 20 = .ok (.if_icmp .gt 8, 3) := by decide +kernel
theorem dX9_swap_23 : decode cX9_swap 23 = .ok (.iload_n 2, 1) := by decide +kernel
theorem dX9_swap_24 : decode cX9_swap 24 = .ok (.iconst 5, 1) := by decide +kernel
theorem dX9_swap_25 : decode cX9_swap 25 = .ok (.if_icmp .le 10, 3) := by decide +kernel
theorem dX9_swap_28 : decode cX9_swap 28 = .ok (.aload_n 0, 1) := by decide +kernel
theorem dX9_swap_29 : decode cX9_swap 29 = .ok (.bipush (-6), 2) := by decide +kernel
theorem dX9_swap_31 : decode cX9_swap 31 = .ok (.invokevirtual 108, 3) := by decide +kernel
theorem dX9_swap_34 : decode cX9_swap 34 = .ok (.ireturn, 1) := by decide +kernel
theorem dX9_swap_35 : decode cX9_swap 35 = .ok (.iload_n 3, 1) := by decide +kernel
theorem dX9_swap_36 : decode cX9_swap 36 = .ok (.iload_n 2, 1) := by decide +kernel
theorem dX9_swap_37 : decode cX9_swap 37 = .ok (.invokestatic 112, 3) := by decide +kernel
theorem dX9_swap_40 : decode cX9_swap 40 = .ok (.ifCond .ne 9, 3) := by decide +kernel
theorem dX9_swap_43 : decode cX9_swap 43 = .ok (.aload_n 0, 1) := by decide +kernel
theorem dX9_swap_44 : decode cX9_swap 44 = .ok (.iconst (-1), 1) := by decide +kernel
theorem dX9_swap_45 : decode cX9_swap 45 = .ok (.invokevirtual 108, 3) := by decide +kernel
theorem dX9_swap_48 : decode cX9_swap 48 = .ok (.ireturn, 1) := by decide +kernel
theorem dX9_swap_49 : decode cX9_swap 49 = .ok (.aload_n 0, 1) := by decide +kernel
theorem dX9_swap_50 : decode cX9_swap 50 = .ok (.iload_n 1, 1) := by decide +kernel
theorem dX9_swap_51 : decode cX9_swap 51 = .ok (.iload_n 2, 1) := by decide +kernel
theorem dX9_swap_52 : decode cX9_swap 52 = .ok (.invokevirtual 251, 3) := by decide +kernel
theorem dX9_swap_55 : decode cX9_swap 55 = .ok (.aload_n 0, 1) := by decide +kernel
theorem dX9_swap_56 : decode cX9_swap 56 = .ok (.getfield 23, 3) := by decide +kernel
theorem dX9_swap_59 : decode cX9_swap 59 = .ok (.iload_n 3, 1) := by decide +kernel
theorem dX9_swap_60 : decode cX9_swap 60 = .ok (.iaload, 1) := by decide +kernel
theorem dX9_swap_61 : decode cX9_swap 61 = .ok (.ireturn, 1) := by decide +kernel
theorem dX9_shut_0 : decode cX9_shut 0 = .ok (.aload_n 0, 1) := by decide +kernel
theorem dX9_shut_1 : decode cX9_shut 1 = .ok (.getfield 36, 3) := by decide +kernel
theorem dX9_shut_4 : decode cX9_shut 4 = .ok (.iload_n 1, 1) := by decide +kernel
theorem dX9_shut_5 : decode cX9_shut 5 = .ok (.invokevirtual 146, 3) := by decide +kernel
theorem dX9_shut_8 : decode cX9_shut 8 = .ok (.ifCond .ne 9, 3) := by decide +kernel
theorem dX9_shut_11 : decode cX9_shut 11 = .ok (.aload_n 0, 1) := by decide +kernel
theorem dX9_shut_12 : decode cX9_shut 12 = .ok (.iconst (-1), 1) := by decide +kernel
theorem dX9_shut_13 : decode cX9_shut 13 = .ok (.invokevirtual 108, 3) := by decide +kernel
theorem dX9_shut_16 : decode cX9_shut 16 = .ok (.ireturn, 1) := by decide +kernel
theorem dX9_shut_17 : decode cX9_shut 17 = .ok (.iload_n 2, 1) := by decide +kernel
theorem dX9_shut_18 : decode cX9_shut 18 = .ok (.ifCond .lt 8, 3) := by decide +kernel
theorem dX9_shut_21 : decode cX9_shut 21 = .ok (.iload_n 3, 1) := by decide +kernel
theorem dX9_shut_22 : decode cX9_shut 22 = .ok (.iload_n 2, 1) := by decide +kernel
theorem dX9_shut_23 : decode cX9_shut 23 = .ok (.if_icmp .ge 10, 3) := by decide +kernel
theorem dX9_shut_26 : decode cX9_shut 26 = .ok (.aload_n 0, 1) := by decide +kernel
theorem dX9_shut_27 : decode cX9_shut 27 = .ok (.bipush (-4), 2) := by decide +kernel
theorem dX9_shut_29 : decode cX9_shut 29 = .ok (.invokevirtual 108, 3) := by decide +kernel
theorem dX9_shut_32 : decode cX9_shut 32 = .ok (.ireturn, 1) := by decide +kernel
theorem dX9_shut_33 : decode cX9_shut 33 = .ok (.iload_n 3, 1) := by decide +kernel
theorem dX9_shut_34 : decode cX9_shut 34 = .ok (.sipush 1500, 3) := by decide +kernel
theorem dX9_shut_37 : decode cX9_shut 37 = .ok (.if_icmp .gt 16, 3) := by decide +kernel
theorem dX9_shut_40 : decode cX9_shut 40 = .ok (.aload_n 0, 1) := by decide +kernel
theorem dX9_shut_41 : decode cX9_shut 41 = .ok (.getfield 36, 3) := by decide +kernel
theorem dX9_shut_44 : decode cX9_shut 44 = .ok (.iload_n 1, 1) := by decide +kernel
theorem dX9_shut_45 : decode cX9_shut 45 = .ok (.invokevirtual 254, 3) := by decide +kernel
theorem dX9_shut_48 : decode cX9_shut 48 = .ok (.bipush 8, 2) := by decide +kernel
theorem dX9_shut_50 : decode cX9_shut 50 = .ok (.if_icmp .lt 10, 3) := by decide +kernel
theorem dX9_shut_53 : decode cX9_shut 53 = .ok (.aload_n 0, 1) := by decide +kernel
theorem dX9_shut_54 : decode cX9_shut 54 = .ok (.bipush (-6), 2) := by decide +kernel
theorem dX9_shut_56 : decode cX9_shut 56 = .ok (.invokevirtual 108, 3) := by decide +kernel
theorem dX9_shut_59 : decode cX9_shut 59 = .ok (.ireturn, 1) := by decide +kernel
theorem dX9_shut_60 : decode cX9_shut 60 = .ok (.aload_n 0, 1) := by decide +kernel
theorem dX9_shut_61 : decode cX9_shut 61 = .ok (.getfield 36, 3) := by decide +kernel
theorem dX9_shut_64 : decode cX9_shut 64 = .ok (.iload_n 1, 1) := by decide +kernel
theorem dX9_shut_65 : decode cX9_shut 65 = .ok (.iload_n 2, 1) := by decide +kernel
theorem dX9_shut_66 : decode cX9_shut 66 = .ok (.iload_n 3, 1) := by decide +kernel
theorem dX9_shut_67 : decode cX9_shut 67 = .ok (.invokevirtual 257, 3) := by decide +kernel
theorem dX9_shut_70 : decode cX9_shut 70 = .ok (.ireturn, 1) := by decide +kernel
theorem dX9_complaint_0 : decode cX9_complaint 0 = .ok (.iload_n 1, 1) := by decide +kernel
theorem dX9_complaint_1 : decode cX9_complaint 1 = .ok (.bipush 6, 2) := by decide +kernel
theorem dX9_complaint_3 : decode cX9_complaint 3 = .ok (.invokestatic 112, 3) := by decide +kernel
theorem dX9_complaint_6 : decode cX9_complaint 6 = .ok (.ifCond .eq 13, 3) := by decide +kernel
theorem dX9_complaint_9 : decode cX9_complaint 9 = .ok (.iload 4, 2) := by decide +kernel
theorem dX9_complaint_11 : decode cX9_complaint 11 = .ok (.bipush 8, 2) := by decide +kernel
theorem dX9_complaint_13 : decode cX9_complaint 13 = .ok (.invokestatic 112, 3) := by decide +kernel
theorem dX9_complaint_16 : decode cX9_complaint 16 = .ok (.ifCond .ne 9, 3) := by decide +kernel
theorem dX9_complaint_19 : decode cX9_complaint 19 = .ok (.aload_n 0, 1) := by decide +kernel
theorem dX9_complaint_20 : decode cX9_complaint 20 = .ok (.iconst (-1), 1) := by decide +kernel
theorem dX9_complaint_21 : decode cX9_complaint 21 = .ok (.invokevirtual 108, 3) := by decide +kernel
theorem dX9_complaint_24 : decode cX9_complaint 24 = .ok (.ireturn, 1) := by decide +kernel
theorem dX9_complaint_25 : decode cX9_complaint 25 = .ok (.iload_n 2, 1) := by decide +kernel
theorem dX9_complaint_26 : decode cX9_complaint 26 = .ok (.ifCond .lt 8, 3) := by decide +kernel
theorem dX9_complaint_29 : decode cX9_complaint 29 = .ok (.iload_n 3, 1) := by decide +kernel
theorem dX9_complaint_30 : decode cX9_complaint 30 = .ok (.iload_n 2, 1) := by decide +kernel
theorem dX9_complaint_31 : decode cX9_complaint 31 = .ok (.if_icmp .ge 10, 3) := by decide +kernel
theorem dX9_complaint_34 : decode cX9_complaint 34 = .ok (.aload_n 0, 1) := by decide +kernel
theorem dX9_complaint_35 : decode cX9_complaint 35 = .ok (.bipush (-4), 2) := by decide +kernel
theorem dX9_complaint_37 : decode cX9_complaint 37 = .ok (.invokevirtual 108, 3) := by decide +kernel
theorem dX9_complaint_40 : decode cX9_complaint 40 = .ok (.ireturn, 1) := by decide +kernel
theorem dX9_complaint_41 : decode cX9_complaint 41 = .ok (.iload_n 3, 1) := by decide +kernel
theorem dX9_complaint_42 : decode cX9_complaint 42 = .ok (.sipush 1500, 3) := by decide +kernel
theorem dX9_complaint_45 : decode cX9_complaint 45 = .ok (.if_icmp .gt 13, 3) := by decide +kernel
theorem dX9_complaint_48 : decode cX9_complaint 48 = .ok (.aload_n 0, 1) := by decide +kernel
theorem dX9_complaint_49 : decode cX9_complaint 49 = .ok (.getfield 77, 3) := by decide +kernel
theorem dX9_complaint_52 : decode cX9_complaint 52 = .ok (.invokevirtual 260, 3) := by decide +kernel
theorem dX9_complaint_55 : decode cX9_complaint 55 = .ok (.ifCond .eq 10, 3) := by decide +kernel
theorem dX9_complaint_58 : decode cX9_complaint 58 = .ok (.aload_n 0, 1) := by decide +kernel
theorem dX9_complaint_59 : decode cX9_complaint 59 = .ok (.bipush (-6), 2) := by decide +kernel
theorem dX9_complaint_61 : decode cX9_complaint 61 = .ok (.invokevirtual 108, 3) := by decide +kernel
theorem dX9_complaint_64 : decode cX9_complaint 64 = .ok (.ireturn, 1) := by decide +kernel
theorem dX9_complaint_65 : decode cX9_complaint 65 = .ok (.aload_n 0, 1) := by decide +kernel
theorem dX9_complaint_66 : decode cX9_complaint 66 = .ok (.getfield 77, 3) := by decide +kernel
theorem dX9_complaint_69 : decode cX9_complaint 69 = .ok (.iload_n 1, 1) := by decide +kernel
theorem dX9_complaint_70 : decode cX9_complaint 70 = .ok (.iload_n 2, 1) := by decide +kernel
theorem dX9_complaint_71 : decode cX9_complaint 71 = .ok (.iload_n 3, 1) := by decide +kernel
theorem dX9_complaint_72 : decode cX9_complaint 72 = .ok (.iload 4, 2) := by decide +kernel
theorem dX9_complaint_74 : decode cX9_complaint 74 = .ok (.invokevirtual 261, 3) := by decide +kernel
theorem dX9_complaint_77 : decode cX9_complaint 77 = .ok (.ireturn, 1) := by decide +kernel
theorem dX9_part_0 : decode cX9_part 0 = .ok (.aload_n 0, 1) := by decide +kernel
theorem dX9_part_1 : decode cX9_part 1 = .ok (.getfield 77, 3) := by decide +kernel
theorem dX9_part_4 : decode cX9_part 4 = .ok (.iload_n 1, 1) := by decide +kernel
theorem dX9_part_5 : decode cX9_part 5 = .ok (.invokevirtual 262, 3) := by decide +kernel
theorem dX9_part_8 : decode cX9_part 8 = .ok (.ifCond .eq 14, 3) := by decide +kernel
theorem dX9_part_11 : decode cX9_part 11 = .ok (.aload_n 0, 1) := by decide +kernel
theorem dX9_part_12 : decode cX9_part 12 = .ok (.getfield 36, 3) := by decide +kernel
theorem dX9_part_15 : decode cX9_part 15 = .ok (.iload_n 2, 1) := by decide +kernel
theorem dX9_part_16 : decode cX9_part 16 = .ok (.invokevirtual 146, 3) := by decide +kernel
theorem dX9_part_19 : decode cX9_part 19 = .ok (.ifCond .ne 9, 3) := by decide +kernel
theorem dX9_part_22 : decode cX9_part 22 = .ok (.aload_n 0, 1) := by decide +kernel
theorem dX9_part_23 : decode cX9_part 23 = .ok (.iconst (-1), 1) := by decide +kernel
theorem dX9_part_24 : decode cX9_part 24 = .ok (.invokevirtual 108, 3) := by decide +kernel
theorem dX9_part_27 : decode cX9_part 27 = .ok (.ireturn, 1) := by decide +kernel
theorem dX9_part_28 : decode cX9_part 28 = .ok (.iload_n 3, 1) := by decide +kernel
theorem dX9_part_29 : decode cX9_part 29 = .ok (.ifCond .lt 8, 3) := by decide +kernel
theorem dX9_part_32 : decode cX9_part 32 = .ok (.iload_n 3, 1) := by decide +kernel
theorem dX9_part_33 : decode cX9_part 33 = .ok (.iconst 1, 1) := by decide +kernel
theorem dX9_part_34 : decode cX9_part 34 = .ok (.if_icmp .le 10, 3) := by decide +kernel
theorem dX9_part_37 : decode cX9_part 37 = .ok (.aload_n 0, 1) := by decide +kernel
theorem dX9_part_38 : decode cX9_part 38 = .ok (.bipush (-2), 2) := by decide +kernel
theorem dX9_part_40 : decode cX9_part 40 = .ok (.invokevirtual 108, 3) := by decide +kernel
theorem dX9_part_43 : decode cX9_part 43 = .ok (.ireturn, 1) := by decide +kernel
theorem dX9_part_44 : decode cX9_part 44 = .ok (.aload_n 0, 1) := by decide +kernel
theorem dX9_part_45 : decode cX9_part 45 = .ok (.getfield 77, 3) := by decide +kernel
theorem dX9_part_48 : decode cX9_part 48 = .ok (.iload_n 1, 1) := by decide +kernel
theorem dX9_part_49 : decode cX9_part 49 = .ok (.iload_n 2, 1) := by decide +kernel
theorem dX9_part_50 : decode cX9_part 50 = .ok (.invokevirtual 263, 3) := by decide +kernel
theorem dX9_part_53 : decode cX9_part 53 = .ok (.iload_n 3, 1) := by decide +kernel
theorem dX9_part_54 : decode cX9_part 54 = .ok (.invokevirtual 238, 3) := by decide +kernel
theorem dX9_part_57 : decode cX9_part 57 = .ok (.l2i, 1) := by decide +kernel
theorem dX9_part_58 : decode cX9_part 58 = .ok (.ireturn, 1) := by decide +kernel
theorem dX9_joined_0 : decode cX9_joined 0 = .ok (.aload_n 0, 1) := by decide +kernel
theorem dX9_joined_1 : decode cX9_joined 1 = .ok (.getfield 77, 3) := by decide +kernel
theorem dX9_joined_4 : decode cX9_joined 4 = .ok (.iload_n 1, 1) := by decide +kernel
theorem dX9_joined_5 : decode cX9_joined 5 = .ok (.invokevirtual 262, 3) := by decide +kernel
theorem dX9_joined_8 : decode cX9_joined 8 = .ok (.ifCond .ne 9, 3) := by decide +kernel
theorem dX9_joined_11 : decode cX9_joined 11 = .ok (.aload_n 0, 1) := by decide +kernel
theorem dX9_joined_12 : decode cX9_joined 12 = .ok (.iconst (-1), 1) := by decide +kernel
theorem dX9_joined_13 : decode cX9_joined 13 = .ok (.invokevirtual 108, 3) := by decide +kernel
theorem dX9_joined_16 : decode cX9_joined 16 = .ok (.ireturn, 1) := by decide +kernel
theorem dX9_joined_17 : decode cX9_joined 17 = .ok (.aload_n 0, 1) := by decide +kernel
theorem dX9_joined_18 : decode cX9_joined 18 = .ok (.getfield 77, 3) := by decide +kernel
theorem dX9_joined_21 : decode cX9_joined 21 = .ok (.iload_n 1, 1) := by decide +kernel
theorem dX9_joined_22 : decode cX9_joined 22 = .ok (.invokevirtual 267, 3) := by decide +kernel
theorem dX9_joined_25 : decode cX9_joined 25 = .ok (.ireturn, 1) := by decide +kernel
theorem dX9_began_0 : decode cX9_began 0 = .ok (.iload_n 1, 1) := by decide +kernel
theorem dX9_began_1 : decode cX9_began 1 = .ok (.bipush 6, 2) := by decide +kernel
theorem dX9_began_3 : decode cX9_began 3 = .ok (.invokestatic 112, 3) := by decide +kernel
theorem dX9_began_6 : decode cX9_began 6 = .ok (.ifCond .ne 9, 3) := by decide +kernel
theorem dX9_began_9 : decode cX9_began 9 = .ok (.aload_n 0, 1) := by decide +kernel
theorem dX9_began_10 : decode cX9_began 10 = .ok (.iconst (-1), 1) := by decide +kernel
theorem dX9_began_11 : decode cX9_began 11 = .ok (.invokevirtual 108, 3) := by decide +kernel
theorem dX9_began_14 : decode cX9_began 14 = .ok (.ireturn, 1) := by decide +kernel
theorem dX9_began_15 : decode cX9_began 15 = .ok (.iload_n 2, 1) := by decide +kernel
theorem dX9_began_16 : decode cX9_began 16 = .ok (.ifCond .ge 10, 3) := by decide +kernel
theorem dX9_began_19 : decode cX9_began 19 = .ok (.aload_n 0, 1) := by decide +kernel
theorem dX9_began_20 : decode cX9_began 20 = .ok (.bipush (-4), 2) := by decide +kernel
theorem dX9_began_22 : decode cX9_began 22 = .ok (.invokevirtual 108, 3) := by decide +kernel
theorem dX9_began_25 : decode cX9_began 25 = .ok (.ireturn, 1) := by decide +kernel
theorem dX9_began_26 : decode cX9_began 26 = .ok (.iload_n 2, 1) := by decide +kernel
theorem dX9_began_27 : decode cX9_began 27 = .ok (.bipush 12, 2) := by decide +kernel
theorem dX9_began_29 : decode cX9_began 29 = .ok (.if_icmp .le 10, 3) := by decide +kernel
theorem dX9_began_32 : decode cX9_began 32 = .ok (.aload_n 0, 1) := by decide +kernel
theorem dX9_began_33 : decode cX9_began 33 = .ok (.bipush (-6), 2) := by decide +kernel
theorem dX9_began_35 : decode cX9_began 35 = .ok (.invokevirtual 108, 3) := by decide +kernel
theorem dX9_began_38 : decode cX9_began 38 = .ok (.ireturn, 1) := by decide +kernel
theorem dX9_began_39 : decode cX9_began 39 = .ok (.aload_n 0, 1) := by decide +kernel
theorem dX9_began_40 : decode cX9_began 40 = .ok (.getfield 84, 3) := by decide +kernel
theorem dX9_began_43 : decode cX9_began 43 = .ok (.iload_n 1, 1) := by decide +kernel
theorem dX9_began_44 : decode cX9_began 44 = .ok (.iload_n 2, 1) := by decide +kernel
theorem dX9_began_45 : decode cX9_began 45 = .ok (.invokevirtual 270, 3) := by decide +kernel
theorem dX9_began_48 : decode cX9_began 48 = .ok (.ireturn, 1) := by decide +kernel
theorem dX9_cases_0 : decode cX9_cases 0 = .ok (.iload_n 1, 1) := by decide +kernel
theorem dX9_cases_1 : decode cX9_cases 1 = .ok (.bipush 6, 2) := by decide +kernel
theorem dX9_cases_3 : decode cX9_cases 3 = .ok (.invokestatic 112, 3) := by decide +kernel
theorem dX9_cases_6 : decode cX9_cases 6 = .ok (.ifCond .eq 12, 3) := by decide +kernel
theorem dX9_cases_9 : decode cX9_cases 9 = .ok (.iload_n 2, 1) := by decide +kernel
theorem dX9_cases_10 : decode cX9_cases 10 = .ok (.bipush 12, 2) := by decide +kernel
theorem dX9_cases_12 : decode cX9_cases 12 = .ok (.invokestatic 112, 3) := by decide +kernel
theorem dX9_cases_15 : decode cX9_cases 15 = .ok (.ifCond .ne 9, 3) := by decide +kernel
theorem dX9_cases_18 : decode cX9_cases 18 = .ok (.aload_n 0, 1) := by decide +kernel
theorem dX9_cases_19 : decode cX9_cases 19 = .ok (.iconst (-1), 1) := by decide +kernel
theorem dX9_cases_20 : decode cX9_cases 20 = .ok (.invokevirtual 108, 3) := by decide +kernel
theorem dX9_cases_23 : decode cX9_cases 23 = .ok (.ireturn, 1) := by decide +kernel
theorem dX9_cases_24 : decode cX9_cases 24 = .ok (.iload_n 3, 1) := by decide +kernel
theorem dX9_cases_25 : decode cX9_cases 25 = .ok (.ifCond .ge 10, 3) := by decide +kernel
theorem dX9_cases_28 : decode cX9_cases 28 = .ok (.aload_n 0, 1) := by decide +kernel
theorem dX9_cases_29 : decode cX9_cases 29 = .ok (.bipush (-4), 2) := by decide +kernel
theorem dX9_cases_31 : decode cX9_cases 31 = .ok (.invokevirtual 108, 3) := by decide +kernel
theorem dX9_cases_34 : decode cX9_cases 34 = .ok (.ireturn, 1) := by decide +kernel
theorem dX9_cases_35 : decode cX9_cases 35 = .ok (.iload_n 3, 1) := by decide +kernel
theorem dX9_cases_36 : decode cX9_cases 36 = .ok (.sipush 999, 3) := by decide +kernel
theorem dX9_cases_39 : decode cX9_cases 39 = .ok (.if_icmp .le 10, 3) := by decide +kernel
theorem dX9_cases_42 : decode cX9_cases 42 = .ok (.aload_n 0, 1) := by decide +kernel
theorem dX9_cases_43 : decode cX9_cases 43 = .ok (.bipush (-6), 2) := by decide +kernel
theorem dX9_cases_45 : decode cX9_cases 45 = .ok (.invokevirtual 108, 3) := by decide +kernel
theorem dX9_cases_48 : decode cX9_cases 48 = .ok (.ireturn, 1) := by decide +kernel
theorem dX9_cases_49 : decode cX9_cases 49 = .ok (.aload_n 0, 1) := by decide +kernel
theorem dX9_cases_50 : decode cX9_cases 50 = .ok (.getfield 84, 3) := by decide +kernel
theorem dX9_cases_53 : decode cX9_cases 53 = .ok (.iload_n 1, 1) := by decide +kernel
theorem dX9_cases_54 : decode cX9_cases 54 = .ok (.iload_n 2, 1) := by decide +kernel
theorem dX9_cases_55 : decode cX9_cases 55 = .ok (.iload_n 3, 1) := by decide +kernel
theorem dX9_cases_56 : decode cX9_cases 56 = .ok (.invokevirtual 273, 3) := by decide +kernel
theorem dX9_cases_59 : decode cX9_cases 59 = .ok (.ireturn, 1) := by decide +kernel
theorem dX9_effect_0 : decode cX9_effect 0 = .ok (.iload_n 1, 1) := by decide +kernel
theorem dX9_effect_1 : decode cX9_effect 1 = .ok (.ifCond .lt 8, 3) := by decide +kernel
theorem dX9_effect_4 : decode cX9_effect 4 = .ok (.iload_n 1, 1) := by decide +kernel
theorem dX9_effect_5 : decode cX9_effect 5 = .ok (.iconst 1, 1) := by decide +kernel
theorem dX9_effect_6 : decode cX9_effect 6 = .ok (.if_icmp .le 10, 3) := by decide +kernel
theorem dX9_effect_9 : decode cX9_effect 9 = .ok (.aload_n 0, 1) := by decide +kernel
theorem dX9_effect_10 : decode cX9_effect 10 = .ok (.bipush (-2), 2) := by decide +kernel
theorem dX9_effect_12 : decode cX9_effect 12 = .ok (.invokevirtual 224, 3) := by decide +kernel
theorem dX9_effect_15 : decode cX9_effect 15 = .ok (.lreturn, 1) := by decide +kernel
theorem dX9_effect_16 : decode cX9_effect 16 = .ok (.aload_n 0, 1) := by decide +kernel
theorem dX9_effect_17 : decode cX9_effect 17 = .ok (.getfield 84, 3) := by decide +kernel
theorem dX9_effect_20 : decode cX9_effect 20 = .ok (.invokevirtual 276, 3) := by decide +kernel
theorem dX9_effect_23 : decode cX9_effect 23 = .ok (.ifCond .ne 10, 3) := by decide +kernel
theorem dX9_effect_26 : decode cX9_effect 26 = .ok (.aload_n 0, 1) := by decide +kernel
theorem dX9_effect_27 : decode cX9_effect 27 = .ok (.bipush (-3), 2) := by decide +kernel
theorem dX9_effect_29 : decode cX9_effect 29 = .ok (.invokevirtual 224, 3) := by decide +kernel
theorem dX9_effect_32 : decode cX9_effect 32 = .ok (.lreturn, 1) := by decide +kernel
theorem dX9_effect_33 : decode cX9_effect 33 = .ok (.aload_n 0, 1) := by decide +kernel
theorem dX9_effect_34 : decode cX9_effect 34 = .ok (.getfield 84, 3) := by decide +kernel
theorem dX9_effect_37 : decode cX9_effect 37 = .ok (.invokevirtual 279, 3) := by decide +kernel
theorem dX9_effect_40 : decode cX9_effect 40 = .ok (.iload_n 1, 1) := by decide +kernel
theorem dX9_effect_41 : decode cX9_effect 41 = .ok (.invokevirtual 238, 3) := by decide +kernel
theorem dX9_effect_44 : decode cX9_effect 44 = .ok (.lreturn, 1) := by decide +kernel
theorem dX9_chance_0 : decode cX9_chance 0 = .ok (.aload_n 0, 1) := by decide +kernel
theorem dX9_chance_1 : decode cX9_chance 1 = .ok (.getfield 84, 3) := by decide +kernel
theorem dX9_chance_4 : decode cX9_chance 4 = .ok (.invokevirtual 276, 3) := by decide +kernel
theorem dX9_chance_7 : decode cX9_chance 7 = .ok (.ifCond .eq 13, 3) := by decide +kernel
theorem dX9_chance_10 : decode cX9_chance 10 = .ok (.aload_n 0, 1) := by decide +kernel
theorem dX9_chance_11 : decode cX9_chance 11 = .ok (.getfield 84, 3) := by decide +kernel
theorem dX9_chance_14 : decode cX9_chance 14 = .ok (.invokevirtual 283, 3) := by decide +kernel
theorem dX9_chance_17 : decode cX9_chance 17 = .ok (.goto 5, 3) := by decide +kernel
theorem dX9_chance_20 : decode cX9_chance 20 = .ok (.bipush (-9), 2) := by decide +kernel
theorem dX9_chance_22 : decode cX9_chance 22 = .ok (.ireturn, 1) := by decide +kernel
theorem dX9_helped_0 : decode cX9_helped 0 = .ok (.aload_n 0, 1) := by decide +kernel
theorem dX9_helped_1 : decode cX9_helped 1 = .ok (.getfield 84, 3) := by decide +kernel
theorem dX9_helped_4 : decode cX9_helped 4 = .ok (.invokevirtual 276, 3) := by decide +kernel
theorem dX9_helped_7 : decode cX9_helped 7 = .ok (.ifCond .eq 19, 3) := by decide +kernel
theorem dX9_helped_10 : decode cX9_helped 10 = .ok (.aload_n 0, 1) := by decide +kernel
theorem dX9_helped_11 : decode cX9_helped 11 = .ok (.getfield 84, 3) := by decide +kernel
theorem dX9_helped_14 : decode cX9_helped 14 = .ok (.invokevirtual 279, 3) := by decide +kernel
theorem dX9_helped_17 : decode cX9_helped 17 = .ok (.iconst 0, 1) := by decide +kernel
theorem dX9_helped_18 : decode cX9_helped 18 = .ok (.invokevirtual 238, 3) := by decide +kernel
theorem dX9_helped_21 : decode cX9_helped 21 = .ok (.lconst 0, 1) := by decide +kernel
theorem dX9_helped_22 : decode cX9_helped 22 = .ok (.lcmp, 1) := by decide +kernel
theorem dX9_helped_23 : decode cX9_helped 23 = .ok (.ifCond .lt 5, 3) := by decide +kernel
theorem dX9_helped_26 : decode cX9_helped 26 = .ok (.iconst 0, 1) := by decide +kernel
theorem dX9_helped_27 : decode cX9_helped 27 = .ok (.ireturn, 1) := by decide +kernel
theorem dX9_helped_28 : decode cX9_helped 28 = .ok (.aload_n 0, 1) := by decide +kernel
theorem dX9_helped_29 : decode cX9_helped 29 = .ok (.getfield 84, 3) := by decide +kernel
theorem dX9_helped_32 : decode cX9_helped 32 = .ok (.invokevirtual 283, 3) := by decide +kernel
theorem dX9_helped_35 : decode cX9_helped 35 = .ok (.bipush 36, 2) := by decide +kernel
theorem dX9_helped_37 : decode cX9_helped 37 = .ok (.if_icmp .gt 7, 3) := by decide +kernel
theorem dX9_helped_40 : decode cX9_helped 40 = .ok (.iconst 1, 1) := by decide +kernel
theorem dX9_helped_41 : decode cX9_helped 41 = .ok (.goto 4, 3) := by decide +kernel
theorem dX9_helped_44 : decode cX9_helped 44 = .ok (.iconst 0, 1) := by decide +kernel
theorem dX9_helped_45 : decode cX9_helped 45 = .ok (.ireturn, 1) := by decide +kernel
theorem dX9_count_0 : decode cX9_count 0 = .ok (.iload_n 1, 1) := by decide +kernel
theorem dX9_count_1 : decode cX9_count 1 = .ok (.tableswitch 108 0 7 #[47, 52, 60, 68, 76, 84, 92, 100], 47) := by decide +kernel
theorem dX9_count_48 : decode cX9_count 48 = .ok (.aload_n 0, 1) := by decide +kernel
theorem dX9_count_49 : decode cX9_count 49 = .ok (.getfield 95, 3) := by decide +kernel
theorem dX9_count_52 : decode cX9_count 52 = .ok (.ireturn, 1) := by decide +kernel
theorem dX9_count_53 : decode cX9_count 53 = .ok (.aload_n 0, 1) := by decide +kernel
theorem dX9_count_54 : decode cX9_count 54 = .ok (.getfield 29, 3) := by decide +kernel
theorem dX9_count_57 : decode cX9_count 57 = .ok (.invokevirtual 286, 3) := by decide +kernel
theorem dX9_count_60 : decode cX9_count 60 = .ok (.ireturn, 1) := by decide +kernel
theorem dX9_count_61 : decode cX9_count 61 = .ok (.aload_n 0, 1) := by decide +kernel
theorem dX9_count_62 : decode cX9_count 62 = .ok (.getfield 36, 3) := by decide +kernel
theorem dX9_count_65 : decode cX9_count 65 = .ok (.invokevirtual 199, 3) := by decide +kernel
theorem dX9_count_68 : decode cX9_count 68 = .ok (.ireturn, 1) := by decide +kernel
theorem dX9_count_69 : decode cX9_count 69 = .ok (.aload_n 0, 1) := by decide +kernel
theorem dX9_count_70 : decode cX9_count 70 = .ok (.getfield 45, 3) := by decide +kernel
theorem dX9_count_73 : decode cX9_count 73 = .ok (.invokevirtual 164, 3) := by decide +kernel
theorem dX9_count_76 : decode cX9_count 76 = .ok (.ireturn, 1) := by decide +kernel
theorem dX9_count_77 : decode cX9_count 77 = .ok (.aload_n 0, 1) := by decide +kernel
theorem dX9_count_78 : decode cX9_count 78 = .ok (.getfield 45, 3) := by decide +kernel
theorem dX9_count_81 : decode cX9_count 81 = .ok (.invokevirtual 287, 3) := by decide +kernel
theorem dX9_count_84 : decode cX9_count 84 = .ok (.ireturn, 1) := by decide +kernel
theorem dX9_count_85 : decode cX9_count 85 = .ok (.aload_n 0, 1) := by decide +kernel
theorem dX9_count_86 : decode cX9_count 86 = .ok (.getfield 52, 3) := by decide +kernel
theorem dX9_count_89 : decode cX9_count 89 = .ok (.invokevirtual 290, 3) := by decide +kernel
theorem dX9_count_92 : decode cX9_count 92 = .ok (.ireturn, 1) := by decide +kernel
theorem dX9_count_93 : decode cX9_count 93 = .ok (.aload_n 0, 1) := by decide +kernel
theorem dX9_count_94 : decode cX9_count 94 = .ok (.getfield 77, 3) := by decide +kernel
theorem dX9_count_97 : decode cX9_count 97 = .ok (.invokevirtual 291, 3) := by decide +kernel
theorem dX9_count_100 : decode cX9_count 100 = .ok (.ireturn, 1) := by decide +kernel
theorem dX9_count_101 : decode cX9_count 101 = .ok (.aload_n 0, 1) := by decide +kernel
theorem dX9_count_102 : decode cX9_count 102 = .ok (.getfield 77, 3) := by decide +kernel
theorem dX9_count_105 : decode cX9_count 105 = .ok (.invokevirtual 292, 3) := by decide +kernel
theorem dX9_count_108 : decode cX9_count 108 = .ok (.ireturn, 1) := by decide +kernel
theorem dX9_count_109 : decode cX9_count 109 = .ok (.aload_n 0, 1) := by decide +kernel
theorem dX9_count_110 : decode cX9_count 110 = .ok (.iload_n 1, 1) := by decide +kernel
theorem dX9_count_111 : decode cX9_count 111 = .ok (.bipush 10, 2) := by decide +kernel
theorem dX9_count_113 : decode cX9_count 113 = .ok (.isub, 1) := by decide +kernel
theorem dX9_count_114 : decode cX9_count 114 = .ok (.invokevirtual 295, 3) := by decide +kernel
theorem dX9_count_117 : decode cX9_count 117 = .ok (.ireturn, 1) := by decide +kernel
theorem dX9_refused_0 : decode cX9_refused 0 = .ok (.iload_n 1, 1) := by decide +kernel
theorem dX9_refused_1 : decode cX9_refused 1 = .ok (.ifCond .ge 20, 3) := by decide +kernel
theorem dX9_refused_4 : decode cX9_refused 4 = .ok (.iload_n 1, 1) := by decide +kernel
theorem dX9_refused_5 : decode cX9_refused 5 = .ok (.bipush (-7), 2) := by decide +kernel
theorem dX9_refused_7 : decode cX9_refused 7 = .ok (.if_icmp .lt 14, 3) := by decide +kernel
theorem dX9_refused_10 : decode cX9_refused 10 = .ok (.aload_n 0, 1) := by decide +kernel
theorem dX9_refused_11 : decode cX9_refused 11 = .ok (.getfield 9, 3) := by decide +kernel
theorem dX9_refused_14 : decode cX9_refused 14 = .ok (.iload_n 1, 1) := by decide +kernel
theorem dX9_refused_15 : decode cX9_refused 15 = .ok (.ineg, 1) := by decide +kernel
theorem dX9_refused_16 : decode cX9_refused 16 = .ok (.dup2, 1) := by decide +kernel
theorem dX9_refused_17 : decode cX9_refused 17 = .ok (.iaload, 1) := by decide +kernel
theorem dX9_refused_18 : decode cX9_refused 18 = .ok (.iconst 1, 1) := by decide +kernel
theorem dX9_refused_19 : decode cX9_refused 19 = .ok (.iadd, 1) := by decide +kernel
theorem dX9_refused_20 : decode cX9_refused 20 = .ok (.iastore, 1) := by decide +kernel
theorem dX9_refused_21 : decode cX9_refused 21 = .ok (.iload_n 1, 1) := by decide +kernel
theorem dX9_refused_22 : decode cX9_refused 22 = .ok (.ireturn, 1) := by decide +kernel
theorem dX9_refusedLong_0 : decode cX9_refusedLong 0 = .ok (.ldc2_w 298, 3) := by decide +kernel
theorem dX9_refusedLong_3 : decode cX9_refusedLong 3 = .ok (.aload_n 0, 1) := by decide +kernel
theorem dX9_refusedLong_4 : decode cX9_refusedLong 4 = .ok (.iload_n 1, 1) := by decide +kernel
theorem dX9_refusedLong_5 : decode cX9_refusedLong 5 = .ok (.invokevirtual 108, 3) := by decide +kernel
theorem dX9_refusedLong_8 : decode cX9_refusedLong 8 = .ok (.i2l, 1) := by decide +kernel
theorem dX9_refusedLong_9 : decode cX9_refusedLong 9 = .ok (.lsub, 1) := by decide +kernel
theorem dX9_refusedLong_10 : decode cX9_refusedLong 10 = .ok (.lreturn, 1) := by decide +kernel
theorem dX9_refusalsOf_0 : decode cX9_refusalsOf 0 = .ok (.iload_n 1, 1) := by decide +kernel
theorem dX9_refusalsOf_1 : decode cX9_refusalsOf 1 = .ok (.iconst 1, 1) := by decide +kernel
theorem dX9_refusalsOf_2 : decode cX9_refusalsOf 2 = .ok (.if_icmp .lt 18, 3) := by decide +kernel
theorem dX9_refusalsOf_5 : decode cX9_refusalsOf 5 = .ok (.iload_n 1, 1) := by decide +kernel
theorem dX9_refusalsOf_6 : decode cX9_refusalsOf 6 = .ok (.bipush 7, 2) := by decide +kernel
theorem dX9_refusalsOf_8 : decode cX9_refusalsOf 8 = .ok (.if_icmp .gt 12, 3) := by decide +kernel
theorem dX9_refusalsOf_11 : decode cX9_refusalsOf 11 = .ok (.aload_n 0, 1) := by decide +kernel
theorem dX9_refusalsOf_12 : decode cX9_refusalsOf 12 = .ok (.getfield 9, 3) := by decide +kernel
theorem dX9_refusalsOf_15 : decode cX9_refusalsOf 15 = .ok (.iload_n 1, 1) := by decide +kernel
theorem dX9_refusalsOf_16 : decode cX9_refusalsOf 16 = .ok (.iaload, 1) := by decide +kernel
theorem dX9_refusalsOf_17 : decode cX9_refusalsOf 17 = .ok (.goto 5, 3) := by decide +kernel
theorem dX9_refusalsOf_20 : decode cX9_refusalsOf 20 = .ok (.bipush (-9), 2) := by decide +kernel
theorem dX9_refusalsOf_22 : decode cX9_refusalsOf 22 = .ok (.ireturn, 1) := by decide +kernel
theorem dX9_isWithin_0 : decode cX9_isWithin 0 = .ok (.iload_n 0, 1) := by decide +kernel
theorem dX9_isWithin_1 : decode cX9_isWithin 1 = .ok (.ifCond .lt 12, 3) := by decide +kernel
theorem dX9_isWithin_4 : decode cX9_isWithin 4 = .ok (.iload_n 0, 1) := by decide +kernel
theorem dX9_isWithin_5 : decode cX9_isWithin 5 = .ok (.iload_n 1, 1) := by decide +kernel
theorem dX9_isWithin_6 : decode cX9_isWithin 6 = .ok (.if_icmp .ge 7, 3) := by decide +kernel
theorem dX9_isWithin_9 : decode cX9_isWithin 9 = .ok (.iconst 1, 1) := by decide +kernel
theorem dX9_isWithin_10 : decode cX9_isWithin 10 = .ok (.goto 4, 3) := by decide +kernel
theorem dX9_isWithin_13 : decode cX9_isWithin 13 = .ok (.iconst 0, 1) := by decide +kernel
theorem dX9_isWithin_14 : decode cX9_isWithin 14 = .ok (.ireturn, 1) := by decide +kernel
theorem dX9_isKin_0 : decode cX9_isKin 0 = .ok (.aload_n 0, 1) := by decide +kernel
theorem dX9_isKin_1 : decode cX9_isKin 1 = .ok (.getfield 13, 3) := by decide +kernel
theorem dX9_isKin_4 : decode cX9_isKin 4 = .ok (.iload_n 1, 1) := by decide +kernel
theorem dX9_isKin_5 : decode cX9_isKin 5 = .ok (.bipush 10, 2) := by decide +kernel
theorem dX9_isKin_7 : decode cX9_isKin 7 = .ok (.imul, 1) := by decide +kernel
theorem dX9_isKin_8 : decode cX9_isKin 8 = .ok (.iload_n 2, 1) := by decide +kernel
theorem dX9_isKin_9 : decode cX9_isKin 9 = .ok (.iadd, 1) := by decide +kernel
theorem dX9_isKin_10 : decode cX9_isKin 10 = .ok (.baload, 1) := by decide +kernel
theorem dX9_isKin_11 : decode cX9_isKin 11 = .ok (.ireturn, 1) := by decide +kernel
theorem dX9_starOf_0 : decode cX9_starOf 0 = .ok (.aload_n 0, 1) := by decide +kernel
theorem dX9_starOf_1 : decode cX9_starOf 1 = .ok (.getfield 45, 3) := by decide +kernel
theorem dX9_starOf_4 : decode cX9_starOf 4 = .ok (.iload_n 1, 1) := by decide +kernel
theorem dX9_starOf_5 : decode cX9_starOf 5 = .ok (.iload_n 2, 1) := by decide +kernel
theorem dX9_starOf_6 : decode cX9_starOf 6 = .ok (.iload_n 3, 1) := by decide +kernel
theorem dX9_starOf_7 : decode cX9_starOf 7 = .ok (.invokevirtual 245, 3) := by decide +kernel
theorem dX9_starOf_10 : decode cX9_starOf 10 = .ok (.istore 4, 2) := by decide +kernel
theorem dX9_starOf_12 : decode cX9_starOf 12 = .ok (.iload 4, 2) := by decide +kernel
theorem dX9_starOf_14 : decode cX9_starOf 14 = .ok (.ifCond .ge 5, 3) := by decide +kernel
theorem dX9_starOf_17 : decode cX9_starOf 17 = .ok (.iconst 0, 1) := by decide +kernel
theorem dX9_starOf_18 : decode cX9_starOf 18 = .ok (.ireturn, 1) := by decide +kernel
theorem dX9_starOf_19 : decode cX9_starOf 19 = .ok (.aload_n 0, 1) := by decide +kernel
theorem dX9_starOf_20 : decode cX9_starOf 20 = .ok (.getfield 45, 3) := by decide +kernel
theorem dX9_starOf_23 : decode cX9_starOf 23 = .ok (.iload 4, 2) := by decide +kernel
theorem dX9_starOf_25 : decode cX9_starOf 25 = .ok (.invokevirtual 172, 3) := by decide +kernel
theorem dX9_starOf_28 : decode cX9_starOf 28 = .ok (.istore 5, 2) := by decide +kernel
theorem dX9_starOf_30 : decode cX9_starOf 30 = .ok (.aload_n 0, 1) := by decide +kernel
theorem dX9_starOf_31 : decode cX9_starOf 31 = .ok (.getfield 52, 3) := by decide +kernel
theorem dX9_starOf_34 : decode cX9_starOf 34 = .ok (.iload 5, 2) := by decide +kernel
theorem dX9_starOf_36 : decode cX9_starOf 36 = .ok (.aload_n 0, 1) := by decide +kernel
theorem dX9_starOf_37 : decode cX9_starOf 37 = .ok (.getfield 45, 3) := by decide +kernel
theorem dX9_starOf_40 : decode cX9_starOf 40 = .ok (.iload 4, 2) := by decide +kernel
theorem dX9_starOf_42 : decode cX9_starOf 42 = .ok (.iload 5, 2) := by decide +kernel
theorem dX9_starOf_44 : decode cX9_starOf 44 = .ok (.invokevirtual 188, 3) := by decide +kernel
theorem dX9_starOf_47 : decode cX9_starOf 47 = .ok (.i2l, 1) := by decide +kernel
theorem dX9_starOf_48 : decode cX9_starOf 48 = .ok (.lconst 1, 1) := by decide +kernel
theorem dX9_starOf_49 : decode cX9_starOf 49 = .ok (.invokevirtual 300, 3) := by decide +kernel
theorem dX9_starOf_52 : decode cX9_starOf 52 = .ok (.ireturn, 1) := by decide +kernel
theorem dX9_riskOf_0 : decode cX9_riskOf 0 = .ok (.aload_n 0, 1) := by decide +kernel
theorem dX9_riskOf_1 : decode cX9_riskOf 1 = .ok (.iload_n 1, 1) := by decide +kernel
theorem dX9_riskOf_2 : decode cX9_riskOf 2 = .ok (.aload_n 0, 1) := by decide +kernel
theorem dX9_riskOf_3 : decode cX9_riskOf 3 = .ok (.getfield 95, 3) := by decide +kernel
theorem dX9_riskOf_6 : decode cX9_riskOf 6 = .ok (.aload_n 0, 1) := by decide +kernel
theorem dX9_riskOf_7 : decode cX9_riskOf 7 = .ok (.getfield 95, 3) := by decide +kernel
theorem dX9_riskOf_10 : decode cX9_riskOf 10 = .ok (.invokevirtual 193, 3) := by decide +kernel
theorem dX9_riskOf_13 : decode cX9_riskOf 13 = .ok (.istore_n 2, 1) := by decide +kernel
theorem dX9_riskOf_14 : decode cX9_riskOf 14 = .ok (.iload_n 2, 1) := by decide +kernel
theorem dX9_riskOf_15 : decode cX9_riskOf 15 = .ok (.ifCond .ne 7, 3) := by decide +kernel
theorem dX9_riskOf_18 : decode cX9_riskOf 18 = .ok (.iconst 3, 1) := by decide +kernel
theorem dX9_riskOf_19 : decode cX9_riskOf 19 = .ok (.goto 6, 3) := by decide +kernel
theorem dX9_riskOf_22 : decode cX9_riskOf 22 = .ok (.iconst 5, 1) := by decide +kernel
theorem dX9_riskOf_23 : decode cX9_riskOf 23 = .ok (.iload_n 2, 1) := by decide +kernel
theorem dX9_riskOf_24 : decode cX9_riskOf 24 = .ok (.isub, 1) := by decide +kernel
theorem dX9_riskOf_25 : decode cX9_riskOf 25 = .ok (.istore_n 3, 1) := by decide +kernel
theorem dX9_riskOf_26 : decode cX9_riskOf 26 = .ok (.aload_n 0, 1) := by decide +kernel
theorem dX9_riskOf_27 : decode cX9_riskOf 27 = .ok (.getfield 36, 3) := by decide +kernel
theorem dX9_riskOf_30 : decode cX9_riskOf 30 = .ok (.iload_n 1, 1) := by decide +kernel
theorem dX9_riskOf_31 : decode cX9_riskOf 31 = .ok (.invokevirtual 304, 3) := by decide +kernel
theorem dX9_riskOf_34 : decode cX9_riskOf 34 = .ok (.bipush 50, 2) := by decide +kernel
theorem dX9_riskOf_36 : decode cX9_riskOf 36 = .ok (.idiv, 1) := by decide +kernel
theorem dX9_riskOf_37 : decode cX9_riskOf 37 = .ok (.istore 4, 2) := by decide +kernel
theorem dX9_riskOf_39 : decode cX9_riskOf 39 = .ok (.aload_n 0, 1) := by decide +kernel
theorem dX9_riskOf_40 : decode cX9_riskOf 40 = .ok (.getfield 17, 3) := by decide +kernel
theorem dX9_riskOf_43 : decode cX9_riskOf 43 = .ok (.aload_n 0, 1) := by decide +kernel
theorem dX9_riskOf_44 : decode cX9_riskOf 44 = .ok (.getfield 36, 3) := by decide +kernel
theorem dX9_riskOf_47 : decode cX9_riskOf 47 = .ok (.iload_n 1, 1) := by decide +kernel
theorem dX9_riskOf_48 : decode cX9_riskOf 48 = .ok (.invokevirtual 307, 3) := by decide +kernel
theorem dX9_riskOf_51 : decode cX9_riskOf 51 = .ok (.iaload, 1) := by decide +kernel
theorem dX9_riskOf_52 : decode cX9_riskOf 52 = .ok (.iload 4, 2) := by decide +kernel
theorem dX9_riskOf_54 : decode cX9_riskOf 54 = .ok (.iadd, 1) := by decide +kernel
theorem dX9_riskOf_55 : decode cX9_riskOf 55 = .ok (.bipush 8, 2) := by decide +kernel
theorem dX9_riskOf_57 : decode cX9_riskOf 57 = .ok (.iload_n 3, 1) := by decide +kernel
theorem dX9_riskOf_58 : decode cX9_riskOf 58 = .ok (.imul, 1) := by decide +kernel
theorem dX9_riskOf_59 : decode cX9_riskOf 59 = .ok (.iadd, 1) := by decide +kernel
theorem dX9_riskOf_60 : decode cX9_riskOf 60 = .ok (.ireturn, 1) := by decide +kernel
theorem dX9_dueOf_0 : decode cX9_dueOf 0 = .ok (.aload_n 0, 1) := by decide +kernel
theorem dX9_dueOf_1 : decode cX9_dueOf 1 = .ok (.getfield 45, 3) := by decide +kernel
theorem dX9_dueOf_4 : decode cX9_dueOf 4 = .ok (.iload_n 1, 1) := by decide +kernel
theorem dX9_dueOf_5 : decode cX9_dueOf 5 = .ok (.aload_n 0, 1) := by decide +kernel
theorem dX9_dueOf_6 : decode cX9_dueOf 6 = .ok (.getfield 95, 3) := by decide +kernel
theorem dX9_dueOf_9 : decode cX9_dueOf 9 = .ok (.aload_n 0, 1) := by decide +kernel
theorem dX9_dueOf_10 : decode cX9_dueOf 10 = .ok (.getfield 95, 3) := by decide +kernel
theorem dX9_dueOf_13 : decode cX9_dueOf 13 = .ok (.invokevirtual 245, 3) := by decide +kernel
theorem dX9_dueOf_16 : decode cX9_dueOf 16 = .ok (.istore_n 3, 1) := by decide +kernel
theorem dX9_dueOf_17 : decode cX9_dueOf 17 = .ok (.iload_n 3, 1) := by decide +kernel
theorem dX9_dueOf_18 : decode cX9_dueOf 18 = .ok (.ifCond .lt 8, 3) := by decide +kernel
theorem dX9_dueOf_21 : decode cX9_dueOf 21 = .ok (.iload_n 2, 1) := by decide +kernel
theorem dX9_dueOf_22 : decode cX9_dueOf 22 = .ok (.iconst 1, 1) := by decide +kernel
theorem dX9_dueOf_23 : decode cX9_dueOf 23 = .ok (.if_icmp .ge 5, 3) := by decide +kernel
theorem dX9_dueOf_26 : decode cX9_dueOf 26 = .ok (.iconst 0, 1) := by decide +kernel
theorem dX9_dueOf_27 : decode cX9_dueOf 27 = .ok (.ireturn, 1) := by decide +kernel
theorem dX9_dueOf_28 : decode cX9_dueOf 28 = .ok (.aload_n 0, 1) := by decide +kernel
theorem dX9_dueOf_29 : decode cX9_dueOf 29 = .ok (.getfield 45, 3) := by decide +kernel
theorem dX9_dueOf_32 : decode cX9_dueOf 32 = .ok (.iload_n 3, 1) := by decide +kernel
theorem dX9_dueOf_33 : decode cX9_dueOf 33 = .ok (.invokevirtual 172, 3) := by decide +kernel
theorem dX9_dueOf_36 : decode cX9_dueOf 36 = .ok (.bipush 20, 2) := by decide +kernel
theorem dX9_dueOf_38 : decode cX9_dueOf 38 = .ok (.sipush 400, 3) := by decide +kernel
theorem dX9_dueOf_41 : decode cX9_dueOf 41 = .ok (.iload_n 2, 1) := by decide +kernel
theorem dX9_dueOf_42 : decode cX9_dueOf 42 = .ok (.idiv, 1) := by decide +kernel
theorem dX9_dueOf_43 : decode cX9_dueOf 43 = .ok (.invokestatic 310, 3) := by decide +kernel
theorem dX9_dueOf_46 : decode cX9_dueOf 46 = .ok (.iadd, 1) := by decide +kernel
theorem dX9_dueOf_47 : decode cX9_dueOf 47 = .ok (.ireturn, 1) := by decide +kernel
theorem dX9_delayCost_0 : decode cX9_delayCost 0 = .ok (.iload_n 2, 1) := by decide +kernel
theorem dX9_delayCost_1 : decode cX9_delayCost 1 = .ok (.iload_n 1, 1) := by decide +kernel
theorem dX9_delayCost_2 : decode cX9_delayCost 2 = .ok (.if_icmp .gt 5, 3) := by decide +kernel
theorem dX9_delayCost_5 : decode cX9_delayCost 5 = .ok (.iconst 0, 1) := by decide +kernel
theorem dX9_delayCost_6 : decode cX9_delayCost 6 = .ok (.ireturn, 1) := by decide +kernel
theorem dX9_delayCost_7 : decode cX9_delayCost 7 = .ok (.iload_n 0, 1) := by decide +kernel
theorem dX9_delayCost_8 : decode cX9_delayCost 8 = .ok (.iload_n 2, 1) := by decide +kernel
theorem dX9_delayCost_9 : decode cX9_delayCost 9 = .ok (.iload_n 1, 1) := by decide +kernel
theorem dX9_delayCost_10 : decode cX9_delayCost 10 = .ok (.isub, 1) := by decide +kernel
theorem dX9_delayCost_11 : decode cX9_delayCost 11 = .ok (.imul, 1) := by decide +kernel
theorem dX9_delayCost_12 : decode cX9_delayCost 12 = .ok (.istore_n 3, 1) := by decide +kernel
theorem dX9_delayCost_13 : decode cX9_delayCost 13 = .ok (.iload_n 2, 1) := by decide +kernel
theorem dX9_delayCost_14 : decode cX9_delayCost 14 = .ok (.iload_n 1, 1) := by decide +kernel
theorem dX9_delayCost_15 : decode cX9_delayCost 15 = .ok (.isub, 1) := by decide +kernel
theorem dX9_delayCost_16 : decode cX9_delayCost 16 = .ok (.bipush 30, 2) := by decide +kernel
theorem dX9_delayCost_18 : decode cX9_delayCost 18 = .ok (.idiv, 1) := by decide +kernel
theorem dX9_delayCost_19 : decode cX9_delayCost 19 = .ok (.istore 4, 2) := by decide +kernel
theorem dX9_delayCost_21 : decode cX9_delayCost 21 = .ok (.iconst 0, 1) := by decide +kernel
theorem dX9_delayCost_22 : decode cX9_delayCost 22 = .ok (.istore 5, 2) := by decide +kernel
theorem dX9_delayCost_24 : decode cX9_delayCost 24 = .ok (.iload 5, 2) := by decide +kernel
theorem dX9_delayCost_26 : decode cX9_delayCost 26 = .ok (.iload 4, 2) := by decide +kernel
theorem dX9_delayCost_28 : decode cX9_delayCost 28 = .ok (.if_icmp .ge 16, 3) := by decide +kernel
theorem dX9_delayCost_31 : decode cX9_delayCost 31 = .ok (.iload_n 3, 1) := by decide +kernel
theorem dX9_delayCost_32 : decode cX9_delayCost 32 = .ok (.iload_n 3, 1) := by decide +kernel
theorem dX9_delayCost_33 : decode cX9_delayCost 33 = .ok (.bipush 10, 2) := by decide +kernel
theorem dX9_delayCost_35 : decode cX9_delayCost 35 = .ok (.idiv, 1) := by decide +kernel
theorem dX9_delayCost_36 : decode cX9_delayCost 36 = .ok (.iadd, 1) := by decide +kernel
theorem dX9_delayCost_37 : decode cX9_delayCost 37 = .ok (.istore_n 3, 1) := by decide +kernel
theorem dX9_delayCost_38 : decode cX9_delayCost 38 = .ok (.iinc 5 1, 3) := by decide +kernel
theorem dX9_delayCost_41 : decode cX9_delayCost 41 = .ok (.goto (-17), 3) := by decide +kernel
theorem dX9_delayCost_44 : decode cX9_delayCost 44 = .ok (.iload_n 3, 1) := by decide +kernel
theorem dX9_delayCost_45 : decode cX9_delayCost 45 = .ok (.ireturn, 1) := by decide +kernel
theorem dX9_planWeek_0 : decode cX9_planWeek 0 = .ok (.aload_n 0, 1) := by decide +kernel
theorem dX9_planWeek_1 : decode cX9_planWeek 1 = .ok (.invokevirtual 315, 3) := by decide +kernel
theorem dX9_planWeek_4 : decode cX9_planWeek 4 = .ok (.istore_n 2, 1) := by decide +kernel
theorem dX9_planWeek_5 : decode cX9_planWeek 5 = .ok (.aload_n 0, 1) := by decide +kernel
theorem dX9_planWeek_6 : decode cX9_planWeek 6 = .ok (.getfield 59, 3) := by decide +kernel
theorem dX9_planWeek_9 : decode cX9_planWeek 9 = .ok (.iload_n 1, 1) := by decide +kernel
theorem dX9_planWeek_10 : decode cX9_planWeek 10 = .ok (.aload_n 0, 1) := by decide +kernel
theorem dX9_planWeek_11 : decode cX9_planWeek 11 = .ok (.getfield 99, 3) := by decide +kernel
theorem dX9_planWeek_14 : decode cX9_planWeek 14 = .ok (.invokevirtual 318, 3) := by decide +kernel
theorem dX9_planWeek_17 : decode cX9_planWeek 17 = .ok (.iconst 0, 1) := by decide +kernel
theorem dX9_planWeek_18 : decode cX9_planWeek 18 = .ok (.istore_n 3, 1) := by decide +kernel
theorem dX9_planWeek_19 : decode cX9_planWeek 19 = .ok (.iload_n 3, 1) := by decide +kernel
theorem dX9_planWeek_20 : decode cX9_planWeek 20 = .ok (.aload_n 0, 1) := by decide +kernel
theorem dX9_planWeek_21 : decode cX9_planWeek 21 = .ok (.getfield 36, 3) := by decide +kernel
theorem dX9_planWeek_24 : decode cX9_planWeek 24 = .ok (.invokevirtual 199, 3) := by decide +kernel
theorem dX9_planWeek_27 : decode cX9_planWeek 27 = .ok (.if_icmp .ge 23, 3) := by decide +kernel
theorem dX9_planWeek_30 : decode cX9_planWeek 30 = .ok (.iload_n 2, 1) := by decide +kernel
theorem dX9_planWeek_31 : decode cX9_planWeek 31 = .ok (.iload_n 3, 1) := by decide +kernel
theorem dX9_planWeek_32 : decode cX9_planWeek 32 = .ok (.ishr, 1) := by decide +kernel
theorem dX9_planWeek_33 : decode cX9_planWeek 33 = .ok (.iconst 1, 1) := by decide +kernel
theorem dX9_planWeek_34 : decode cX9_planWeek 34 = .ok (.iand, 1) := by decide +kernel
theorem dX9_planWeek_35 : decode cX9_planWeek 35 = .ok (.ifCond .eq 9, 3) := by decide +kernel
theorem dX9_planWeek_38 : decode cX9_planWeek 38 = .ok (.aload_n 0, 1) := by decide +kernel
theorem dX9_planWeek_39 : decode cX9_planWeek 39 = .ok (.iload_n 3, 1) := by decide +kernel
theorem dX9_planWeek_40 : decode cX9_planWeek 40 = .ok (.iload_n 1, 1) := by decide +kernel
theorem dX9_planWeek_41 : decode cX9_planWeek 41 = .ok (.invokevirtual 321, 3) := by decide +kernel
theorem dX9_planWeek_44 : decode cX9_planWeek 44 = .ok (.iinc 3 1, 3) := by decide +kernel
theorem dX9_planWeek_47 : decode cX9_planWeek 47 = .ok (.goto (-28), 3) := by decide +kernel
theorem dX9_planWeek_50 : decode cX9_planWeek 50 = .ok (.aload_n 0, 1) := by decide +kernel
theorem dX9_planWeek_51 : decode cX9_planWeek 51 = .ok (.getfield 59, 3) := by decide +kernel
theorem dX9_planWeek_54 : decode cX9_planWeek 54 = .ok (.invokevirtual 324, 3) := by decide +kernel
theorem dX9_planWeek_57 : decode cX9_planWeek 57 = .ok (.ireturn, 1) := by decide +kernel
theorem dX9_dearestToLeave_0 : decode cX9_dearestToLeave 0 = .ok (.iconst 0, 1) := by decide +kernel
theorem dX9_dearestToLeave_1 : decode cX9_dearestToLeave 1 = .ok (.istore_n 1, 1) := by decide +kernel
theorem dX9_dearestToLeave_2 : decode cX9_dearestToLeave 2 = .ok (.iload_n 1, 1) := by decide +kernel
theorem dX9_dearestToLeave_3 : decode cX9_dearestToLeave 3 = .ok (.aload_n 0, 1) := by decide +kernel
theorem dX9_dearestToLeave_4 : decode cX9_dearestToLeave 4 = .ok (.getfield 36, 3) := by decide +kernel
theorem dX9_dearestToLeave_7 : decode cX9_dearestToLeave 7 = .ok (.invokevirtual 199, 3) := by decide +kernel
theorem dX9_dearestToLeave_10 : decode cX9_dearestToLeave 10 = .ok (.if_icmp .ge 38, 3) := by decide +kernel
theorem dX9_dearestToLeave_13 : decode cX9_dearestToLeave 13 = .ok (.aload_n 0, 1) := by decide +kernel
theorem dX9_dearestToLeave_14 : decode cX9_dearestToLeave 14 = .ok (.iload_n 1, 1) := by decide +kernel
theorem dX9_dearestToLeave_15 : decode cX9_dearestToLeave 15 = .ok (.invokevirtual 203, 3) := by decide +kernel
theorem dX9_dearestToLeave_18 : decode cX9_dearestToLeave 18 = .ok (.istore_n 2, 1) := by decide +kernel
theorem dX9_dearestToLeave_19 : decode cX9_dearestToLeave 19 = .ok (.aload_n 0, 1) := by decide +kernel
theorem dX9_dearestToLeave_20 : decode cX9_dearestToLeave 20 = .ok (.getfield 20, 3) := by decide +kernel
theorem dX9_dearestToLeave_23 : decode cX9_dearestToLeave 23 = .ok (.iload_n 1, 1) := by decide +kernel
theorem dX9_dearestToLeave_24 : decode cX9_dearestToLeave 24 = .ok (.iload_n 2, 1) := by decide +kernel
theorem dX9_dearestToLeave_25 : decode cX9_dearestToLeave 25 = .ok (.aload_n 0, 1) := by decide +kernel
theorem dX9_dearestToLeave_26 : decode cX9_dearestToLeave 26 = .ok (.iload_n 1, 1) := by decide +kernel
theorem dX9_dearestToLeave_27 : decode cX9_dearestToLeave 27 = .ok (.iload_n 2, 1) := by decide +kernel
theorem dX9_dearestToLeave_28 : decode cX9_dearestToLeave 28 = .ok (.invokevirtual 206, 3) := by decide +kernel
theorem dX9_dearestToLeave_31 : decode cX9_dearestToLeave 31 = .ok (.aload_n 0, 1) := by decide +kernel
theorem dX9_dearestToLeave_32 : decode cX9_dearestToLeave 32 = .ok (.getfield 95, 3) := by decide +kernel
theorem dX9_dearestToLeave_35 : decode cX9_dearestToLeave 35 = .ok (.bipush 7, 2) := by decide +kernel
theorem dX9_dearestToLeave_37 : decode cX9_dearestToLeave 37 = .ok (.iadd, 1) := by decide +kernel
theorem dX9_dearestToLeave_38 : decode cX9_dearestToLeave 38 = .ok (.invokestatic 209, 3) := by decide +kernel
theorem dX9_dearestToLeave_41 : decode cX9_dearestToLeave 41 = .ok (.iastore, 1) := by decide +kernel
theorem dX9_dearestToLeave_42 : decode cX9_dearestToLeave 42 = .ok (.iinc 1 1, 3) := by decide +kernel
theorem dX9_dearestToLeave_45 : decode cX9_dearestToLeave 45 = .ok (.goto (-43), 3) := by decide +kernel
theorem dX9_dearestToLeave_48 : decode cX9_dearestToLeave 48 = .ok (.iconst 0, 1) := by decide +kernel
theorem dX9_dearestToLeave_49 : decode cX9_dearestToLeave 49 = .ok (.istore_n 1, 1) := by decide +kernel
theorem dX9_dearestToLeave_50 : decode cX9_dearestToLeave 50 = .ok (.iconst 0, 1) := by decide +kernel
theorem dX9_dearestToLeave_51 : decode cX9_dearestToLeave 51 = .ok (.istore_n 2, 1) := by decide +kernel
theorem dX9_dearestToLeave_52 : decode cX9_dearestToLeave 52 = .ok (.iload_n 2, 1) := by decide +kernel
theorem dX9_dearestToLeave_53 : decode cX9_dearestToLeave 53 = .ok (.bipush 6, 2) := by decide +kernel
theorem dX9_dearestToLeave_55 : decode cX9_dearestToLeave 55 = .ok (.if_icmp .ge 25, 3) := by decide +kernel
theorem dX9_dearestToLeave_58 : decode cX9_dearestToLeave 58 = .ok (.aload_n 0, 1) := by decide +kernel
theorem dX9_dearestToLeave_59 : decode cX9_dearestToLeave 59 = .ok (.iload_n 1, 1) := by decide +kernel
theorem dX9_dearestToLeave_60 : decode cX9_dearestToLeave 60 = .ok (.invokevirtual 327, 3) := by decide +kernel
theorem dX9_dearestToLeave_63 : decode cX9_dearestToLeave 63 = .ok (.istore_n 3, 1) := by decide +kernel
theorem dX9_dearestToLeave_64 : decode cX9_dearestToLeave 64 = .ok (.iload_n 3, 1) := by decide +kernel
theorem dX9_dearestToLeave_65 : decode cX9_dearestToLeave 65 = .ok (.ifCond .lt 9, 3) := by decide +kernel
theorem dX9_dearestToLeave_68 : decode cX9_dearestToLeave 68 = .ok (.iload_n 1, 1) := by decide +kernel
theorem dX9_dearestToLeave_69 : decode cX9_dearestToLeave 69 = .ok (.iconst 1, 1) := by decide +kernel
theorem dX9_dearestToLeave_70 : decode cX9_dearestToLeave 70 = .ok (.iload_n 3, 1) := by decide +kernel
theorem dX9_dearestToLeave_71 : decode cX9_dearestToLeave 71 = .ok (.ishl, 1) := by decide +kernel
theorem dX9_dearestToLeave_72 : decode cX9_dearestToLeave 72 = .ok (.ior, 1) := by decide +kernel
theorem dX9_dearestToLeave_73 : decode cX9_dearestToLeave 73 = .ok (.istore_n 1, 1) := by decide +kernel
theorem dX9_dearestToLeave_74 : decode cX9_dearestToLeave 74 = .ok (.iinc 2 1, 3) := by decide +kernel
theorem dX9_dearestToLeave_77 : decode cX9_dearestToLeave 77 = .ok (.goto (-25), 3) := by decide +kernel
theorem dX9_dearestToLeave_80 : decode cX9_dearestToLeave 80 = .ok (.iload_n 1, 1) := by decide +kernel
theorem dX9_dearestToLeave_81 : decode cX9_dearestToLeave 81 = .ok (.ireturn, 1) := by decide +kernel
theorem dX9_dearestBeside_0 : decode cX9_dearestBeside 0 = .ok (.iconst (-1), 1) := by decide +kernel
theorem dX9_dearestBeside_1 : decode cX9_dearestBeside 1 = .ok (.istore_n 2, 1) := by decide +kernel
theorem dX9_dearestBeside_2 : decode cX9_dearestBeside 2 = .ok (.iconst 0, 1) := by decide +kernel
theorem dX9_dearestBeside_3 : decode cX9_dearestBeside 3 = .ok (.istore_n 3, 1) := by decide +kernel
theorem dX9_dearestBeside_4 : decode cX9_dearestBeside 4 = .ok (.iconst 0, 1) := by decide +kernel
theorem dX9_dearestBeside_5 : decode cX9_dearestBeside 5 = .ok (.istore 4, 2) := by decide +kernel
theorem dX9_dearestBeside_7 : decode cX9_dearestBeside 7 = .ok (.iload 4, 2) := by decide +kernel
theorem dX9_dearestBeside_9 : decode cX9_dearestBeside 9 = .ok (.aload_n 0, 1) := by decide +kernel
theorem dX9_dearestBeside_10 : decode cX9_dearestBeside 10 = .ok (.getfield 36, 3) := by decide +kernel
theorem dX9_dearestBeside_13 : decode cX9_dearestBeside 13 = .ok (.invokevirtual 199, 3) := by decide +kernel
theorem dX9_dearestBeside_16 : decode cX9_dearestBeside 16 = .ok (.if_icmp .ge 40, 3) := by decide +kernel
theorem dX9_dearestBeside_19 : decode cX9_dearestBeside 19 = .ok (.iload_n 1, 1) := by decide +kernel
theorem dX9_dearestBeside_20 : decode cX9_dearestBeside 20 = .ok (.iload 4, 2) := by decide +kernel
theorem dX9_dearestBeside_22 : decode cX9_dearestBeside 22 = .ok (.ishr, 1) := by decide +kernel
theorem dX9_dearestBeside_23 : decode cX9_dearestBeside 23 = .ok (.iconst 1, 1) := by decide +kernel
theorem dX9_dearestBeside_24 : decode cX9_dearestBeside 24 = .ok (.iand, 1) := by decide +kernel
theorem dX9_dearestBeside_25 : decode cX9_dearestBeside 25 = .ok (.ifCond .ne 25, 3) := by decide +kernel
theorem dX9_dearestBeside_28 : decode cX9_dearestBeside 28 = .ok (.aload_n 0, 1) := by decide +kernel
theorem dX9_dearestBeside_29 : decode cX9_dearestBeside 29 = .ok (.getfield 20, 3) := by decide +kernel
theorem dX9_dearestBeside_32 : decode cX9_dearestBeside 32 = .ok (.iload 4, 2) := by decide +kernel
theorem dX9_dearestBeside_34 : decode cX9_dearestBeside 34 = .ok (.iaload, 1) := by decide +kernel
theorem dX9_dearestBeside_35 : decode cX9_dearestBeside 35 = .ok (.iload_n 3, 1) := by decide +kernel
theorem dX9_dearestBeside_36 : decode cX9_dearestBeside 36 = .ok (.if_icmp .le 14, 3) := by decide +kernel
theorem dX9_dearestBeside_39 : decode cX9_dearestBeside 39 = .ok (.iload 4, 2) := by decide +kernel
theorem dX9_dearestBeside_41 : decode cX9_dearestBeside 41 = .ok (.istore_n 2, 1) := by decide +kernel
theorem dX9_dearestBeside_42 : decode cX9_dearestBeside 42 = .ok (.aload_n 0, 1) := by decide +kernel
theorem dX9_dearestBeside_43 : decode cX9_dearestBeside 43 = .ok (.getfield 20, 3) := by decide +kernel
theorem dX9_dearestBeside_46 : decode cX9_dearestBeside 46 = .ok (.iload 4, 2) := by decide +kernel
theorem dX9_dearestBeside_48 : decode cX9_dearestBeside 48 = .ok (.iaload, 1) := by decide +kernel
theorem dX9_dearestBeside_49 : decode cX9_dearestBeside 49 = .ok (.istore_n 3, 1) := by decide +kernel
theorem dX9_dearestBeside_50 : decode cX9_dearestBeside 50 = .ok (.iinc 4 1, 3) := by decide +kernel
theorem dX9_dearestBeside_53 : decode cX9_dearestBeside 53 = .ok (.goto (-46), 3) := by decide +kernel
theorem dX9_dearestBeside_56 : decode cX9_dearestBeside 56 = .ok (.iload_n 2, 1) := by decide +kernel
theorem dX9_dearestBeside_57 : decode cX9_dearestBeside 57 = .ok (.ireturn, 1) := by decide +kernel
theorem dX9_enterWeek_0 : decode cX9_enterWeek 0 = .ok (.aload_n 0, 1) := by decide +kernel
theorem dX9_enterWeek_1 : decode cX9_enterWeek 1 = .ok (.iload_n 1, 1) := by decide +kernel
theorem dX9_enterWeek_2 : decode cX9_enterWeek 2 = .ok (.invokevirtual 203, 3) := by decide +kernel
theorem dX9_enterWeek_5 : decode cX9_enterWeek 5 = .ok (.istore_n 3, 1) := by decide +kernel
theorem dX9_enterWeek_6 : decode cX9_enterWeek 6 = .ok (.aload_n 0, 1) := by decide +kernel
theorem dX9_enterWeek_7 : decode cX9_enterWeek 7 = .ok (.iload_n 1, 1) := by decide +kernel
theorem dX9_enterWeek_8 : decode cX9_enterWeek 8 = .ok (.iload_n 3, 1) := by decide +kernel
theorem dX9_enterWeek_9 : decode cX9_enterWeek 9 = .ok (.invokevirtual 206, 3) := by decide +kernel
theorem dX9_enterWeek_12 : decode cX9_enterWeek 12 = .ok (.istore 4, 2) := by decide +kernel
theorem dX9_enterWeek_14 : decode cX9_enterWeek 14 = .ok (.aload_n 0, 1) := by decide +kernel
theorem dX9_enterWeek_15 : decode cX9_enterWeek 15 = .ok (.getfield 36, 3) := by decide +kernel
theorem dX9_enterWeek_18 : decode cX9_enterWeek 18 = .ok (.iload_n 1, 1) := by decide +kernel
theorem dX9_enterWeek_19 : decode cX9_enterWeek 19 = .ok (.invokevirtual 147, 3) := by decide +kernel
theorem dX9_enterWeek_22 : decode cX9_enterWeek 22 = .ok (.ifCond .eq 7, 3) := by decide +kernel
theorem dX9_enterWeek_25 : decode cX9_enterWeek 25 = .ok (.iconst 2, 1) := by decide +kernel
theorem dX9_enterWeek_26 : decode cX9_enterWeek 26 = .ok (.goto 4, 3) := by decide +kernel
theorem dX9_enterWeek_29 : decode cX9_enterWeek 29 = .ok (.iconst 1, 1) := by decide +kernel
theorem dX9_enterWeek_30 : decode cX9_enterWeek 30 = .ok (.istore 5, 2) := by decide +kernel
theorem dX9_enterWeek_32 : decode cX9_enterWeek 32 = .ok (.aload_n 0, 1) := by decide +kernel
theorem dX9_enterWeek_33 : decode cX9_enterWeek 33 = .ok (.getfield 59, 3) := by decide +kernel
theorem dX9_enterWeek_36 : decode cX9_enterWeek 36 = .ok (.iload_n 1, 1) := by decide +kernel
theorem dX9_enterWeek_37 : decode cX9_enterWeek 37 = .ok (.iload 5, 2) := by decide +kernel
theorem dX9_enterWeek_39 : decode cX9_enterWeek 39 = .ok (.aload_n 0, 1) := by decide +kernel
theorem dX9_enterWeek_40 : decode cX9_enterWeek 40 = .ok (.aload_n 0, 1) := by decide +kernel
theorem dX9_enterWeek_41 : decode cX9_enterWeek 41 = .ok (.getfield 36, 3) := by decide +kernel
theorem dX9_enterWeek_44 : decode cX9_enterWeek 44 = .ok (.iload_n 1, 1) := by decide +kernel
theorem dX9_enterWeek_45 : decode cX9_enterWeek 45 = .ok (.invokevirtual 157, 3) := by decide +kernel
theorem dX9_enterWeek_48 : decode cX9_enterWeek 48 = .ok (.iload_n 2, 1) := by decide +kernel
theorem dX9_enterWeek_49 : decode cX9_enterWeek 49 = .ok (.invokevirtual 330, 3) := by decide +kernel
theorem dX9_enterWeek_52 : decode cX9_enterWeek 52 = .ok (.invokevirtual 333, 3) := by decide +kernel
theorem dX9_enterWeek_55 : decode cX9_enterWeek 55 = .ok (.istore 6, 2) := by decide +kernel
theorem dX9_enterWeek_57 : decode cX9_enterWeek 57 = .ok (.iconst 0, 1) := by decide +kernel
theorem dX9_enterWeek_58 : decode cX9_enterWeek 58 = .ok (.istore 7, 2) := by decide +kernel
theorem dX9_enterWeek_60 : decode cX9_enterWeek 60 = .ok (.iload 7, 2) := by decide +kernel
theorem dX9_enterWeek_62 : decode cX9_enterWeek 62 = .ok (.iconst 5, 1) := by decide +kernel
theorem dX9_enterWeek_63 : decode cX9_enterWeek 63 = .ok (.if_icmp .ge 33, 3) := by decide +kernel
theorem dX9_enterWeek_66 : decode cX9_enterWeek 66 = .ok (.aload_n 0, 1) := by decide +kernel
theorem dX9_enterWeek_67 : decode cX9_enterWeek 67 = .ok (.getfield 59, 3) := by decide +kernel
theorem dX9_enterWeek_70 : decode cX9_enterWeek 70 = .ok (.iload 6, 2) := by decide +kernel
theorem dX9_enterWeek_72 : decode cX9_enterWeek 72 = .ok (.iload 7, 2) := by decide +kernel
theorem dX9_enterWeek_74 : decode cX9_enterWeek 74 = .ok (.iload_n 3, 1) := by decide +kernel
theorem dX9_enterWeek_75 : decode cX9_enterWeek 75 = .ok (.iload 4, 2) := by decide +kernel
theorem dX9_enterWeek_77 : decode cX9_enterWeek 77 = .ok (.aload_n 0, 1) := by decide +kernel
theorem dX9_enterWeek_78 : decode cX9_enterWeek 78 = .ok (.getfield 95, 3) := by decide +kernel
theorem dX9_enterWeek_81 : decode cX9_enterWeek 81 = .ok (.iload 7, 2) := by decide +kernel
theorem dX9_enterWeek_83 : decode cX9_enterWeek 83 = .ok (.iadd, 1) := by decide +kernel
theorem dX9_enterWeek_84 : decode cX9_enterWeek 84 = .ok (.invokestatic 209, 3) := by decide +kernel
theorem dX9_enterWeek_87 : decode cX9_enterWeek 87 = .ok (.invokevirtual 334, 3) := by decide +kernel
theorem dX9_enterWeek_90 : decode cX9_enterWeek 90 = .ok (.iinc 7 1, 3) := by decide +kernel
theorem dX9_enterWeek_93 : decode cX9_enterWeek 93 = .ok (.goto (-33), 3) := by decide +kernel
theorem dX9_enterWeek_96 : decode cX9_enterWeek 96 = .ok (.aload_n 0, 1) := by decide +kernel
theorem dX9_enterWeek_97 : decode cX9_enterWeek 97 = .ok (.getfield 59, 3) := by decide +kernel
theorem dX9_enterWeek_100 : decode cX9_enterWeek 100 = .ok (.iload 6, 2) := by decide +kernel
theorem dX9_enterWeek_102 : decode cX9_enterWeek 102 = .ok (.iconst 5, 1) := by decide +kernel
theorem dX9_enterWeek_103 : decode cX9_enterWeek 103 = .ok (.iconst 2, 1) := by decide +kernel
theorem dX9_enterWeek_104 : decode cX9_enterWeek 104 = .ok (.aload_n 0, 1) := by decide +kernel
theorem dX9_enterWeek_105 : decode cX9_enterWeek 105 = .ok (.getfield 20, 3) := by decide +kernel
theorem dX9_enterWeek_108 : decode cX9_enterWeek 108 = .ok (.iload_n 1, 1) := by decide +kernel
theorem dX9_enterWeek_109 : decode cX9_enterWeek 109 = .ok (.iaload, 1) := by decide +kernel
theorem dX9_enterWeek_110 : decode cX9_enterWeek 110 = .ok (.imul, 1) := by decide +kernel
theorem dX9_enterWeek_111 : decode cX9_enterWeek 111 = .ok (.invokevirtual 334, 3) := by decide +kernel
theorem dX9_enterWeek_114 : decode cX9_enterWeek 114 = .ok (.return_, 1) := by decide +kernel
theorem dX9_handsFree_0 : decode cX9_handsFree 0 = .ok (.iconst 0, 1) := by decide +kernel
theorem dX9_handsFree_1 : decode cX9_handsFree 1 = .ok (.istore_n 3, 1) := by decide +kernel
theorem dX9_handsFree_2 : decode cX9_handsFree 2 = .ok (.iconst 0, 1) := by decide +kernel
theorem dX9_handsFree_3 : decode cX9_handsFree 3 = .ok (.istore 4, 2) := by decide +kernel
theorem dX9_handsFree_5 : decode cX9_handsFree 5 = .ok (.iload 4, 2) := by decide +kernel
theorem dX9_handsFree_7 : decode cX9_handsFree 7 = .ok (.iload_n 2, 1) := by decide +kernel
theorem dX9_handsFree_8 : decode cX9_handsFree 8 = .ok (.if_icmp .ge 32, 3) := by decide +kernel
theorem dX9_handsFree_11 : decode cX9_handsFree 11 = .ok (.iload 4, 2) := by decide +kernel
theorem dX9_handsFree_13 : decode cX9_handsFree 13 = .ok (.iconst 5, 1) := by decide +kernel
theorem dX9_handsFree_14 : decode cX9_handsFree 14 = .ok (.if_icmp .ge 26, 3) := by decide +kernel
theorem dX9_handsFree_17 : decode cX9_handsFree 17 = .ok (.aload_n 0, 1) := by decide +kernel
theorem dX9_handsFree_18 : decode cX9_handsFree 18 = .ok (.iload 4, 2) := by decide +kernel
theorem dX9_handsFree_20 : decode cX9_handsFree 20 = .ok (.iload_n 1, 1) := by decide +kernel
theorem dX9_handsFree_21 : decode cX9_handsFree 21 = .ok (.invokevirtual 154, 3) := by decide +kernel
theorem dX9_handsFree_24 : decode cX9_handsFree 24 = .ok (.ifCond .ne 10, 3) := by decide +kernel
theorem dX9_handsFree_27 : decode cX9_handsFree 27 = .ok (.iload_n 3, 1) := by decide +kernel
theorem dX9_handsFree_28 : decode cX9_handsFree 28 = .ok (.iconst 1, 1) := by decide +kernel
theorem dX9_handsFree_29 : decode cX9_handsFree 29 = .ok (.iload 4, 2) := by decide +kernel
theorem dX9_handsFree_31 : decode cX9_handsFree 31 = .ok (.ishl, 1) := by decide +kernel
theorem dX9_handsFree_32 : decode cX9_handsFree 32 = .ok (.ior, 1) := by decide +kernel
theorem dX9_handsFree_33 : decode cX9_handsFree 33 = .ok (.istore_n 3, 1) := by decide +kernel
theorem dX9_handsFree_34 : decode cX9_handsFree 34 = .ok (.iinc 4 1, 3) := by decide +kernel
theorem dX9_handsFree_37 : decode cX9_handsFree 37 = .ok (.goto (-32), 3) := by decide +kernel
theorem dX9_handsFree_40 : decode cX9_handsFree 40 = .ok (.iload_n 3, 1) := by decide +kernel
theorem dX9_handsFree_41 : decode cX9_handsFree 41 = .ok (.ireturn, 1) := by decide +kernel
theorem dX9_evenScore_0 : decode cX9_evenScore 0 = .ok (.aload_n 0, 1) := by decide +kernel
theorem dX9_evenScore_1 : decode cX9_evenScore 1 = .ok (.getfield 68, 3) := by decide +kernel
theorem dX9_evenScore_4 : decode cX9_evenScore 4 = .ok (.aload_n 0, 1) := by decide +kernel
theorem dX9_evenScore_5 : decode cX9_evenScore 5 = .ok (.getfield 45, 3) := by decide +kernel
theorem dX9_evenScore_8 : decode cX9_evenScore 8 = .ok (.iload_n 1, 1) := by decide +kernel
theorem dX9_evenScore_9 : decode cX9_evenScore 9 = .ok (.invokevirtual 337, 3) := by decide +kernel
theorem dX9_evenScore_12 : decode cX9_evenScore 12 = .ok (.invokevirtual 234, 3) := by decide +kernel
theorem dX9_evenScore_15 : decode cX9_evenScore 15 = .ok (.astore_n 2, 1) := by decide +kernel
theorem dX9_evenScore_16 : decode cX9_evenScore 16 = .ok (.aload_n 2, 1) := by decide +kernel
theorem dX9_evenScore_17 : decode cX9_evenScore 17 = .ok (.iconst 1, 1) := by decide +kernel
theorem dX9_evenScore_18 : decode cX9_evenScore 18 = .ok (.invokevirtual 238, 3) := by decide +kernel
theorem dX9_evenScore_21 : decode cX9_evenScore 21 = .ok (.lstore_n 3, 1) := by decide +kernel
theorem dX9_evenScore_22 : decode cX9_evenScore 22 = .ok (.aload_n 0, 1) := by decide +kernel
theorem dX9_evenScore_23 : decode cX9_evenScore 23 = .ok (.getfield 91, 3) := by decide +kernel
theorem dX9_evenScore_26 : decode cX9_evenScore 26 = .ok (.aload_n 0, 1) := by decide +kernel
theorem dX9_evenScore_27 : decode cX9_evenScore 27 = .ok (.getfield 45, 3) := by decide +kernel
theorem dX9_evenScore_30 : decode cX9_evenScore 30 = .ok (.iload_n 1, 1) := by decide +kernel
theorem dX9_evenScore_31 : decode cX9_evenScore 31 = .ok (.invokevirtual 340, 3) := by decide +kernel
theorem dX9_evenScore_34 : decode cX9_evenScore 34 = .ok (.i2l, 1) := by decide +kernel
theorem dX9_evenScore_35 : decode cX9_evenScore 35 = .ok (.lload_n 3, 1) := by decide +kernel
theorem dX9_evenScore_36 : decode cX9_evenScore 36 = .ok (.lmul, 1) := by decide +kernel
theorem dX9_evenScore_37 : decode cX9_evenScore 37 = .ok (.aload_n 2, 1) := by decide +kernel
theorem dX9_evenScore_38 : decode cX9_evenScore 38 = .ok (.iconst 0, 1) := by decide +kernel
theorem dX9_evenScore_39 : decode cX9_evenScore 39 = .ok (.invokevirtual 238, 3) := by decide +kernel
theorem dX9_evenScore_42 : decode cX9_evenScore 42 = .ok (.lsub, 1) := by decide +kernel
theorem dX9_evenScore_43 : decode cX9_evenScore 43 = .ok (.lload_n 3, 1) := by decide +kernel
theorem dX9_evenScore_44 : decode cX9_evenScore 44 = .ok (.invokevirtual 343, 3) := by decide +kernel
theorem dX9_evenScore_47 : decode cX9_evenScore 47 = .ok (.return_, 1) := by decide +kernel
theorem dX9_isOtherWhenEvened_0 : decode cX9_isOtherWhenEvened 0 = .ok (.aload_n 0, 1) := by decide +kernel
theorem dX9_isOtherWhenEvened_1 : decode cX9_isOtherWhenEvened 1 = .ok (.getfield 45, 3) := by decide +kernel
theorem dX9_isOtherWhenEvened_4 : decode cX9_isOtherWhenEvened 4 = .ok (.iload_n 1, 1) := by decide +kernel
theorem dX9_isOtherWhenEvened_5 : decode cX9_isOtherWhenEvened 5 = .ok (.invokevirtual 172, 3) := by decide +kernel
theorem dX9_isOtherWhenEvened_8 : decode cX9_isOtherWhenEvened 8 = .ok (.istore_n 2, 1) := by decide +kernel
theorem dX9_isOtherWhenEvened_9 : decode cX9_isOtherWhenEvened 9 = .ok (.aload_n 0, 1) := by decide +kernel
theorem dX9_isOtherWhenEvened_10 : decode cX9_isOtherWhenEvened 10 = .ok (.getfield 52, 3) := by decide +kernel
theorem dX9_isOtherWhenEvened_13 : decode cX9_isOtherWhenEvened 13 = .ok (.iload_n 2, 1) := by decide +kernel
theorem dX9_isOtherWhenEvened_14 : decode cX9_isOtherWhenEvened 14 = .ok (.aload_n 0, 1) := by decide +kernel
theorem dX9_isOtherWhenEvened_15 : decode cX9_isOtherWhenEvened 15 = .ok (.getfield 45, 3) := by decide +kernel
theorem dX9_isOtherWhenEvened_18 : decode cX9_isOtherWhenEvened 18 = .ok (.iload_n 1, 1) := by decide +kernel
theorem dX9_isOtherWhenEvened_19 : decode cX9_isOtherWhenEvened 19 = .ok (.invokevirtual 340, 3) := by decide +kernel
theorem dX9_isOtherWhenEvened_22 : decode cX9_isOtherWhenEvened 22 = .ok (.i2l, 1) := by decide +kernel
theorem dX9_isOtherWhenEvened_23 : decode cX9_isOtherWhenEvened 23 = .ok (.lconst 1, 1) := by decide +kernel
theorem dX9_isOtherWhenEvened_24 : decode cX9_isOtherWhenEvened 24 = .ok (.invokevirtual 300, 3) := by decide +kernel
theorem dX9_isOtherWhenEvened_27 : decode cX9_isOtherWhenEvened 27 = .ok (.istore_n 3, 1) := by decide +kernel
theorem dX9_isOtherWhenEvened_28 : decode cX9_isOtherWhenEvened 28 = .ok (.aload_n 0, 1) := by decide +kernel
theorem dX9_isOtherWhenEvened_29 : decode cX9_isOtherWhenEvened 29 = .ok (.iload_n 1, 1) := by decide +kernel
theorem dX9_isOtherWhenEvened_30 : decode cX9_isOtherWhenEvened 30 = .ok (.invokevirtual 241, 3) := by decide +kernel
theorem dX9_isOtherWhenEvened_33 : decode cX9_isOtherWhenEvened 33 = .ok (.iload_n 3, 1) := by decide +kernel
theorem dX9_isOtherWhenEvened_34 : decode cX9_isOtherWhenEvened 34 = .ok (.ifCond .eq 35, 3) := by decide +kernel
theorem dX9_isOtherWhenEvened_37 : decode cX9_isOtherWhenEvened 37 = .ok (.iload_n 3, 1) := by decide +kernel
theorem dX9_isOtherWhenEvened_38 : decode cX9_isOtherWhenEvened 38 = .ok (.aload_n 0, 1) := by decide +kernel
theorem dX9_isOtherWhenEvened_39 : decode cX9_isOtherWhenEvened 39 = .ok (.getfield 52, 3) := by decide +kernel
theorem dX9_isOtherWhenEvened_42 : decode cX9_isOtherWhenEvened 42 = .ok (.iload_n 2, 1) := by decide +kernel
theorem dX9_isOtherWhenEvened_43 : decode cX9_isOtherWhenEvened 43 = .ok (.aload_n 0, 1) := by decide +kernel
theorem dX9_isOtherWhenEvened_44 : decode cX9_isOtherWhenEvened 44 = .ok (.getfield 91, 3) := by decide +kernel
theorem dX9_isOtherWhenEvened_47 : decode cX9_isOtherWhenEvened 47 = .ok (.iconst 0, 1) := by decide +kernel
theorem dX9_isOtherWhenEvened_48 : decode cX9_isOtherWhenEvened 48 = .ok (.invokevirtual 238, 3) := by decide +kernel
theorem dX9_isOtherWhenEvened_51 : decode cX9_isOtherWhenEvened 51 = .ok (.aload_n 0, 1) := by decide +kernel
theorem dX9_isOtherWhenEvened_52 : decode cX9_isOtherWhenEvened 52 = .ok (.getfield 91, 3) := by decide +kernel
theorem dX9_isOtherWhenEvened_55 : decode cX9_isOtherWhenEvened 55 = .ok (.iconst 1, 1) := by decide +kernel
theorem dX9_isOtherWhenEvened_56 : decode cX9_isOtherWhenEvened 56 = .ok (.invokevirtual 238, 3) := by decide +kernel
theorem dX9_isOtherWhenEvened_59 : decode cX9_isOtherWhenEvened 59 = .ok (.invokevirtual 300, 3) := by decide +kernel
theorem dX9_isOtherWhenEvened_62 : decode cX9_isOtherWhenEvened 62 = .ok (.if_icmp .eq 7, 3) := by decide +kernel
theorem dX9_isOtherWhenEvened_65 : decode cX9_isOtherWhenEvened 65 = .ok (.iconst 1, 1) := by decide +kernel
theorem dX9_isOtherWhenEvened_66 : decode cX9_isOtherWhenEvened 66 = .ok (.goto 4, 3) := by decide +kernel
theorem dX9_isOtherWhenEvened_69 : decode cX9_isOtherWhenEvened 69 = .ok (.iconst 0, 1) := by decide +kernel
theorem dX9_isOtherWhenEvened_70 : decode cX9_isOtherWhenEvened 70 = .ok (.ireturn, 1) := by decide +kernel
theorem dX9_dealSeats_0 : decode cX9_dealSeats 0 = .ok (.iconst 0, 1) := by decide +kernel
theorem dX9_dealSeats_1 : decode cX9_dealSeats 1 = .ok (.istore_n 3, 1) := by decide +kernel
theorem dX9_dealSeats_2 : decode cX9_dealSeats 2 = .ok (.iload_n 3, 1) := by decide +kernel
theorem dX9_dealSeats_3 : decode cX9_dealSeats 3 = .ok (.iload_n 2, 1) := by decide +kernel
theorem dX9_dealSeats_4 : decode cX9_dealSeats 4 = .ok (.if_icmp .ge 21, 3) := by decide +kernel
theorem dX9_dealSeats_7 : decode cX9_dealSeats 7 = .ok (.iload_n 3, 1) := by decide +kernel
theorem dX9_dealSeats_8 : decode cX9_dealSeats 8 = .ok (.iconst 5, 1) := by decide +kernel
theorem dX9_dealSeats_9 : decode cX9_dealSeats 9 = .ok (.if_icmp .ge 16, 3) := by decide +kernel
theorem dX9_dealSeats_12 : decode cX9_dealSeats 12 = .ok (.aload_n 0, 1) := by decide +kernel
theorem dX9_dealSeats_13 : decode cX9_dealSeats 13 = .ok (.getfield 23, 3) := by decide +kernel
theorem dX9_dealSeats_16 : decode cX9_dealSeats 16 = .ok (.iload_n 3, 1) := by decide +kernel
theorem dX9_dealSeats_17 : decode cX9_dealSeats 17 = .ok (.iload_n 3, 1) := by decide +kernel
theorem dX9_dealSeats_18 : decode cX9_dealSeats 18 = .ok (.iastore, 1) := by decide +kernel
theorem dX9_dealSeats_19 : decode cX9_dealSeats 19 = .ok (.iinc 3 1, 3) := by decide +kernel
theorem dX9_dealSeats_22 : decode cX9_dealSeats 22 = .ok (.goto (-20), 3) := by decide +kernel
theorem dX9_dealSeats_25 : decode cX9_dealSeats 25 = .ok (.iload_n 1, 1) := by decide +kernel
theorem dX9_dealSeats_26 : decode cX9_dealSeats 26 = .ok (.istore_n 3, 1) := by decide +kernel
theorem dX9_dealSeats_27 : decode cX9_dealSeats 27 = .ok (.iload_n 2, 1) := by decide +kernel
theorem dX9_dealSeats_28 : decode cX9_dealSeats 28 = .ok (.iconst 5, 1) := by decide +kernel
theorem dX9_dealSeats_29 : decode cX9_dealSeats 29 = .ok (.invokestatic 347, 3) := by decide +kernel
theorem dX9_dealSeats_32 : decode cX9_dealSeats 32 = .ok (.iconst 1, 1) := by decide +kernel
theorem dX9_dealSeats_33 : decode cX9_dealSeats 33 = .ok (.isub, 1) := by decide +kernel
theorem dX9_dealSeats_34 : decode cX9_dealSeats 34 = .ok (.istore 4, 2) := by decide +kernel
theorem dX9_dealSeats_36 : decode cX9_dealSeats 36 = .ok (.iload 4, 2) := by decide +kernel
theorem dX9_dealSeats_38 : decode cX9_dealSeats 38 = .ok (.iconst 1, 1) := by decide +kernel
theorem dX9_dealSeats_39 : decode cX9_dealSeats 39 = .ok (.if_icmp .lt 63, 3) := by decide +kernel
theorem dX9_dealSeats_42 : decode cX9_dealSeats 42 = .ok (.iload_n 3, 1) := by decide +kernel
theorem dX9_dealSeats_43 : decode cX9_dealSeats 43 = .ok (.bipush 37, 2) := by decide +kernel
theorem dX9_dealSeats_45 : decode cX9_dealSeats 45 = .ok (.imul, 1) := by decide +kernel
theorem dX9_dealSeats_46 : decode cX9_dealSeats 46 = .ok (.bipush 101, 2) := by decide +kernel
theorem dX9_dealSeats_48 : decode cX9_dealSeats 48 = .ok (.iadd, 1) := by decide +kernel
theorem dX9_dealSeats_49 : decode cX9_dealSeats 49 = .ok (.sipush 10007, 3) := by decide +kernel
theorem dX9_dealSeats_52 : decode cX9_dealSeats 52 = .ok (.irem, 1) := by decide +kernel
theorem dX9_dealSeats_53 : decode cX9_dealSeats 53 = .ok (.istore_n 3, 1) := by decide +kernel
theorem dX9_dealSeats_54 : decode cX9_dealSeats 54 = .ok (.iload_n 3, 1) := by decide +kernel
theorem dX9_dealSeats_55 : decode cX9_dealSeats 55 = .ok (.iload 4, 2) := by decide +kernel
theorem dX9_dealSeats_57 : decode cX9_dealSeats 57 = .ok (.iconst 1, 1) := by decide +kernel
theorem dX9_dealSeats_58 : decode cX9_dealSeats 58 = .ok (.iadd, 1) := by decide +kernel
theorem dX9_dealSeats_59 : decode cX9_dealSeats 59 = .ok (.invokestatic 350, 3) := by decide +kernel
theorem dX9_dealSeats_62 : decode cX9_dealSeats 62 = .ok (.istore 5, 2) := by decide +kernel
theorem dX9_dealSeats_64 : decode cX9_dealSeats 64 = .ok (.aload_n 0, 1) := by decide +kernel
theorem dX9_dealSeats_65 : decode cX9_dealSeats 65 = .ok (.getfield 23, 3) := by decide +kernel
theorem dX9_dealSeats_68 : decode cX9_dealSeats 68 = .ok (.iload 4, 2) := by decide +kernel
theorem dX9_dealSeats_70 : decode cX9_dealSeats 70 = .ok (.iaload, 1) := by decide +kernel
theorem dX9_dealSeats_71 : decode cX9_dealSeats 71 = .ok (.istore 6, 2) := by decide +kernel
theorem dX9_dealSeats_73 : decode cX9_dealSeats 73 = .ok (.aload_n 0, 1) := by decide +kernel
theorem dX9_dealSeats_74 : decode cX9_dealSeats 74 = .ok (.getfield 23, 3) := by decide +kernel
theorem dX9_dealSeats_77 : decode cX9_dealSeats 77 = .ok (.iload 4, 2) := by decide +kernel
theorem dX9_dealSeats_79 : decode cX9_dealSeats 79 = .ok (.aload_n 0, 1) := by decide +kernel
theorem dX9_dealSeats_80 : decode cX9_dealSeats 80 = .ok (.getfield 23, 3) := by decide +kernel
theorem dX9_dealSeats_83 : decode cX9_dealSeats 83 = .ok (.iload 5, 2) := by decide +kernel
theorem dX9_dealSeats_85 : decode cX9_dealSeats 85 = .ok (.iaload, 1) := by decide +kernel
theorem dX9_dealSeats_86 : decode cX9_dealSeats 86 = .ok (.iastore, 1) := by decide +kernel
theorem dX9_dealSeats_87 : decode cX9_dealSeats 87 = .ok (.aload_n 0, 1) := by decide +kernel
theorem dX9_dealSeats_88 : decode cX9_dealSeats 88 = .ok (.getfield 23, 3) := by decide +kernel
theorem dX9_dealSeats_91 : decode cX9_dealSeats 91 = .ok (.iload 5, 2) := by decide +kernel
theorem dX9_dealSeats_93 : decode cX9_dealSeats 93 = .ok (.iload 6, 2) := by decide +kernel
theorem dX9_dealSeats_95 : decode cX9_dealSeats 95 = .ok (.iastore, 1) := by decide +kernel
theorem dX9_dealSeats_96 : decode cX9_dealSeats 96 = .ok (.iinc 4 (-1), 3) := by decide +kernel
theorem dX9_dealSeats_99 : decode cX9_dealSeats 99 = .ok (.goto (-63), 3) := by decide +kernel
theorem dX9_dealSeats_102 : decode cX9_dealSeats 102 = .ok (.return_, 1) := by decide +kernel
theorem dX10_init_0 : decode cX10_init 0 = .ok (.aload_n 0, 1) := by decide +kernel
theorem dX10_init_1 : decode cX10_init 1 = .ok (.invokespecial 1, 3) := by decide +kernel
theorem dX10_init_4 : decode cX10_init 4 = .ok (.aload_n 0, 1) := by decide +kernel
theorem dX10_init_5 : decode cX10_init 5 = .ok (.bipush 40, 2) := by decide +kernel
theorem dX10_init_7 : decode cX10_init 7 = .ok (.newarray .int, 2) := by decide +kernel
theorem dX10_init_9 : decode cX10_init 9 = .ok (.putfield 7, 3) := by decide +kernel
theorem dX10_init_12 : decode cX10_init 12 = .ok (.aload_n 0, 1) := by decide +kernel
theorem dX10_init_13 : decode cX10_init 13 = .ok (.bipush 40, 2) := by decide +kernel
theorem dX10_init_15 : decode cX10_init 15 = .ok (.newarray .int, 2) := by decide +kernel
theorem dX10_init_17 : decode cX10_init 17 = .ok (.putfield 13, 3) := by decide +kernel
theorem dX10_init_20 : decode cX10_init 20 = .ok (.aload_n 0, 1) := by decide +kernel
theorem dX10_init_21 : decode cX10_init 21 = .ok (.bipush 40, 2) := by decide +kernel
theorem dX10_init_23 : decode cX10_init 23 = .ok (.newarray .int, 2) := by decide +kernel
theorem dX10_init_25 : decode cX10_init 25 = .ok (.putfield 16, 3) := by decide +kernel
theorem dX10_init_28 : decode cX10_init 28 = .ok (.aload_n 0, 1) := by decide +kernel
theorem dX10_init_29 : decode cX10_init 29 = .ok (.bipush 40, 2) := by decide +kernel
theorem dX10_init_31 : decode cX10_init 31 = .ok (.newarray .int, 2) := by decide +kernel
theorem dX10_init_33 : decode cX10_init 33 = .ok (.putfield 19, 3) := by decide +kernel
theorem dX10_init_36 : decode cX10_init 36 = .ok (.aload_n 0, 1) := by decide +kernel
theorem dX10_init_37 : decode cX10_init 37 = .ok (.bipush 40, 2) := by decide +kernel
theorem dX10_init_39 : decode cX10_init 39 = .ok (.newarray .int, 2) := by decide +kernel
theorem dX10_init_41 : decode cX10_init 41 = .ok (.putfield 22, 3) := by decide +kernel
theorem dX10_init_44 : decode cX10_init 44 = .ok (.aload_n 0, 1) := by decide +kernel
theorem dX10_init_45 : decode cX10_init 45 = .ok (.iconst 5, 1) := by decide +kernel
theorem dX10_init_46 : decode cX10_init 46 = .ok (.newarray .int, 2) := by decide +kernel
theorem dX10_init_48 : decode cX10_init 48 = .ok (.dup, 1) := by decide +kernel
theorem dX10_init_49 : decode cX10_init 49 = .ok (.iconst 0, 1) := by decide +kernel
theorem dX10_init_50 : decode cX10_init 50 = .ok (.bipush 60, 2) := by decide +kernel
theorem dX10_init_52 : decode cX10_init 52 = .ok (.iastore, 1) := by decide +kernel
theorem dX10_init_53 : decode cX10_init 53 = .ok (.dup, 1) := by decide +kernel
theorem dX10_init_54 : decode cX10_init 54 = .ok (.iconst 1, 1) := by decide +kernel
theorem dX10_init_55 : decode cX10_init 55 = .ok (.bipush 60, 2) := by decide +kernel
theorem dX10_init_57 : decode cX10_init 57 = .ok (.iastore, 1) := by decide +kernel
theorem dX10_init_58 : decode cX10_init 58 = .ok (.dup, 1) := by decide +kernel
theorem dX10_init_59 : decode cX10_init 59 = .ok (.iconst 2, 1) := by decide +kernel
theorem dX10_init_60 : decode cX10_init 60 = .ok (.bipush 60, 2) := by decide +kernel
theorem dX10_init_62 : decode cX10_init 62 = .ok (.iastore, 1) := by decide +kernel
theorem dX10_init_63 : decode cX10_init 63 = .ok (.dup, 1) := by decide +kernel
theorem dX10_init_64 : decode cX10_init 64 = .ok (.iconst 3, 1) := by decide +kernel
theorem dX10_init_65 : decode cX10_init 65 = .ok (.bipush 60, 2) := by decide +kernel
theorem dX10_init_67 : decode cX10_init 67 = .ok (.iastore, 1) := by decide +kernel
theorem dX10_init_68 : decode cX10_init 68 = .ok (.dup, 1) := by decide +kernel
theorem dX10_init_69 : decode cX10_init 69 = .ok (.iconst 4, 1) := by decide +kernel
theorem dX10_init_70 : decode cX10_init 70 = .ok (.bipush 60, 2) := by decide +kernel
theorem dX10_init_72 : decode cX10_init 72 = .ok (.iastore, 1) := by decide +kernel
theorem dX10_init_73 : decode cX10_init 73 = .ok (.putfield 25, 3) := by decide +kernel
theorem dX10_init_76 : decode cX10_init 76 = .ok (.aload_n 0, 1) := by decide +kernel
theorem dX10_init_77 : decode cX10_init 77 = .ok (.bipush 20, 2) := by decide +kernel
theorem dX10_init_79 : decode cX10_init 79 = .ok (.newarray .int, 2) := by decide +kernel
theorem dX10_init_81 : decode cX10_init 81 = .ok (.putfield 28, 3) := by decide +kernel
theorem dX10_init_84 : decode cX10_init 84 = .ok (.aload_n 0, 1) := by decide +kernel
theorem dX10_init_85 : decode cX10_init 85 = .ok (.bipush 20, 2) := by decide +kernel
theorem dX10_init_87 : decode cX10_init 87 = .ok (.newarray .int, 2) := by decide +kernel
theorem dX10_init_89 : decode cX10_init 89 = .ok (.putfield 31, 3) := by decide +kernel
theorem dX10_init_92 : decode cX10_init 92 = .ok (.aload_n 0, 1) := by decide +kernel
theorem dX10_init_93 : decode cX10_init 93 = .ok (.bipush 20, 2) := by decide +kernel
theorem dX10_init_95 : decode cX10_init 95 = .ok (.newarray .int, 2) := by decide +kernel
theorem dX10_init_97 : decode cX10_init 97 = .ok (.putfield 34, 3) := by decide +kernel
theorem dX10_init_100 : decode cX10_init 100 = .ok (.aload_n 0, 1) := by decide +kernel
theorem dX10_init_101 : decode cX10_init 101 = .ok (.bipush 20, 2) := by decide +kernel
theorem dX10_init_103 : decode cX10_init 103 = .ok (.newarray .int, 2) := by decide +kernel
theorem dX10_init_105 : decode cX10_init 105 = .ok (.putfield 37, 3) := by decide +kernel
theorem dX10_init_108 : decode cX10_init 108 = .ok (.aload_n 0, 1) := by decide +kernel
theorem dX10_init_109 : decode cX10_init 109 = .ok (.bipush 20, 2) := by decide +kernel
theorem dX10_init_111 : decode cX10_init 111 = .ok (.newarray .int, 2) := by decide +kernel
theorem dX10_init_113 : decode cX10_init 113 = .ok (.putfield 40, 3) := by decide +kernel
theorem dX10_init_116 : decode cX10_init 116 = .ok (.aload_n 0, 1) := by decide +kernel
theorem dX10_init_117 : decode cX10_init 117 = .ok (.bipush 20, 2) := by decide +kernel
theorem dX10_init_119 : decode cX10_init 119 = .ok (.newarray .boolean, 2) := by decide +kernel
theorem dX10_init_121 : decode cX10_init 121 = .ok (.putfield 43, 3) := by decide +kernel
theorem dX10_init_124 : decode cX10_init 124 = .ok (.aload_n 0, 1) := by decide +kernel
theorem dX10_init_125 : decode cX10_init 125 = .ok (.bipush 20, 2) := by decide +kernel
theorem dX10_init_127 : decode cX10_init 127 = .ok (.newarray .int, 2) := by decide +kernel
theorem dX10_init_129 : decode cX10_init 129 = .ok (.putfield 47, 3) := by decide +kernel
theorem dX10_init_132 : decode cX10_init 132 = .ok (.aload_n 0, 1) := by decide +kernel
theorem dX10_init_133 : decode cX10_init 133 = .ok (.bipush 50, 2) := by decide +kernel
theorem dX10_init_135 : decode cX10_init 135 = .ok (.newarray .boolean, 2) := by decide +kernel
theorem dX10_init_137 : decode cX10_init 137 = .ok (.putfield 50, 3) := by decide +kernel
theorem dX10_init_140 : decode cX10_init 140 = .ok (.aload_n 0, 1) := by decide +kernel
theorem dX10_init_141 : decode cX10_init 141 = .ok (.bipush 80, 2) := by decide +kernel
theorem dX10_init_143 : decode cX10_init 143 = .ok (.newarray .int, 2) := by decide +kernel
theorem dX10_init_145 : decode cX10_init 145 = .ok (.putfield 53, 3) := by decide +kernel
theorem dX10_init_148 : decode cX10_init 148 = .ok (.aload_n 0, 1) := by decide +kernel
theorem dX10_init_149 : decode cX10_init 149 = .ok (.bipush 80, 2) := by decide +kernel
theorem dX10_init_151 : decode cX10_init 151 = .ok (.newarray .int, 2) := by decide +kernel
theorem dX10_init_153 : decode cX10_init 153 = .ok (.putfield 56, 3) := by decide +kernel
theorem dX10_init_156 : decode cX10_init 156 = .ok (.aload_n 0, 1) := by decide +kernel
theorem dX10_init_157 : decode cX10_init 157 = .ok (.bipush 80, 2) := by decide +kernel
theorem dX10_init_159 : decode cX10_init 159 = .ok (.newarray .int, 2) := by decide +kernel
theorem dX10_init_161 : decode cX10_init 161 = .ok (.putfield 59, 3) := by decide +kernel
theorem dX10_init_164 : decode cX10_init 164 = .ok (.aload_n 0, 1) := by decide +kernel
theorem dX10_init_165 : decode cX10_init 165 = .ok (.bipush 80, 2) := by decide +kernel
theorem dX10_init_167 : decode cX10_init 167 = .ok (.newarray .int, 2) := by decide +kernel
theorem dX10_init_169 : decode cX10_init 169 = .ok (.putfield 62, 3) := by decide +kernel
theorem dX10_init_172 : decode cX10_init 172 = .ok (.aload_n 0, 1) := by decide +kernel
theorem dX10_init_173 : decode cX10_init 173 = .ok (.bipush 80, 2) := by decide +kernel
theorem dX10_init_175 : decode cX10_init 175 = .ok (.newarray .int, 2) := by decide +kernel
theorem dX10_init_177 : decode cX10_init 177 = .ok (.putfield 65, 3) := by decide +kernel
theorem dX10_init_180 : decode cX10_init 180 = .ok (.aload_n 0, 1) := by decide +kernel
theorem dX10_init_181 : decode cX10_init 181 = .ok (.sipush 3200, 3) := by decide +kernel
theorem dX10_init_184 : decode cX10_init 184 = .ok (.newarray .int, 2) := by decide +kernel
theorem dX10_init_186 : decode cX10_init 186 = .ok (.putfield 68, 3) := by decide +kernel
theorem dX10_init_189 : decode cX10_init 189 = .ok (.aload_n 0, 1) := by decide +kernel
theorem dX10_init_190 : decode cX10_init 190 = .ok (.bipush 8, 2) := by decide +kernel
theorem dX10_init_192 : decode cX10_init 192 = .ok (.newarray .int, 2) := by decide +kernel
theorem dX10_init_194 : decode cX10_init 194 = .ok (.putfield 71, 3) := by decide +kernel
theorem dX10_init_197 : decode cX10_init 197 = .ok (.aload_n 0, 1) := by decide +kernel
theorem dX10_init_198 : decode cX10_init 198 = .ok (.iconst 5, 1) := by decide +kernel
theorem dX10_init_199 : decode cX10_init 199 = .ok (.newarray .int, 2) := by decide +kernel
theorem dX10_init_201 : decode cX10_init 201 = .ok (.putfield 74, 3) := by decide +kernel
theorem dX10_init_204 : decode cX10_init 204 = .ok (.aload_n 0, 1) := by decide +kernel
theorem dX10_init_205 : decode cX10_init 205 = .ok (.bipush 10, 2) := by decide +kernel
theorem dX10_init_207 : decode cX10_init 207 = .ok (.newarray .int, 2) := by decide +kernel
theorem dX10_init_209 : decode cX10_init 209 = .ok (.putfield 77, 3) := by decide +kernel
theorem dX10_init_212 : decode cX10_init 212 = .ok (.aload_n 0, 1) := by decide +kernel
theorem dX10_init_213 : decode cX10_init 213 = .ok (.bipush 40, 2) := by decide +kernel
theorem dX10_init_215 : decode cX10_init 215 = .ok (.newarray .int, 2) := by decide +kernel
theorem dX10_init_217 : decode cX10_init 217 = .ok (.putfield 80, 3) := by decide +kernel
theorem dX10_init_220 : decode cX10_init 220 = .ok (.aload_n 0, 1) := by decide +kernel
theorem dX10_init_221 : decode cX10_init 221 = .ok (.iconst 4, 1) := by decide +kernel
theorem dX10_init_222 : decode cX10_init 222 = .ok (.newarray .int, 2) := by decide +kernel
theorem dX10_init_224 : decode cX10_init 224 = .ok (.dup, 1) := by decide +kernel
theorem dX10_init_225 : decode cX10_init 225 = .ok (.iconst 0, 1) := by decide +kernel
theorem dX10_init_226 : decode cX10_init 226 = .ok (.bipush 10, 2) := by decide +kernel
theorem dX10_init_228 : decode cX10_init 228 = .ok (.iastore, 1) := by decide +kernel
theorem dX10_init_229 : decode cX10_init 229 = .ok (.dup, 1) := by decide +kernel
theorem dX10_init_230 : decode cX10_init 230 = .ok (.iconst 1, 1) := by decide +kernel
theorem dX10_init_231 : decode cX10_init 231 = .ok (.bipush 10, 2) := by decide +kernel
theorem dX10_init_233 : decode cX10_init 233 = .ok (.iastore, 1) := by decide +kernel
theorem dX10_init_234 : decode cX10_init 234 = .ok (.dup, 1) := by decide +kernel
theorem dX10_init_235 : decode cX10_init 235 = .ok (.iconst 2, 1) := by decide +kernel
theorem dX10_init_236 : decode cX10_init 236 = .ok (.bipush 10, 2) := by decide +kernel
theorem dX10_init_238 : decode cX10_init 238 = .ok (.iastore, 1) := by decide +kernel
theorem dX10_init_239 : decode cX10_init 239 = .ok (.dup, 1) := by decide +kernel
theorem dX10_init_240 : decode cX10_init 240 = .ok (.iconst 3, 1) := by decide +kernel
theorem dX10_init_241 : decode cX10_init 241 = .ok (.bipush 10, 2) := by decide +kernel
theorem dX10_init_243 : decode cX10_init 243 = .ok (.iastore, 1) := by decide +kernel
theorem dX10_init_244 : decode cX10_init 244 = .ok (.putfield 83, 3) := by decide +kernel
theorem dX10_init_247 : decode cX10_init 247 = .ok (.aload_n 0, 1) := by decide +kernel
theorem dX10_init_248 : decode cX10_init 248 = .ok (.iconst 2, 1) := by decide +kernel
theorem dX10_init_249 : decode cX10_init 249 = .ok (.putfield 86, 3) := by decide +kernel
theorem dX10_init_252 : decode cX10_init 252 = .ok (.aload_n 0, 1) := by decide +kernel
theorem dX10_init_253 : decode cX10_init 253 = .ok (.bipush 6, 2) := by decide +kernel
theorem dX10_init_255 : decode cX10_init 255 = .ok (.newarray .int, 2) := by decide +kernel
theorem dX10_init_257 : decode cX10_init 257 = .ok (.putfield 90, 3) := by decide +kernel
theorem dX10_init_260 : decode cX10_init 260 = .ok (.aload_n 0, 1) := by decide +kernel
theorem dX10_init_261 : decode cX10_init 261 = .ok (.bipush 36, 2) := by decide +kernel
theorem dX10_init_263 : decode cX10_init 263 = .ok (.newarray .int, 2) := by decide +kernel
theorem dX10_init_265 : decode cX10_init 265 = .ok (.putfield 93, 3) := by decide +kernel
theorem dX10_init_268 : decode cX10_init 268 = .ok (.aload_n 0, 1) := by decide +kernel
theorem dX10_init_269 : decode cX10_init 269 = .ok (.bipush 7, 2) := by decide +kernel
theorem dX10_init_271 : decode cX10_init 271 = .ok (.newarray .int, 2) := by decide +kernel
theorem dX10_init_273 : decode cX10_init 273 = .ok (.putfield 96, 3) := by decide +kernel
theorem dX10_init_276 : decode cX10_init 276 = .ok (.aload_n 0, 1) := by decide +kernel
theorem dX10_init_277 : decode cX10_init 277 = .ok (.bipush 6, 2) := by decide +kernel
theorem dX10_init_279 : decode cX10_init 279 = .ok (.newarray .int, 2) := by decide +kernel
theorem dX10_init_281 : decode cX10_init 281 = .ok (.putfield 99, 3) := by decide +kernel
theorem dX10_init_284 : decode cX10_init 284 = .ok (.aload_n 0, 1) := by decide +kernel
theorem dX10_init_285 : decode cX10_init 285 = .ok (.bipush 6, 2) := by decide +kernel
theorem dX10_init_287 : decode cX10_init 287 = .ok (.newarray .int, 2) := by decide +kernel
theorem dX10_init_289 : decode cX10_init 289 = .ok (.putfield 102, 3) := by decide +kernel
theorem dX10_init_292 : decode cX10_init 292 = .ok (.aload_n 0, 1) := by decide +kernel
theorem dX10_init_293 : decode cX10_init 293 = .ok (.bipush 7, 2) := by decide +kernel
theorem dX10_init_295 : decode cX10_init 295 = .ok (.newarray .int, 2) := by decide +kernel
theorem dX10_init_297 : decode cX10_init 297 = .ok (.putfield 105, 3) := by decide +kernel
theorem dX10_init_300 : decode cX10_init 300 = .ok (.aload_n 0, 1) := by decide +kernel
theorem dX10_init_301 : decode cX10_init 301 = .ok (.bipush 15, 2) := by decide +kernel
theorem dX10_init_303 : decode cX10_init 303 = .ok (.newarray .int, 2) := by decide +kernel
theorem dX10_init_305 : decode cX10_init 305 = .ok (.putfield 108, 3) := by decide +kernel
theorem dX10_init_308 : decode cX10_init 308 = .ok (.aload_n 0, 1) := by decide +kernel
theorem dX10_init_309 : decode cX10_init 309 = .ok (.bipush 25, 2) := by decide +kernel
theorem dX10_init_311 : decode cX10_init 311 = .ok (.newarray .long, 2) := by decide +kernel
theorem dX10_init_313 : decode cX10_init 313 = .ok (.putfield 111, 3) := by decide +kernel
theorem dX10_init_316 : decode cX10_init 316 = .ok (.aload_n 0, 1) := by decide +kernel
theorem dX10_init_317 : decode cX10_init 317 = .ok (.iconst 5, 1) := by decide +kernel
theorem dX10_init_318 : decode cX10_init 318 = .ok (.newarray .long, 2) := by decide +kernel
theorem dX10_init_320 : decode cX10_init 320 = .ok (.putfield 115, 3) := by decide +kernel
theorem dX10_init_323 : decode cX10_init 323 = .ok (.aload_n 0, 1) := by decide +kernel
theorem dX10_init_324 : decode cX10_init 324 = .ok (.iconst 5, 1) := by decide +kernel
theorem dX10_init_325 : decode cX10_init 325 = .ok (.newarray .int, 2) := by decide +kernel
theorem dX10_init_327 : decode cX10_init 327 = .ok (.putfield 118, 3) := by decide +kernel
theorem dX10_init_330 : decode cX10_init 330 = .ok (.aload_n 0, 1) := by decide +kernel
theorem dX10_init_331 : decode cX10_init 331 = .ok (.iconst 4, 1) := by decide +kernel
theorem dX10_init_332 : decode cX10_init 332 = .ok (.newarray .int, 2) := by decide +kernel
theorem dX10_init_334 : decode cX10_init 334 = .ok (.putfield 121, 3) := by decide +kernel
theorem dX10_init_337 : decode cX10_init 337 = .ok (.aload_n 0, 1) := by decide +kernel
theorem dX10_init_338 : decode cX10_init 338 = .ok (.iconst 4, 1) := by decide +kernel
theorem dX10_init_339 : decode cX10_init 339 = .ok (.newarray .int, 2) := by decide +kernel
theorem dX10_init_341 : decode cX10_init 341 = .ok (.putfield 124, 3) := by decide +kernel
theorem dX10_init_344 : decode cX10_init 344 = .ok (.aload_n 0, 1) := by decide +kernel
theorem dX10_init_345 : decode cX10_init 345 = .ok (.iconst 5, 1) := by decide +kernel
theorem dX10_init_346 : decode cX10_init 346 = .ok (.newarray .int, 2) := by decide +kernel
theorem dX10_init_348 : decode cX10_init 348 = .ok (.putfield 127, 3) := by decide +kernel
theorem dX10_init_351 : decode cX10_init 351 = .ok (.aload_n 0, 1) := by decide +kernel
theorem dX10_init_352 : decode cX10_init 352 = .ok (.bipush 20, 2) := by decide +kernel
theorem dX10_init_354 : decode cX10_init 354 = .ok (.newarray .int, 2) := by decide +kernel
theorem dX10_init_356 : decode cX10_init 356 = .ok (.putfield 130, 3) := by decide +kernel
theorem dX10_init_359 : decode cX10_init 359 = .ok (.aload_n 0, 1) := by decide +kernel
theorem dX10_init_360 : decode cX10_init 360 = .ok (.sipush 160, 3) := by decide +kernel
theorem dX10_init_363 : decode cX10_init 363 = .ok (.newarray .int, 2) := by decide +kernel
theorem dX10_init_365 : decode cX10_init 365 = .ok (.putfield 133, 3) := by decide +kernel
theorem dX10_init_368 : decode cX10_init 368 = .ok (.aload_n 0, 1) := by decide +kernel
theorem dX10_init_369 : decode cX10_init 369 = .ok (.sipush 160, 3) := by decide +kernel
theorem dX10_init_372 : decode cX10_init 372 = .ok (.newarray .int, 2) := by decide +kernel
theorem dX10_init_374 : decode cX10_init 374 = .ok (.putfield 136, 3) := by decide +kernel
theorem dX10_init_377 : decode cX10_init 377 = .ok (.aload_n 0, 1) := by decide +kernel
theorem dX10_init_378 : decode cX10_init 378 = .ok (.bipush 20, 2) := by decide +kernel
theorem dX10_init_380 : decode cX10_init 380 = .ok (.newarray .int, 2) := by decide +kernel
theorem dX10_init_382 : decode cX10_init 382 = .ok (.putfield 139, 3) := by decide +kernel
theorem dX10_init_385 : decode cX10_init 385 = .ok (.aload_n 0, 1) := by decide +kernel
theorem dX10_init_386 : decode cX10_init 386 = .ok (.bipush 20, 2) := by decide +kernel
theorem dX10_init_388 : decode cX10_init 388 = .ok (.newarray .int, 2) := by decide +kernel
theorem dX10_init_390 : decode cX10_init 390 = .ok (.putfield 142, 3) := by decide +kernel
theorem dX10_init_393 : decode cX10_init 393 = .ok (.aload_n 0, 1) := by decide +kernel
theorem dX10_init_394 : decode cX10_init 394 = .ok (.bipush 20, 2) := by decide +kernel
theorem dX10_init_396 : decode cX10_init 396 = .ok (.newarray .int, 2) := by decide +kernel
theorem dX10_init_398 : decode cX10_init 398 = .ok (.putfield 145, 3) := by decide +kernel
theorem dX10_init_401 : decode cX10_init 401 = .ok (.aload_n 0, 1) := by decide +kernel
theorem dX10_init_402 : decode cX10_init 402 = .ok (.bipush 20, 2) := by decide +kernel
theorem dX10_init_404 : decode cX10_init 404 = .ok (.newarray .int, 2) := by decide +kernel
theorem dX10_init_406 : decode cX10_init 406 = .ok (.putfield 148, 3) := by decide +kernel
theorem dX10_init_409 : decode cX10_init 409 = .ok (.aload_n 0, 1) := by decide +kernel
theorem dX10_init_410 : decode cX10_init 410 = .ok (.bipush 6, 2) := by decide +kernel
theorem dX10_init_412 : decode cX10_init 412 = .ok (.newarray .int, 2) := by decide +kernel
theorem dX10_init_414 : decode cX10_init 414 = .ok (.dup, 1) := by decide +kernel
theorem dX10_init_415 : decode cX10_init 415 = .ok (.iconst 0, 1) := by decide +kernel
theorem dX10_init_416 : decode cX10_init 416 = .ok (.bipush 12, 2) := by decide +kernel
theorem dX10_init_418 : decode cX10_init 418 = .ok (.iastore, 1) := by decide +kernel
theorem dX10_init_419 : decode cX10_init 419 = .ok (.dup, 1) := by decide +kernel
theorem dX10_init_420 : decode cX10_init 420 = .ok (.iconst 1, 1) := by decide +kernel
theorem dX10_init_421 : decode cX10_init 421 = .ok (.bipush 12, 2) := by decide +kernel
theorem dX10_init_423 : decode cX10_init 423 = .ok (.iastore, 1) := by decide +kernel
theorem dX10_init_424 : decode cX10_init 424 = .ok (.dup, 1) := by decide +kernel
theorem dX10_init_425 : decode cX10_init 425 = .ok (.iconst 2, 1) := by decide +kernel
theorem dX10_init_426 : decode cX10_init 426 = .ok (.bipush 12, 2) := by decide +kernel
theorem dX10_init_428 : decode cX10_init 428 = .ok (.iastore, 1) := by decide +kernel
theorem dX10_init_429 : decode cX10_init 429 = .ok (.dup, 1) := by decide +kernel
theorem dX10_init_430 : decode cX10_init 430 = .ok (.iconst 3, 1) := by decide +kernel
theorem dX10_init_431 : decode cX10_init 431 = .ok (.bipush 12, 2) := by decide +kernel
theorem dX10_init_433 : decode cX10_init 433 = .ok (.iastore, 1) := by decide +kernel
theorem dX10_init_434 : decode cX10_init 434 = .ok (.dup, 1) := by decide +kernel
theorem dX10_init_435 : decode cX10_init 435 = .ok (.iconst 4, 1) := by decide +kernel
theorem dX10_init_436 : decode cX10_init 436 = .ok (.bipush 12, 2) := by decide +kernel
theorem dX10_init_438 : decode cX10_init 438 = .ok (.iastore, 1) := by decide +kernel
theorem dX10_init_439 : decode cX10_init 439 = .ok (.dup, 1) := by decide +kernel
theorem dX10_init_440 : decode cX10_init 440 = .ok (.iconst 5, 1) := by decide +kernel
theorem dX10_init_441 : decode cX10_init 441 = .ok (.bipush 12, 2) := by decide +kernel
theorem dX10_init_443 : decode cX10_init 443 = .ok (.iastore, 1) := by decide +kernel
theorem dX10_init_444 : decode cX10_init 444 = .ok (.putfield 151, 3) := by decide +kernel
theorem dX10_init_447 : decode cX10_init 447 = .ok (.aload_n 0, 1) := by decide +kernel
theorem dX10_init_448 : decode cX10_init 448 = .ok (.bipush 72, 2) := by decide +kernel
theorem dX10_init_450 : decode cX10_init 450 = .ok (.newarray .int, 2) := by decide +kernel
theorem dX10_init_452 : decode cX10_init 452 = .ok (.putfield 154, 3) := by decide +kernel
theorem dX10_init_455 : decode cX10_init 455 = .ok (.aload_n 0, 1) := by decide +kernel
theorem dX10_init_456 : decode cX10_init 456 = .ok (.bipush 6, 2) := by decide +kernel
theorem dX10_init_458 : decode cX10_init 458 = .ok (.newarray .int, 2) := by decide +kernel
theorem dX10_init_460 : decode cX10_init 460 = .ok (.putfield 157, 3) := by decide +kernel
theorem dX10_init_463 : decode cX10_init 463 = .ok (.aload_n 0, 1) := by decide +kernel
theorem dX10_init_464 : decode cX10_init 464 = .ok (.bipush 6, 2) := by decide +kernel
theorem dX10_init_466 : decode cX10_init 466 = .ok (.newarray .int, 2) := by decide +kernel
theorem dX10_init_468 : decode cX10_init 468 = .ok (.putfield 160, 3) := by decide +kernel
theorem dX10_init_471 : decode cX10_init 471 = .ok (.return_, 1) := by decide +kernel
theorem dX10_in_0 : decode cX10_in 0 = .ok (.iload_n 0, 1) := by decide +kernel
theorem dX10_in_1 : decode cX10_in 1 = .ok (.iload_n 1, 1) := by decide +kernel
theorem dX10_in_2 : decode cX10_in 2 = .ok (.if_icmp .lt 12, 3) := by decide +kernel
theorem dX10_in_5 : decode cX10_in 5 = .ok (.iload_n 0, 1) := by decide +kernel
theorem dX10_in_6 : decode cX10_in 6 = .ok (.iload_n 2, 1) := by decide +kernel
theorem dX10_in_7 : decode cX10_in 7 = .ok (.if_icmp .gt 7, 3) := by decide +kernel
theorem dX10_in_10 : decode cX10_in 10 = .ok (.iconst 1, 1) := by decide +kernel
theorem dX10_in_11 : decode cX10_in 11 = .ok (.goto 4, 3) := by decide +kernel
theorem dX10_in_14 : decode cX10_in 14 = .ok (.iconst 0, 1) := by decide +kernel
theorem dX10_in_15 : decode cX10_in 15 = .ok (.ireturn, 1) := by decide +kernel
theorem dX10_refuse_0 : decode cX10_refuse 0 = .ok (.aload_n 0, 1) := by decide +kernel
theorem dX10_refuse_1 : decode cX10_refuse 1 = .ok (.getfield 71, 3) := by decide +kernel
theorem dX10_refuse_4 : decode cX10_refuse 4 = .ok (.iload_n 1, 1) := by decide +kernel
theorem dX10_refuse_5 : decode cX10_refuse 5 = .ok (.ineg, 1) := by decide +kernel
theorem dX10_refuse_6 : decode cX10_refuse 6 = .ok (.dup2, 1) := by decide +kernel
theorem dX10_refuse_7 : decode cX10_refuse 7 = .ok (.iaload, 1) := by decide +kernel
theorem dX10_refuse_8 : decode cX10_refuse 8 = .ok (.iconst 1, 1) := by decide +kernel
theorem dX10_refuse_9 : decode cX10_refuse 9 = .ok (.iadd, 1) := by decide +kernel
theorem dX10_refuse_10 : decode cX10_refuse 10 = .ok (.iastore, 1) := by decide +kernel
theorem dX10_refuse_11 : decode cX10_refuse 11 = .ok (.iload_n 1, 1) := by decide +kernel
theorem dX10_refuse_12 : decode cX10_refuse 12 = .ok (.ireturn, 1) := by decide +kernel
theorem dX10_refuseFar_0 : decode cX10_refuseFar 0 = .ok (.aload_n 0, 1) := by decide +kernel
theorem dX10_refuseFar_1 : decode cX10_refuseFar 1 = .ok (.getfield 71, 3) := by decide +kernel
theorem dX10_refuseFar_4 : decode cX10_refuseFar 4 = .ok (.iload_n 1, 1) := by decide +kernel
theorem dX10_refuseFar_5 : decode cX10_refuseFar 5 = .ok (.ineg, 1) := by decide +kernel
theorem dX10_refuseFar_6 : decode cX10_refuseFar 6 = .ok (.dup2, 1) := by decide +kernel
theorem dX10_refuseFar_7 : decode cX10_refuseFar 7 = .ok (.iaload, 1) := by decide +kernel
theorem dX10_refuseFar_8 : decode cX10_refuseFar 8 = .ok (.iconst 1, 1) := by decide +kernel
theorem dX10_refuseFar_9 : decode cX10_refuseFar 9 = .ok (.iadd, 1) := by decide +kernel
theorem dX10_refuseFar_10 : decode cX10_refuseFar 10 = .ok (.iastore, 1) := by decide +kernel
theorem dX10_refuseFar_11 : decode cX10_refuseFar 11 = .ok (.ldc2_w 163, 3) := by decide +kernel
theorem dX10_refuseFar_14 : decode cX10_refuseFar 14 = .ok (.iload_n 1, 1) := by decide +kernel
theorem dX10_refuseFar_15 : decode cX10_refuseFar 15 = .ok (.i2l, 1) := by decide +kernel
theorem dX10_refuseFar_16 : decode cX10_refuseFar 16 = .ok (.lsub, 1) := by decide +kernel
theorem dX10_refuseFar_17 : decode cX10_refuseFar 17 = .ok (.lreturn, 1) := by decide +kernel
theorem dX10_divisor_0 : decode cX10_divisor 0 = .ok (.lload_n 0, 1) := by decide +kernel
theorem dX10_divisor_1 : decode cX10_divisor 1 = .ok (.lconst 0, 1) := by decide +kernel
theorem dX10_divisor_2 : decode cX10_divisor 2 = .ok (.lcmp, 1) := by decide +kernel
theorem dX10_divisor_3 : decode cX10_divisor 3 = .ok (.ifCond .ge 8, 3) := by decide +kernel
theorem dX10_divisor_6 : decode cX10_divisor 6 = .ok (.lload_n 0, 1) := by decide +kernel
theorem dX10_divisor_7 : decode cX10_divisor 7 = .ok (.lneg, 1) := by decide +kernel
theorem dX10_divisor_8 : decode cX10_divisor 8 = .ok (.goto 4, 3) := by decide +kernel
theorem dX10_divisor_11 : decode cX10_divisor 11 = .ok (.lload_n 0, 1) := by decide +kernel
theorem dX10_divisor_12 : decode cX10_divisor 12 = .ok (.lstore 4, 2) := by decide +kernel
theorem dX10_divisor_14 : decode cX10_divisor 14 = .ok (.lload_n 2, 1) := by decide +kernel
theorem dX10_divisor_15 : decode cX10_divisor 15 = .ok (.lconst 0, 1) := by decide +kernel
theorem dX10_divisor_16 : decode cX10_divisor 16 = .ok (.lcmp, 1) := by decide +kernel
theorem dX10_divisor_17 : decode cX10_divisor 17 = .ok (.ifCond .ge 8, 3) := by decide +kernel
theorem dX10_divisor_20 : decode cX10_divisor 20 = .ok (.lload_n 2, 1) := by decide +kernel
theorem dX10_divisor_21 : decode cX10_divisor 21 = .ok (.lneg, 1) := by decide +kernel
theorem dX10_divisor_22 : decode cX10_divisor 22 = .ok (.goto 4, 3) := by decide +kernel
theorem dX10_divisor_25 : decode cX10_divisor 25 = .ok (.lload_n 2, 1) := by decide +kernel
theorem dX10_divisor_26 : decode cX10_divisor 26 = .ok (.lstore 6, 2) := by decide +kernel
theorem dX10_divisor_28 : decode cX10_divisor 28 = .ok (.lload 6, 2) := by decide +kernel
theorem dX10_divisor_30 : decode cX10_divisor 30 = .ok (.lconst 0, 1) := by decide +kernel
theorem dX10_divisor_31 : decode cX10_divisor 31 = .ok (.lcmp, 1) := by decide +kernel
theorem dX10_divisor_32 : decode cX10_divisor 32 = .ok (.ifCond .eq 21, 3) := by decide +kernel
theorem dX10_divisor_35 : decode cX10_divisor 35 = .ok (.lload 4, 2) := by decide +kernel
theorem dX10_divisor_37 : decode cX10_divisor 37 = .ok (.lload 6, 2) := by decide +kernel
theorem dX10_divisor_39 : decode cX10_divisor 39 = .ok (.lrem, 1) := by decide +kernel
theorem dX10_divisor_40 : decode cX10_divisor 40 = .ok (.lstore 8, 2) := by decide +kernel
theorem dX10_divisor_42 : decode cX10_divisor 42 = .ok (.lload 6, 2) := by decide +kernel
theorem dX10_divisor_44 : decode cX10_divisor 44 = .ok (.lstore 4, 2) := by decide +kernel
theorem dX10_divisor_46 : decode cX10_divisor 46 = .ok (.lload 8, 2) := by decide +kernel
theorem dX10_divisor_48 : decode cX10_divisor 48 = .ok (.lstore 6, 2) := by decide +kernel
theorem dX10_divisor_50 : decode cX10_divisor 50 = .ok (.goto (-22), 3) := by decide +kernel
theorem dX10_divisor_53 : decode cX10_divisor 53 = .ok (.lload 4, 2) := by decide +kernel
theorem dX10_divisor_55 : decode cX10_divisor 55 = .ok (.lreturn, 1) := by decide +kernel
theorem dX10_wrongDay_0 : decode cX10_wrongDay 0 = .ok (.iload_n 0, 1) := by decide +kernel
theorem dX10_wrongDay_1 : decode cX10_wrongDay 1 = .ok (.ifCond .ge 8, 3) := by decide +kernel
theorem dX10_wrongDay_4 : decode cX10_wrongDay 4 = .ok (.bipush (-4), 2) := by decide +kernel
theorem dX10_wrongDay_6 : decode cX10_wrongDay 6 = .ok (.goto 16, 3) := by decide +kernel
theorem dX10_wrongDay_9 : decode cX10_wrongDay 9 = .ok (.iload_n 0, 1) := by decide +kernel
theorem dX10_wrongDay_10 : decode cX10_wrongDay 10 = .ok (.sipush 1500, 3) := by decide +kernel
theorem dX10_wrongDay_13 : decode cX10_wrongDay 13 = .ok (.if_icmp .le 8, 3) := by decide +kernel
theorem dX10_wrongDay_16 : decode cX10_wrongDay 16 = .ok (.bipush (-6), 2) := by decide +kernel
theorem dX10_wrongDay_18 : decode cX10_wrongDay 18 = .ok (.goto 4, 3) := by decide +kernel
theorem dX10_wrongDay_21 : decode cX10_wrongDay 21 = .ok (.iconst 0, 1) := by decide +kernel
theorem dX10_wrongDay_22 : decode cX10_wrongDay 22 = .ok (.ireturn, 1) := by decide +kernel
theorem dX10_isKitchen_0 : decode cX10_isKitchen 0 = .ok (.iload_n 1, 1) := by decide +kernel
theorem dX10_isKitchen_1 : decode cX10_isKitchen 1 = .ok (.iconst 0, 1) := by decide +kernel
theorem dX10_isKitchen_2 : decode cX10_isKitchen 2 = .ok (.aload_n 0, 1) := by decide +kernel
theorem dX10_isKitchen_3 : decode cX10_isKitchen 3 = .ok (.getfield 165, 3) := by decide +kernel
theorem dX10_isKitchen_6 : decode cX10_isKitchen 6 = .ok (.iconst 1, 1) := by decide +kernel
theorem dX10_isKitchen_7 : decode cX10_isKitchen 7 = .ok (.isub, 1) := by decide +kernel
theorem dX10_isKitchen_8 : decode cX10_isKitchen 8 = .ok (.invokestatic 168, 3) := by decide +kernel
theorem dX10_isKitchen_11 : decode cX10_isKitchen 11 = .ok (.ireturn, 1) := by decide +kernel
theorem dX10_isLook_0 : decode cX10_isLook 0 = .ok (.iload_n 1, 1) := by decide +kernel
theorem dX10_isLook_1 : decode cX10_isLook 1 = .ok (.iconst 0, 1) := by decide +kernel
theorem dX10_isLook_2 : decode cX10_isLook 2 = .ok (.aload_n 0, 1) := by decide +kernel
theorem dX10_isLook_3 : decode cX10_isLook 3 = .ok (.getfield 172, 3) := by decide +kernel
theorem dX10_isLook_6 : decode cX10_isLook 6 = .ok (.iconst 1, 1) := by decide +kernel
theorem dX10_isLook_7 : decode cX10_isLook 7 = .ok (.isub, 1) := by decide +kernel
theorem dX10_isLook_8 : decode cX10_isLook 8 = .ok (.invokestatic 168, 3) := by decide +kernel
theorem dX10_isLook_11 : decode cX10_isLook 11 = .ok (.ireturn, 1) := by decide +kernel
end
section
theorem dX10_days_0 : decode cX10_days 0 = .ok (.iload_n 1, 1) := by decide +kernel
theorem dX10_days_1 : decode cX10_days 1 = .ok (.iconst 1, 1) := by decide +kernel
theorem dX10_days_2 : decode cX10_days 2 = .ok (.if_icmp .ge 10, 3) := by decide +kernel
theorem dX10_days_5 : decode cX10_days 5 = .ok (.aload_n 0, 1) := by decide +kernel
theorem dX10_days_6 : decode cX10_days 6 = .ok (.bipush (-4), 2) := by decide +kernel
theorem dX10_days_8 : decode cX10_days 8 = .ok (.invokevirtual 175, 3) := by decide +kernel
theorem dX10_days_11 : decode cX10_days 11 = .ok (.ireturn, 1) := by decide +kernel
theorem dX10_days_12 : decode cX10_days 12 = .ok (.iload_n 1, 1) := by decide +kernel
theorem dX10_days_13 : decode cX10_days 13 = .ok (.sipush 1500, 3) := by decide +kernel
theorem dX10_days_16 : decode cX10_days 16 = .ok (.aload_n 0, 1) := by decide +kernel
theorem dX10_days_17 : decode cX10_days 17 = .ok (.getfield 179, 3) := by decide +kernel
theorem dX10_days_20 : decode cX10_days 20 = .ok (.isub, 1) := by decide +kernel
theorem dX10_days_21 : decode cX10_days 21 = .ok (.if_icmp .le 10, 3) := by decide +kernel
theorem dX10_days_24 : decode cX10_days 24 = .ok (.aload_n 0, 1) := by decide +kernel
theorem dX10_days_25 : decode cX10_days 25 = .ok (.bipush (-6), 2) := by decide +kernel
theorem dX10_days_27 : decode cX10_days 27 = .ok (.invokevirtual 175, 3) := by decide +kernel
theorem dX10_days_30 : decode cX10_days 30 = .ok (.ireturn, 1) := by decide +kernel
theorem dX10_days_31 : decode cX10_days 31 = .ok (.aload_n 0, 1) := by decide +kernel
theorem dX10_days_32 : decode cX10_days 32 = .ok (.dup, 1) := by decide +kernel
theorem dX10_days_33 : decode cX10_days 33 = .ok (.getfield 179, 3) := by decide +kernel
theorem dX10_days_36 : decode cX10_days 36 = .ok (.iload_n 1, 1) := by decide +kernel
theorem dX10_days_37 : decode cX10_days 37 = .ok (.iadd, 1) := by decide +kernel
theorem dX10_days_38 : decode cX10_days 38 = .ok (.putfield 179, 3) := by decide +kernel
theorem dX10_days_41 : decode cX10_days 41 = .ok (.aload_n 0, 1) := by decide +kernel
theorem dX10_days_42 : decode cX10_days 42 = .ok (.getfield 179, 3) := by decide +kernel
theorem dX10_days_45 : decode cX10_days 45 = .ok (.ireturn, 1) := by decide +kernel
theorem dX10_code_0 : decode cX10_code 0 = .ok (.iload_n 1, 1) := by decide +kernel
theorem dX10_code_1 : decode cX10_code 1 = .ok (.iconst 0, 1) := by decide +kernel
theorem dX10_code_2 : decode cX10_code 2 = .ok (.iconst 4, 1) := by decide +kernel
theorem dX10_code_3 : decode cX10_code 3 = .ok (.invokestatic 168, 3) := by decide +kernel
theorem dX10_code_6 : decode cX10_code 6 = .ok (.ifCond .ne 9, 3) := by decide +kernel
theorem dX10_code_9 : decode cX10_code 9 = .ok (.aload_n 0, 1) := by decide +kernel
theorem dX10_code_10 : decode cX10_code 10 = .ok (.iconst (-1), 1) := by decide +kernel
theorem dX10_code_11 : decode cX10_code 11 = .ok (.invokevirtual 175, 3) := by decide +kernel
theorem dX10_code_14 : decode cX10_code 14 = .ok (.ireturn, 1) := by decide +kernel
theorem dX10_code_15 : decode cX10_code 15 = .ok (.iload_n 2, 1) := by decide +kernel
theorem dX10_code_16 : decode cX10_code 16 = .ok (.ifCond .lt 11, 3) := by decide +kernel
theorem dX10_code_19 : decode cX10_code 19 = .ok (.iload_n 3, 1) := by decide +kernel
theorem dX10_code_20 : decode cX10_code 20 = .ok (.aload_n 0, 1) := by decide +kernel
theorem dX10_code_21 : decode cX10_code 21 = .ok (.getfield 179, 3) := by decide +kernel
theorem dX10_code_24 : decode cX10_code 24 = .ok (.if_icmp .ge 10, 3) := by decide +kernel
theorem dX10_code_27 : decode cX10_code 27 = .ok (.aload_n 0, 1) := by decide +kernel
theorem dX10_code_28 : decode cX10_code 28 = .ok (.bipush (-4), 2) := by decide +kernel
theorem dX10_code_30 : decode cX10_code 30 = .ok (.invokevirtual 175, 3) := by decide +kernel
theorem dX10_code_33 : decode cX10_code 33 = .ok (.ireturn, 1) := by decide +kernel
theorem dX10_code_34 : decode cX10_code 34 = .ok (.iload_n 2, 1) := by decide +kernel
theorem dX10_code_35 : decode cX10_code 35 = .ok (.bipush 50, 2) := by decide +kernel
theorem dX10_code_37 : decode cX10_code 37 = .ok (.if_icmp .gt 19, 3) := by decide +kernel
theorem dX10_code_40 : decode cX10_code 40 = .ok (.iload_n 3, 1) := by decide +kernel
theorem dX10_code_41 : decode cX10_code 41 = .ok (.sipush 1500, 3) := by decide +kernel
theorem dX10_code_44 : decode cX10_code 44 = .ok (.if_icmp .gt 12, 3) := by decide +kernel
theorem dX10_code_47 : decode cX10_code 47 = .ok (.aload_n 0, 1) := by decide +kernel
theorem dX10_code_48 : decode cX10_code 48 = .ok (.getfield 182, 3) := by decide +kernel
theorem dX10_code_51 : decode cX10_code 51 = .ok (.bipush 40, 2) := by decide +kernel
theorem dX10_code_53 : decode cX10_code 53 = .ok (.if_icmp .ne 10, 3) := by decide +kernel
theorem dX10_code_56 : decode cX10_code 56 = .ok (.aload_n 0, 1) := by decide +kernel
theorem dX10_code_57 : decode cX10_code 57 = .ok (.bipush (-6), 2) := by decide +kernel
theorem dX10_code_59 : decode cX10_code 59 = .ok (.invokevirtual 175, 3) := by decide +kernel
theorem dX10_code_62 : decode cX10_code 62 = .ok (.ireturn, 1) := by decide +kernel
theorem dX10_code_63 : decode cX10_code 63 = .ok (.aload_n 0, 1) := by decide +kernel
theorem dX10_code_64 : decode cX10_code 64 = .ok (.getfield 7, 3) := by decide +kernel
theorem dX10_code_67 : decode cX10_code 67 = .ok (.aload_n 0, 1) := by decide +kernel
theorem dX10_code_68 : decode cX10_code 68 = .ok (.getfield 182, 3) := by decide +kernel
theorem dX10_code_71 : decode cX10_code 71 = .ok (.iload_n 1, 1) := by decide +kernel
theorem dX10_code_72 : decode cX10_code 72 = .ok (.iastore, 1) := by decide +kernel
theorem dX10_code_73 : decode cX10_code 73 = .ok (.aload_n 0, 1) := by decide +kernel
theorem dX10_code_74 : decode cX10_code 74 = .ok (.getfield 13, 3) := by decide +kernel
theorem dX10_code_77 : decode cX10_code 77 = .ok (.aload_n 0, 1) := by decide +kernel
theorem dX10_code_78 : decode cX10_code 78 = .ok (.getfield 182, 3) := by decide +kernel
theorem dX10_code_81 : decode cX10_code 81 = .ok (.iload_n 2, 1) := by decide +kernel
theorem dX10_code_82 : decode cX10_code 82 = .ok (.iastore, 1) := by decide +kernel
theorem dX10_code_83 : decode cX10_code 83 = .ok (.aload_n 0, 1) := by decide +kernel
theorem dX10_code_84 : decode cX10_code 84 = .ok (.getfield 16, 3) := by decide +kernel
theorem dX10_code_87 : decode cX10_code 87 = .ok (.aload_n 0, 1) := by decide +kernel
theorem dX10_code_88 : decode cX10_code 88 = .ok (.getfield 182, 3) := by decide +kernel
theorem dX10_code_91 : decode cX10_code 91 = .ok (.iload_n 3, 1) := by decide +kernel
theorem dX10_code_92 : decode cX10_code 92 = .ok (.iastore, 1) := by decide +kernel
theorem dX10_code_93 : decode cX10_code 93 = .ok (.aload_n 0, 1) := by decide +kernel
theorem dX10_code_94 : decode cX10_code 94 = .ok (.getfield 19, 3) := by decide +kernel
theorem dX10_code_97 : decode cX10_code 97 = .ok (.aload_n 0, 1) := by decide +kernel
theorem dX10_code_98 : decode cX10_code 98 = .ok (.getfield 182, 3) := by decide +kernel
theorem dX10_code_101 : decode cX10_code 101 = .ok (.iconst (-1), 1) := by decide +kernel
theorem dX10_code_102 : decode cX10_code 102 = .ok (.iastore, 1) := by decide +kernel
theorem dX10_code_103 : decode cX10_code 103 = .ok (.aload_n 0, 1) := by decide +kernel
theorem dX10_code_104 : decode cX10_code 104 = .ok (.dup, 1) := by decide +kernel
theorem dX10_code_105 : decode cX10_code 105 = .ok (.getfield 182, 3) := by decide +kernel
theorem dX10_code_108 : decode cX10_code 108 = .ok (.iconst 1, 1) := by decide +kernel
theorem dX10_code_109 : decode cX10_code 109 = .ok (.iadd, 1) := by decide +kernel
theorem dX10_code_110 : decode cX10_code 110 = .ok (.putfield 182, 3) := by decide +kernel
theorem dX10_code_113 : decode cX10_code 113 = .ok (.aload_n 0, 1) := by decide +kernel
theorem dX10_code_114 : decode cX10_code 114 = .ok (.getfield 182, 3) := by decide +kernel
theorem dX10_code_117 : decode cX10_code 117 = .ok (.iconst 1, 1) := by decide +kernel
theorem dX10_code_118 : decode cX10_code 118 = .ok (.isub, 1) := by decide +kernel
theorem dX10_code_119 : decode cX10_code 119 = .ok (.ireturn, 1) := by decide +kernel
theorem dX10_isCode_0 : decode cX10_isCode 0 = .ok (.iload_n 1, 1) := by decide +kernel
theorem dX10_isCode_1 : decode cX10_isCode 1 = .ok (.iconst 0, 1) := by decide +kernel
theorem dX10_isCode_2 : decode cX10_isCode 2 = .ok (.aload_n 0, 1) := by decide +kernel
theorem dX10_isCode_3 : decode cX10_isCode 3 = .ok (.getfield 182, 3) := by decide +kernel
theorem dX10_isCode_6 : decode cX10_isCode 6 = .ok (.iconst 1, 1) := by decide +kernel
theorem dX10_isCode_7 : decode cX10_isCode 7 = .ok (.isub, 1) := by decide +kernel
theorem dX10_isCode_8 : decode cX10_isCode 8 = .ok (.invokestatic 168, 3) := by decide +kernel
theorem dX10_isCode_11 : decode cX10_isCode 11 = .ok (.ireturn, 1) := by decide +kernel
theorem dX10_turn_0 : decode cX10_turn 0 = .ok (.aload_n 0, 1) := by decide +kernel
theorem dX10_turn_1 : decode cX10_turn 1 = .ok (.iload_n 1, 1) := by decide +kernel
theorem dX10_turn_2 : decode cX10_turn 2 = .ok (.invokevirtual 185, 3) := by decide +kernel
theorem dX10_turn_5 : decode cX10_turn 5 = .ok (.ifCond .eq 11, 3) := by decide +kernel
theorem dX10_turn_8 : decode cX10_turn 8 = .ok (.aload_n 0, 1) := by decide +kernel
theorem dX10_turn_9 : decode cX10_turn 9 = .ok (.iload_n 2, 1) := by decide +kernel
theorem dX10_turn_10 : decode cX10_turn 10 = .ok (.invokevirtual 185, 3) := by decide +kernel
theorem dX10_turn_13 : decode cX10_turn 13 = .ok (.ifCond .ne 9, 3) := by decide +kernel
theorem dX10_turn_16 : decode cX10_turn 16 = .ok (.aload_n 0, 1) := by decide +kernel
theorem dX10_turn_17 : decode cX10_turn 17 = .ok (.iconst (-1), 1) := by decide +kernel
theorem dX10_turn_18 : decode cX10_turn 18 = .ok (.invokevirtual 175, 3) := by decide +kernel
theorem dX10_turn_21 : decode cX10_turn 21 = .ok (.ireturn, 1) := by decide +kernel
theorem dX10_turn_22 : decode cX10_turn 22 = .ok (.aload_n 0, 1) := by decide +kernel
theorem dX10_turn_23 : decode cX10_turn 23 = .ok (.getfield 19, 3) := by decide +kernel
theorem dX10_turn_26 : decode cX10_turn 26 = .ok (.iload_n 1, 1) := by decide +kernel
theorem dX10_turn_27 : decode cX10_turn 27 = .ok (.iaload, 1) := by decide +kernel
theorem dX10_turn_28 : decode cX10_turn 28 = .ok (.ifCond .ge 8, 3) := by decide +kernel
theorem dX10_turn_31 : decode cX10_turn 31 = .ok (.iload_n 2, 1) := by decide +kernel
theorem dX10_turn_32 : decode cX10_turn 32 = .ok (.iload_n 1, 1) := by decide +kernel
theorem dX10_turn_33 : decode cX10_turn 33 = .ok (.if_icmp .gt 10, 3) := by decide +kernel
theorem dX10_turn_36 : decode cX10_turn 36 = .ok (.aload_n 0, 1) := by decide +kernel
theorem dX10_turn_37 : decode cX10_turn 37 = .ok (.bipush (-3), 2) := by decide +kernel
theorem dX10_turn_39 : decode cX10_turn 39 = .ok (.invokevirtual 175, 3) := by decide +kernel
theorem dX10_turn_42 : decode cX10_turn 42 = .ok (.ireturn, 1) := by decide +kernel
theorem dX10_turn_43 : decode cX10_turn 43 = .ok (.iload_n 3, 1) := by decide +kernel
theorem dX10_turn_44 : decode cX10_turn 44 = .ok (.aload_n 0, 1) := by decide +kernel
theorem dX10_turn_45 : decode cX10_turn 45 = .ok (.getfield 179, 3) := by decide +kernel
theorem dX10_turn_48 : decode cX10_turn 48 = .ok (.if_icmp .ge 10, 3) := by decide +kernel
theorem dX10_turn_51 : decode cX10_turn 51 = .ok (.aload_n 0, 1) := by decide +kernel
theorem dX10_turn_52 : decode cX10_turn 52 = .ok (.bipush (-4), 2) := by decide +kernel
theorem dX10_turn_54 : decode cX10_turn 54 = .ok (.invokevirtual 175, 3) := by decide +kernel
theorem dX10_turn_57 : decode cX10_turn 57 = .ok (.ireturn, 1) := by decide +kernel
theorem dX10_turn_58 : decode cX10_turn 58 = .ok (.iload_n 3, 1) := by decide +kernel
theorem dX10_turn_59 : decode cX10_turn 59 = .ok (.sipush 1500, 3) := by decide +kernel
theorem dX10_turn_62 : decode cX10_turn 62 = .ok (.if_icmp .le 10, 3) := by decide +kernel
theorem dX10_turn_65 : decode cX10_turn 65 = .ok (.aload_n 0, 1) := by decide +kernel
theorem dX10_turn_66 : decode cX10_turn 66 = .ok (.bipush (-6), 2) := by decide +kernel
theorem dX10_turn_68 : decode cX10_turn 68 = .ok (.invokevirtual 175, 3) := by decide +kernel
theorem dX10_turn_71 : decode cX10_turn 71 = .ok (.ireturn, 1) := by decide +kernel
theorem dX10_turn_72 : decode cX10_turn 72 = .ok (.aload_n 0, 1) := by decide +kernel
theorem dX10_turn_73 : decode cX10_turn 73 = .ok (.getfield 19, 3) := by decide +kernel
theorem dX10_turn_76 : decode cX10_turn 76 = .ok (.iload_n 1, 1) := by decide +kernel
theorem dX10_turn_77 : decode cX10_turn 77 = .ok (.iload_n 2, 1) := by decide +kernel
theorem dX10_turn_78 : decode cX10_turn 78 = .ok (.iastore, 1) := by decide +kernel
theorem dX10_turn_79 : decode cX10_turn 79 = .ok (.aload_n 0, 1) := by decide +kernel
theorem dX10_turn_80 : decode cX10_turn 80 = .ok (.getfield 22, 3) := by decide +kernel
theorem dX10_turn_83 : decode cX10_turn 83 = .ok (.iload_n 1, 1) := by decide +kernel
theorem dX10_turn_84 : decode cX10_turn 84 = .ok (.iload_n 3, 1) := by decide +kernel
theorem dX10_turn_85 : decode cX10_turn 85 = .ok (.iastore, 1) := by decide +kernel
theorem dX10_turn_86 : decode cX10_turn 86 = .ok (.iconst 1, 1) := by decide +kernel
theorem dX10_turn_87 : decode cX10_turn 87 = .ok (.ireturn, 1) := by decide +kernel
theorem dX10_standsFor_0 : decode cX10_standsFor 0 = .ok (.iload_n 1, 1) := by decide +kernel
theorem dX10_standsFor_1 : decode cX10_standsFor 1 = .ok (.istore_n 3, 1) := by decide +kernel
theorem dX10_standsFor_2 : decode cX10_standsFor 2 = .ok (.aload_n 0, 1) := by decide +kernel
theorem dX10_standsFor_3 : decode cX10_standsFor 3 = .ok (.getfield 19, 3) := by decide +kernel
theorem dX10_standsFor_6 : decode cX10_standsFor 6 = .ok (.iload_n 3, 1) := by decide +kernel
theorem dX10_standsFor_7 : decode cX10_standsFor 7 = .ok (.iaload, 1) := by decide +kernel
theorem dX10_standsFor_8 : decode cX10_standsFor 8 = .ok (.ifCond .lt 23, 3) := by decide +kernel
theorem dX10_standsFor_11 : decode cX10_standsFor 11 = .ok (.aload_n 0, 1) := by decide +kernel
theorem dX10_standsFor_12 : decode cX10_standsFor 12 = .ok (.getfield 22, 3) := by decide +kernel
theorem dX10_standsFor_15 : decode cX10_standsFor 15 = .ok (.iload_n 3, 1) := by decide +kernel
theorem dX10_standsFor_16 : decode cX10_standsFor 16 = .ok (.iaload, 1) := by decide +kernel
theorem dX10_standsFor_17 : decode cX10_standsFor 17 = .ok (.iload_n 2, 1) := by decide +kernel
theorem dX10_standsFor_18 : decode cX10_standsFor 18 = .ok (.if_icmp .gt 13, 3) := by decide +kernel
theorem dX10_standsFor_21 : decode cX10_standsFor 21 = .ok (.aload_n 0, 1) := by decide +kernel
theorem dX10_standsFor_22 : decode cX10_standsFor 22 = .ok (.getfield 19, 3) := by decide +kernel
theorem dX10_standsFor_25 : decode cX10_standsFor 25 = .ok (.iload_n 3, 1) := by decide +kernel
theorem dX10_standsFor_26 : decode cX10_standsFor 26 = .ok (.iaload, 1) := by decide +kernel
theorem dX10_standsFor_27 : decode cX10_standsFor 27 = .ok (.istore_n 3, 1) := by decide +kernel
theorem dX10_standsFor_28 : decode cX10_standsFor 28 = .ok (.goto (-26), 3) := by decide +kernel
theorem dX10_standsFor_31 : decode cX10_standsFor 31 = .ok (.iload_n 3, 1) := by decide +kernel
theorem dX10_standsFor_32 : decode cX10_standsFor 32 = .ok (.ireturn, 1) := by decide +kernel
theorem dX10_stands_0 : decode cX10_stands 0 = .ok (.aload_n 0, 1) := by decide +kernel
theorem dX10_stands_1 : decode cX10_stands 1 = .ok (.iload_n 1, 1) := by decide +kernel
theorem dX10_stands_2 : decode cX10_stands 2 = .ok (.invokevirtual 185, 3) := by decide +kernel
theorem dX10_stands_5 : decode cX10_stands 5 = .ok (.ifCond .ne 9, 3) := by decide +kernel
theorem dX10_stands_8 : decode cX10_stands 8 = .ok (.aload_n 0, 1) := by decide +kernel
theorem dX10_stands_9 : decode cX10_stands 9 = .ok (.iconst (-1), 1) := by decide +kernel
theorem dX10_stands_10 : decode cX10_stands 10 = .ok (.invokevirtual 175, 3) := by decide +kernel
theorem dX10_stands_13 : decode cX10_stands 13 = .ok (.ireturn, 1) := by decide +kernel
theorem dX10_stands_14 : decode cX10_stands 14 = .ok (.iload_n 2, 1) := by decide +kernel
theorem dX10_stands_15 : decode cX10_stands 15 = .ok (.invokestatic 189, 3) := by decide +kernel
theorem dX10_stands_18 : decode cX10_stands 18 = .ok (.ifCond .ge 14, 3) := by decide +kernel
theorem dX10_stands_21 : decode cX10_stands 21 = .ok (.aload_n 0, 1) := by decide +kernel
theorem dX10_stands_22 : decode cX10_stands 22 = .ok (.iload_n 2, 1) := by decide +kernel
theorem dX10_stands_23 : decode cX10_stands 23 = .ok (.invokestatic 189, 3) := by decide +kernel
theorem dX10_stands_26 : decode cX10_stands 26 = .ok (.invokevirtual 175, 3) := by decide +kernel
theorem dX10_stands_29 : decode cX10_stands 29 = .ok (.goto 9, 3) := by decide +kernel
theorem dX10_stands_32 : decode cX10_stands 32 = .ok (.aload_n 0, 1) := by decide +kernel
theorem dX10_stands_33 : decode cX10_stands 33 = .ok (.iload_n 1, 1) := by decide +kernel
theorem dX10_stands_34 : decode cX10_stands 34 = .ok (.iload_n 2, 1) := by decide +kernel
theorem dX10_stands_35 : decode cX10_stands 35 = .ok (.invokevirtual 192, 3) := by decide +kernel
theorem dX10_stands_38 : decode cX10_stands 38 = .ok (.ireturn, 1) := by decide +kernel
theorem dX10_most_0 : decode cX10_most 0 = .ok (.iload_n 1, 1) := by decide +kernel
theorem dX10_most_1 : decode cX10_most 1 = .ok (.iconst 0, 1) := by decide +kernel
theorem dX10_most_2 : decode cX10_most 2 = .ok (.iconst 4, 1) := by decide +kernel
theorem dX10_most_3 : decode cX10_most 3 = .ok (.invokestatic 168, 3) := by decide +kernel
theorem dX10_most_6 : decode cX10_most 6 = .ok (.ifCond .ne 9, 3) := by decide +kernel
theorem dX10_most_9 : decode cX10_most 9 = .ok (.aload_n 0, 1) := by decide +kernel
theorem dX10_most_10 : decode cX10_most 10 = .ok (.iconst (-1), 1) := by decide +kernel
theorem dX10_most_11 : decode cX10_most 11 = .ok (.invokevirtual 175, 3) := by decide +kernel
theorem dX10_most_14 : decode cX10_most 14 = .ok (.ireturn, 1) := by decide +kernel
theorem dX10_most_15 : decode cX10_most 15 = .ok (.iload_n 2, 1) := by decide +kernel
theorem dX10_most_16 : decode cX10_most 16 = .ok (.ifCond .ge 10, 3) := by decide +kernel
theorem dX10_most_19 : decode cX10_most 19 = .ok (.aload_n 0, 1) := by decide +kernel
theorem dX10_most_20 : decode cX10_most 20 = .ok (.bipush (-4), 2) := by decide +kernel
theorem dX10_most_22 : decode cX10_most 22 = .ok (.invokevirtual 175, 3) := by decide +kernel
theorem dX10_most_25 : decode cX10_most 25 = .ok (.ireturn, 1) := by decide +kernel
theorem dX10_most_26 : decode cX10_most 26 = .ok (.iload_n 2, 1) := by decide +kernel
theorem dX10_most_27 : decode cX10_most 27 = .ok (.sipush 200, 3) := by decide +kernel
theorem dX10_most_30 : decode cX10_most 30 = .ok (.if_icmp .le 10, 3) := by decide +kernel
theorem dX10_most_33 : decode cX10_most 33 = .ok (.aload_n 0, 1) := by decide +kernel
theorem dX10_most_34 : decode cX10_most 34 = .ok (.bipush (-6), 2) := by decide +kernel
theorem dX10_most_36 : decode cX10_most 36 = .ok (.invokevirtual 175, 3) := by decide +kernel
theorem dX10_most_39 : decode cX10_most 39 = .ok (.ireturn, 1) := by decide +kernel
theorem dX10_most_40 : decode cX10_most 40 = .ok (.aload_n 0, 1) := by decide +kernel
theorem dX10_most_41 : decode cX10_most 41 = .ok (.getfield 25, 3) := by decide +kernel
theorem dX10_most_44 : decode cX10_most 44 = .ok (.iload_n 1, 1) := by decide +kernel
theorem dX10_most_45 : decode cX10_most 45 = .ok (.iaload, 1) := by decide +kernel
theorem dX10_most_46 : decode cX10_most 46 = .ok (.istore_n 3, 1) := by decide +kernel
theorem dX10_most_47 : decode cX10_most 47 = .ok (.aload_n 0, 1) := by decide +kernel
theorem dX10_most_48 : decode cX10_most 48 = .ok (.getfield 25, 3) := by decide +kernel
theorem dX10_most_51 : decode cX10_most 51 = .ok (.iload_n 1, 1) := by decide +kernel
theorem dX10_most_52 : decode cX10_most 52 = .ok (.iload_n 2, 1) := by decide +kernel
theorem dX10_most_53 : decode cX10_most 53 = .ok (.iastore, 1) := by decide +kernel
theorem dX10_most_54 : decode cX10_most 54 = .ok (.iload_n 3, 1) := by decide +kernel
theorem dX10_most_55 : decode cX10_most 55 = .ok (.ireturn, 1) := by decide +kernel
theorem dX10_kitchen_0 : decode cX10_kitchen 0 = .ok (.iload_n 1, 1) := by decide +kernel
theorem dX10_kitchen_1 : decode cX10_kitchen 1 = .ok (.iconst 0, 1) := by decide +kernel
theorem dX10_kitchen_2 : decode cX10_kitchen 2 = .ok (.iconst 3, 1) := by decide +kernel
theorem dX10_kitchen_3 : decode cX10_kitchen 3 = .ok (.invokestatic 168, 3) := by decide +kernel
theorem dX10_kitchen_6 : decode cX10_kitchen 6 = .ok (.ifCond .ne 10, 3) := by decide +kernel
theorem dX10_kitchen_9 : decode cX10_kitchen 9 = .ok (.aload_n 0, 1) := by decide +kernel
theorem dX10_kitchen_10 : decode cX10_kitchen 10 = .ok (.bipush (-2), 2) := by decide +kernel
theorem dX10_kitchen_12 : decode cX10_kitchen 12 = .ok (.invokevirtual 175, 3) := by decide +kernel
theorem dX10_kitchen_15 : decode cX10_kitchen 15 = .ok (.ireturn, 1) := by decide +kernel
theorem dX10_kitchen_16 : decode cX10_kitchen 16 = .ok (.iload_n 2, 1) := by decide +kernel
theorem dX10_kitchen_17 : decode cX10_kitchen 17 = .ok (.iconst 0, 1) := by decide +kernel
theorem dX10_kitchen_18 : decode cX10_kitchen 18 = .ok (.iconst 5, 1) := by decide +kernel
theorem dX10_kitchen_19 : decode cX10_kitchen 19 = .ok (.invokestatic 168, 3) := by decide +kernel
theorem dX10_kitchen_22 : decode cX10_kitchen 22 = .ok (.ifCond .eq 14, 3) := by decide +kernel
theorem dX10_kitchen_25 : decode cX10_kitchen 25 = .ok (.iload 4, 2) := by decide +kernel
theorem dX10_kitchen_27 : decode cX10_kitchen 27 = .ok (.iconst 0, 1) := by decide +kernel
theorem dX10_kitchen_28 : decode cX10_kitchen 28 = .ok (.bipush 9, 2) := by decide +kernel
theorem dX10_kitchen_30 : decode cX10_kitchen 30 = .ok (.invokestatic 168, 3) := by decide +kernel
theorem dX10_kitchen_33 : decode cX10_kitchen 33 = .ok (.ifCond .ne 9, 3) := by decide +kernel
theorem dX10_kitchen_36 : decode cX10_kitchen 36 = .ok (.aload_n 0, 1) := by decide +kernel
theorem dX10_kitchen_37 : decode cX10_kitchen 37 = .ok (.iconst (-1), 1) := by decide +kernel
theorem dX10_kitchen_38 : decode cX10_kitchen 38 = .ok (.invokevirtual 175, 3) := by decide +kernel
theorem dX10_kitchen_41 : decode cX10_kitchen 41 = .ok (.ireturn, 1) := by decide +kernel
theorem dX10_kitchen_42 : decode cX10_kitchen 42 = .ok (.iload_n 3, 1) := by decide +kernel
theorem dX10_kitchen_43 : decode cX10_kitchen 43 = .ok (.iconst 1, 1) := by decide +kernel
theorem dX10_kitchen_44 : decode cX10_kitchen 44 = .ok (.if_icmp .lt 8, 3) := by decide +kernel
theorem dX10_kitchen_47 : decode cX10_kitchen 47 = .ok (.iload 5, 2) := by decide +kernel
theorem dX10_kitchen_49 : decode cX10_kitchen 49 = .ok (.ifCond .ge 10, 3) := by decide +kernel
theorem dX10_kitchen_52 : decode cX10_kitchen 52 = .ok (.aload_n 0, 1) := by decide +kernel
theorem dX10_kitchen_53 : decode cX10_kitchen 53 = .ok (.bipush (-4), 2) := by decide +kernel
theorem dX10_kitchen_55 : decode cX10_kitchen 55 = .ok (.invokevirtual 175, 3) := by decide +kernel
theorem dX10_kitchen_58 : decode cX10_kitchen 58 = .ok (.ireturn, 1) := by decide +kernel
theorem dX10_kitchen_59 : decode cX10_kitchen 59 = .ok (.iload_n 3, 1) := by decide +kernel
theorem dX10_kitchen_60 : decode cX10_kitchen 60 = .ok (.sipush 999, 3) := by decide +kernel
theorem dX10_kitchen_63 : decode cX10_kitchen 63 = .ok (.if_icmp .gt 20, 3) := by decide +kernel
theorem dX10_kitchen_66 : decode cX10_kitchen 66 = .ok (.iload 5, 2) := by decide +kernel
theorem dX10_kitchen_68 : decode cX10_kitchen 68 = .ok (.sipush 255, 3) := by decide +kernel
theorem dX10_kitchen_71 : decode cX10_kitchen 71 = .ok (.if_icmp .gt 12, 3) := by decide +kernel
theorem dX10_kitchen_74 : decode cX10_kitchen 74 = .ok (.aload_n 0, 1) := by decide +kernel
theorem dX10_kitchen_75 : decode cX10_kitchen 75 = .ok (.getfield 165, 3) := by decide +kernel
theorem dX10_kitchen_78 : decode cX10_kitchen 78 = .ok (.bipush 20, 2) := by decide +kernel
theorem dX10_kitchen_80 : decode cX10_kitchen 80 = .ok (.if_icmp .ne 10, 3) := by decide +kernel
theorem dX10_kitchen_83 : decode cX10_kitchen 83 = .ok (.aload_n 0, 1) := by decide +kernel
theorem dX10_kitchen_84 : decode cX10_kitchen 84 = .ok (.bipush (-6), 2) := by decide +kernel
theorem dX10_kitchen_86 : decode cX10_kitchen 86 = .ok (.invokevirtual 175, 3) := by decide +kernel
theorem dX10_kitchen_89 : decode cX10_kitchen 89 = .ok (.ireturn, 1) := by decide +kernel
theorem dX10_kitchen_90 : decode cX10_kitchen 90 = .ok (.aload_n 0, 1) := by decide +kernel
theorem dX10_kitchen_91 : decode cX10_kitchen 91 = .ok (.getfield 28, 3) := by decide +kernel
theorem dX10_kitchen_94 : decode cX10_kitchen 94 = .ok (.aload_n 0, 1) := by decide +kernel
theorem dX10_kitchen_95 : decode cX10_kitchen 95 = .ok (.getfield 165, 3) := by decide +kernel
theorem dX10_kitchen_98 : decode cX10_kitchen 98 = .ok (.iload_n 1, 1) := by decide +kernel
theorem dX10_kitchen_99 : decode cX10_kitchen 99 = .ok (.iastore, 1) := by decide +kernel
theorem dX10_kitchen_100 : decode cX10_kitchen 100 = .ok (.aload_n 0, 1) := by decide +kernel
theorem dX10_kitchen_101 : decode cX10_kitchen 101 = .ok (.getfield 31, 3) := by decide +kernel
theorem dX10_kitchen_104 : decode cX10_kitchen 104 = .ok (.aload_n 0, 1) := by decide +kernel
theorem dX10_kitchen_105 : decode cX10_kitchen 105 = .ok (.getfield 165, 3) := by decide +kernel
theorem dX10_kitchen_108 : decode cX10_kitchen 108 = .ok (.iload_n 2, 1) := by decide +kernel
theorem dX10_kitchen_109 : decode cX10_kitchen 109 = .ok (.iastore, 1) := by decide +kernel
theorem dX10_kitchen_110 : decode cX10_kitchen 110 = .ok (.aload_n 0, 1) := by decide +kernel
theorem dX10_kitchen_111 : decode cX10_kitchen 111 = .ok (.getfield 34, 3) := by decide +kernel
theorem dX10_kitchen_114 : decode cX10_kitchen 114 = .ok (.aload_n 0, 1) := by decide +kernel
theorem dX10_kitchen_115 : decode cX10_kitchen 115 = .ok (.getfield 165, 3) := by decide +kernel
theorem dX10_kitchen_118 : decode cX10_kitchen 118 = .ok (.iload_n 3, 1) := by decide +kernel
theorem dX10_kitchen_119 : decode cX10_kitchen 119 = .ok (.iastore, 1) := by decide +kernel
theorem dX10_kitchen_120 : decode cX10_kitchen 120 = .ok (.aload_n 0, 1) := by decide +kernel
theorem dX10_kitchen_121 : decode cX10_kitchen 121 = .ok (.getfield 37, 3) := by decide +kernel
theorem dX10_kitchen_124 : decode cX10_kitchen 124 = .ok (.aload_n 0, 1) := by decide +kernel
theorem dX10_kitchen_125 : decode cX10_kitchen 125 = .ok (.getfield 165, 3) := by decide +kernel
theorem dX10_kitchen_128 : decode cX10_kitchen 128 = .ok (.iload 4, 2) := by decide +kernel
theorem dX10_kitchen_130 : decode cX10_kitchen 130 = .ok (.iastore, 1) := by decide +kernel
theorem dX10_kitchen_131 : decode cX10_kitchen 131 = .ok (.aload_n 0, 1) := by decide +kernel
theorem dX10_kitchen_132 : decode cX10_kitchen 132 = .ok (.getfield 40, 3) := by decide +kernel
theorem dX10_kitchen_135 : decode cX10_kitchen 135 = .ok (.aload_n 0, 1) := by decide +kernel
theorem dX10_kitchen_136 : decode cX10_kitchen 136 = .ok (.getfield 165, 3) := by decide +kernel
theorem dX10_kitchen_139 : decode cX10_kitchen 139 = .ok (.iload 5, 2) := by decide +kernel
theorem dX10_kitchen_141 : decode cX10_kitchen 141 = .ok (.iastore, 1) := by decide +kernel
theorem dX10_kitchen_142 : decode cX10_kitchen 142 = .ok (.aload_n 0, 1) := by decide +kernel
theorem dX10_kitchen_143 : decode cX10_kitchen 143 = .ok (.dup, 1) := by decide +kernel
theorem dX10_kitchen_144 : decode cX10_kitchen 144 = .ok (.getfield 165, 3) := by decide +kernel
theorem dX10_kitchen_147 : decode cX10_kitchen 147 = .ok (.iconst 1, 1) := by decide +kernel
theorem dX10_kitchen_148 : decode cX10_kitchen 148 = .ok (.iadd, 1) := by decide +kernel
theorem dX10_kitchen_149 : decode cX10_kitchen 149 = .ok (.putfield 165, 3) := by decide +kernel
theorem dX10_kitchen_152 : decode cX10_kitchen 152 = .ok (.aload_n 0, 1) := by decide +kernel
theorem dX10_kitchen_153 : decode cX10_kitchen 153 = .ok (.getfield 165, 3) := by decide +kernel
theorem dX10_kitchen_156 : decode cX10_kitchen 156 = .ok (.iconst 1, 1) := by decide +kernel
theorem dX10_kitchen_157 : decode cX10_kitchen 157 = .ok (.isub, 1) := by decide +kernel
theorem dX10_kitchen_158 : decode cX10_kitchen 158 = .ok (.ireturn, 1) := by decide +kernel
theorem dX10_hard_0 : decode cX10_hard 0 = .ok (.aload_n 0, 1) := by decide +kernel
theorem dX10_hard_1 : decode cX10_hard 1 = .ok (.iload_n 1, 1) := by decide +kernel
theorem dX10_hard_2 : decode cX10_hard 2 = .ok (.invokevirtual 196, 3) := by decide +kernel
theorem dX10_hard_5 : decode cX10_hard 5 = .ok (.ifCond .ne 9, 3) := by decide +kernel
theorem dX10_hard_8 : decode cX10_hard 8 = .ok (.aload_n 0, 1) := by decide +kernel
theorem dX10_hard_9 : decode cX10_hard 9 = .ok (.iconst (-1), 1) := by decide +kernel
theorem dX10_hard_10 : decode cX10_hard 10 = .ok (.invokevirtual 175, 3) := by decide +kernel
theorem dX10_hard_13 : decode cX10_hard 13 = .ok (.ireturn, 1) := by decide +kernel
theorem dX10_hard_14 : decode cX10_hard 14 = .ok (.aload_n 0, 1) := by decide +kernel
theorem dX10_hard_15 : decode cX10_hard 15 = .ok (.getfield 43, 3) := by decide +kernel
theorem dX10_hard_18 : decode cX10_hard 18 = .ok (.iload_n 1, 1) := by decide +kernel
theorem dX10_hard_19 : decode cX10_hard 19 = .ok (.baload, 1) := by decide +kernel
theorem dX10_hard_20 : decode cX10_hard 20 = .ok (.istore_n 3, 1) := by decide +kernel
theorem dX10_hard_21 : decode cX10_hard 21 = .ok (.aload_n 0, 1) := by decide +kernel
theorem dX10_hard_22 : decode cX10_hard 22 = .ok (.getfield 43, 3) := by decide +kernel
theorem dX10_hard_25 : decode cX10_hard 25 = .ok (.iload_n 1, 1) := by decide +kernel
theorem dX10_hard_26 : decode cX10_hard 26 = .ok (.iload_n 2, 1) := by decide +kernel
theorem dX10_hard_27 : decode cX10_hard 27 = .ok (.bastore, 1) := by decide +kernel
theorem dX10_hard_28 : decode cX10_hard 28 = .ok (.iload_n 3, 1) := by decide +kernel
theorem dX10_hard_29 : decode cX10_hard 29 = .ok (.iload_n 2, 1) := by decide +kernel
theorem dX10_hard_30 : decode cX10_hard 30 = .ok (.if_icmp .ne 7, 3) := by decide +kernel
theorem dX10_hard_33 : decode cX10_hard 33 = .ok (.iconst 0, 1) := by decide +kernel
theorem dX10_hard_34 : decode cX10_hard 34 = .ok (.goto 4, 3) := by decide +kernel
theorem dX10_hard_37 : decode cX10_hard 37 = .ok (.iconst 1, 1) := by decide +kernel
theorem dX10_hard_38 : decode cX10_hard 38 = .ok (.ireturn, 1) := by decide +kernel
theorem dX10_kin_0 : decode cX10_kin 0 = .ok (.iload_n 1, 1) := by decide +kernel
theorem dX10_kin_1 : decode cX10_kin 1 = .ok (.iconst 0, 1) := by decide +kernel
theorem dX10_kin_2 : decode cX10_kin 2 = .ok (.iconst 4, 1) := by decide +kernel
theorem dX10_kin_3 : decode cX10_kin 3 = .ok (.invokestatic 168, 3) := by decide +kernel
theorem dX10_kin_6 : decode cX10_kin 6 = .ok (.ifCond .eq 13, 3) := by decide +kernel
theorem dX10_kin_9 : decode cX10_kin 9 = .ok (.iload_n 2, 1) := by decide +kernel
theorem dX10_kin_10 : decode cX10_kin 10 = .ok (.iconst 0, 1) := by decide +kernel
theorem dX10_kin_11 : decode cX10_kin 11 = .ok (.bipush 9, 2) := by decide +kernel
theorem dX10_kin_13 : decode cX10_kin 13 = .ok (.invokestatic 168, 3) := by decide +kernel
theorem dX10_kin_16 : decode cX10_kin 16 = .ok (.ifCond .ne 9, 3) := by decide +kernel
theorem dX10_kin_19 : decode cX10_kin 19 = .ok (.aload_n 0, 1) := by decide +kernel
theorem dX10_kin_20 : decode cX10_kin 20 = .ok (.iconst (-1), 1) := by decide +kernel
theorem dX10_kin_21 : decode cX10_kin 21 = .ok (.invokevirtual 175, 3) := by decide +kernel
theorem dX10_kin_24 : decode cX10_kin 24 = .ok (.ireturn, 1) := by decide +kernel
theorem dX10_kin_25 : decode cX10_kin 25 = .ok (.aload_n 0, 1) := by decide +kernel
theorem dX10_kin_26 : decode cX10_kin 26 = .ok (.getfield 50, 3) := by decide +kernel
theorem dX10_kin_29 : decode cX10_kin 29 = .ok (.bipush 10, 2) := by decide +kernel
theorem dX10_kin_31 : decode cX10_kin 31 = .ok (.iload_n 1, 1) := by decide +kernel
theorem dX10_kin_32 : decode cX10_kin 32 = .ok (.imul, 1) := by decide +kernel
theorem dX10_kin_33 : decode cX10_kin 33 = .ok (.iload_n 2, 1) := by decide +kernel
theorem dX10_kin_34 : decode cX10_kin 34 = .ok (.iadd, 1) := by decide +kernel
theorem dX10_kin_35 : decode cX10_kin 35 = .ok (.baload, 1) := by decide +kernel
theorem dX10_kin_36 : decode cX10_kin 36 = .ok (.istore 4, 2) := by decide +kernel
theorem dX10_kin_38 : decode cX10_kin 38 = .ok (.aload_n 0, 1) := by decide +kernel
theorem dX10_kin_39 : decode cX10_kin 39 = .ok (.getfield 50, 3) := by decide +kernel
theorem dX10_kin_42 : decode cX10_kin 42 = .ok (.bipush 10, 2) := by decide +kernel
theorem dX10_kin_44 : decode cX10_kin 44 = .ok (.iload_n 1, 1) := by decide +kernel
theorem dX10_kin_45 : decode cX10_kin 45 = .ok (.imul, 1) := by decide +kernel
theorem dX10_kin_46 : decode cX10_kin 46 = .ok (.iload_n 2, 1) := by decide +kernel
theorem dX10_kin_47 : decode cX10_kin 47 = .ok (.iadd, 1) := by decide +kernel
theorem dX10_kin_48 : decode cX10_kin 48 = .ok (.iload_n 3, 1) := by decide +kernel
theorem dX10_kin_49 : decode cX10_kin 49 = .ok (.bastore, 1) := by decide +kernel
theorem dX10_kin_50 : decode cX10_kin 50 = .ok (.iload 4, 2) := by decide +kernel
theorem dX10_kin_52 : decode cX10_kin 52 = .ok (.iload_n 3, 1) := by decide +kernel
theorem dX10_kin_53 : decode cX10_kin 53 = .ok (.if_icmp .ne 7, 3) := by decide +kernel
theorem dX10_kin_56 : decode cX10_kin 56 = .ok (.iconst 0, 1) := by decide +kernel
theorem dX10_kin_57 : decode cX10_kin 57 = .ok (.goto 4, 3) := by decide +kernel
theorem dX10_kin_60 : decode cX10_kin 60 = .ok (.iconst 1, 1) := by decide +kernel
theorem dX10_kin_61 : decode cX10_kin 61 = .ok (.ireturn, 1) := by decide +kernel
theorem dX10_look_0 : decode cX10_look 0 = .ok (.aload_n 0, 1) := by decide +kernel
theorem dX10_look_1 : decode cX10_look 1 = .ok (.iload_n 1, 1) := by decide +kernel
theorem dX10_look_2 : decode cX10_look 2 = .ok (.invokevirtual 196, 3) := by decide +kernel
theorem dX10_look_5 : decode cX10_look 5 = .ok (.ifCond .eq 12, 3) := by decide +kernel
theorem dX10_look_8 : decode cX10_look 8 = .ok (.iload_n 2, 1) := by decide +kernel
theorem dX10_look_9 : decode cX10_look 9 = .ok (.iconst 0, 1) := by decide +kernel
theorem dX10_look_10 : decode cX10_look 10 = .ok (.iconst 4, 1) := by decide +kernel
theorem dX10_look_11 : decode cX10_look 11 = .ok (.invokestatic 168, 3) := by decide +kernel
theorem dX10_look_14 : decode cX10_look 14 = .ok (.ifCond .ne 9, 3) := by decide +kernel
theorem dX10_look_17 : decode cX10_look 17 = .ok (.aload_n 0, 1) := by decide +kernel
theorem dX10_look_18 : decode cX10_look 18 = .ok (.iconst (-1), 1) := by decide +kernel
theorem dX10_look_19 : decode cX10_look 19 = .ok (.invokevirtual 175, 3) := by decide +kernel
theorem dX10_look_22 : decode cX10_look 22 = .ok (.ireturn, 1) := by decide +kernel
theorem dX10_look_23 : decode cX10_look 23 = .ok (.aload_n 0, 1) := by decide +kernel
theorem dX10_look_24 : decode cX10_look 24 = .ok (.getfield 50, 3) := by decide +kernel
theorem dX10_look_27 : decode cX10_look 27 = .ok (.bipush 10, 2) := by decide +kernel
theorem dX10_look_29 : decode cX10_look 29 = .ok (.iload_n 2, 1) := by decide +kernel
theorem dX10_look_30 : decode cX10_look 30 = .ok (.imul, 1) := by decide +kernel
theorem dX10_look_31 : decode cX10_look 31 = .ok (.aload_n 0, 1) := by decide +kernel
theorem dX10_look_32 : decode cX10_look 32 = .ok (.getfield 37, 3) := by decide +kernel
theorem dX10_look_35 : decode cX10_look 35 = .ok (.iload_n 1, 1) := by decide +kernel
theorem dX10_look_36 : decode cX10_look 36 = .ok (.iaload, 1) := by decide +kernel
theorem dX10_look_37 : decode cX10_look 37 = .ok (.iadd, 1) := by decide +kernel
theorem dX10_look_38 : decode cX10_look 38 = .ok (.baload, 1) := by decide +kernel
theorem dX10_look_39 : decode cX10_look 39 = .ok (.ifCond .eq 10, 3) := by decide +kernel
theorem dX10_look_42 : decode cX10_look 42 = .ok (.aload_n 0, 1) := by decide +kernel
theorem dX10_look_43 : decode cX10_look 43 = .ok (.bipush (-7), 2) := by decide +kernel
theorem dX10_look_45 : decode cX10_look 45 = .ok (.invokevirtual 175, 3) := by decide +kernel
theorem dX10_look_48 : decode cX10_look 48 = .ok (.ireturn, 1) := by decide +kernel
theorem dX10_look_49 : decode cX10_look 49 = .ok (.iload_n 3, 1) := by decide +kernel
theorem dX10_look_50 : decode cX10_look 50 = .ok (.aload_n 0, 1) := by decide +kernel
theorem dX10_look_51 : decode cX10_look 51 = .ok (.getfield 179, 3) := by decide +kernel
theorem dX10_look_54 : decode cX10_look 54 = .ok (.if_icmp .le 10, 3) := by decide +kernel
theorem dX10_look_57 : decode cX10_look 57 = .ok (.aload_n 0, 1) := by decide +kernel
theorem dX10_look_58 : decode cX10_look 58 = .ok (.bipush (-3), 2) := by decide +kernel
theorem dX10_look_60 : decode cX10_look 60 = .ok (.invokevirtual 175, 3) := by decide +kernel
theorem dX10_look_63 : decode cX10_look 63 = .ok (.ireturn, 1) := by decide +kernel
theorem dX10_look_64 : decode cX10_look 64 = .ok (.iload_n 3, 1) := by decide +kernel
theorem dX10_look_65 : decode cX10_look 65 = .ok (.ifCond .ge 10, 3) := by decide +kernel
theorem dX10_look_68 : decode cX10_look 68 = .ok (.aload_n 0, 1) := by decide +kernel
theorem dX10_look_69 : decode cX10_look 69 = .ok (.bipush (-4), 2) := by decide +kernel
theorem dX10_look_71 : decode cX10_look 71 = .ok (.invokevirtual 175, 3) := by decide +kernel
theorem dX10_look_74 : decode cX10_look 74 = .ok (.ireturn, 1) := by decide +kernel
theorem dX10_look_75 : decode cX10_look 75 = .ok (.aload_n 0, 1) := by decide +kernel
theorem dX10_look_76 : decode cX10_look 76 = .ok (.getfield 172, 3) := by decide +kernel
theorem dX10_look_79 : decode cX10_look 79 = .ok (.bipush 80, 2) := by decide +kernel
theorem dX10_look_81 : decode cX10_look 81 = .ok (.if_icmp .ne 10, 3) := by decide +kernel
theorem dX10_look_84 : decode cX10_look 84 = .ok (.aload_n 0, 1) := by decide +kernel
theorem dX10_look_85 : decode cX10_look 85 = .ok (.bipush (-6), 2) := by decide +kernel
theorem dX10_look_87 : decode cX10_look 87 = .ok (.invokevirtual 175, 3) := by decide +kernel
theorem dX10_look_90 : decode cX10_look 90 = .ok (.ireturn, 1) := by decide +kernel
theorem dX10_look_91 : decode cX10_look 91 = .ok (.aload_n 0, 1) := by decide +kernel
theorem dX10_look_92 : decode cX10_look 92 = .ok (.getfield 53, 3) := by decide +kernel
theorem dX10_look_95 : decode cX10_look 95 = .ok (.aload_n 0, 1) := by decide +kernel
theorem dX10_look_96 : decode cX10_look 96 = .ok (.getfield 172, 3) := by decide +kernel
theorem dX10_look_99 : decode cX10_look 99 = .ok (.iload_n 1, 1) := by decide +kernel
theorem dX10_look_100 : decode cX10_look 100 = .ok (.iastore, 1) := by decide +kernel
theorem dX10_look_101 : decode cX10_look 101 = .ok (.aload_n 0, 1) := by decide +kernel
theorem dX10_look_102 : decode cX10_look 102 = .ok (.getfield 56, 3) := by decide +kernel
theorem dX10_look_105 : decode cX10_look 105 = .ok (.aload_n 0, 1) := by decide +kernel
theorem dX10_look_106 : decode cX10_look 106 = .ok (.getfield 172, 3) := by decide +kernel
theorem dX10_look_109 : decode cX10_look 109 = .ok (.iload_n 2, 1) := by decide +kernel
theorem dX10_look_110 : decode cX10_look 110 = .ok (.iastore, 1) := by decide +kernel
theorem dX10_look_111 : decode cX10_look 111 = .ok (.aload_n 0, 1) := by decide +kernel
theorem dX10_look_112 : decode cX10_look 112 = .ok (.getfield 59, 3) := by decide +kernel
theorem dX10_look_115 : decode cX10_look 115 = .ok (.aload_n 0, 1) := by decide +kernel
theorem dX10_look_116 : decode cX10_look 116 = .ok (.getfield 172, 3) := by decide +kernel
theorem dX10_look_119 : decode cX10_look 119 = .ok (.iload_n 3, 1) := by decide +kernel
theorem dX10_look_120 : decode cX10_look 120 = .ok (.iastore, 1) := by decide +kernel
theorem dX10_look_121 : decode cX10_look 121 = .ok (.aload_n 0, 1) := by decide +kernel
theorem dX10_look_122 : decode cX10_look 122 = .ok (.getfield 62, 3) := by decide +kernel
theorem dX10_look_125 : decode cX10_look 125 = .ok (.aload_n 0, 1) := by decide +kernel
theorem dX10_look_126 : decode cX10_look 126 = .ok (.getfield 172, 3) := by decide +kernel
theorem dX10_look_129 : decode cX10_look 129 = .ok (.aload_n 0, 1) := by decide +kernel
theorem dX10_look_130 : decode cX10_look 130 = .ok (.getfield 179, 3) := by decide +kernel
theorem dX10_look_133 : decode cX10_look 133 = .ok (.iastore, 1) := by decide +kernel
theorem dX10_look_134 : decode cX10_look 134 = .ok (.aload_n 0, 1) := by decide +kernel
theorem dX10_look_135 : decode cX10_look 135 = .ok (.getfield 65, 3) := by decide +kernel
theorem dX10_look_138 : decode cX10_look 138 = .ok (.aload_n 0, 1) := by decide +kernel
theorem dX10_look_139 : decode cX10_look 139 = .ok (.getfield 172, 3) := by decide +kernel
theorem dX10_look_142 : decode cX10_look 142 = .ok (.iconst (-1), 1) := by decide +kernel
theorem dX10_look_143 : decode cX10_look 143 = .ok (.iastore, 1) := by decide +kernel
theorem dX10_look_144 : decode cX10_look 144 = .ok (.aload_n 0, 1) := by decide +kernel
theorem dX10_look_145 : decode cX10_look 145 = .ok (.dup, 1) := by decide +kernel
theorem dX10_look_146 : decode cX10_look 146 = .ok (.getfield 172, 3) := by decide +kernel
theorem dX10_look_149 : decode cX10_look 149 = .ok (.iconst 1, 1) := by decide +kernel
theorem dX10_look_150 : decode cX10_look 150 = .ok (.iadd, 1) := by decide +kernel
theorem dX10_look_151 : decode cX10_look 151 = .ok (.putfield 172, 3) := by decide +kernel
theorem dX10_look_154 : decode cX10_look 154 = .ok (.aload_n 0, 1) := by decide +kernel
theorem dX10_look_155 : decode cX10_look 155 = .ok (.getfield 172, 3) := by decide +kernel
theorem dX10_look_158 : decode cX10_look 158 = .ok (.iconst 1, 1) := by decide +kernel
theorem dX10_look_159 : decode cX10_look 159 = .ok (.isub, 1) := by decide +kernel
theorem dX10_look_160 : decode cX10_look 160 = .ok (.ireturn, 1) := by decide +kernel
theorem dX10_find_0 : decode cX10_find 0 = .ok (.aload_n 0, 1) := by decide +kernel
theorem dX10_find_1 : decode cX10_find 1 = .ok (.iload_n 1, 1) := by decide +kernel
theorem dX10_find_2 : decode cX10_find 2 = .ok (.invokevirtual 185, 3) := by decide +kernel
theorem dX10_find_5 : decode cX10_find 5 = .ok (.ifCond .ne 9, 3) := by decide +kernel
theorem dX10_find_8 : decode cX10_find 8 = .ok (.aload_n 0, 1) := by decide +kernel
theorem dX10_find_9 : decode cX10_find 9 = .ok (.iconst (-1), 1) := by decide +kernel
theorem dX10_find_10 : decode cX10_find 10 = .ok (.invokevirtual 175, 3) := by decide +kernel
theorem dX10_find_13 : decode cX10_find 13 = .ok (.ireturn, 1) := by decide +kernel
theorem dX10_find_14 : decode cX10_find 14 = .ok (.aload_n 0, 1) := by decide +kernel
theorem dX10_find_15 : decode cX10_find 15 = .ok (.getfield 172, 3) := by decide +kernel
theorem dX10_find_18 : decode cX10_find 18 = .ok (.ifCond .eq 37, 3) := by decide +kernel
theorem dX10_find_21 : decode cX10_find 21 = .ok (.aload_n 0, 1) := by decide +kernel
theorem dX10_find_22 : decode cX10_find 22 = .ok (.getfield 65, 3) := by decide +kernel
theorem dX10_find_25 : decode cX10_find 25 = .ok (.aload_n 0, 1) := by decide +kernel
theorem dX10_find_26 : decode cX10_find 26 = .ok (.getfield 172, 3) := by decide +kernel
theorem dX10_find_29 : decode cX10_find 29 = .ok (.iconst 1, 1) := by decide +kernel
theorem dX10_find_30 : decode cX10_find 30 = .ok (.isub, 1) := by decide +kernel
theorem dX10_find_31 : decode cX10_find 31 = .ok (.iaload, 1) := by decide +kernel
theorem dX10_find_32 : decode cX10_find 32 = .ok (.ifCond .ge 23, 3) := by decide +kernel
theorem dX10_find_35 : decode cX10_find 35 = .ok (.aload_n 0, 1) := by decide +kernel
theorem dX10_find_36 : decode cX10_find 36 = .ok (.getfield 16, 3) := by decide +kernel
theorem dX10_find_39 : decode cX10_find 39 = .ok (.iload_n 1, 1) := by decide +kernel
theorem dX10_find_40 : decode cX10_find 40 = .ok (.iaload, 1) := by decide +kernel
theorem dX10_find_41 : decode cX10_find 41 = .ok (.aload_n 0, 1) := by decide +kernel
theorem dX10_find_42 : decode cX10_find 42 = .ok (.getfield 59, 3) := by decide +kernel
theorem dX10_find_45 : decode cX10_find 45 = .ok (.aload_n 0, 1) := by decide +kernel
theorem dX10_find_46 : decode cX10_find 46 = .ok (.getfield 172, 3) := by decide +kernel
theorem dX10_find_49 : decode cX10_find 49 = .ok (.iconst 1, 1) := by decide +kernel
theorem dX10_find_50 : decode cX10_find 50 = .ok (.isub, 1) := by decide +kernel
theorem dX10_find_51 : decode cX10_find 51 = .ok (.iaload, 1) := by decide +kernel
theorem dX10_find_52 : decode cX10_find 52 = .ok (.if_icmp .le 10, 3) := by decide +kernel
theorem dX10_find_55 : decode cX10_find 55 = .ok (.aload_n 0, 1) := by decide +kernel
theorem dX10_find_56 : decode cX10_find 56 = .ok (.bipush (-3), 2) := by decide +kernel
theorem dX10_find_58 : decode cX10_find 58 = .ok (.invokevirtual 175, 3) := by decide +kernel
theorem dX10_find_61 : decode cX10_find 61 = .ok (.ireturn, 1) := by decide +kernel
theorem dX10_find_62 : decode cX10_find 62 = .ok (.iload_n 2, 1) := by decide +kernel
theorem dX10_find_63 : decode cX10_find 63 = .ok (.iconst 1, 1) := by decide +kernel
theorem dX10_find_64 : decode cX10_find 64 = .ok (.if_icmp .ge 10, 3) := by decide +kernel
theorem dX10_find_67 : decode cX10_find 67 = .ok (.aload_n 0, 1) := by decide +kernel
theorem dX10_find_68 : decode cX10_find 68 = .ok (.bipush (-4), 2) := by decide +kernel
theorem dX10_find_70 : decode cX10_find 70 = .ok (.invokevirtual 175, 3) := by decide +kernel
theorem dX10_find_73 : decode cX10_find 73 = .ok (.ireturn, 1) := by decide +kernel
theorem dX10_find_74 : decode cX10_find 74 = .ok (.bipush 40, 2) := by decide +kernel
theorem dX10_find_76 : decode cX10_find 76 = .ok (.aload_n 0, 1) := by decide +kernel
theorem dX10_find_77 : decode cX10_find 77 = .ok (.getfield 172, 3) := by decide +kernel
theorem dX10_find_80 : decode cX10_find 80 = .ok (.iconst 1, 1) := by decide +kernel
theorem dX10_find_81 : decode cX10_find 81 = .ok (.isub, 1) := by decide +kernel
theorem dX10_find_82 : decode cX10_find 82 = .ok (.imul, 1) := by decide +kernel
theorem dX10_find_83 : decode cX10_find 83 = .ok (.iload_n 1, 1) := by decide +kernel
theorem dX10_find_84 : decode cX10_find 84 = .ok (.iadd, 1) := by decide +kernel
theorem dX10_find_85 : decode cX10_find 85 = .ok (.istore_n 3, 1) := by decide +kernel
theorem dX10_find_86 : decode cX10_find 86 = .ok (.iload_n 2, 1) := by decide +kernel
theorem dX10_find_87 : decode cX10_find 87 = .ok (.bipush 9, 2) := by decide +kernel
theorem dX10_find_89 : decode cX10_find 89 = .ok (.if_icmp .gt 16, 3) := by decide +kernel
theorem dX10_find_92 : decode cX10_find 92 = .ok (.aload_n 0, 1) := by decide +kernel
theorem dX10_find_93 : decode cX10_find 93 = .ok (.getfield 68, 3) := by decide +kernel
theorem dX10_find_96 : decode cX10_find 96 = .ok (.iload_n 3, 1) := by decide +kernel
theorem dX10_find_97 : decode cX10_find 97 = .ok (.iaload, 1) := by decide +kernel
theorem dX10_find_98 : decode cX10_find 98 = .ok (.iload_n 2, 1) := by decide +kernel
theorem dX10_find_99 : decode cX10_find 99 = .ok (.iadd, 1) := by decide +kernel
theorem dX10_find_100 : decode cX10_find 100 = .ok (.bipush 99, 2) := by decide +kernel
theorem dX10_find_102 : decode cX10_find 102 = .ok (.if_icmp .le 10, 3) := by decide +kernel
theorem dX10_find_105 : decode cX10_find 105 = .ok (.aload_n 0, 1) := by decide +kernel
theorem dX10_find_106 : decode cX10_find 106 = .ok (.bipush (-6), 2) := by decide +kernel
theorem dX10_find_108 : decode cX10_find 108 = .ok (.invokevirtual 175, 3) := by decide +kernel
theorem dX10_find_111 : decode cX10_find 111 = .ok (.ireturn, 1) := by decide +kernel
theorem dX10_find_112 : decode cX10_find 112 = .ok (.aload_n 0, 1) := by decide +kernel
theorem dX10_find_113 : decode cX10_find 113 = .ok (.getfield 68, 3) := by decide +kernel
theorem dX10_find_116 : decode cX10_find 116 = .ok (.iload_n 3, 1) := by decide +kernel
theorem dX10_find_117 : decode cX10_find 117 = .ok (.dup2, 1) := by decide +kernel
theorem dX10_find_118 : decode cX10_find 118 = .ok (.iaload, 1) := by decide +kernel
theorem dX10_find_119 : decode cX10_find 119 = .ok (.iload_n 2, 1) := by decide +kernel
theorem dX10_find_120 : decode cX10_find 120 = .ok (.iadd, 1) := by decide +kernel
theorem dX10_find_121 : decode cX10_find 121 = .ok (.iastore, 1) := by decide +kernel
theorem dX10_find_122 : decode cX10_find 122 = .ok (.aload_n 0, 1) := by decide +kernel
theorem dX10_find_123 : decode cX10_find 123 = .ok (.getfield 68, 3) := by decide +kernel
theorem dX10_find_126 : decode cX10_find 126 = .ok (.iload_n 3, 1) := by decide +kernel
theorem dX10_find_127 : decode cX10_find 127 = .ok (.iaload, 1) := by decide +kernel
theorem dX10_find_128 : decode cX10_find 128 = .ok (.ireturn, 1) := by decide +kernel
theorem dX10_back_0 : decode cX10_back 0 = .ok (.aload_n 0, 1) := by decide +kernel
theorem dX10_back_1 : decode cX10_back 1 = .ok (.iload_n 1, 1) := by decide +kernel
theorem dX10_back_2 : decode cX10_back 2 = .ok (.invokevirtual 199, 3) := by decide +kernel
theorem dX10_back_5 : decode cX10_back 5 = .ok (.ifCond .ne 9, 3) := by decide +kernel
theorem dX10_back_8 : decode cX10_back 8 = .ok (.aload_n 0, 1) := by decide +kernel
theorem dX10_back_9 : decode cX10_back 9 = .ok (.iconst (-1), 1) := by decide +kernel
theorem dX10_back_10 : decode cX10_back 10 = .ok (.invokevirtual 175, 3) := by decide +kernel
theorem dX10_back_13 : decode cX10_back 13 = .ok (.ireturn, 1) := by decide +kernel
theorem dX10_back_14 : decode cX10_back 14 = .ok (.aload_n 0, 1) := by decide +kernel
theorem dX10_back_15 : decode cX10_back 15 = .ok (.getfield 65, 3) := by decide +kernel
theorem dX10_back_18 : decode cX10_back 18 = .ok (.iload_n 1, 1) := by decide +kernel
theorem dX10_back_19 : decode cX10_back 19 = .ok (.iaload, 1) := by decide +kernel
theorem dX10_back_20 : decode cX10_back 20 = .ok (.ifCond .lt 10, 3) := by decide +kernel
theorem dX10_back_23 : decode cX10_back 23 = .ok (.aload_n 0, 1) := by decide +kernel
theorem dX10_back_24 : decode cX10_back 24 = .ok (.bipush (-3), 2) := by decide +kernel
theorem dX10_back_26 : decode cX10_back 26 = .ok (.invokevirtual 175, 3) := by decide +kernel
theorem dX10_back_29 : decode cX10_back 29 = .ok (.ireturn, 1) := by decide +kernel
theorem dX10_back_30 : decode cX10_back 30 = .ok (.aload_n 0, 1) := by decide +kernel
theorem dX10_back_31 : decode cX10_back 31 = .ok (.getfield 65, 3) := by decide +kernel
theorem dX10_back_34 : decode cX10_back 34 = .ok (.iload_n 1, 1) := by decide +kernel
theorem dX10_back_35 : decode cX10_back 35 = .ok (.aload_n 0, 1) := by decide +kernel
theorem dX10_back_36 : decode cX10_back 36 = .ok (.getfield 179, 3) := by decide +kernel
theorem dX10_back_39 : decode cX10_back 39 = .ok (.iastore, 1) := by decide +kernel
theorem dX10_back_40 : decode cX10_back 40 = .ok (.iconst 1, 1) := by decide +kernel
theorem dX10_back_41 : decode cX10_back 41 = .ok (.ireturn, 1) := by decide +kernel
theorem dX10_scoreOf_0 : decode cX10_scoreOf 0 = .ok (.iconst 0, 1) := by decide +kernel
theorem dX10_scoreOf_1 : decode cX10_scoreOf 1 = .ok (.istore_n 3, 1) := by decide +kernel
theorem dX10_scoreOf_2 : decode cX10_scoreOf 2 = .ok (.iload_n 3, 1) := by decide +kernel
theorem dX10_scoreOf_3 : decode cX10_scoreOf 3 = .ok (.iconst 5, 1) := by decide +kernel
theorem dX10_scoreOf_4 : decode cX10_scoreOf 4 = .ok (.if_icmp .ge 16, 3) := by decide +kernel
theorem dX10_scoreOf_7 : decode cX10_scoreOf 7 = .ok (.aload_n 0, 1) := by decide +kernel
theorem dX10_scoreOf_8 : decode cX10_scoreOf 8 = .ok (.getfield 74, 3) := by decide +kernel
theorem dX10_scoreOf_11 : decode cX10_scoreOf 11 = .ok (.iload_n 3, 1) := by decide +kernel
theorem dX10_scoreOf_12 : decode cX10_scoreOf 12 = .ok (.iconst 0, 1) := by decide +kernel
theorem dX10_scoreOf_13 : decode cX10_scoreOf 13 = .ok (.iastore, 1) := by decide +kernel
theorem dX10_scoreOf_14 : decode cX10_scoreOf 14 = .ok (.iinc 3 1, 3) := by decide +kernel
theorem dX10_scoreOf_17 : decode cX10_scoreOf 17 = .ok (.goto (-15), 3) := by decide +kernel
theorem dX10_scoreOf_20 : decode cX10_scoreOf 20 = .ok (.iconst 0, 1) := by decide +kernel
theorem dX10_scoreOf_21 : decode cX10_scoreOf 21 = .ok (.istore_n 3, 1) := by decide +kernel
theorem dX10_scoreOf_22 : decode cX10_scoreOf 22 = .ok (.iload_n 3, 1) := by decide +kernel
theorem dX10_scoreOf_23 : decode cX10_scoreOf 23 = .ok (.aload_n 0, 1) := by decide +kernel
theorem dX10_scoreOf_24 : decode cX10_scoreOf 24 = .ok (.getfield 182, 3) := by decide +kernel
theorem dX10_scoreOf_27 : decode cX10_scoreOf 27 = .ok (.if_icmp .ge 51, 3) := by decide +kernel
theorem dX10_scoreOf_30 : decode cX10_scoreOf 30 = .ok (.aload_n 0, 1) := by decide +kernel
theorem dX10_scoreOf_31 : decode cX10_scoreOf 31 = .ok (.iload_n 3, 1) := by decide +kernel
theorem dX10_scoreOf_32 : decode cX10_scoreOf 32 = .ok (.iload_n 2, 1) := by decide +kernel
theorem dX10_scoreOf_33 : decode cX10_scoreOf 33 = .ok (.invokevirtual 192, 3) := by decide +kernel
theorem dX10_scoreOf_36 : decode cX10_scoreOf 36 = .ok (.istore 4, 2) := by decide +kernel
theorem dX10_scoreOf_38 : decode cX10_scoreOf 38 = .ok (.aload_n 0, 1) := by decide +kernel
theorem dX10_scoreOf_39 : decode cX10_scoreOf 39 = .ok (.getfield 74, 3) := by decide +kernel
theorem dX10_scoreOf_42 : decode cX10_scoreOf 42 = .ok (.aload_n 0, 1) := by decide +kernel
theorem dX10_scoreOf_43 : decode cX10_scoreOf 43 = .ok (.getfield 7, 3) := by decide +kernel
theorem dX10_scoreOf_46 : decode cX10_scoreOf 46 = .ok (.iload 4, 2) := by decide +kernel
theorem dX10_scoreOf_48 : decode cX10_scoreOf 48 = .ok (.iaload, 1) := by decide +kernel
theorem dX10_scoreOf_49 : decode cX10_scoreOf 49 = .ok (.dup2, 1) := by decide +kernel
theorem dX10_scoreOf_50 : decode cX10_scoreOf 50 = .ok (.iaload, 1) := by decide +kernel
theorem dX10_scoreOf_51 : decode cX10_scoreOf 51 = .ok (.aload_n 0, 1) := by decide +kernel
theorem dX10_scoreOf_52 : decode cX10_scoreOf 52 = .ok (.getfield 68, 3) := by decide +kernel
theorem dX10_scoreOf_55 : decode cX10_scoreOf 55 = .ok (.bipush 40, 2) := by decide +kernel
theorem dX10_scoreOf_57 : decode cX10_scoreOf 57 = .ok (.iload_n 1, 1) := by decide +kernel
theorem dX10_scoreOf_58 : decode cX10_scoreOf 58 = .ok (.imul, 1) := by decide +kernel
theorem dX10_scoreOf_59 : decode cX10_scoreOf 59 = .ok (.iload_n 3, 1) := by decide +kernel
theorem dX10_scoreOf_60 : decode cX10_scoreOf 60 = .ok (.iadd, 1) := by decide +kernel
theorem dX10_scoreOf_61 : decode cX10_scoreOf 61 = .ok (.iaload, 1) := by decide +kernel
theorem dX10_scoreOf_62 : decode cX10_scoreOf 62 = .ok (.aload_n 0, 1) := by decide +kernel
theorem dX10_scoreOf_63 : decode cX10_scoreOf 63 = .ok (.getfield 13, 3) := by decide +kernel
theorem dX10_scoreOf_66 : decode cX10_scoreOf 66 = .ok (.iload 4, 2) := by decide +kernel
theorem dX10_scoreOf_68 : decode cX10_scoreOf 68 = .ok (.iaload, 1) := by decide +kernel
theorem dX10_scoreOf_69 : decode cX10_scoreOf 69 = .ok (.imul, 1) := by decide +kernel
theorem dX10_scoreOf_70 : decode cX10_scoreOf 70 = .ok (.iadd, 1) := by decide +kernel
theorem dX10_scoreOf_71 : decode cX10_scoreOf 71 = .ok (.iastore, 1) := by decide +kernel
theorem dX10_scoreOf_72 : decode cX10_scoreOf 72 = .ok (.iinc 3 1, 3) := by decide +kernel
theorem dX10_scoreOf_75 : decode cX10_scoreOf 75 = .ok (.goto (-53), 3) := by decide +kernel
theorem dX10_scoreOf_78 : decode cX10_scoreOf 78 = .ok (.iconst 0, 1) := by decide +kernel
theorem dX10_scoreOf_79 : decode cX10_scoreOf 79 = .ok (.istore_n 3, 1) := by decide +kernel
theorem dX10_scoreOf_80 : decode cX10_scoreOf 80 = .ok (.iconst 0, 1) := by decide +kernel
theorem dX10_scoreOf_81 : decode cX10_scoreOf 81 = .ok (.istore 4, 2) := by decide +kernel
theorem dX10_scoreOf_83 : decode cX10_scoreOf 83 = .ok (.iload 4, 2) := by decide +kernel
theorem dX10_scoreOf_85 : decode cX10_scoreOf 85 = .ok (.iconst 5, 1) := by decide +kernel
theorem dX10_scoreOf_86 : decode cX10_scoreOf 86 = .ok (.if_icmp .ge 46, 3) := by decide +kernel
theorem dX10_scoreOf_89 : decode cX10_scoreOf 89 = .ok (.iload_n 3, 1) := by decide +kernel
theorem dX10_scoreOf_90 : decode cX10_scoreOf 90 = .ok (.aload_n 0, 1) := by decide +kernel
theorem dX10_scoreOf_91 : decode cX10_scoreOf 91 = .ok (.getfield 74, 3) := by decide +kernel
theorem dX10_scoreOf_94 : decode cX10_scoreOf 94 = .ok (.iload 4, 2) := by decide +kernel
theorem dX10_scoreOf_96 : decode cX10_scoreOf 96 = .ok (.iaload, 1) := by decide +kernel
theorem dX10_scoreOf_97 : decode cX10_scoreOf 97 = .ok (.aload_n 0, 1) := by decide +kernel
theorem dX10_scoreOf_98 : decode cX10_scoreOf 98 = .ok (.getfield 25, 3) := by decide +kernel
theorem dX10_scoreOf_101 : decode cX10_scoreOf 101 = .ok (.iload 4, 2) := by decide +kernel
theorem dX10_scoreOf_103 : decode cX10_scoreOf 103 = .ok (.iaload, 1) := by decide +kernel
theorem dX10_scoreOf_104 : decode cX10_scoreOf 104 = .ok (.if_icmp .ge 13, 3) := by decide +kernel
theorem dX10_scoreOf_107 : decode cX10_scoreOf 107 = .ok (.aload_n 0, 1) := by decide +kernel
theorem dX10_scoreOf_108 : decode cX10_scoreOf 108 = .ok (.getfield 74, 3) := by decide +kernel
theorem dX10_scoreOf_111 : decode cX10_scoreOf 111 = .ok (.iload 4, 2) := by decide +kernel
theorem dX10_scoreOf_113 : decode cX10_scoreOf 113 = .ok (.iaload, 1) := by decide +kernel
theorem dX10_scoreOf_114 : decode cX10_scoreOf 114 = .ok (.goto 10, 3) := by decide +kernel
theorem dX10_scoreOf_117 : decode cX10_scoreOf 117 = .ok (.aload_n 0, 1) := by decide +kernel
theorem dX10_scoreOf_118 : decode cX10_scoreOf 118 = .ok (.getfield 25, 3) := by decide +kernel
theorem dX10_scoreOf_121 : decode cX10_scoreOf 121 = .ok (.iload 4, 2) := by decide +kernel
theorem dX10_scoreOf_123 : decode cX10_scoreOf 123 = .ok (.iaload, 1) := by decide +kernel
theorem dX10_scoreOf_124 : decode cX10_scoreOf 124 = .ok (.iadd, 1) := by decide +kernel
theorem dX10_scoreOf_125 : decode cX10_scoreOf 125 = .ok (.istore_n 3, 1) := by decide +kernel
theorem dX10_scoreOf_126 : decode cX10_scoreOf 126 = .ok (.iinc 4 1, 3) := by decide +kernel
theorem dX10_scoreOf_129 : decode cX10_scoreOf 129 = .ok (.goto (-46), 3) := by decide +kernel
theorem dX10_scoreOf_132 : decode cX10_scoreOf 132 = .ok (.iload_n 3, 1) := by decide +kernel
theorem dX10_scoreOf_133 : decode cX10_scoreOf 133 = .ok (.ireturn, 1) := by decide +kernel
theorem dX10_score_0 : decode cX10_score 0 = .ok (.aload_n 0, 1) := by decide +kernel
theorem dX10_score_1 : decode cX10_score 1 = .ok (.iload_n 1, 1) := by decide +kernel
theorem dX10_score_2 : decode cX10_score 2 = .ok (.invokevirtual 199, 3) := by decide +kernel
theorem dX10_score_5 : decode cX10_score 5 = .ok (.ifCond .ne 9, 3) := by decide +kernel
theorem dX10_score_8 : decode cX10_score 8 = .ok (.aload_n 0, 1) := by decide +kernel
theorem dX10_score_9 : decode cX10_score 9 = .ok (.iconst (-1), 1) := by decide +kernel
theorem dX10_score_10 : decode cX10_score 10 = .ok (.invokevirtual 175, 3) := by decide +kernel
theorem dX10_score_13 : decode cX10_score 13 = .ok (.ireturn, 1) := by decide +kernel
theorem dX10_score_14 : decode cX10_score 14 = .ok (.iload_n 2, 1) := by decide +kernel
theorem dX10_score_15 : decode cX10_score 15 = .ok (.invokestatic 189, 3) := by decide +kernel
theorem dX10_score_18 : decode cX10_score 18 = .ok (.ifCond .ge 14, 3) := by decide +kernel
theorem dX10_score_21 : decode cX10_score 21 = .ok (.aload_n 0, 1) := by decide +kernel
theorem dX10_score_22 : decode cX10_score 22 = .ok (.iload_n 2, 1) := by decide +kernel
theorem dX10_score_23 : decode cX10_score 23 = .ok (.invokestatic 189, 3) := by decide +kernel
theorem dX10_score_26 : decode cX10_score 26 = .ok (.invokevirtual 175, 3) := by decide +kernel
theorem dX10_score_29 : decode cX10_score 29 = .ok (.goto 9, 3) := by decide +kernel
theorem dX10_score_32 : decode cX10_score 32 = .ok (.aload_n 0, 1) := by decide +kernel
theorem dX10_score_33 : decode cX10_score 33 = .ok (.iload_n 1, 1) := by decide +kernel
theorem dX10_score_34 : decode cX10_score 34 = .ok (.iload_n 2, 1) := by decide +kernel
theorem dX10_score_35 : decode cX10_score 35 = .ok (.invokevirtual 202, 3) := by decide +kernel
theorem dX10_score_38 : decode cX10_score 38 = .ok (.ireturn, 1) := by decide +kernel
theorem dX10_table_0 : decode cX10_table 0 = .ok (.iload_n 1, 1) := by decide +kernel
theorem dX10_table_1 : decode cX10_table 1 = .ok (.aload_n 0, 1) := by decide +kernel
theorem dX10_table_2 : decode cX10_table 2 = .ok (.getfield 179, 3) := by decide +kernel
theorem dX10_table_5 : decode cX10_table 5 = .ok (.if_icmp .lt 25, 3) := by decide +kernel
theorem dX10_table_8 : decode cX10_table 8 = .ok (.iload_n 2, 1) := by decide +kernel
theorem dX10_table_9 : decode cX10_table 9 = .ok (.ifCond .lt 21, 3) := by decide +kernel
theorem dX10_table_12 : decode cX10_table 12 = .ok (.iload_n 3, 1) := by decide +kernel
theorem dX10_table_13 : decode cX10_table 13 = .ok (.iload_n 2, 1) := by decide +kernel
theorem dX10_table_14 : decode cX10_table 14 = .ok (.if_icmp .lt 16, 3) := by decide +kernel
theorem dX10_table_17 : decode cX10_table 17 = .ok (.iload 4, 2) := by decide +kernel
theorem dX10_table_19 : decode cX10_table 19 = .ok (.iload_n 3, 1) := by decide +kernel
theorem dX10_table_20 : decode cX10_table 20 = .ok (.if_icmp .lt 10, 3) := by decide +kernel
theorem dX10_table_23 : decode cX10_table 23 = .ok (.iload 5, 2) := by decide +kernel
theorem dX10_table_25 : decode cX10_table 25 = .ok (.iload 4, 2) := by decide +kernel
theorem dX10_table_27 : decode cX10_table 27 = .ok (.if_icmp .ge 10, 3) := by decide +kernel
theorem dX10_table_30 : decode cX10_table 30 = .ok (.aload_n 0, 1) := by decide +kernel
theorem dX10_table_31 : decode cX10_table 31 = .ok (.bipush (-4), 2) := by decide +kernel
theorem dX10_table_33 : decode cX10_table 33 = .ok (.invokevirtual 175, 3) := by decide +kernel
theorem dX10_table_36 : decode cX10_table 36 = .ok (.ireturn, 1) := by decide +kernel
theorem dX10_table_37 : decode cX10_table 37 = .ok (.iload_n 1, 1) := by decide +kernel
theorem dX10_table_38 : decode cX10_table 38 = .ok (.sipush 1500, 3) := by decide +kernel
theorem dX10_table_41 : decode cX10_table 41 = .ok (.if_icmp .gt 20, 3) := by decide +kernel
theorem dX10_table_44 : decode cX10_table 44 = .ok (.iload 5, 2) := by decide +kernel
theorem dX10_table_46 : decode cX10_table 46 = .ok (.sipush 999, 3) := by decide +kernel
theorem dX10_table_49 : decode cX10_table 49 = .ok (.if_icmp .gt 12, 3) := by decide +kernel
theorem dX10_table_52 : decode cX10_table 52 = .ok (.aload_n 0, 1) := by decide +kernel
theorem dX10_table_53 : decode cX10_table 53 = .ok (.getfield 205, 3) := by decide +kernel
theorem dX10_table_56 : decode cX10_table 56 = .ok (.bipush 10, 2) := by decide +kernel
theorem dX10_table_58 : decode cX10_table 58 = .ok (.if_icmp .ne 10, 3) := by decide +kernel
theorem dX10_table_61 : decode cX10_table 61 = .ok (.aload_n 0, 1) := by decide +kernel
theorem dX10_table_62 : decode cX10_table 62 = .ok (.bipush (-6), 2) := by decide +kernel
theorem dX10_table_64 : decode cX10_table 64 = .ok (.invokevirtual 175, 3) := by decide +kernel
theorem dX10_table_67 : decode cX10_table 67 = .ok (.ireturn, 1) := by decide +kernel
theorem dX10_table_68 : decode cX10_table 68 = .ok (.aload_n 0, 1) := by decide +kernel
theorem dX10_table_69 : decode cX10_table 69 = .ok (.getfield 77, 3) := by decide +kernel
theorem dX10_table_72 : decode cX10_table 72 = .ok (.aload_n 0, 1) := by decide +kernel
theorem dX10_table_73 : decode cX10_table 73 = .ok (.getfield 205, 3) := by decide +kernel
theorem dX10_table_76 : decode cX10_table 76 = .ok (.iload_n 1, 1) := by decide +kernel
theorem dX10_table_77 : decode cX10_table 77 = .ok (.iastore, 1) := by decide +kernel
theorem dX10_table_78 : decode cX10_table 78 = .ok (.aload_n 0, 1) := by decide +kernel
theorem dX10_table_79 : decode cX10_table 79 = .ok (.getfield 80, 3) := by decide +kernel
theorem dX10_table_82 : decode cX10_table 82 = .ok (.iconst 4, 1) := by decide +kernel
theorem dX10_table_83 : decode cX10_table 83 = .ok (.aload_n 0, 1) := by decide +kernel
theorem dX10_table_84 : decode cX10_table 84 = .ok (.getfield 205, 3) := by decide +kernel
theorem dX10_table_87 : decode cX10_table 87 = .ok (.imul, 1) := by decide +kernel
theorem dX10_table_88 : decode cX10_table 88 = .ok (.iload_n 2, 1) := by decide +kernel
theorem dX10_table_89 : decode cX10_table 89 = .ok (.iastore, 1) := by decide +kernel
theorem dX10_table_90 : decode cX10_table 90 = .ok (.aload_n 0, 1) := by decide +kernel
theorem dX10_table_91 : decode cX10_table 91 = .ok (.getfield 80, 3) := by decide +kernel
theorem dX10_table_94 : decode cX10_table 94 = .ok (.iconst 4, 1) := by decide +kernel
theorem dX10_table_95 : decode cX10_table 95 = .ok (.aload_n 0, 1) := by decide +kernel
theorem dX10_table_96 : decode cX10_table 96 = .ok (.getfield 205, 3) := by decide +kernel
theorem dX10_table_99 : decode cX10_table 99 = .ok (.imul, 1) := by decide +kernel
theorem dX10_table_100 : decode cX10_table 100 = .ok (.iconst 1, 1) := by decide +kernel
theorem dX10_table_101 : decode cX10_table 101 = .ok (.iadd, 1) := by decide +kernel
theorem dX10_table_102 : decode cX10_table 102 = .ok (.iload_n 3, 1) := by decide +kernel
theorem dX10_table_103 : decode cX10_table 103 = .ok (.iastore, 1) := by decide +kernel
theorem dX10_table_104 : decode cX10_table 104 = .ok (.aload_n 0, 1) := by decide +kernel
theorem dX10_table_105 : decode cX10_table 105 = .ok (.getfield 80, 3) := by decide +kernel
theorem dX10_table_108 : decode cX10_table 108 = .ok (.iconst 4, 1) := by decide +kernel
theorem dX10_table_109 : decode cX10_table 109 = .ok (.aload_n 0, 1) := by decide +kernel
theorem dX10_table_110 : decode cX10_table 110 = .ok (.getfield 205, 3) := by decide +kernel
theorem dX10_table_113 : decode cX10_table 113 = .ok (.imul, 1) := by decide +kernel
theorem dX10_table_114 : decode cX10_table 114 = .ok (.iconst 2, 1) := by decide +kernel
theorem dX10_table_115 : decode cX10_table 115 = .ok (.iadd, 1) := by decide +kernel
theorem dX10_table_116 : decode cX10_table 116 = .ok (.iload 4, 2) := by decide +kernel
theorem dX10_table_118 : decode cX10_table 118 = .ok (.iastore, 1) := by decide +kernel
theorem dX10_table_119 : decode cX10_table 119 = .ok (.aload_n 0, 1) := by decide +kernel
theorem dX10_table_120 : decode cX10_table 120 = .ok (.getfield 80, 3) := by decide +kernel
theorem dX10_table_123 : decode cX10_table 123 = .ok (.iconst 4, 1) := by decide +kernel
theorem dX10_table_124 : decode cX10_table 124 = .ok (.aload_n 0, 1) := by decide +kernel
theorem dX10_table_125 : decode cX10_table 125 = .ok (.getfield 205, 3) := by decide +kernel
theorem dX10_table_128 : decode cX10_table 128 = .ok (.imul, 1) := by decide +kernel
theorem dX10_table_129 : decode cX10_table 129 = .ok (.iconst 3, 1) := by decide +kernel
theorem dX10_table_130 : decode cX10_table 130 = .ok (.iadd, 1) := by decide +kernel
theorem dX10_table_131 : decode cX10_table 131 = .ok (.iload 5, 2) := by decide +kernel
theorem dX10_table_133 : decode cX10_table 133 = .ok (.iastore, 1) := by decide +kernel
theorem dX10_table_134 : decode cX10_table 134 = .ok (.aload_n 0, 1) := by decide +kernel
theorem dX10_table_135 : decode cX10_table 135 = .ok (.dup, 1) := by decide +kernel
theorem dX10_table_136 : decode cX10_table 136 = .ok (.getfield 205, 3) := by decide +kernel
theorem dX10_table_139 : decode cX10_table 139 = .ok (.iconst 1, 1) := by decide +kernel
theorem dX10_table_140 : decode cX10_table 140 = .ok (.iadd, 1) := by decide +kernel
theorem dX10_table_141 : decode cX10_table 141 = .ok (.putfield 205, 3) := by decide +kernel
theorem dX10_table_144 : decode cX10_table 144 = .ok (.aload_n 0, 1) := by decide +kernel
theorem dX10_table_145 : decode cX10_table 145 = .ok (.getfield 205, 3) := by decide +kernel
theorem dX10_table_148 : decode cX10_table 148 = .ok (.iconst 1, 1) := by decide +kernel
theorem dX10_table_149 : decode cX10_table 149 = .ok (.isub, 1) := by decide +kernel
theorem dX10_table_150 : decode cX10_table 150 = .ok (.ireturn, 1) := by decide +kernel
theorem dX10_starBy_0 : decode cX10_starBy 0 = .ok (.iconst (-1), 1) := by decide +kernel
theorem dX10_starBy_1 : decode cX10_starBy 1 = .ok (.istore 6, 2) := by decide +kernel
theorem dX10_starBy_3 : decode cX10_starBy 3 = .ok (.iconst 0, 1) := by decide +kernel
theorem dX10_starBy_4 : decode cX10_starBy 4 = .ok (.istore 7, 2) := by decide +kernel
theorem dX10_starBy_6 : decode cX10_starBy 6 = .ok (.iload 7, 2) := by decide +kernel
theorem dX10_starBy_8 : decode cX10_starBy 8 = .ok (.aload_n 0, 1) := by decide +kernel
theorem dX10_starBy_9 : decode cX10_starBy 9 = .ok (.getfield 205, 3) := by decide +kernel
theorem dX10_starBy_12 : decode cX10_starBy 12 = .ok (.if_icmp .ge 52, 3) := by decide +kernel
theorem dX10_starBy_15 : decode cX10_starBy 15 = .ok (.aload_n 0, 1) := by decide +kernel
theorem dX10_starBy_16 : decode cX10_starBy 16 = .ok (.getfield 77, 3) := by decide +kernel
theorem dX10_starBy_19 : decode cX10_starBy 19 = .ok (.iload 7, 2) := by decide +kernel
theorem dX10_starBy_21 : decode cX10_starBy 21 = .ok (.iaload, 1) := by decide +kernel
theorem dX10_starBy_22 : decode cX10_starBy 22 = .ok (.iload 5, 2) := by decide +kernel
theorem dX10_starBy_24 : decode cX10_starBy 24 = .ok (.if_icmp .gt 30, 3) := by decide +kernel
theorem dX10_starBy_27 : decode cX10_starBy 27 = .ok (.iload 6, 2) := by decide +kernel
theorem dX10_starBy_29 : decode cX10_starBy 29 = .ok (.ifCond .lt 20, 3) := by decide +kernel
theorem dX10_starBy_32 : decode cX10_starBy 32 = .ok (.aload_n 0, 1) := by decide +kernel
theorem dX10_starBy_33 : decode cX10_starBy 33 = .ok (.getfield 77, 3) := by decide +kernel
theorem dX10_starBy_36 : decode cX10_starBy 36 = .ok (.iload 7, 2) := by decide +kernel
theorem dX10_starBy_38 : decode cX10_starBy 38 = .ok (.iaload, 1) := by decide +kernel
theorem dX10_starBy_39 : decode cX10_starBy 39 = .ok (.aload_n 0, 1) := by decide +kernel
theorem dX10_starBy_40 : decode cX10_starBy 40 = .ok (.getfield 77, 3) := by decide +kernel
theorem dX10_starBy_43 : decode cX10_starBy 43 = .ok (.iload 6, 2) := by decide +kernel
theorem dX10_starBy_45 : decode cX10_starBy 45 = .ok (.iaload, 1) := by decide +kernel
theorem dX10_starBy_46 : decode cX10_starBy 46 = .ok (.if_icmp .lt 8, 3) := by decide +kernel
theorem dX10_starBy_49 : decode cX10_starBy 49 = .ok (.iload 7, 2) := by decide +kernel
theorem dX10_starBy_51 : decode cX10_starBy 51 = .ok (.goto 5, 3) := by decide +kernel
theorem dX10_starBy_54 : decode cX10_starBy 54 = .ok (.iload 6, 2) := by decide +kernel
theorem dX10_starBy_56 : decode cX10_starBy 56 = .ok (.istore 6, 2) := by decide +kernel
theorem dX10_starBy_58 : decode cX10_starBy 58 = .ok (.iinc 7 1, 3) := by decide +kernel
theorem dX10_starBy_61 : decode cX10_starBy 61 = .ok (.goto (-55), 3) := by decide +kernel
theorem dX10_starBy_64 : decode cX10_starBy 64 = .ok (.iload 6, 2) := by decide +kernel
theorem dX10_starBy_66 : decode cX10_starBy 66 = .ok (.ifCond .ge 5, 3) := by decide +kernel
theorem dX10_starBy_69 : decode cX10_starBy 69 = .ok (.iconst 0, 1) := by decide +kernel
theorem dX10_starBy_70 : decode cX10_starBy 70 = .ok (.ireturn, 1) := by decide +kernel
theorem dX10_starBy_71 : decode cX10_starBy 71 = .ok (.iconst 1, 1) := by decide +kernel
theorem dX10_starBy_72 : decode cX10_starBy 72 = .ok (.istore 7, 2) := by decide +kernel
theorem dX10_starBy_74 : decode cX10_starBy 74 = .ok (.iconst 3, 1) := by decide +kernel
theorem dX10_starBy_75 : decode cX10_starBy 75 = .ok (.istore 8, 2) := by decide +kernel
theorem dX10_starBy_77 : decode cX10_starBy 77 = .ok (.iload 8, 2) := by decide +kernel
theorem dX10_starBy_79 : decode cX10_starBy 79 = .ok (.ifCond .lt 40, 3) := by decide +kernel
theorem dX10_starBy_82 : decode cX10_starBy 82 = .ok (.lload_n 1, 1) := by decide +kernel
theorem dX10_starBy_83 : decode cX10_starBy 83 = .ok (.lload_n 3, 1) := by decide +kernel
theorem dX10_starBy_84 : decode cX10_starBy 84 = .ok (.aload_n 0, 1) := by decide +kernel
theorem dX10_starBy_85 : decode cX10_starBy 85 = .ok (.getfield 80, 3) := by decide +kernel
theorem dX10_starBy_88 : decode cX10_starBy 88 = .ok (.iconst 4, 1) := by decide +kernel
theorem dX10_starBy_89 : decode cX10_starBy 89 = .ok (.iload 6, 2) := by decide +kernel
theorem dX10_starBy_91 : decode cX10_starBy 91 = .ok (.imul, 1) := by decide +kernel
theorem dX10_starBy_92 : decode cX10_starBy 92 = .ok (.iload 8, 2) := by decide +kernel
theorem dX10_starBy_94 : decode cX10_starBy 94 = .ok (.iadd, 1) := by decide +kernel
theorem dX10_starBy_95 : decode cX10_starBy 95 = .ok (.iaload, 1) := by decide +kernel
theorem dX10_starBy_96 : decode cX10_starBy 96 = .ok (.i2l, 1) := by decide +kernel
theorem dX10_starBy_97 : decode cX10_starBy 97 = .ok (.lmul, 1) := by decide +kernel
theorem dX10_starBy_98 : decode cX10_starBy 98 = .ok (.lcmp, 1) := by decide +kernel
theorem dX10_starBy_99 : decode cX10_starBy 99 = .ok (.ifCond .ge 10, 3) := by decide +kernel
theorem dX10_starBy_102 : decode cX10_starBy 102 = .ok (.iconst 5, 1) := by decide +kernel
theorem dX10_starBy_103 : decode cX10_starBy 103 = .ok (.iload 8, 2) := by decide +kernel
theorem dX10_starBy_105 : decode cX10_starBy 105 = .ok (.isub, 1) := by decide +kernel
theorem dX10_starBy_106 : decode cX10_starBy 106 = .ok (.goto 5, 3) := by decide +kernel
theorem dX10_starBy_109 : decode cX10_starBy 109 = .ok (.iload 7, 2) := by decide +kernel
theorem dX10_starBy_111 : decode cX10_starBy 111 = .ok (.istore 7, 2) := by decide +kernel
theorem dX10_starBy_113 : decode cX10_starBy 113 = .ok (.iinc 8 (-1), 3) := by decide +kernel
theorem dX10_starBy_116 : decode cX10_starBy 116 = .ok (.goto (-39), 3) := by decide +kernel
theorem dX10_starBy_119 : decode cX10_starBy 119 = .ok (.iload 7, 2) := by decide +kernel
theorem dX10_starBy_121 : decode cX10_starBy 121 = .ok (.ireturn, 1) := by decide +kernel
theorem dX10_countsBy_0 : decode cX10_countsBy 0 = .ok (.aload_n 0, 1) := by decide +kernel
theorem dX10_countsBy_1 : decode cX10_countsBy 1 = .ok (.getfield 62, 3) := by decide +kernel
theorem dX10_countsBy_4 : decode cX10_countsBy 4 = .ok (.iload_n 1, 1) := by decide +kernel
theorem dX10_countsBy_5 : decode cX10_countsBy 5 = .ok (.iaload, 1) := by decide +kernel
theorem dX10_countsBy_6 : decode cX10_countsBy 6 = .ok (.iload_n 2, 1) := by decide +kernel
theorem dX10_countsBy_7 : decode cX10_countsBy 7 = .ok (.if_icmp .gt 26, 3) := by decide +kernel
theorem dX10_countsBy_10 : decode cX10_countsBy 10 = .ok (.aload_n 0, 1) := by decide +kernel
theorem dX10_countsBy_11 : decode cX10_countsBy 11 = .ok (.getfield 65, 3) := by decide +kernel
theorem dX10_countsBy_14 : decode cX10_countsBy 14 = .ok (.iload_n 1, 1) := by decide +kernel
theorem dX10_countsBy_15 : decode cX10_countsBy 15 = .ok (.iaload, 1) := by decide +kernel
theorem dX10_countsBy_16 : decode cX10_countsBy 16 = .ok (.ifCond .lt 13, 3) := by decide +kernel
theorem dX10_countsBy_19 : decode cX10_countsBy 19 = .ok (.aload_n 0, 1) := by decide +kernel
theorem dX10_countsBy_20 : decode cX10_countsBy 20 = .ok (.getfield 65, 3) := by decide +kernel
theorem dX10_countsBy_23 : decode cX10_countsBy 23 = .ok (.iload_n 1, 1) := by decide +kernel
theorem dX10_countsBy_24 : decode cX10_countsBy 24 = .ok (.iaload, 1) := by decide +kernel
theorem dX10_countsBy_25 : decode cX10_countsBy 25 = .ok (.iload_n 2, 1) := by decide +kernel
theorem dX10_countsBy_26 : decode cX10_countsBy 26 = .ok (.if_icmp .le 7, 3) := by decide +kernel
theorem dX10_countsBy_29 : decode cX10_countsBy 29 = .ok (.iconst 1, 1) := by decide +kernel
theorem dX10_countsBy_30 : decode cX10_countsBy 30 = .ok (.goto 4, 3) := by decide +kernel
theorem dX10_countsBy_33 : decode cX10_countsBy 33 = .ok (.iconst 0, 1) := by decide +kernel
theorem dX10_countsBy_34 : decode cX10_countsBy 34 = .ok (.ireturn, 1) := by decide +kernel
theorem dX10_lookOn_0 : decode cX10_lookOn 0 = .ok (.iconst (-1), 1) := by decide +kernel
theorem dX10_lookOn_1 : decode cX10_lookOn 1 = .ok (.istore 4, 2) := by decide +kernel
theorem dX10_lookOn_3 : decode cX10_lookOn 3 = .ok (.iconst 0, 1) := by decide +kernel
theorem dX10_lookOn_4 : decode cX10_lookOn 4 = .ok (.istore 5, 2) := by decide +kernel
theorem dX10_lookOn_6 : decode cX10_lookOn 6 = .ok (.iload 5, 2) := by decide +kernel
theorem dX10_lookOn_8 : decode cX10_lookOn 8 = .ok (.aload_n 0, 1) := by decide +kernel
theorem dX10_lookOn_9 : decode cX10_lookOn 9 = .ok (.getfield 172, 3) := by decide +kernel
theorem dX10_lookOn_12 : decode cX10_lookOn 12 = .ok (.if_icmp .ge 84, 3) := by decide +kernel
theorem dX10_lookOn_15 : decode cX10_lookOn 15 = .ok (.aload_n 0, 1) := by decide +kernel
theorem dX10_lookOn_16 : decode cX10_lookOn 16 = .ok (.getfield 53, 3) := by decide +kernel
theorem dX10_lookOn_19 : decode cX10_lookOn 19 = .ok (.iload 5, 2) := by decide +kernel
theorem dX10_lookOn_21 : decode cX10_lookOn 21 = .ok (.iaload, 1) := by decide +kernel
theorem dX10_lookOn_22 : decode cX10_lookOn 22 = .ok (.iload_n 1, 1) := by decide +kernel
theorem dX10_lookOn_23 : decode cX10_lookOn 23 = .ok (.if_icmp .ne 28, 3) := by decide +kernel
theorem dX10_lookOn_26 : decode cX10_lookOn 26 = .ok (.aload_n 0, 1) := by decide +kernel
theorem dX10_lookOn_27 : decode cX10_lookOn 27 = .ok (.getfield 59, 3) := by decide +kernel
theorem dX10_lookOn_30 : decode cX10_lookOn 30 = .ok (.iload 5, 2) := by decide +kernel
theorem dX10_lookOn_32 : decode cX10_lookOn 32 = .ok (.iaload, 1) := by decide +kernel
theorem dX10_lookOn_33 : decode cX10_lookOn 33 = .ok (.iload_n 2, 1) := by decide +kernel
theorem dX10_lookOn_34 : decode cX10_lookOn 34 = .ok (.if_icmp .gt 17, 3) := by decide +kernel
theorem dX10_lookOn_37 : decode cX10_lookOn 37 = .ok (.aload_n 0, 1) := by decide +kernel
theorem dX10_lookOn_38 : decode cX10_lookOn 38 = .ok (.iload 5, 2) := by decide +kernel
theorem dX10_lookOn_40 : decode cX10_lookOn 40 = .ok (.iload_n 3, 1) := by decide +kernel
theorem dX10_lookOn_41 : decode cX10_lookOn 41 = .ok (.invokevirtual 208, 3) := by decide +kernel
theorem dX10_lookOn_44 : decode cX10_lookOn 44 = .ok (.ifCond .eq 7, 3) := by decide +kernel
theorem dX10_lookOn_47 : decode cX10_lookOn 47 = .ok (.iconst 1, 1) := by decide +kernel
theorem dX10_lookOn_48 : decode cX10_lookOn 48 = .ok (.goto 4, 3) := by decide +kernel
theorem dX10_lookOn_51 : decode cX10_lookOn 51 = .ok (.iconst 0, 1) := by decide +kernel
theorem dX10_lookOn_52 : decode cX10_lookOn 52 = .ok (.istore 6, 2) := by decide +kernel
theorem dX10_lookOn_54 : decode cX10_lookOn 54 = .ok (.iload 6, 2) := by decide +kernel
theorem dX10_lookOn_56 : decode cX10_lookOn 56 = .ok (.ifCond .eq 30, 3) := by decide +kernel
theorem dX10_lookOn_59 : decode cX10_lookOn 59 = .ok (.iload 4, 2) := by decide +kernel
theorem dX10_lookOn_61 : decode cX10_lookOn 61 = .ok (.ifCond .lt 20, 3) := by decide +kernel
theorem dX10_lookOn_64 : decode cX10_lookOn 64 = .ok (.aload_n 0, 1) := by decide +kernel
theorem dX10_lookOn_65 : decode cX10_lookOn 65 = .ok (.getfield 59, 3) := by decide +kernel
theorem dX10_lookOn_68 : decode cX10_lookOn 68 = .ok (.iload 5, 2) := by decide +kernel
theorem dX10_lookOn_70 : decode cX10_lookOn 70 = .ok (.iaload, 1) := by decide +kernel
theorem dX10_lookOn_71 : decode cX10_lookOn 71 = .ok (.aload_n 0, 1) := by decide +kernel
theorem dX10_lookOn_72 : decode cX10_lookOn 72 = .ok (.getfield 59, 3) := by decide +kernel
theorem dX10_lookOn_75 : decode cX10_lookOn 75 = .ok (.iload 4, 2) := by decide +kernel
theorem dX10_lookOn_77 : decode cX10_lookOn 77 = .ok (.iaload, 1) := by decide +kernel
theorem dX10_lookOn_78 : decode cX10_lookOn 78 = .ok (.if_icmp .lt 8, 3) := by decide +kernel
theorem dX10_lookOn_81 : decode cX10_lookOn 81 = .ok (.iload 5, 2) := by decide +kernel
theorem dX10_lookOn_83 : decode cX10_lookOn 83 = .ok (.goto 5, 3) := by decide +kernel
theorem dX10_lookOn_86 : decode cX10_lookOn 86 = .ok (.iload 4, 2) := by decide +kernel
theorem dX10_lookOn_88 : decode cX10_lookOn 88 = .ok (.istore 4, 2) := by decide +kernel
theorem dX10_lookOn_90 : decode cX10_lookOn 90 = .ok (.iinc 5 1, 3) := by decide +kernel
theorem dX10_lookOn_93 : decode cX10_lookOn 93 = .ok (.goto (-87), 3) := by decide +kernel
theorem dX10_lookOn_96 : decode cX10_lookOn 96 = .ok (.iload 4, 2) := by decide +kernel
theorem dX10_lookOn_98 : decode cX10_lookOn 98 = .ok (.ireturn, 1) := by decide +kernel
theorem dX10_starOf_0 : decode cX10_starOf 0 = .ok (.aload_n 0, 1) := by decide +kernel
theorem dX10_starOf_1 : decode cX10_starOf 1 = .ok (.iload_n 1, 1) := by decide +kernel
theorem dX10_starOf_2 : decode cX10_starOf 2 = .ok (.iload_n 2, 1) := by decide +kernel
theorem dX10_starOf_3 : decode cX10_starOf 3 = .ok (.iload_n 3, 1) := by decide +kernel
theorem dX10_starOf_4 : decode cX10_starOf 4 = .ok (.invokevirtual 212, 3) := by decide +kernel
theorem dX10_starOf_7 : decode cX10_starOf 7 = .ok (.istore 4, 2) := by decide +kernel
theorem dX10_starOf_9 : decode cX10_starOf 9 = .ok (.iload 4, 2) := by decide +kernel
theorem dX10_starOf_11 : decode cX10_starOf 11 = .ok (.ifCond .ge 7, 3) := by decide +kernel
theorem dX10_starOf_14 : decode cX10_starOf 14 = .ok (.iconst 0, 1) := by decide +kernel
theorem dX10_starOf_15 : decode cX10_starOf 15 = .ok (.goto 29, 3) := by decide +kernel
theorem dX10_starOf_18 : decode cX10_starOf 18 = .ok (.aload_n 0, 1) := by decide +kernel
theorem dX10_starOf_19 : decode cX10_starOf 19 = .ok (.aload_n 0, 1) := by decide +kernel
theorem dX10_starOf_20 : decode cX10_starOf 20 = .ok (.iload 4, 2) := by decide +kernel
theorem dX10_starOf_22 : decode cX10_starOf 22 = .ok (.aload_n 0, 1) := by decide +kernel
theorem dX10_starOf_23 : decode cX10_starOf 23 = .ok (.getfield 59, 3) := by decide +kernel
theorem dX10_starOf_26 : decode cX10_starOf 26 = .ok (.iload 4, 2) := by decide +kernel
theorem dX10_starOf_28 : decode cX10_starOf 28 = .ok (.iaload, 1) := by decide +kernel
theorem dX10_starOf_29 : decode cX10_starOf 29 = .ok (.invokevirtual 202, 3) := by decide +kernel
theorem dX10_starOf_32 : decode cX10_starOf 32 = .ok (.i2l, 1) := by decide +kernel
theorem dX10_starOf_33 : decode cX10_starOf 33 = .ok (.lconst 1, 1) := by decide +kernel
theorem dX10_starOf_34 : decode cX10_starOf 34 = .ok (.aload_n 0, 1) := by decide +kernel
theorem dX10_starOf_35 : decode cX10_starOf 35 = .ok (.getfield 59, 3) := by decide +kernel
theorem dX10_starOf_38 : decode cX10_starOf 38 = .ok (.iload 4, 2) := by decide +kernel
theorem dX10_starOf_40 : decode cX10_starOf 40 = .ok (.iaload, 1) := by decide +kernel
theorem dX10_starOf_41 : decode cX10_starOf 41 = .ok (.invokevirtual 216, 3) := by decide +kernel
theorem dX10_starOf_44 : decode cX10_starOf 44 = .ok (.ireturn, 1) := by decide +kernel
theorem dX10_star_0 : decode cX10_star 0 = .ok (.aload_n 0, 1) := by decide +kernel
theorem dX10_star_1 : decode cX10_star 1 = .ok (.iload_n 1, 1) := by decide +kernel
theorem dX10_star_2 : decode cX10_star 2 = .ok (.invokevirtual 196, 3) := by decide +kernel
theorem dX10_star_5 : decode cX10_star 5 = .ok (.ifCond .ne 9, 3) := by decide +kernel
theorem dX10_star_8 : decode cX10_star 8 = .ok (.aload_n 0, 1) := by decide +kernel
theorem dX10_star_9 : decode cX10_star 9 = .ok (.iconst (-1), 1) := by decide +kernel
theorem dX10_star_10 : decode cX10_star 10 = .ok (.invokevirtual 175, 3) := by decide +kernel
theorem dX10_star_13 : decode cX10_star 13 = .ok (.ireturn, 1) := by decide +kernel
theorem dX10_star_14 : decode cX10_star 14 = .ok (.iload_n 2, 1) := by decide +kernel
theorem dX10_star_15 : decode cX10_star 15 = .ok (.ifCond .lt 7, 3) := by decide +kernel
theorem dX10_star_18 : decode cX10_star 18 = .ok (.iload_n 3, 1) := by decide +kernel
theorem dX10_star_19 : decode cX10_star 19 = .ok (.ifCond .ge 10, 3) := by decide +kernel
theorem dX10_star_22 : decode cX10_star 22 = .ok (.aload_n 0, 1) := by decide +kernel
theorem dX10_star_23 : decode cX10_star 23 = .ok (.bipush (-4), 2) := by decide +kernel
theorem dX10_star_25 : decode cX10_star 25 = .ok (.invokevirtual 175, 3) := by decide +kernel
theorem dX10_star_28 : decode cX10_star 28 = .ok (.ireturn, 1) := by decide +kernel
theorem dX10_star_29 : decode cX10_star 29 = .ok (.iload_n 2, 1) := by decide +kernel
theorem dX10_star_30 : decode cX10_star 30 = .ok (.sipush 1500, 3) := by decide +kernel
theorem dX10_star_33 : decode cX10_star 33 = .ok (.if_icmp .gt 10, 3) := by decide +kernel
theorem dX10_star_36 : decode cX10_star 36 = .ok (.iload_n 3, 1) := by decide +kernel
theorem dX10_star_37 : decode cX10_star 37 = .ok (.sipush 1500, 3) := by decide +kernel
theorem dX10_star_40 : decode cX10_star 40 = .ok (.if_icmp .le 12, 3) := by decide +kernel
theorem dX10_star_43 : decode cX10_star 43 = .ok (.aload_n 0, 1) := by decide +kernel
theorem dX10_star_44 : decode cX10_star 44 = .ok (.bipush (-6), 2) := by decide +kernel
theorem dX10_star_46 : decode cX10_star 46 = .ok (.invokevirtual 175, 3) := by decide +kernel
theorem dX10_star_49 : decode cX10_star 49 = .ok (.goto 10, 3) := by decide +kernel
theorem dX10_star_52 : decode cX10_star 52 = .ok (.aload_n 0, 1) := by decide +kernel
theorem dX10_star_53 : decode cX10_star 53 = .ok (.iload_n 1, 1) := by decide +kernel
theorem dX10_star_54 : decode cX10_star 54 = .ok (.iload_n 2, 1) := by decide +kernel
theorem dX10_star_55 : decode cX10_star 55 = .ok (.iload_n 3, 1) := by decide +kernel
theorem dX10_star_56 : decode cX10_star 56 = .ok (.invokevirtual 220, 3) := by decide +kernel
theorem dX10_star_59 : decode cX10_star 59 = .ok (.ireturn, 1) := by decide +kernel
theorem dX10_show_0 : decode cX10_show 0 = .ok (.aload_n 0, 1) := by decide +kernel
theorem dX10_show_1 : decode cX10_show 1 = .ok (.iload_n 1, 1) := by decide +kernel
theorem dX10_show_2 : decode cX10_show 2 = .ok (.invokevirtual 196, 3) := by decide +kernel
theorem dX10_show_5 : decode cX10_show 5 = .ok (.ifCond .ne 9, 3) := by decide +kernel
theorem dX10_show_8 : decode cX10_show 8 = .ok (.aload_n 0, 1) := by decide +kernel
theorem dX10_show_9 : decode cX10_show 9 = .ok (.iconst (-1), 1) := by decide +kernel
theorem dX10_show_10 : decode cX10_show 10 = .ok (.invokevirtual 175, 3) := by decide +kernel
theorem dX10_show_13 : decode cX10_show 13 = .ok (.ireturn, 1) := by decide +kernel
theorem dX10_show_14 : decode cX10_show 14 = .ok (.iload_n 2, 1) := by decide +kernel
theorem dX10_show_15 : decode cX10_show 15 = .ok (.ifCond .ge 10, 3) := by decide +kernel
theorem dX10_show_18 : decode cX10_show 18 = .ok (.aload_n 0, 1) := by decide +kernel
theorem dX10_show_19 : decode cX10_show 19 = .ok (.bipush (-4), 2) := by decide +kernel
theorem dX10_show_21 : decode cX10_show 21 = .ok (.invokevirtual 175, 3) := by decide +kernel
theorem dX10_show_24 : decode cX10_show 24 = .ok (.ireturn, 1) := by decide +kernel
theorem dX10_show_25 : decode cX10_show 25 = .ok (.iload_n 2, 1) := by decide +kernel
theorem dX10_show_26 : decode cX10_show 26 = .ok (.iconst 5, 1) := by decide +kernel
theorem dX10_show_27 : decode cX10_show 27 = .ok (.if_icmp .le 10, 3) := by decide +kernel
theorem dX10_show_30 : decode cX10_show 30 = .ok (.aload_n 0, 1) := by decide +kernel
theorem dX10_show_31 : decode cX10_show 31 = .ok (.bipush (-6), 2) := by decide +kernel
theorem dX10_show_33 : decode cX10_show 33 = .ok (.invokevirtual 175, 3) := by decide +kernel
theorem dX10_show_36 : decode cX10_show 36 = .ok (.ireturn, 1) := by decide +kernel
theorem dX10_show_37 : decode cX10_show 37 = .ok (.aload_n 0, 1) := by decide +kernel
theorem dX10_show_38 : decode cX10_show 38 = .ok (.getfield 47, 3) := by decide +kernel
theorem dX10_show_41 : decode cX10_show 41 = .ok (.iload_n 1, 1) := by decide +kernel
theorem dX10_show_42 : decode cX10_show 42 = .ok (.iaload, 1) := by decide +kernel
theorem dX10_show_43 : decode cX10_show 43 = .ok (.istore_n 3, 1) := by decide +kernel
theorem dX10_show_44 : decode cX10_show 44 = .ok (.aload_n 0, 1) := by decide +kernel
theorem dX10_show_45 : decode cX10_show 45 = .ok (.getfield 47, 3) := by decide +kernel
theorem dX10_show_48 : decode cX10_show 48 = .ok (.iload_n 1, 1) := by decide +kernel
theorem dX10_show_49 : decode cX10_show 49 = .ok (.iload_n 2, 1) := by decide +kernel
theorem dX10_show_50 : decode cX10_show 50 = .ok (.iastore, 1) := by decide +kernel
theorem dX10_show_51 : decode cX10_show 51 = .ok (.iload_n 3, 1) := by decide +kernel
theorem dX10_show_52 : decode cX10_show 52 = .ok (.ireturn, 1) := by decide +kernel
theorem dX10_falses_0 : decode cX10_falses 0 = .ok (.iconst 0, 1) := by decide +kernel
theorem dX10_falses_1 : decode cX10_falses 1 = .ok (.istore_n 1, 1) := by decide +kernel
theorem dX10_falses_2 : decode cX10_falses 2 = .ok (.iconst 0, 1) := by decide +kernel
theorem dX10_falses_3 : decode cX10_falses 3 = .ok (.istore_n 2, 1) := by decide +kernel
theorem dX10_falses_4 : decode cX10_falses 4 = .ok (.iload_n 2, 1) := by decide +kernel
theorem dX10_falses_5 : decode cX10_falses 5 = .ok (.aload_n 0, 1) := by decide +kernel
theorem dX10_falses_6 : decode cX10_falses 6 = .ok (.getfield 165, 3) := by decide +kernel
theorem dX10_falses_9 : decode cX10_falses 9 = .ok (.if_icmp .ge 39, 3) := by decide +kernel
theorem dX10_falses_12 : decode cX10_falses 12 = .ok (.iload_n 1, 1) := by decide +kernel
theorem dX10_falses_13 : decode cX10_falses 13 = .ok (.aload_n 0, 1) := by decide +kernel
theorem dX10_falses_14 : decode cX10_falses 14 = .ok (.getfield 47, 3) := by decide +kernel
theorem dX10_falses_17 : decode cX10_falses 17 = .ok (.iload_n 2, 1) := by decide +kernel
theorem dX10_falses_18 : decode cX10_falses 18 = .ok (.iaload, 1) := by decide +kernel
theorem dX10_falses_19 : decode cX10_falses 19 = .ok (.aload_n 0, 1) := by decide +kernel
theorem dX10_falses_20 : decode cX10_falses 20 = .ok (.iload_n 2, 1) := by decide +kernel
theorem dX10_falses_21 : decode cX10_falses 21 = .ok (.aload_n 0, 1) := by decide +kernel
theorem dX10_falses_22 : decode cX10_falses 22 = .ok (.getfield 179, 3) := by decide +kernel
theorem dX10_falses_25 : decode cX10_falses 25 = .ok (.aload_n 0, 1) := by decide +kernel
theorem dX10_falses_26 : decode cX10_falses 26 = .ok (.getfield 179, 3) := by decide +kernel
theorem dX10_falses_29 : decode cX10_falses 29 = .ok (.invokevirtual 220, 3) := by decide +kernel
theorem dX10_falses_32 : decode cX10_falses 32 = .ok (.if_icmp .le 7, 3) := by decide +kernel
theorem dX10_falses_35 : decode cX10_falses 35 = .ok (.iconst 1, 1) := by decide +kernel
theorem dX10_falses_36 : decode cX10_falses 36 = .ok (.goto 4, 3) := by decide +kernel
theorem dX10_falses_39 : decode cX10_falses 39 = .ok (.iconst 0, 1) := by decide +kernel
theorem dX10_falses_40 : decode cX10_falses 40 = .ok (.iadd, 1) := by decide +kernel
theorem dX10_falses_41 : decode cX10_falses 41 = .ok (.istore_n 1, 1) := by decide +kernel
theorem dX10_falses_42 : decode cX10_falses 42 = .ok (.iinc 2 1, 3) := by decide +kernel
theorem dX10_falses_45 : decode cX10_falses 45 = .ok (.goto (-41), 3) := by decide +kernel
theorem dX10_falses_48 : decode cX10_falses 48 = .ok (.iload_n 1, 1) := by decide +kernel
theorem dX10_falses_49 : decode cX10_falses 49 = .ok (.ireturn, 1) := by decide +kernel
theorem dX10_base_0 : decode cX10_base 0 = .ok (.iload_n 1, 1) := by decide +kernel
theorem dX10_base_1 : decode cX10_base 1 = .ok (.iconst 0, 1) := by decide +kernel
theorem dX10_base_2 : decode cX10_base 2 = .ok (.iconst 3, 1) := by decide +kernel
theorem dX10_base_3 : decode cX10_base 3 = .ok (.invokestatic 168, 3) := by decide +kernel
theorem dX10_base_6 : decode cX10_base 6 = .ok (.ifCond .ne 10, 3) := by decide +kernel
theorem dX10_base_9 : decode cX10_base 9 = .ok (.aload_n 0, 1) := by decide +kernel
theorem dX10_base_10 : decode cX10_base 10 = .ok (.bipush (-2), 2) := by decide +kernel
theorem dX10_base_12 : decode cX10_base 12 = .ok (.invokevirtual 175, 3) := by decide +kernel
theorem dX10_base_15 : decode cX10_base 15 = .ok (.ireturn, 1) := by decide +kernel
theorem dX10_base_16 : decode cX10_base 16 = .ok (.iload_n 2, 1) := by decide +kernel
theorem dX10_base_17 : decode cX10_base 17 = .ok (.iconst 1, 1) := by decide +kernel
theorem dX10_base_18 : decode cX10_base 18 = .ok (.if_icmp .ge 10, 3) := by decide +kernel
theorem dX10_base_21 : decode cX10_base 21 = .ok (.aload_n 0, 1) := by decide +kernel
theorem dX10_base_22 : decode cX10_base 22 = .ok (.bipush (-4), 2) := by decide +kernel
theorem dX10_base_24 : decode cX10_base 24 = .ok (.invokevirtual 175, 3) := by decide +kernel
theorem dX10_base_27 : decode cX10_base 27 = .ok (.ireturn, 1) := by decide +kernel
theorem dX10_base_28 : decode cX10_base 28 = .ok (.iload_n 2, 1) := by decide +kernel
theorem dX10_base_29 : decode cX10_base 29 = .ok (.bipush 50, 2) := by decide +kernel
theorem dX10_base_31 : decode cX10_base 31 = .ok (.if_icmp .le 10, 3) := by decide +kernel
theorem dX10_base_34 : decode cX10_base 34 = .ok (.aload_n 0, 1) := by decide +kernel
theorem dX10_base_35 : decode cX10_base 35 = .ok (.bipush (-6), 2) := by decide +kernel
theorem dX10_base_37 : decode cX10_base 37 = .ok (.invokevirtual 175, 3) := by decide +kernel
theorem dX10_base_40 : decode cX10_base 40 = .ok (.ireturn, 1) := by decide +kernel
theorem dX10_base_41 : decode cX10_base 41 = .ok (.aload_n 0, 1) := by decide +kernel
theorem dX10_base_42 : decode cX10_base 42 = .ok (.getfield 83, 3) := by decide +kernel
theorem dX10_base_45 : decode cX10_base 45 = .ok (.iload_n 1, 1) := by decide +kernel
theorem dX10_base_46 : decode cX10_base 46 = .ok (.iaload, 1) := by decide +kernel
theorem dX10_base_47 : decode cX10_base 47 = .ok (.istore_n 3, 1) := by decide +kernel
theorem dX10_base_48 : decode cX10_base 48 = .ok (.aload_n 0, 1) := by decide +kernel
theorem dX10_base_49 : decode cX10_base 49 = .ok (.getfield 83, 3) := by decide +kernel
theorem dX10_base_52 : decode cX10_base 52 = .ok (.iload_n 1, 1) := by decide +kernel
theorem dX10_base_53 : decode cX10_base 53 = .ok (.iload_n 2, 1) := by decide +kernel
theorem dX10_base_54 : decode cX10_base 54 = .ok (.iastore, 1) := by decide +kernel
theorem dX10_base_55 : decode cX10_base 55 = .ok (.iload_n 3, 1) := by decide +kernel
theorem dX10_base_56 : decode cX10_base 56 = .ok (.ireturn, 1) := by decide +kernel
theorem dX10_riskOf_0 : decode cX10_riskOf 0 = .ok (.aload_n 0, 1) := by decide +kernel
theorem dX10_riskOf_1 : decode cX10_riskOf 1 = .ok (.iload_n 1, 1) := by decide +kernel
theorem dX10_riskOf_2 : decode cX10_riskOf 2 = .ok (.aload_n 0, 1) := by decide +kernel
theorem dX10_riskOf_3 : decode cX10_riskOf 3 = .ok (.getfield 179, 3) := by decide +kernel
theorem dX10_riskOf_6 : decode cX10_riskOf 6 = .ok (.aload_n 0, 1) := by decide +kernel
theorem dX10_riskOf_7 : decode cX10_riskOf 7 = .ok (.getfield 179, 3) := by decide +kernel
theorem dX10_riskOf_10 : decode cX10_riskOf 10 = .ok (.invokevirtual 220, 3) := by decide +kernel
theorem dX10_riskOf_13 : decode cX10_riskOf 13 = .ok (.istore_n 2, 1) := by decide +kernel
theorem dX10_riskOf_14 : decode cX10_riskOf 14 = .ok (.aload_n 0, 1) := by decide +kernel
theorem dX10_riskOf_15 : decode cX10_riskOf 15 = .ok (.getfield 83, 3) := by decide +kernel
theorem dX10_riskOf_18 : decode cX10_riskOf 18 = .ok (.aload_n 0, 1) := by decide +kernel
theorem dX10_riskOf_19 : decode cX10_riskOf 19 = .ok (.getfield 28, 3) := by decide +kernel
theorem dX10_riskOf_22 : decode cX10_riskOf 22 = .ok (.iload_n 1, 1) := by decide +kernel
theorem dX10_riskOf_23 : decode cX10_riskOf 23 = .ok (.iaload, 1) := by decide +kernel
theorem dX10_riskOf_24 : decode cX10_riskOf 24 = .ok (.iaload, 1) := by decide +kernel
theorem dX10_riskOf_25 : decode cX10_riskOf 25 = .ok (.aload_n 0, 1) := by decide +kernel
theorem dX10_riskOf_26 : decode cX10_riskOf 26 = .ok (.getfield 34, 3) := by decide +kernel
theorem dX10_riskOf_29 : decode cX10_riskOf 29 = .ok (.iload_n 1, 1) := by decide +kernel
theorem dX10_riskOf_30 : decode cX10_riskOf 30 = .ok (.iaload, 1) := by decide +kernel
theorem dX10_riskOf_31 : decode cX10_riskOf 31 = .ok (.bipush 50, 2) := by decide +kernel
theorem dX10_riskOf_33 : decode cX10_riskOf 33 = .ok (.idiv, 1) := by decide +kernel
theorem dX10_riskOf_34 : decode cX10_riskOf 34 = .ok (.iadd, 1) := by decide +kernel
theorem dX10_riskOf_35 : decode cX10_riskOf 35 = .ok (.bipush 8, 2) := by decide +kernel
theorem dX10_riskOf_37 : decode cX10_riskOf 37 = .ok (.iload_n 2, 1) := by decide +kernel
theorem dX10_riskOf_38 : decode cX10_riskOf 38 = .ok (.ifCond .ne 7, 3) := by decide +kernel
theorem dX10_riskOf_41 : decode cX10_riskOf 41 = .ok (.iconst 3, 1) := by decide +kernel
theorem dX10_riskOf_42 : decode cX10_riskOf 42 = .ok (.goto 6, 3) := by decide +kernel
theorem dX10_riskOf_45 : decode cX10_riskOf 45 = .ok (.iconst 5, 1) := by decide +kernel
theorem dX10_riskOf_46 : decode cX10_riskOf 46 = .ok (.iload_n 2, 1) := by decide +kernel
theorem dX10_riskOf_47 : decode cX10_riskOf 47 = .ok (.isub, 1) := by decide +kernel
theorem dX10_riskOf_48 : decode cX10_riskOf 48 = .ok (.imul, 1) := by decide +kernel
theorem dX10_riskOf_49 : decode cX10_riskOf 49 = .ok (.iadd, 1) := by decide +kernel
theorem dX10_riskOf_50 : decode cX10_riskOf 50 = .ok (.ireturn, 1) := by decide +kernel
theorem dX10_dueOf_0 : decode cX10_dueOf 0 = .ok (.aload_n 0, 1) := by decide +kernel
theorem dX10_dueOf_1 : decode cX10_dueOf 1 = .ok (.iload_n 1, 1) := by decide +kernel
theorem dX10_dueOf_2 : decode cX10_dueOf 2 = .ok (.aload_n 0, 1) := by decide +kernel
theorem dX10_dueOf_3 : decode cX10_dueOf 3 = .ok (.getfield 179, 3) := by decide +kernel
theorem dX10_dueOf_6 : decode cX10_dueOf 6 = .ok (.aload_n 0, 1) := by decide +kernel
theorem dX10_dueOf_7 : decode cX10_dueOf 7 = .ok (.getfield 179, 3) := by decide +kernel
theorem dX10_dueOf_10 : decode cX10_dueOf 10 = .ok (.invokevirtual 212, 3) := by decide +kernel
theorem dX10_dueOf_13 : decode cX10_dueOf 13 = .ok (.istore_n 2, 1) := by decide +kernel
theorem dX10_dueOf_14 : decode cX10_dueOf 14 = .ok (.sipush 400, 3) := by decide +kernel
theorem dX10_dueOf_17 : decode cX10_dueOf 17 = .ok (.aload_n 0, 1) := by decide +kernel
theorem dX10_dueOf_18 : decode cX10_dueOf 18 = .ok (.iload_n 1, 1) := by decide +kernel
theorem dX10_dueOf_19 : decode cX10_dueOf 19 = .ok (.invokevirtual 223, 3) := by decide +kernel
theorem dX10_dueOf_22 : decode cX10_dueOf 22 = .ok (.idiv, 1) := by decide +kernel
theorem dX10_dueOf_23 : decode cX10_dueOf 23 = .ok (.istore_n 3, 1) := by decide +kernel
theorem dX10_dueOf_24 : decode cX10_dueOf 24 = .ok (.iload_n 2, 1) := by decide +kernel
theorem dX10_dueOf_25 : decode cX10_dueOf 25 = .ok (.ifCond .ge 7, 3) := by decide +kernel
theorem dX10_dueOf_28 : decode cX10_dueOf 28 = .ok (.iconst 0, 1) := by decide +kernel
theorem dX10_dueOf_29 : decode cX10_dueOf 29 = .ok (.goto 22, 3) := by decide +kernel
theorem dX10_dueOf_32 : decode cX10_dueOf 32 = .ok (.aload_n 0, 1) := by decide +kernel
theorem dX10_dueOf_33 : decode cX10_dueOf 33 = .ok (.getfield 59, 3) := by decide +kernel
theorem dX10_dueOf_36 : decode cX10_dueOf 36 = .ok (.iload_n 2, 1) := by decide +kernel
theorem dX10_dueOf_37 : decode cX10_dueOf 37 = .ok (.iaload, 1) := by decide +kernel
theorem dX10_dueOf_38 : decode cX10_dueOf 38 = .ok (.iload_n 3, 1) := by decide +kernel
theorem dX10_dueOf_39 : decode cX10_dueOf 39 = .ok (.bipush 20, 2) := by decide +kernel
theorem dX10_dueOf_41 : decode cX10_dueOf 41 = .ok (.if_icmp .ge 8, 3) := by decide +kernel
theorem dX10_dueOf_44 : decode cX10_dueOf 44 = .ok (.bipush 20, 2) := by decide +kernel
theorem dX10_dueOf_46 : decode cX10_dueOf 46 = .ok (.goto 4, 3) := by decide +kernel
theorem dX10_dueOf_49 : decode cX10_dueOf 49 = .ok (.iload_n 3, 1) := by decide +kernel
theorem dX10_dueOf_50 : decode cX10_dueOf 50 = .ok (.iadd, 1) := by decide +kernel
theorem dX10_dueOf_51 : decode cX10_dueOf 51 = .ok (.ireturn, 1) := by decide +kernel
theorem dX10_risk_0 : decode cX10_risk 0 = .ok (.aload_n 0, 1) := by decide +kernel
theorem dX10_risk_1 : decode cX10_risk 1 = .ok (.iload_n 1, 1) := by decide +kernel
theorem dX10_risk_2 : decode cX10_risk 2 = .ok (.invokevirtual 196, 3) := by decide +kernel
theorem dX10_risk_5 : decode cX10_risk 5 = .ok (.ifCond .ne 9, 3) := by decide +kernel
theorem dX10_risk_8 : decode cX10_risk 8 = .ok (.aload_n 0, 1) := by decide +kernel
theorem dX10_risk_9 : decode cX10_risk 9 = .ok (.iconst (-1), 1) := by decide +kernel
theorem dX10_risk_10 : decode cX10_risk 10 = .ok (.invokevirtual 175, 3) := by decide +kernel
theorem dX10_risk_13 : decode cX10_risk 13 = .ok (.ireturn, 1) := by decide +kernel
theorem dX10_risk_14 : decode cX10_risk 14 = .ok (.iload_n 2, 1) := by decide +kernel
theorem dX10_risk_15 : decode cX10_risk 15 = .ok (.iconst 0, 1) := by decide +kernel
theorem dX10_risk_16 : decode cX10_risk 16 = .ok (.iconst 1, 1) := by decide +kernel
theorem dX10_risk_17 : decode cX10_risk 17 = .ok (.invokestatic 168, 3) := by decide +kernel
theorem dX10_risk_20 : decode cX10_risk 20 = .ok (.ifCond .ne 10, 3) := by decide +kernel
theorem dX10_risk_23 : decode cX10_risk 23 = .ok (.aload_n 0, 1) := by decide +kernel
theorem dX10_risk_24 : decode cX10_risk 24 = .ok (.bipush (-2), 2) := by decide +kernel
theorem dX10_risk_26 : decode cX10_risk 26 = .ok (.invokevirtual 175, 3) := by decide +kernel
theorem dX10_risk_29 : decode cX10_risk 29 = .ok (.ireturn, 1) := by decide +kernel
theorem dX10_risk_30 : decode cX10_risk 30 = .ok (.iload_n 2, 1) := by decide +kernel
theorem dX10_risk_31 : decode cX10_risk 31 = .ok (.ifCond .ne 11, 3) := by decide +kernel
theorem dX10_risk_34 : decode cX10_risk 34 = .ok (.aload_n 0, 1) := by decide +kernel
theorem dX10_risk_35 : decode cX10_risk 35 = .ok (.iload_n 1, 1) := by decide +kernel
theorem dX10_risk_36 : decode cX10_risk 36 = .ok (.invokevirtual 223, 3) := by decide +kernel
theorem dX10_risk_39 : decode cX10_risk 39 = .ok (.goto 8, 3) := by decide +kernel
theorem dX10_risk_42 : decode cX10_risk 42 = .ok (.aload_n 0, 1) := by decide +kernel
theorem dX10_risk_43 : decode cX10_risk 43 = .ok (.iload_n 1, 1) := by decide +kernel
theorem dX10_risk_44 : decode cX10_risk 44 = .ok (.invokevirtual 226, 3) := by decide +kernel
theorem dX10_risk_47 : decode cX10_risk 47 = .ok (.ireturn, 1) := by decide +kernel
theorem dX10_costOf_0 : decode cX10_costOf 0 = .ok (.iload_n 2, 1) := by decide +kernel
theorem dX10_costOf_1 : decode cX10_costOf 1 = .ok (.aload_n 0, 1) := by decide +kernel
theorem dX10_costOf_2 : decode cX10_costOf 2 = .ok (.iload_n 1, 1) := by decide +kernel
theorem dX10_costOf_3 : decode cX10_costOf 3 = .ok (.invokevirtual 226, 3) := by decide +kernel
theorem dX10_costOf_6 : decode cX10_costOf 6 = .ok (.isub, 1) := by decide +kernel
theorem dX10_costOf_7 : decode cX10_costOf 7 = .ok (.istore_n 3, 1) := by decide +kernel
theorem dX10_costOf_8 : decode cX10_costOf 8 = .ok (.iload_n 3, 1) := by decide +kernel
theorem dX10_costOf_9 : decode cX10_costOf 9 = .ok (.ifCond .gt 5, 3) := by decide +kernel
theorem dX10_costOf_12 : decode cX10_costOf 12 = .ok (.iconst 0, 1) := by decide +kernel
theorem dX10_costOf_13 : decode cX10_costOf 13 = .ok (.ireturn, 1) := by decide +kernel
theorem dX10_costOf_14 : decode cX10_costOf 14 = .ok (.aload_n 0, 1) := by decide +kernel
theorem dX10_costOf_15 : decode cX10_costOf 15 = .ok (.iload_n 1, 1) := by decide +kernel
theorem dX10_costOf_16 : decode cX10_costOf 16 = .ok (.invokevirtual 223, 3) := by decide +kernel
theorem dX10_costOf_19 : decode cX10_costOf 19 = .ok (.iload_n 3, 1) := by decide +kernel
theorem dX10_costOf_20 : decode cX10_costOf 20 = .ok (.imul, 1) := by decide +kernel
theorem dX10_costOf_21 : decode cX10_costOf 21 = .ok (.istore 4, 2) := by decide +kernel
theorem dX10_costOf_23 : decode cX10_costOf 23 = .ok (.iconst 0, 1) := by decide +kernel
theorem dX10_costOf_24 : decode cX10_costOf 24 = .ok (.istore 5, 2) := by decide +kernel
theorem dX10_costOf_26 : decode cX10_costOf 26 = .ok (.iload 5, 2) := by decide +kernel
theorem dX10_costOf_28 : decode cX10_costOf 28 = .ok (.iload_n 3, 1) := by decide +kernel
theorem dX10_costOf_29 : decode cX10_costOf 29 = .ok (.bipush 30, 2) := by decide +kernel
theorem dX10_costOf_31 : decode cX10_costOf 31 = .ok (.idiv, 1) := by decide +kernel
theorem dX10_costOf_32 : decode cX10_costOf 32 = .ok (.if_icmp .ge 19, 3) := by decide +kernel
theorem dX10_costOf_35 : decode cX10_costOf 35 = .ok (.iload 4, 2) := by decide +kernel
theorem dX10_costOf_37 : decode cX10_costOf 37 = .ok (.iload 4, 2) := by decide +kernel
theorem dX10_costOf_39 : decode cX10_costOf 39 = .ok (.bipush 10, 2) := by decide +kernel
theorem dX10_costOf_41 : decode cX10_costOf 41 = .ok (.idiv, 1) := by decide +kernel
theorem dX10_costOf_42 : decode cX10_costOf 42 = .ok (.iadd, 1) := by decide +kernel
theorem dX10_costOf_43 : decode cX10_costOf 43 = .ok (.istore 4, 2) := by decide +kernel
theorem dX10_costOf_45 : decode cX10_costOf 45 = .ok (.iinc 5 1, 3) := by decide +kernel
theorem dX10_costOf_48 : decode cX10_costOf 48 = .ok (.goto (-22), 3) := by decide +kernel
theorem dX10_costOf_51 : decode cX10_costOf 51 = .ok (.iload 4, 2) := by decide +kernel
theorem dX10_costOf_53 : decode cX10_costOf 53 = .ok (.ireturn, 1) := by decide +kernel
theorem dX10_delay_0 : decode cX10_delay 0 = .ok (.aload_n 0, 1) := by decide +kernel
theorem dX10_delay_1 : decode cX10_delay 1 = .ok (.iload_n 1, 1) := by decide +kernel
theorem dX10_delay_2 : decode cX10_delay 2 = .ok (.invokevirtual 196, 3) := by decide +kernel
theorem dX10_delay_5 : decode cX10_delay 5 = .ok (.ifCond .ne 9, 3) := by decide +kernel
theorem dX10_delay_8 : decode cX10_delay 8 = .ok (.aload_n 0, 1) := by decide +kernel
theorem dX10_delay_9 : decode cX10_delay 9 = .ok (.iconst (-1), 1) := by decide +kernel
theorem dX10_delay_10 : decode cX10_delay 10 = .ok (.invokevirtual 175, 3) := by decide +kernel
theorem dX10_delay_13 : decode cX10_delay 13 = .ok (.ireturn, 1) := by decide +kernel
theorem dX10_delay_14 : decode cX10_delay 14 = .ok (.iload_n 2, 1) := by decide +kernel
theorem dX10_delay_15 : decode cX10_delay 15 = .ok (.invokestatic 189, 3) := by decide +kernel
theorem dX10_delay_18 : decode cX10_delay 18 = .ok (.ifCond .ge 14, 3) := by decide +kernel
theorem dX10_delay_21 : decode cX10_delay 21 = .ok (.aload_n 0, 1) := by decide +kernel
theorem dX10_delay_22 : decode cX10_delay 22 = .ok (.iload_n 2, 1) := by decide +kernel
theorem dX10_delay_23 : decode cX10_delay 23 = .ok (.invokestatic 189, 3) := by decide +kernel
theorem dX10_delay_26 : decode cX10_delay 26 = .ok (.invokevirtual 175, 3) := by decide +kernel
theorem dX10_delay_29 : decode cX10_delay 29 = .ok (.goto 9, 3) := by decide +kernel
theorem dX10_delay_32 : decode cX10_delay 32 = .ok (.aload_n 0, 1) := by decide +kernel
theorem dX10_delay_33 : decode cX10_delay 33 = .ok (.iload_n 1, 1) := by decide +kernel
theorem dX10_delay_34 : decode cX10_delay 34 = .ok (.iload_n 2, 1) := by decide +kernel
theorem dX10_delay_35 : decode cX10_delay 35 = .ok (.invokevirtual 229, 3) := by decide +kernel
theorem dX10_delay_38 : decode cX10_delay 38 = .ok (.ireturn, 1) := by decide +kernel
theorem dX10_capacity_0 : decode cX10_capacity 0 = .ok (.iload_n 1, 1) := by decide +kernel
theorem dX10_capacity_1 : decode cX10_capacity 1 = .ok (.iconst 1, 1) := by decide +kernel
theorem dX10_capacity_2 : decode cX10_capacity 2 = .ok (.if_icmp .ge 10, 3) := by decide +kernel
theorem dX10_capacity_5 : decode cX10_capacity 5 = .ok (.aload_n 0, 1) := by decide +kernel
theorem dX10_capacity_6 : decode cX10_capacity 6 = .ok (.bipush (-4), 2) := by decide +kernel
theorem dX10_capacity_8 : decode cX10_capacity 8 = .ok (.invokevirtual 175, 3) := by decide +kernel
theorem dX10_capacity_11 : decode cX10_capacity 11 = .ok (.ireturn, 1) := by decide +kernel
theorem dX10_capacity_12 : decode cX10_capacity 12 = .ok (.iload_n 1, 1) := by decide +kernel
theorem dX10_capacity_13 : decode cX10_capacity 13 = .ok (.bipush 9, 2) := by decide +kernel
theorem dX10_capacity_15 : decode cX10_capacity 15 = .ok (.if_icmp .le 10, 3) := by decide +kernel
theorem dX10_capacity_18 : decode cX10_capacity 18 = .ok (.aload_n 0, 1) := by decide +kernel
theorem dX10_capacity_19 : decode cX10_capacity 19 = .ok (.bipush (-6), 2) := by decide +kernel
theorem dX10_capacity_21 : decode cX10_capacity 21 = .ok (.invokevirtual 175, 3) := by decide +kernel
theorem dX10_capacity_24 : decode cX10_capacity 24 = .ok (.ireturn, 1) := by decide +kernel
theorem dX10_capacity_25 : decode cX10_capacity 25 = .ok (.aload_n 0, 1) := by decide +kernel
theorem dX10_capacity_26 : decode cX10_capacity 26 = .ok (.getfield 86, 3) := by decide +kernel
theorem dX10_capacity_29 : decode cX10_capacity 29 = .ok (.istore_n 2, 1) := by decide +kernel
theorem dX10_capacity_30 : decode cX10_capacity 30 = .ok (.aload_n 0, 1) := by decide +kernel
theorem dX10_capacity_31 : decode cX10_capacity 31 = .ok (.iload_n 1, 1) := by decide +kernel
theorem dX10_capacity_32 : decode cX10_capacity 32 = .ok (.putfield 86, 3) := by decide +kernel
theorem dX10_capacity_35 : decode cX10_capacity 35 = .ok (.iload_n 2, 1) := by decide +kernel
theorem dX10_capacity_36 : decode cX10_capacity 36 = .ok (.ireturn, 1) := by decide +kernel
theorem dX10_ask_0 : decode cX10_ask 0 = .ok (.aload_n 0, 1) := by decide +kernel
theorem dX10_ask_1 : decode cX10_ask 1 = .ok (.iconst 0, 1) := by decide +kernel
theorem dX10_ask_2 : decode cX10_ask 2 = .ok (.putfield 232, 3) := by decide +kernel
theorem dX10_ask_5 : decode cX10_ask 5 = .ok (.iconst 0, 1) := by decide +kernel
theorem dX10_ask_6 : decode cX10_ask 6 = .ok (.istore_n 1, 1) := by decide +kernel
theorem dX10_ask_7 : decode cX10_ask 7 = .ok (.iconst 0, 1) := by decide +kernel
theorem dX10_ask_8 : decode cX10_ask 8 = .ok (.istore_n 2, 1) := by decide +kernel
theorem dX10_ask_9 : decode cX10_ask 9 = .ok (.iload_n 2, 1) := by decide +kernel
theorem dX10_ask_10 : decode cX10_ask 10 = .ok (.bipush 6, 2) := by decide +kernel
theorem dX10_ask_12 : decode cX10_ask 12 = .ok (.if_icmp .ge 119, 3) := by decide +kernel
theorem dX10_ask_15 : decode cX10_ask 15 = .ok (.iconst (-1), 1) := by decide +kernel
theorem dX10_ask_16 : decode cX10_ask 16 = .ok (.istore_n 3, 1) := by decide +kernel
theorem dX10_ask_17 : decode cX10_ask 17 = .ok (.iconst 0, 1) := by decide +kernel
theorem dX10_ask_18 : decode cX10_ask 18 = .ok (.istore 4, 2) := by decide +kernel
theorem dX10_ask_20 : decode cX10_ask 20 = .ok (.iload 4, 2) := by decide +kernel
theorem dX10_ask_22 : decode cX10_ask 22 = .ok (.aload_n 0, 1) := by decide +kernel
theorem dX10_ask_23 : decode cX10_ask 23 = .ok (.getfield 165, 3) := by decide +kernel
theorem dX10_ask_26 : decode cX10_ask 26 = .ok (.if_icmp .ge 85, 3) := by decide +kernel
theorem dX10_ask_29 : decode cX10_ask 29 = .ok (.iload_n 1, 1) := by decide +kernel
theorem dX10_ask_30 : decode cX10_ask 30 = .ok (.iload 4, 2) := by decide +kernel
theorem dX10_ask_32 : decode cX10_ask 32 = .ok (.ishr, 1) := by decide +kernel
theorem dX10_ask_33 : decode cX10_ask 33 = .ok (.iconst 1, 1) := by decide +kernel
theorem dX10_ask_34 : decode cX10_ask 34 = .ok (.iand, 1) := by decide +kernel
theorem dX10_ask_35 : decode cX10_ask 35 = .ok (.ifCond .ne 23, 3) := by decide +kernel
theorem dX10_ask_38 : decode cX10_ask 38 = .ok (.aload_n 0, 1) := by decide +kernel
theorem dX10_ask_39 : decode cX10_ask 39 = .ok (.iload 4, 2) := by decide +kernel
theorem dX10_ask_41 : decode cX10_ask 41 = .ok (.invokevirtual 226, 3) := by decide +kernel
theorem dX10_ask_44 : decode cX10_ask 44 = .ok (.aload_n 0, 1) := by decide +kernel
theorem dX10_ask_45 : decode cX10_ask 45 = .ok (.getfield 179, 3) := by decide +kernel
theorem dX10_ask_48 : decode cX10_ask 48 = .ok (.bipush 7, 2) := by decide +kernel
theorem dX10_ask_50 : decode cX10_ask 50 = .ok (.iadd, 1) := by decide +kernel
theorem dX10_ask_51 : decode cX10_ask 51 = .ok (.if_icmp .ge 7, 3) := by decide +kernel
theorem dX10_ask_54 : decode cX10_ask 54 = .ok (.iconst 1, 1) := by decide +kernel
theorem dX10_ask_55 : decode cX10_ask 55 = .ok (.goto 4, 3) := by decide +kernel
theorem dX10_ask_58 : decode cX10_ask 58 = .ok (.iconst 0, 1) := by decide +kernel
theorem dX10_ask_59 : decode cX10_ask 59 = .ok (.istore 5, 2) := by decide +kernel
theorem dX10_ask_61 : decode cX10_ask 61 = .ok (.iload 5, 2) := by decide +kernel
theorem dX10_ask_63 : decode cX10_ask 63 = .ok (.ifCond .eq 40, 3) := by decide +kernel
theorem dX10_ask_66 : decode cX10_ask 66 = .ok (.iload_n 3, 1) := by decide +kernel
theorem dX10_ask_67 : decode cX10_ask 67 = .ok (.ifCond .lt 31, 3) := by decide +kernel
theorem dX10_ask_70 : decode cX10_ask 70 = .ok (.aload_n 0, 1) := by decide +kernel
theorem dX10_ask_71 : decode cX10_ask 71 = .ok (.iload 4, 2) := by decide +kernel
theorem dX10_ask_73 : decode cX10_ask 73 = .ok (.aload_n 0, 1) := by decide +kernel
theorem dX10_ask_74 : decode cX10_ask 74 = .ok (.getfield 179, 3) := by decide +kernel
theorem dX10_ask_77 : decode cX10_ask 77 = .ok (.bipush 7, 2) := by decide +kernel
theorem dX10_ask_79 : decode cX10_ask 79 = .ok (.iadd, 1) := by decide +kernel
theorem dX10_ask_80 : decode cX10_ask 80 = .ok (.invokevirtual 229, 3) := by decide +kernel
theorem dX10_ask_83 : decode cX10_ask 83 = .ok (.aload_n 0, 1) := by decide +kernel
theorem dX10_ask_84 : decode cX10_ask 84 = .ok (.iload_n 3, 1) := by decide +kernel
theorem dX10_ask_85 : decode cX10_ask 85 = .ok (.aload_n 0, 1) := by decide +kernel
theorem dX10_ask_86 : decode cX10_ask 86 = .ok (.getfield 179, 3) := by decide +kernel
theorem dX10_ask_89 : decode cX10_ask 89 = .ok (.bipush 7, 2) := by decide +kernel
theorem dX10_ask_91 : decode cX10_ask 91 = .ok (.iadd, 1) := by decide +kernel
theorem dX10_ask_92 : decode cX10_ask 92 = .ok (.invokevirtual 229, 3) := by decide +kernel
theorem dX10_ask_95 : decode cX10_ask 95 = .ok (.if_icmp .le 8, 3) := by decide +kernel
theorem dX10_ask_98 : decode cX10_ask 98 = .ok (.iload 4, 2) := by decide +kernel
theorem dX10_ask_100 : decode cX10_ask 100 = .ok (.goto 4, 3) := by decide +kernel
theorem dX10_ask_103 : decode cX10_ask 103 = .ok (.iload_n 3, 1) := by decide +kernel
theorem dX10_ask_104 : decode cX10_ask 104 = .ok (.istore_n 3, 1) := by decide +kernel
theorem dX10_ask_105 : decode cX10_ask 105 = .ok (.iinc 4 1, 3) := by decide +kernel
theorem dX10_ask_108 : decode cX10_ask 108 = .ok (.goto (-88), 3) := by decide +kernel
theorem dX10_ask_111 : decode cX10_ask 111 = .ok (.iload_n 1, 1) := by decide +kernel
theorem dX10_ask_112 : decode cX10_ask 112 = .ok (.iload_n 3, 1) := by decide +kernel
theorem dX10_ask_113 : decode cX10_ask 113 = .ok (.ifCond .ge 7, 3) := by decide +kernel
theorem dX10_ask_116 : decode cX10_ask 116 = .ok (.iconst 0, 1) := by decide +kernel
theorem dX10_ask_117 : decode cX10_ask 117 = .ok (.goto 6, 3) := by decide +kernel
theorem dX10_ask_120 : decode cX10_ask 120 = .ok (.iconst 1, 1) := by decide +kernel
theorem dX10_ask_121 : decode cX10_ask 121 = .ok (.iload_n 3, 1) := by decide +kernel
theorem dX10_ask_122 : decode cX10_ask 122 = .ok (.ishl, 1) := by decide +kernel
theorem dX10_ask_123 : decode cX10_ask 123 = .ok (.ior, 1) := by decide +kernel
theorem dX10_ask_124 : decode cX10_ask 124 = .ok (.istore_n 1, 1) := by decide +kernel
theorem dX10_ask_125 : decode cX10_ask 125 = .ok (.iinc 2 1, 3) := by decide +kernel
theorem dX10_ask_128 : decode cX10_ask 128 = .ok (.goto (-119), 3) := by decide +kernel
theorem dX10_ask_131 : decode cX10_ask 131 = .ok (.iconst 0, 1) := by decide +kernel
theorem dX10_ask_132 : decode cX10_ask 132 = .ok (.istore_n 2, 1) := by decide +kernel
theorem dX10_ask_133 : decode cX10_ask 133 = .ok (.iload_n 2, 1) := by decide +kernel
theorem dX10_ask_134 : decode cX10_ask 134 = .ok (.aload_n 0, 1) := by decide +kernel
theorem dX10_ask_135 : decode cX10_ask 135 = .ok (.getfield 165, 3) := by decide +kernel
theorem dX10_ask_138 : decode cX10_ask 138 = .ok (.if_icmp .ge 104, 3) := by decide +kernel
theorem dX10_ask_141 : decode cX10_ask 141 = .ok (.iload_n 1, 1) := by decide +kernel
theorem dX10_ask_142 : decode cX10_ask 142 = .ok (.iload_n 2, 1) := by decide +kernel
theorem dX10_ask_143 : decode cX10_ask 143 = .ok (.ishr, 1) := by decide +kernel
theorem dX10_ask_144 : decode cX10_ask 144 = .ok (.iconst 1, 1) := by decide +kernel
theorem dX10_ask_145 : decode cX10_ask 145 = .ok (.iand, 1) := by decide +kernel
theorem dX10_ask_146 : decode cX10_ask 146 = .ok (.iconst 1, 1) := by decide +kernel
theorem dX10_ask_147 : decode cX10_ask 147 = .ok (.if_icmp .ne 89, 3) := by decide +kernel
theorem dX10_ask_150 : decode cX10_ask 150 = .ok (.aload_n 0, 1) := by decide +kernel
theorem dX10_ask_151 : decode cX10_ask 151 = .ok (.getfield 90, 3) := by decide +kernel
theorem dX10_ask_154 : decode cX10_ask 154 = .ok (.aload_n 0, 1) := by decide +kernel
theorem dX10_ask_155 : decode cX10_ask 155 = .ok (.getfield 232, 3) := by decide +kernel
theorem dX10_ask_158 : decode cX10_ask 158 = .ok (.iload_n 2, 1) := by decide +kernel
theorem dX10_ask_159 : decode cX10_ask 159 = .ok (.iastore, 1) := by decide +kernel
theorem dX10_ask_160 : decode cX10_ask 160 = .ok (.iconst 0, 1) := by decide +kernel
theorem dX10_ask_161 : decode cX10_ask 161 = .ok (.istore_n 3, 1) := by decide +kernel
theorem dX10_ask_162 : decode cX10_ask 162 = .ok (.iload_n 3, 1) := by decide +kernel
theorem dX10_ask_163 : decode cX10_ask 163 = .ok (.iconst 5, 1) := by decide +kernel
theorem dX10_ask_164 : decode cX10_ask 164 = .ok (.if_icmp .ge 34, 3) := by decide +kernel
theorem dX10_ask_167 : decode cX10_ask 167 = .ok (.aload_n 0, 1) := by decide +kernel
theorem dX10_ask_168 : decode cX10_ask 168 = .ok (.getfield 93, 3) := by decide +kernel
theorem dX10_ask_171 : decode cX10_ask 171 = .ok (.bipush 6, 2) := by decide +kernel
theorem dX10_ask_173 : decode cX10_ask 173 = .ok (.aload_n 0, 1) := by decide +kernel
theorem dX10_ask_174 : decode cX10_ask 174 = .ok (.getfield 232, 3) := by decide +kernel
theorem dX10_ask_177 : decode cX10_ask 177 = .ok (.imul, 1) := by decide +kernel
theorem dX10_ask_178 : decode cX10_ask 178 = .ok (.iload_n 3, 1) := by decide +kernel
theorem dX10_ask_179 : decode cX10_ask 179 = .ok (.iadd, 1) := by decide +kernel
theorem dX10_ask_180 : decode cX10_ask 180 = .ok (.aload_n 0, 1) := by decide +kernel
theorem dX10_ask_181 : decode cX10_ask 181 = .ok (.iload_n 2, 1) := by decide +kernel
theorem dX10_ask_182 : decode cX10_ask 182 = .ok (.aload_n 0, 1) := by decide +kernel
theorem dX10_ask_183 : decode cX10_ask 183 = .ok (.getfield 179, 3) := by decide +kernel
theorem dX10_ask_186 : decode cX10_ask 186 = .ok (.iload_n 3, 1) := by decide +kernel
theorem dX10_ask_187 : decode cX10_ask 187 = .ok (.iadd, 1) := by decide +kernel
theorem dX10_ask_188 : decode cX10_ask 188 = .ok (.invokevirtual 229, 3) := by decide +kernel
theorem dX10_ask_191 : decode cX10_ask 191 = .ok (.iastore, 1) := by decide +kernel
theorem dX10_ask_192 : decode cX10_ask 192 = .ok (.iinc 3 1, 3) := by decide +kernel
theorem dX10_ask_195 : decode cX10_ask 195 = .ok (.goto (-33), 3) := by decide +kernel
theorem dX10_ask_198 : decode cX10_ask 198 = .ok (.aload_n 0, 1) := by decide +kernel
theorem dX10_ask_199 : decode cX10_ask 199 = .ok (.getfield 93, 3) := by decide +kernel
theorem dX10_ask_202 : decode cX10_ask 202 = .ok (.bipush 6, 2) := by decide +kernel
theorem dX10_ask_204 : decode cX10_ask 204 = .ok (.aload_n 0, 1) := by decide +kernel
theorem dX10_ask_205 : decode cX10_ask 205 = .ok (.getfield 232, 3) := by decide +kernel
theorem dX10_ask_208 : decode cX10_ask 208 = .ok (.imul, 1) := by decide +kernel
theorem dX10_ask_209 : decode cX10_ask 209 = .ok (.iconst 5, 1) := by decide +kernel
theorem dX10_ask_210 : decode cX10_ask 210 = .ok (.iadd, 1) := by decide +kernel
theorem dX10_ask_211 : decode cX10_ask 211 = .ok (.iconst 2, 1) := by decide +kernel
theorem dX10_ask_212 : decode cX10_ask 212 = .ok (.aload_n 0, 1) := by decide +kernel
theorem dX10_ask_213 : decode cX10_ask 213 = .ok (.iload_n 2, 1) := by decide +kernel
theorem dX10_ask_214 : decode cX10_ask 214 = .ok (.aload_n 0, 1) := by decide +kernel
theorem dX10_ask_215 : decode cX10_ask 215 = .ok (.getfield 179, 3) := by decide +kernel
theorem dX10_ask_218 : decode cX10_ask 218 = .ok (.bipush 7, 2) := by decide +kernel
theorem dX10_ask_220 : decode cX10_ask 220 = .ok (.iadd, 1) := by decide +kernel
theorem dX10_ask_221 : decode cX10_ask 221 = .ok (.invokevirtual 229, 3) := by decide +kernel
theorem dX10_ask_224 : decode cX10_ask 224 = .ok (.imul, 1) := by decide +kernel
theorem dX10_ask_225 : decode cX10_ask 225 = .ok (.iastore, 1) := by decide +kernel
theorem dX10_ask_226 : decode cX10_ask 226 = .ok (.aload_n 0, 1) := by decide +kernel
theorem dX10_ask_227 : decode cX10_ask 227 = .ok (.dup, 1) := by decide +kernel
theorem dX10_ask_228 : decode cX10_ask 228 = .ok (.getfield 232, 3) := by decide +kernel
theorem dX10_ask_231 : decode cX10_ask 231 = .ok (.iconst 1, 1) := by decide +kernel
theorem dX10_ask_232 : decode cX10_ask 232 = .ok (.iadd, 1) := by decide +kernel
theorem dX10_ask_233 : decode cX10_ask 233 = .ok (.putfield 232, 3) := by decide +kernel
theorem dX10_ask_236 : decode cX10_ask 236 = .ok (.iinc 2 1, 3) := by decide +kernel
theorem dX10_ask_239 : decode cX10_ask 239 = .ok (.goto (-106), 3) := by decide +kernel
theorem dX10_ask_242 : decode cX10_ask 242 = .ok (.aload_n 0, 1) := by decide +kernel
theorem dX10_ask_243 : decode cX10_ask 243 = .ok (.getfield 96, 3) := by decide +kernel
theorem dX10_ask_246 : decode cX10_ask 246 = .ok (.aload_n 0, 1) := by decide +kernel
theorem dX10_ask_247 : decode cX10_ask 247 = .ok (.getfield 232, 3) := by decide +kernel
theorem dX10_ask_250 : decode cX10_ask 250 = .ok (.iconst 0, 1) := by decide +kernel
theorem dX10_ask_251 : decode cX10_ask 251 = .ok (.iastore, 1) := by decide +kernel
theorem dX10_ask_252 : decode cX10_ask 252 = .ok (.aload_n 0, 1) := by decide +kernel
theorem dX10_ask_253 : decode cX10_ask 253 = .ok (.getfield 232, 3) := by decide +kernel
theorem dX10_ask_256 : decode cX10_ask 256 = .ok (.iconst 1, 1) := by decide +kernel
theorem dX10_ask_257 : decode cX10_ask 257 = .ok (.isub, 1) := by decide +kernel
theorem dX10_ask_258 : decode cX10_ask 258 = .ok (.istore_n 2, 1) := by decide +kernel
theorem dX10_ask_259 : decode cX10_ask 259 = .ok (.iload_n 2, 1) := by decide +kernel
theorem dX10_ask_260 : decode cX10_ask 260 = .ok (.ifCond .lt 33, 3) := by decide +kernel
theorem dX10_ask_263 : decode cX10_ask 263 = .ok (.aload_n 0, 1) := by decide +kernel
theorem dX10_ask_264 : decode cX10_ask 264 = .ok (.getfield 96, 3) := by decide +kernel
theorem dX10_ask_267 : decode cX10_ask 267 = .ok (.iload_n 2, 1) := by decide +kernel
theorem dX10_ask_268 : decode cX10_ask 268 = .ok (.aload_n 0, 1) := by decide +kernel
theorem dX10_ask_269 : decode cX10_ask 269 = .ok (.getfield 96, 3) := by decide +kernel
theorem dX10_ask_272 : decode cX10_ask 272 = .ok (.iload_n 2, 1) := by decide +kernel
theorem dX10_ask_273 : decode cX10_ask 273 = .ok (.iconst 1, 1) := by decide +kernel
theorem dX10_ask_274 : decode cX10_ask 274 = .ok (.iadd, 1) := by decide +kernel
theorem dX10_ask_275 : decode cX10_ask 275 = .ok (.iaload, 1) := by decide +kernel
theorem dX10_ask_276 : decode cX10_ask 276 = .ok (.aload_n 0, 1) := by decide +kernel
theorem dX10_ask_277 : decode cX10_ask 277 = .ok (.getfield 93, 3) := by decide +kernel
theorem dX10_ask_280 : decode cX10_ask 280 = .ok (.bipush 6, 2) := by decide +kernel
theorem dX10_ask_282 : decode cX10_ask 282 = .ok (.iload_n 2, 1) := by decide +kernel
theorem dX10_ask_283 : decode cX10_ask 283 = .ok (.imul, 1) := by decide +kernel
theorem dX10_ask_284 : decode cX10_ask 284 = .ok (.iaload, 1) := by decide +kernel
theorem dX10_ask_285 : decode cX10_ask 285 = .ok (.iadd, 1) := by decide +kernel
theorem dX10_ask_286 : decode cX10_ask 286 = .ok (.iastore, 1) := by decide +kernel
theorem dX10_ask_287 : decode cX10_ask 287 = .ok (.iinc 2 (-1), 3) := by decide +kernel
theorem dX10_ask_290 : decode cX10_ask 290 = .ok (.goto (-31), 3) := by decide +kernel
theorem dX10_ask_293 : decode cX10_ask 293 = .ok (.return_, 1) := by decide +kernel
theorem dX10_ones_0 : decode cX10_ones 0 = .ok (.iconst 0, 1) := by decide +kernel
theorem dX10_ones_1 : decode cX10_ones 1 = .ok (.istore_n 1, 1) := by decide +kernel
theorem dX10_ones_2 : decode cX10_ones 2 = .ok (.iload_n 0, 1) := by decide +kernel
theorem dX10_ones_3 : decode cX10_ones 3 = .ok (.istore_n 2, 1) := by decide +kernel
theorem dX10_ones_4 : decode cX10_ones 4 = .ok (.iload_n 2, 1) := by decide +kernel
theorem dX10_ones_5 : decode cX10_ones 5 = .ok (.ifCond .le 16, 3) := by decide +kernel
theorem dX10_ones_8 : decode cX10_ones 8 = .ok (.iload_n 1, 1) := by decide +kernel
theorem dX10_ones_9 : decode cX10_ones 9 = .ok (.iload_n 2, 1) := by decide +kernel
theorem dX10_ones_10 : decode cX10_ones 10 = .ok (.iconst 2, 1) := by decide +kernel
theorem dX10_ones_11 : decode cX10_ones 11 = .ok (.irem, 1) := by decide +kernel
theorem dX10_ones_12 : decode cX10_ones 12 = .ok (.iadd, 1) := by decide +kernel
theorem dX10_ones_13 : decode cX10_ones 13 = .ok (.istore_n 1, 1) := by decide +kernel
theorem dX10_ones_14 : decode cX10_ones 14 = .ok (.iload_n 2, 1) := by decide +kernel
theorem dX10_ones_15 : decode cX10_ones 15 = .ok (.iconst 2, 1) := by decide +kernel
theorem dX10_ones_16 : decode cX10_ones 16 = .ok (.idiv, 1) := by decide +kernel
theorem dX10_ones_17 : decode cX10_ones 17 = .ok (.istore_n 2, 1) := by decide +kernel
theorem dX10_ones_18 : decode cX10_ones 18 = .ok (.goto (-14), 3) := by decide +kernel
theorem dX10_ones_21 : decode cX10_ones 21 = .ok (.iload_n 1, 1) := by decide +kernel
theorem dX10_ones_22 : decode cX10_ones 22 = .ok (.ireturn, 1) := by decide +kernel
theorem dX10_mayTake_0 : decode cX10_mayTake 0 = .ok (.iload_n 2, 1) := by decide +kernel
theorem dX10_mayTake_1 : decode cX10_mayTake 1 = .ok (.bipush 40, 2) := by decide +kernel
theorem dX10_mayTake_3 : decode cX10_mayTake 3 = .ok (.if_icmp .ne 5, 3) := by decide +kernel
theorem dX10_mayTake_6 : decode cX10_mayTake 6 = .ok (.iconst 1, 1) := by decide +kernel
theorem dX10_mayTake_7 : decode cX10_mayTake 7 = .ok (.ireturn, 1) := by decide +kernel
theorem dX10_mayTake_8 : decode cX10_mayTake 8 = .ok (.iload_n 2, 1) := by decide +kernel
theorem dX10_mayTake_9 : decode cX10_mayTake 9 = .ok (.bipush 8, 2) := by decide +kernel
theorem dX10_mayTake_11 : decode cX10_mayTake 11 = .ok (.irem, 1) := by decide +kernel
theorem dX10_mayTake_12 : decode cX10_mayTake 12 = .ok (.istore 4, 2) := by decide +kernel
theorem dX10_mayTake_14 : decode cX10_mayTake 14 = .ok (.iload 4, 2) := by decide +kernel
theorem dX10_mayTake_16 : decode cX10_mayTake 16 = .ok (.iload_n 3, 1) := by decide +kernel
theorem dX10_mayTake_17 : decode cX10_mayTake 17 = .ok (.ishr, 1) := by decide +kernel
theorem dX10_mayTake_18 : decode cX10_mayTake 18 = .ok (.ifCond .ne 30, 3) := by decide +kernel
theorem dX10_mayTake_21 : decode cX10_mayTake 21 = .ok (.iload 4, 2) := by decide +kernel
theorem dX10_mayTake_23 : decode cX10_mayTake 23 = .ok (.invokestatic 235, 3) := by decide +kernel
theorem dX10_mayTake_26 : decode cX10_mayTake 26 = .ok (.aload_n 0, 1) := by decide +kernel
theorem dX10_mayTake_27 : decode cX10_mayTake 27 = .ok (.getfield 43, 3) := by decide +kernel
theorem dX10_mayTake_30 : decode cX10_mayTake 30 = .ok (.aload_n 0, 1) := by decide +kernel
theorem dX10_mayTake_31 : decode cX10_mayTake 31 = .ok (.getfield 90, 3) := by decide +kernel
theorem dX10_mayTake_34 : decode cX10_mayTake 34 = .ok (.iload_n 1, 1) := by decide +kernel
theorem dX10_mayTake_35 : decode cX10_mayTake 35 = .ok (.iaload, 1) := by decide +kernel
theorem dX10_mayTake_36 : decode cX10_mayTake 36 = .ok (.baload, 1) := by decide +kernel
theorem dX10_mayTake_37 : decode cX10_mayTake 37 = .ok (.ifCond .eq 7, 3) := by decide +kernel
theorem dX10_mayTake_40 : decode cX10_mayTake 40 = .ok (.iconst 2, 1) := by decide +kernel
theorem dX10_mayTake_41 : decode cX10_mayTake 41 = .ok (.goto 4, 3) := by decide +kernel
theorem dX10_mayTake_44 : decode cX10_mayTake 44 = .ok (.iconst 1, 1) := by decide +kernel
theorem dX10_mayTake_45 : decode cX10_mayTake 45 = .ok (.if_icmp .eq 5, 3) := by decide +kernel
theorem dX10_mayTake_48 : decode cX10_mayTake 48 = .ok (.iconst 0, 1) := by decide +kernel
theorem dX10_mayTake_49 : decode cX10_mayTake 49 = .ok (.ireturn, 1) := by decide +kernel
theorem dX10_mayTake_50 : decode cX10_mayTake 50 = .ok (.iconst 1, 1) := by decide +kernel
theorem dX10_mayTake_51 : decode cX10_mayTake 51 = .ok (.istore 5, 2) := by decide +kernel
theorem dX10_mayTake_53 : decode cX10_mayTake 53 = .ok (.iconst 0, 1) := by decide +kernel
theorem dX10_mayTake_54 : decode cX10_mayTake 54 = .ok (.istore 6, 2) := by decide +kernel
theorem dX10_mayTake_56 : decode cX10_mayTake 56 = .ok (.iload 6, 2) := by decide +kernel
theorem dX10_mayTake_58 : decode cX10_mayTake 58 = .ok (.iload_n 3, 1) := by decide +kernel
theorem dX10_mayTake_59 : decode cX10_mayTake 59 = .ok (.if_icmp .ge 77, 3) := by decide +kernel
theorem dX10_mayTake_62 : decode cX10_mayTake 62 = .ok (.iload 5, 2) := by decide +kernel
theorem dX10_mayTake_64 : decode cX10_mayTake 64 = .ok (.ifCond .eq 63, 3) := by decide +kernel
theorem dX10_mayTake_67 : decode cX10_mayTake 67 = .ok (.iload 4, 2) := by decide +kernel
theorem dX10_mayTake_69 : decode cX10_mayTake 69 = .ok (.iload 6, 2) := by decide +kernel
theorem dX10_mayTake_71 : decode cX10_mayTake 71 = .ok (.ishr, 1) := by decide +kernel
theorem dX10_mayTake_72 : decode cX10_mayTake 72 = .ok (.iconst 1, 1) := by decide +kernel
theorem dX10_mayTake_73 : decode cX10_mayTake 73 = .ok (.iand, 1) := by decide +kernel
theorem dX10_mayTake_74 : decode cX10_mayTake 74 = .ok (.ifCond .eq 49, 3) := by decide +kernel
theorem dX10_mayTake_77 : decode cX10_mayTake 77 = .ok (.aload_n 0, 1) := by decide +kernel
theorem dX10_mayTake_78 : decode cX10_mayTake 78 = .ok (.getfield 50, 3) := by decide +kernel
theorem dX10_mayTake_81 : decode cX10_mayTake 81 = .ok (.bipush 10, 2) := by decide +kernel
theorem dX10_mayTake_83 : decode cX10_mayTake 83 = .ok (.iload 6, 2) := by decide +kernel
theorem dX10_mayTake_85 : decode cX10_mayTake 85 = .ok (.imul, 1) := by decide +kernel
theorem dX10_mayTake_86 : decode cX10_mayTake 86 = .ok (.aload_n 0, 1) := by decide +kernel
theorem dX10_mayTake_87 : decode cX10_mayTake 87 = .ok (.getfield 37, 3) := by decide +kernel
theorem dX10_mayTake_90 : decode cX10_mayTake 90 = .ok (.aload_n 0, 1) := by decide +kernel
theorem dX10_mayTake_91 : decode cX10_mayTake 91 = .ok (.getfield 90, 3) := by decide +kernel
theorem dX10_mayTake_94 : decode cX10_mayTake 94 = .ok (.iload_n 1, 1) := by decide +kernel
theorem dX10_mayTake_95 : decode cX10_mayTake 95 = .ok (.iaload, 1) := by decide +kernel
theorem dX10_mayTake_96 : decode cX10_mayTake 96 = .ok (.iaload, 1) := by decide +kernel
theorem dX10_mayTake_97 : decode cX10_mayTake 97 = .ok (.iadd, 1) := by decide +kernel
theorem dX10_mayTake_98 : decode cX10_mayTake 98 = .ok (.baload, 1) := by decide +kernel
theorem dX10_mayTake_99 : decode cX10_mayTake 99 = .ok (.ifCond .ne 28, 3) := by decide +kernel
theorem dX10_mayTake_102 : decode cX10_mayTake 102 = .ok (.aload_n 0, 1) := by decide +kernel
theorem dX10_mayTake_103 : decode cX10_mayTake 103 = .ok (.getfield 108, 3) := by decide +kernel
theorem dX10_mayTake_106 : decode cX10_mayTake 106 = .ok (.iconst 3, 1) := by decide +kernel
theorem dX10_mayTake_107 : decode cX10_mayTake 107 = .ok (.iload_n 2, 1) := by decide +kernel
theorem dX10_mayTake_108 : decode cX10_mayTake 108 = .ok (.bipush 8, 2) := by decide +kernel
theorem dX10_mayTake_110 : decode cX10_mayTake 110 = .ok (.idiv, 1) := by decide +kernel
theorem dX10_mayTake_111 : decode cX10_mayTake 111 = .ok (.imul, 1) := by decide +kernel
theorem dX10_mayTake_112 : decode cX10_mayTake 112 = .ok (.iload 6, 2) := by decide +kernel
theorem dX10_mayTake_114 : decode cX10_mayTake 114 = .ok (.iadd, 1) := by decide +kernel
theorem dX10_mayTake_115 : decode cX10_mayTake 115 = .ok (.iaload, 1) := by decide +kernel
theorem dX10_mayTake_116 : decode cX10_mayTake 116 = .ok (.aload_n 0, 1) := by decide +kernel
theorem dX10_mayTake_117 : decode cX10_mayTake 117 = .ok (.getfield 86, 3) := by decide +kernel
theorem dX10_mayTake_120 : decode cX10_mayTake 120 = .ok (.if_icmp .ge 7, 3) := by decide +kernel
theorem dX10_mayTake_123 : decode cX10_mayTake 123 = .ok (.iconst 1, 1) := by decide +kernel
theorem dX10_mayTake_124 : decode cX10_mayTake 124 = .ok (.goto 4, 3) := by decide +kernel
theorem dX10_mayTake_127 : decode cX10_mayTake 127 = .ok (.iconst 0, 1) := by decide +kernel
theorem dX10_mayTake_128 : decode cX10_mayTake 128 = .ok (.istore 5, 2) := by decide +kernel
theorem dX10_mayTake_130 : decode cX10_mayTake 130 = .ok (.iinc 6 1, 3) := by decide +kernel
theorem dX10_mayTake_133 : decode cX10_mayTake 133 = .ok (.goto (-77), 3) := by decide +kernel
theorem dX10_mayTake_136 : decode cX10_mayTake 136 = .ok (.iload 5, 2) := by decide +kernel
theorem dX10_mayTake_138 : decode cX10_mayTake 138 = .ok (.ireturn, 1) := by decide +kernel
theorem dX10_use_0 : decode cX10_use 0 = .ok (.iconst 0, 1) := by decide +kernel
theorem dX10_use_1 : decode cX10_use 1 = .ok (.istore_n 3, 1) := by decide +kernel
theorem dX10_use_2 : decode cX10_use 2 = .ok (.iload_n 3, 1) := by decide +kernel
theorem dX10_use_3 : decode cX10_use 3 = .ok (.iconst 3, 1) := by decide +kernel
theorem dX10_use_4 : decode cX10_use 4 = .ok (.if_icmp .ge 41, 3) := by decide +kernel
theorem dX10_use_7 : decode cX10_use 7 = .ok (.iload_n 1, 1) := by decide +kernel
theorem dX10_use_8 : decode cX10_use 8 = .ok (.bipush 40, 2) := by decide +kernel
theorem dX10_use_10 : decode cX10_use 10 = .ok (.if_icmp .ge 35, 3) := by decide +kernel
theorem dX10_use_13 : decode cX10_use 13 = .ok (.aload_n 0, 1) := by decide +kernel
theorem dX10_use_14 : decode cX10_use 14 = .ok (.getfield 108, 3) := by decide +kernel
theorem dX10_use_17 : decode cX10_use 17 = .ok (.iconst 3, 1) := by decide +kernel
theorem dX10_use_18 : decode cX10_use 18 = .ok (.iload_n 1, 1) := by decide +kernel
theorem dX10_use_19 : decode cX10_use 19 = .ok (.bipush 8, 2) := by decide +kernel
theorem dX10_use_21 : decode cX10_use 21 = .ok (.idiv, 1) := by decide +kernel
theorem dX10_use_22 : decode cX10_use 22 = .ok (.imul, 1) := by decide +kernel
theorem dX10_use_23 : decode cX10_use 23 = .ok (.iload_n 3, 1) := by decide +kernel
theorem dX10_use_24 : decode cX10_use 24 = .ok (.iadd, 1) := by decide +kernel
theorem dX10_use_25 : decode cX10_use 25 = .ok (.dup2, 1) := by decide +kernel
theorem dX10_use_26 : decode cX10_use 26 = .ok (.iaload, 1) := by decide +kernel
theorem dX10_use_27 : decode cX10_use 27 = .ok (.iload_n 1, 1) := by decide +kernel
theorem dX10_use_28 : decode cX10_use 28 = .ok (.bipush 8, 2) := by decide +kernel
theorem dX10_use_30 : decode cX10_use 30 = .ok (.irem, 1) := by decide +kernel
theorem dX10_use_31 : decode cX10_use 31 = .ok (.iload_n 3, 1) := by decide +kernel
theorem dX10_use_32 : decode cX10_use 32 = .ok (.ishr, 1) := by decide +kernel
theorem dX10_use_33 : decode cX10_use 33 = .ok (.iconst 1, 1) := by decide +kernel
theorem dX10_use_34 : decode cX10_use 34 = .ok (.iand, 1) := by decide +kernel
theorem dX10_use_35 : decode cX10_use 35 = .ok (.iload_n 2, 1) := by decide +kernel
theorem dX10_use_36 : decode cX10_use 36 = .ok (.imul, 1) := by decide +kernel
theorem dX10_use_37 : decode cX10_use 37 = .ok (.iadd, 1) := by decide +kernel
theorem dX10_use_38 : decode cX10_use 38 = .ok (.iastore, 1) := by decide +kernel
theorem dX10_use_39 : decode cX10_use 39 = .ok (.iinc 3 1, 3) := by decide +kernel
theorem dX10_use_42 : decode cX10_use 42 = .ok (.goto (-40), 3) := by decide +kernel
theorem dX10_use_45 : decode cX10_use 45 = .ok (.return_, 1) := by decide +kernel
end
section
theorem dX10_findRounds_0 : decode cX10_findRounds 0 = .ok (.aload_n 0, 1) := by decide +kernel
theorem dX10_findRounds_1 : decode cX10_findRounds 1 = .ok (.invokevirtual 238, 3) := by decide +kernel
theorem dX10_findRounds_4 : decode cX10_findRounds 4 = .ok (.iconst 0, 1) := by decide +kernel
theorem dX10_findRounds_5 : decode cX10_findRounds 5 = .ok (.istore_n 2, 1) := by decide +kernel
theorem dX10_findRounds_6 : decode cX10_findRounds 6 = .ok (.iload_n 2, 1) := by decide +kernel
theorem dX10_findRounds_7 : decode cX10_findRounds 7 = .ok (.bipush 15, 2) := by decide +kernel
theorem dX10_findRounds_9 : decode cX10_findRounds 9 = .ok (.if_icmp .ge 16, 3) := by decide +kernel
theorem dX10_findRounds_12 : decode cX10_findRounds 12 = .ok (.aload_n 0, 1) := by decide +kernel
theorem dX10_findRounds_13 : decode cX10_findRounds 13 = .ok (.getfield 108, 3) := by decide +kernel
theorem dX10_findRounds_16 : decode cX10_findRounds 16 = .ok (.iload_n 2, 1) := by decide +kernel
theorem dX10_findRounds_17 : decode cX10_findRounds 17 = .ok (.iconst 0, 1) := by decide +kernel
theorem dX10_findRounds_18 : decode cX10_findRounds 18 = .ok (.iastore, 1) := by decide +kernel
theorem dX10_findRounds_19 : decode cX10_findRounds 19 = .ok (.iinc 2 1, 3) := by decide +kernel
theorem dX10_findRounds_22 : decode cX10_findRounds 22 = .ok (.goto (-16), 3) := by decide +kernel
theorem dX10_findRounds_25 : decode cX10_findRounds 25 = .ok (.iconst (-1), 1) := by decide +kernel
theorem dX10_findRounds_26 : decode cX10_findRounds 26 = .ok (.istore_n 2, 1) := by decide +kernel
theorem dX10_findRounds_27 : decode cX10_findRounds 27 = .ok (.iconst 0, 1) := by decide +kernel
theorem dX10_findRounds_28 : decode cX10_findRounds 28 = .ok (.istore_n 3, 1) := by decide +kernel
theorem dX10_findRounds_29 : decode cX10_findRounds 29 = .ok (.aload_n 0, 1) := by decide +kernel
theorem dX10_findRounds_30 : decode cX10_findRounds 30 = .ok (.getfield 105, 3) := by decide +kernel
theorem dX10_findRounds_33 : decode cX10_findRounds 33 = .ok (.iconst 0, 1) := by decide +kernel
theorem dX10_findRounds_34 : decode cX10_findRounds 34 = .ok (.iconst 0, 1) := by decide +kernel
theorem dX10_findRounds_35 : decode cX10_findRounds 35 = .ok (.iastore, 1) := by decide +kernel
theorem dX10_findRounds_36 : decode cX10_findRounds 36 = .ok (.aload_n 0, 1) := by decide +kernel
theorem dX10_findRounds_37 : decode cX10_findRounds 37 = .ok (.getfield 99, 3) := by decide +kernel
theorem dX10_findRounds_40 : decode cX10_findRounds 40 = .ok (.iconst 0, 1) := by decide +kernel
theorem dX10_findRounds_41 : decode cX10_findRounds 41 = .ok (.iconst (-1), 1) := by decide +kernel
theorem dX10_findRounds_42 : decode cX10_findRounds 42 = .ok (.iastore, 1) := by decide +kernel
theorem dX10_findRounds_43 : decode cX10_findRounds 43 = .ok (.iload_n 3, 1) := by decide +kernel
theorem dX10_findRounds_44 : decode cX10_findRounds 44 = .ok (.ifCond .lt 226, 3) := by decide +kernel
theorem dX10_findRounds_47 : decode cX10_findRounds 47 = .ok (.iload_n 3, 1) := by decide +kernel
theorem dX10_findRounds_48 : decode cX10_findRounds 48 = .ok (.aload_n 0, 1) := by decide +kernel
theorem dX10_findRounds_49 : decode cX10_findRounds 49 = .ok (.getfield 232, 3) := by decide +kernel
theorem dX10_findRounds_52 : decode cX10_findRounds 52 = .ok (.if_icmp .ne 62, 3) := by decide +kernel
theorem dX10_findRounds_55 : decode cX10_findRounds 55 = .ok (.iload_n 2, 1) := by decide +kernel
theorem dX10_findRounds_56 : decode cX10_findRounds 56 = .ok (.ifCond .lt 13, 3) := by decide +kernel
theorem dX10_findRounds_59 : decode cX10_findRounds 59 = .ok (.aload_n 0, 1) := by decide +kernel
theorem dX10_findRounds_60 : decode cX10_findRounds 60 = .ok (.getfield 105, 3) := by decide +kernel
theorem dX10_findRounds_63 : decode cX10_findRounds 63 = .ok (.iload_n 3, 1) := by decide +kernel
theorem dX10_findRounds_64 : decode cX10_findRounds 64 = .ok (.iaload, 1) := by decide +kernel
theorem dX10_findRounds_65 : decode cX10_findRounds 65 = .ok (.iload_n 2, 1) := by decide +kernel
theorem dX10_findRounds_66 : decode cX10_findRounds 66 = .ok (.if_icmp .ge 42, 3) := by decide +kernel
theorem dX10_findRounds_69 : decode cX10_findRounds 69 = .ok (.aload_n 0, 1) := by decide +kernel
theorem dX10_findRounds_70 : decode cX10_findRounds 70 = .ok (.getfield 105, 3) := by decide +kernel
theorem dX10_findRounds_73 : decode cX10_findRounds 73 = .ok (.iload_n 3, 1) := by decide +kernel
theorem dX10_findRounds_74 : decode cX10_findRounds 74 = .ok (.iaload, 1) := by decide +kernel
theorem dX10_findRounds_75 : decode cX10_findRounds 75 = .ok (.istore_n 2, 1) := by decide +kernel
theorem dX10_findRounds_76 : decode cX10_findRounds 76 = .ok (.iconst 0, 1) := by decide +kernel
theorem dX10_findRounds_77 : decode cX10_findRounds 77 = .ok (.istore 4, 2) := by decide +kernel
theorem dX10_findRounds_79 : decode cX10_findRounds 79 = .ok (.iload 4, 2) := by decide +kernel
theorem dX10_findRounds_81 : decode cX10_findRounds 81 = .ok (.aload_n 0, 1) := by decide +kernel
theorem dX10_findRounds_82 : decode cX10_findRounds 82 = .ok (.getfield 232, 3) := by decide +kernel
theorem dX10_findRounds_85 : decode cX10_findRounds 85 = .ok (.if_icmp .ge 23, 3) := by decide +kernel
theorem dX10_findRounds_88 : decode cX10_findRounds 88 = .ok (.aload_n 0, 1) := by decide +kernel
theorem dX10_findRounds_89 : decode cX10_findRounds 89 = .ok (.getfield 102, 3) := by decide +kernel
theorem dX10_findRounds_92 : decode cX10_findRounds 92 = .ok (.iload 4, 2) := by decide +kernel
theorem dX10_findRounds_94 : decode cX10_findRounds 94 = .ok (.aload_n 0, 1) := by decide +kernel
theorem dX10_findRounds_95 : decode cX10_findRounds 95 = .ok (.getfield 99, 3) := by decide +kernel
theorem dX10_findRounds_98 : decode cX10_findRounds 98 = .ok (.iload 4, 2) := by decide +kernel
theorem dX10_findRounds_100 : decode cX10_findRounds 100 = .ok (.iaload, 1) := by decide +kernel
theorem dX10_findRounds_101 : decode cX10_findRounds 101 = .ok (.iastore, 1) := by decide +kernel
theorem dX10_findRounds_102 : decode cX10_findRounds 102 = .ok (.iinc 4 1, 3) := by decide +kernel
theorem dX10_findRounds_105 : decode cX10_findRounds 105 = .ok (.goto (-26), 3) := by decide +kernel
theorem dX10_findRounds_108 : decode cX10_findRounds 108 = .ok (.iinc 3 (-1), 3) := by decide +kernel
theorem dX10_findRounds_111 : decode cX10_findRounds 111 = .ok (.goto (-68), 3) := by decide +kernel
theorem dX10_findRounds_114 : decode cX10_findRounds 114 = .ok (.aload_n 0, 1) := by decide +kernel
theorem dX10_findRounds_115 : decode cX10_findRounds 115 = .ok (.getfield 99, 3) := by decide +kernel
theorem dX10_findRounds_118 : decode cX10_findRounds 118 = .ok (.iload_n 3, 1) := by decide +kernel
theorem dX10_findRounds_119 : decode cX10_findRounds 119 = .ok (.iaload, 1) := by decide +kernel
theorem dX10_findRounds_120 : decode cX10_findRounds 120 = .ok (.ifCond .lt 14, 3) := by decide +kernel
theorem dX10_findRounds_123 : decode cX10_findRounds 123 = .ok (.aload_n 0, 1) := by decide +kernel
theorem dX10_findRounds_124 : decode cX10_findRounds 124 = .ok (.aload_n 0, 1) := by decide +kernel
theorem dX10_findRounds_125 : decode cX10_findRounds 125 = .ok (.getfield 99, 3) := by decide +kernel
theorem dX10_findRounds_128 : decode cX10_findRounds 128 = .ok (.iload_n 3, 1) := by decide +kernel
theorem dX10_findRounds_129 : decode cX10_findRounds 129 = .ok (.iaload, 1) := by decide +kernel
theorem dX10_findRounds_130 : decode cX10_findRounds 130 = .ok (.iconst (-1), 1) := by decide +kernel
theorem dX10_findRounds_131 : decode cX10_findRounds 131 = .ok (.invokevirtual 241, 3) := by decide +kernel
theorem dX10_findRounds_134 : decode cX10_findRounds 134 = .ok (.aload_n 0, 1) := by decide +kernel
theorem dX10_findRounds_135 : decode cX10_findRounds 135 = .ok (.getfield 99, 3) := by decide +kernel
theorem dX10_findRounds_138 : decode cX10_findRounds 138 = .ok (.iload_n 3, 1) := by decide +kernel
theorem dX10_findRounds_139 : decode cX10_findRounds 139 = .ok (.iaload, 1) := by decide +kernel
theorem dX10_findRounds_140 : decode cX10_findRounds 140 = .ok (.iconst 1, 1) := by decide +kernel
theorem dX10_findRounds_141 : decode cX10_findRounds 141 = .ok (.iadd, 1) := by decide +kernel
theorem dX10_findRounds_142 : decode cX10_findRounds 142 = .ok (.istore 4, 2) := by decide +kernel
theorem dX10_findRounds_144 : decode cX10_findRounds 144 = .ok (.iload 4, 2) := by decide +kernel
theorem dX10_findRounds_146 : decode cX10_findRounds 146 = .ok (.bipush 40, 2) := by decide +kernel
theorem dX10_findRounds_148 : decode cX10_findRounds 148 = .ok (.if_icmp .gt 20, 3) := by decide +kernel
theorem dX10_findRounds_151 : decode cX10_findRounds 151 = .ok (.aload_n 0, 1) := by decide +kernel
theorem dX10_findRounds_152 : decode cX10_findRounds 152 = .ok (.iload_n 3, 1) := by decide +kernel
theorem dX10_findRounds_153 : decode cX10_findRounds 153 = .ok (.iload 4, 2) := by decide +kernel
theorem dX10_findRounds_155 : decode cX10_findRounds 155 = .ok (.iload_n 1, 1) := by decide +kernel
theorem dX10_findRounds_156 : decode cX10_findRounds 156 = .ok (.invokevirtual 245, 3) := by decide +kernel
theorem dX10_findRounds_159 : decode cX10_findRounds 159 = .ok (.ifCond .ne 9, 3) := by decide +kernel
theorem dX10_findRounds_162 : decode cX10_findRounds 162 = .ok (.iinc 4 1, 3) := by decide +kernel
theorem dX10_findRounds_165 : decode cX10_findRounds 165 = .ok (.goto (-21), 3) := by decide +kernel
theorem dX10_findRounds_168 : decode cX10_findRounds 168 = .ok (.iload 4, 2) := by decide +kernel
theorem dX10_findRounds_170 : decode cX10_findRounds 170 = .ok (.bipush 40, 2) := by decide +kernel
theorem dX10_findRounds_172 : decode cX10_findRounds 172 = .ok (.if_icmp .le 9, 3) := by decide +kernel
theorem dX10_findRounds_175 : decode cX10_findRounds 175 = .ok (.iinc 3 (-1), 3) := by decide +kernel
theorem dX10_findRounds_178 : decode cX10_findRounds 178 = .ok (.goto (-135), 3) := by decide +kernel
theorem dX10_findRounds_181 : decode cX10_findRounds 181 = .ok (.aload_n 0, 1) := by decide +kernel
theorem dX10_findRounds_182 : decode cX10_findRounds 182 = .ok (.getfield 99, 3) := by decide +kernel
theorem dX10_findRounds_185 : decode cX10_findRounds 185 = .ok (.iload_n 3, 1) := by decide +kernel
theorem dX10_findRounds_186 : decode cX10_findRounds 186 = .ok (.iload 4, 2) := by decide +kernel
theorem dX10_findRounds_188 : decode cX10_findRounds 188 = .ok (.iastore, 1) := by decide +kernel
theorem dX10_findRounds_189 : decode cX10_findRounds 189 = .ok (.aload_n 0, 1) := by decide +kernel
theorem dX10_findRounds_190 : decode cX10_findRounds 190 = .ok (.iload 4, 2) := by decide +kernel
theorem dX10_findRounds_192 : decode cX10_findRounds 192 = .ok (.iconst 1, 1) := by decide +kernel
theorem dX10_findRounds_193 : decode cX10_findRounds 193 = .ok (.invokevirtual 241, 3) := by decide +kernel
theorem dX10_findRounds_196 : decode cX10_findRounds 196 = .ok (.aload_n 0, 1) := by decide +kernel
theorem dX10_findRounds_197 : decode cX10_findRounds 197 = .ok (.getfield 105, 3) := by decide +kernel
theorem dX10_findRounds_200 : decode cX10_findRounds 200 = .ok (.iload_n 3, 1) := by decide +kernel
theorem dX10_findRounds_201 : decode cX10_findRounds 201 = .ok (.iconst 1, 1) := by decide +kernel
theorem dX10_findRounds_202 : decode cX10_findRounds 202 = .ok (.iadd, 1) := by decide +kernel
theorem dX10_findRounds_203 : decode cX10_findRounds 203 = .ok (.aload_n 0, 1) := by decide +kernel
theorem dX10_findRounds_204 : decode cX10_findRounds 204 = .ok (.getfield 105, 3) := by decide +kernel
theorem dX10_findRounds_207 : decode cX10_findRounds 207 = .ok (.iload_n 3, 1) := by decide +kernel
theorem dX10_findRounds_208 : decode cX10_findRounds 208 = .ok (.iaload, 1) := by decide +kernel
theorem dX10_findRounds_209 : decode cX10_findRounds 209 = .ok (.aload_n 0, 1) := by decide +kernel
theorem dX10_findRounds_210 : decode cX10_findRounds 210 = .ok (.getfield 93, 3) := by decide +kernel
theorem dX10_findRounds_213 : decode cX10_findRounds 213 = .ok (.bipush 6, 2) := by decide +kernel
theorem dX10_findRounds_215 : decode cX10_findRounds 215 = .ok (.iload_n 3, 1) := by decide +kernel
theorem dX10_findRounds_216 : decode cX10_findRounds 216 = .ok (.imul, 1) := by decide +kernel
theorem dX10_findRounds_217 : decode cX10_findRounds 217 = .ok (.iload 4, 2) := by decide +kernel
theorem dX10_findRounds_219 : decode cX10_findRounds 219 = .ok (.bipush 8, 2) := by decide +kernel
theorem dX10_findRounds_221 : decode cX10_findRounds 221 = .ok (.idiv, 1) := by decide +kernel
theorem dX10_findRounds_222 : decode cX10_findRounds 222 = .ok (.iadd, 1) := by decide +kernel
theorem dX10_findRounds_223 : decode cX10_findRounds 223 = .ok (.iaload, 1) := by decide +kernel
theorem dX10_findRounds_224 : decode cX10_findRounds 224 = .ok (.iadd, 1) := by decide +kernel
theorem dX10_findRounds_225 : decode cX10_findRounds 225 = .ok (.iastore, 1) := by decide +kernel
theorem dX10_findRounds_226 : decode cX10_findRounds 226 = .ok (.iload_n 2, 1) := by decide +kernel
theorem dX10_findRounds_227 : decode cX10_findRounds 227 = .ok (.ifCond .lt 24, 3) := by decide +kernel
theorem dX10_findRounds_230 : decode cX10_findRounds 230 = .ok (.aload_n 0, 1) := by decide +kernel
theorem dX10_findRounds_231 : decode cX10_findRounds 231 = .ok (.getfield 105, 3) := by decide +kernel
theorem dX10_findRounds_234 : decode cX10_findRounds 234 = .ok (.iload_n 3, 1) := by decide +kernel
theorem dX10_findRounds_235 : decode cX10_findRounds 235 = .ok (.iconst 1, 1) := by decide +kernel
theorem dX10_findRounds_236 : decode cX10_findRounds 236 = .ok (.iadd, 1) := by decide +kernel
theorem dX10_findRounds_237 : decode cX10_findRounds 237 = .ok (.iaload, 1) := by decide +kernel
theorem dX10_findRounds_238 : decode cX10_findRounds 238 = .ok (.aload_n 0, 1) := by decide +kernel
theorem dX10_findRounds_239 : decode cX10_findRounds 239 = .ok (.getfield 96, 3) := by decide +kernel
theorem dX10_findRounds_242 : decode cX10_findRounds 242 = .ok (.iload_n 3, 1) := by decide +kernel
theorem dX10_findRounds_243 : decode cX10_findRounds 243 = .ok (.iconst 1, 1) := by decide +kernel
theorem dX10_findRounds_244 : decode cX10_findRounds 244 = .ok (.iadd, 1) := by decide +kernel
theorem dX10_findRounds_245 : decode cX10_findRounds 245 = .ok (.iaload, 1) := by decide +kernel
theorem dX10_findRounds_246 : decode cX10_findRounds 246 = .ok (.iadd, 1) := by decide +kernel
theorem dX10_findRounds_247 : decode cX10_findRounds 247 = .ok (.iload_n 2, 1) := by decide +kernel
theorem dX10_findRounds_248 : decode cX10_findRounds 248 = .ok (.if_icmp .ge 19, 3) := by decide +kernel
theorem dX10_findRounds_251 : decode cX10_findRounds 251 = .ok (.iinc 3 1, 3) := by decide +kernel
theorem dX10_findRounds_254 : decode cX10_findRounds 254 = .ok (.iload_n 3, 1) := by decide +kernel
theorem dX10_findRounds_255 : decode cX10_findRounds 255 = .ok (.bipush 6, 2) := by decide +kernel
theorem dX10_findRounds_257 : decode cX10_findRounds 257 = .ok (.if_icmp .ge 10, 3) := by decide +kernel
theorem dX10_findRounds_260 : decode cX10_findRounds 260 = .ok (.aload_n 0, 1) := by decide +kernel
theorem dX10_findRounds_261 : decode cX10_findRounds 261 = .ok (.getfield 99, 3) := by decide +kernel
theorem dX10_findRounds_264 : decode cX10_findRounds 264 = .ok (.iload_n 3, 1) := by decide +kernel
theorem dX10_findRounds_265 : decode cX10_findRounds 265 = .ok (.iconst (-1), 1) := by decide +kernel
theorem dX10_findRounds_266 : decode cX10_findRounds 266 = .ok (.iastore, 1) := by decide +kernel
theorem dX10_findRounds_267 : decode cX10_findRounds 267 = .ok (.goto (-224), 3) := by decide +kernel
theorem dX10_findRounds_270 : decode cX10_findRounds 270 = .ok (.iload_n 2, 1) := by decide +kernel
theorem dX10_findRounds_271 : decode cX10_findRounds 271 = .ok (.ireturn, 1) := by decide +kernel
theorem dX10_wrongRounds_0 : decode cX10_wrongRounds 0 = .ok (.iload_n 1, 1) := by decide +kernel
theorem dX10_wrongRounds_1 : decode cX10_wrongRounds 1 = .ok (.iconst 1, 1) := by decide +kernel
theorem dX10_wrongRounds_2 : decode cX10_wrongRounds 2 = .ok (.if_icmp .ge 8, 3) := by decide +kernel
theorem dX10_wrongRounds_5 : decode cX10_wrongRounds 5 = .ok (.bipush (-4), 2) := by decide +kernel
theorem dX10_wrongRounds_7 : decode cX10_wrongRounds 7 = .ok (.goto 27, 3) := by decide +kernel
theorem dX10_wrongRounds_10 : decode cX10_wrongRounds 10 = .ok (.iload_n 1, 1) := by decide +kernel
theorem dX10_wrongRounds_11 : decode cX10_wrongRounds 11 = .ok (.iconst 3, 1) := by decide +kernel
theorem dX10_wrongRounds_12 : decode cX10_wrongRounds 12 = .ok (.if_icmp .gt 16, 3) := by decide +kernel
theorem dX10_wrongRounds_15 : decode cX10_wrongRounds 15 = .ok (.aload_n 0, 1) := by decide +kernel
theorem dX10_wrongRounds_16 : decode cX10_wrongRounds 16 = .ok (.getfield 179, 3) := by decide +kernel
theorem dX10_wrongRounds_19 : decode cX10_wrongRounds 19 = .ok (.bipush 7, 2) := by decide +kernel
theorem dX10_wrongRounds_21 : decode cX10_wrongRounds 21 = .ok (.iadd, 1) := by decide +kernel
theorem dX10_wrongRounds_22 : decode cX10_wrongRounds 22 = .ok (.sipush 1500, 3) := by decide +kernel
theorem dX10_wrongRounds_25 : decode cX10_wrongRounds 25 = .ok (.if_icmp .le 8, 3) := by decide +kernel
theorem dX10_wrongRounds_28 : decode cX10_wrongRounds 28 = .ok (.bipush (-6), 2) := by decide +kernel
theorem dX10_wrongRounds_30 : decode cX10_wrongRounds 30 = .ok (.goto 4, 3) := by decide +kernel
theorem dX10_wrongRounds_33 : decode cX10_wrongRounds 33 = .ok (.iconst 0, 1) := by decide +kernel
theorem dX10_wrongRounds_34 : decode cX10_wrongRounds 34 = .ok (.ireturn, 1) := by decide +kernel
theorem dX10_rounds_0 : decode cX10_rounds 0 = .ok (.aload_n 0, 1) := by decide +kernel
theorem dX10_rounds_1 : decode cX10_rounds 1 = .ok (.iload_n 1, 1) := by decide +kernel
theorem dX10_rounds_2 : decode cX10_rounds 2 = .ok (.invokevirtual 248, 3) := by decide +kernel
theorem dX10_rounds_5 : decode cX10_rounds 5 = .ok (.istore_n 2, 1) := by decide +kernel
theorem dX10_rounds_6 : decode cX10_rounds 6 = .ok (.iload_n 2, 1) := by decide +kernel
theorem dX10_rounds_7 : decode cX10_rounds 7 = .ok (.ifCond .ge 11, 3) := by decide +kernel
theorem dX10_rounds_10 : decode cX10_rounds 10 = .ok (.aload_n 0, 1) := by decide +kernel
theorem dX10_rounds_11 : decode cX10_rounds 11 = .ok (.iload_n 2, 1) := by decide +kernel
theorem dX10_rounds_12 : decode cX10_rounds 12 = .ok (.invokevirtual 175, 3) := by decide +kernel
theorem dX10_rounds_15 : decode cX10_rounds 15 = .ok (.goto 8, 3) := by decide +kernel
theorem dX10_rounds_18 : decode cX10_rounds 18 = .ok (.aload_n 0, 1) := by decide +kernel
theorem dX10_rounds_19 : decode cX10_rounds 19 = .ok (.iload_n 1, 1) := by decide +kernel
theorem dX10_rounds_20 : decode cX10_rounds 20 = .ok (.invokevirtual 251, 3) := by decide +kernel
theorem dX10_rounds_23 : decode cX10_rounds 23 = .ok (.ireturn, 1) := by decide +kernel
theorem dX10_roundOf_0 : decode cX10_roundOf 0 = .ok (.aload_n 0, 1) := by decide +kernel
theorem dX10_roundOf_1 : decode cX10_roundOf 1 = .ok (.iload_n 2, 1) := by decide +kernel
theorem dX10_roundOf_2 : decode cX10_roundOf 2 = .ok (.invokevirtual 196, 3) := by decide +kernel
theorem dX10_roundOf_5 : decode cX10_roundOf 5 = .ok (.ifCond .ne 9, 3) := by decide +kernel
theorem dX10_roundOf_8 : decode cX10_roundOf 8 = .ok (.aload_n 0, 1) := by decide +kernel
theorem dX10_roundOf_9 : decode cX10_roundOf 9 = .ok (.iconst (-1), 1) := by decide +kernel
theorem dX10_roundOf_10 : decode cX10_roundOf 10 = .ok (.invokevirtual 175, 3) := by decide +kernel
theorem dX10_roundOf_13 : decode cX10_roundOf 13 = .ok (.ireturn, 1) := by decide +kernel
theorem dX10_roundOf_14 : decode cX10_roundOf 14 = .ok (.iload_n 3, 1) := by decide +kernel
theorem dX10_roundOf_15 : decode cX10_roundOf 15 = .ok (.iconst 0, 1) := by decide +kernel
theorem dX10_roundOf_16 : decode cX10_roundOf 16 = .ok (.iconst 1, 1) := by decide +kernel
theorem dX10_roundOf_17 : decode cX10_roundOf 17 = .ok (.invokestatic 168, 3) := by decide +kernel
theorem dX10_roundOf_20 : decode cX10_roundOf 20 = .ok (.ifCond .ne 10, 3) := by decide +kernel
theorem dX10_roundOf_23 : decode cX10_roundOf 23 = .ok (.aload_n 0, 1) := by decide +kernel
theorem dX10_roundOf_24 : decode cX10_roundOf 24 = .ok (.bipush (-2), 2) := by decide +kernel
theorem dX10_roundOf_26 : decode cX10_roundOf 26 = .ok (.invokevirtual 175, 3) := by decide +kernel
theorem dX10_roundOf_29 : decode cX10_roundOf 29 = .ok (.ireturn, 1) := by decide +kernel
theorem dX10_roundOf_30 : decode cX10_roundOf 30 = .ok (.aload_n 0, 1) := by decide +kernel
theorem dX10_roundOf_31 : decode cX10_roundOf 31 = .ok (.iload_n 1, 1) := by decide +kernel
theorem dX10_roundOf_32 : decode cX10_roundOf 32 = .ok (.invokevirtual 248, 3) := by decide +kernel
theorem dX10_roundOf_35 : decode cX10_roundOf 35 = .ok (.istore 4, 2) := by decide +kernel
theorem dX10_roundOf_37 : decode cX10_roundOf 37 = .ok (.iload 4, 2) := by decide +kernel
theorem dX10_roundOf_39 : decode cX10_roundOf 39 = .ok (.ifCond .ge 10, 3) := by decide +kernel
theorem dX10_roundOf_42 : decode cX10_roundOf 42 = .ok (.aload_n 0, 1) := by decide +kernel
theorem dX10_roundOf_43 : decode cX10_roundOf 43 = .ok (.iload 4, 2) := by decide +kernel
theorem dX10_roundOf_45 : decode cX10_roundOf 45 = .ok (.invokevirtual 175, 3) := by decide +kernel
theorem dX10_roundOf_48 : decode cX10_roundOf 48 = .ok (.ireturn, 1) := by decide +kernel
theorem dX10_roundOf_49 : decode cX10_roundOf 49 = .ok (.aload_n 0, 1) := by decide +kernel
theorem dX10_roundOf_50 : decode cX10_roundOf 50 = .ok (.iload_n 1, 1) := by decide +kernel
theorem dX10_roundOf_51 : decode cX10_roundOf 51 = .ok (.invokevirtual 251, 3) := by decide +kernel
theorem dX10_roundOf_54 : decode cX10_roundOf 54 = .ok (.istore 5, 2) := by decide +kernel
theorem dX10_roundOf_56 : decode cX10_roundOf 56 = .ok (.bipush 40, 2) := by decide +kernel
theorem dX10_roundOf_58 : decode cX10_roundOf 58 = .ok (.istore 6, 2) := by decide +kernel
theorem dX10_roundOf_60 : decode cX10_roundOf 60 = .ok (.iconst 0, 1) := by decide +kernel
theorem dX10_roundOf_61 : decode cX10_roundOf 61 = .ok (.istore 7, 2) := by decide +kernel
theorem dX10_roundOf_63 : decode cX10_roundOf 63 = .ok (.iload 7, 2) := by decide +kernel
theorem dX10_roundOf_65 : decode cX10_roundOf 65 = .ok (.aload_n 0, 1) := by decide +kernel
theorem dX10_roundOf_66 : decode cX10_roundOf 66 = .ok (.getfield 232, 3) := by decide +kernel
theorem dX10_roundOf_69 : decode cX10_roundOf 69 = .ok (.if_icmp .ge 34, 3) := by decide +kernel
theorem dX10_roundOf_72 : decode cX10_roundOf 72 = .ok (.aload_n 0, 1) := by decide +kernel
theorem dX10_roundOf_73 : decode cX10_roundOf 73 = .ok (.getfield 90, 3) := by decide +kernel
theorem dX10_roundOf_76 : decode cX10_roundOf 76 = .ok (.iload 7, 2) := by decide +kernel
theorem dX10_roundOf_78 : decode cX10_roundOf 78 = .ok (.iaload, 1) := by decide +kernel
theorem dX10_roundOf_79 : decode cX10_roundOf 79 = .ok (.iload_n 2, 1) := by decide +kernel
theorem dX10_roundOf_80 : decode cX10_roundOf 80 = .ok (.if_icmp .ne 13, 3) := by decide +kernel
theorem dX10_roundOf_83 : decode cX10_roundOf 83 = .ok (.aload_n 0, 1) := by decide +kernel
theorem dX10_roundOf_84 : decode cX10_roundOf 84 = .ok (.getfield 102, 3) := by decide +kernel
theorem dX10_roundOf_87 : decode cX10_roundOf 87 = .ok (.iload 7, 2) := by decide +kernel
theorem dX10_roundOf_89 : decode cX10_roundOf 89 = .ok (.iaload, 1) := by decide +kernel
theorem dX10_roundOf_90 : decode cX10_roundOf 90 = .ok (.goto 5, 3) := by decide +kernel
theorem dX10_roundOf_93 : decode cX10_roundOf 93 = .ok (.iload 6, 2) := by decide +kernel
theorem dX10_roundOf_95 : decode cX10_roundOf 95 = .ok (.istore 6, 2) := by decide +kernel
theorem dX10_roundOf_97 : decode cX10_roundOf 97 = .ok (.iinc 7 1, 3) := by decide +kernel
theorem dX10_roundOf_100 : decode cX10_roundOf 100 = .ok (.goto (-37), 3) := by decide +kernel
theorem dX10_roundOf_103 : decode cX10_roundOf 103 = .ok (.iload 6, 2) := by decide +kernel
theorem dX10_roundOf_105 : decode cX10_roundOf 105 = .ok (.bipush 40, 2) := by decide +kernel
theorem dX10_roundOf_107 : decode cX10_roundOf 107 = .ok (.if_icmp .ne 16, 3) := by decide +kernel
theorem dX10_roundOf_110 : decode cX10_roundOf 110 = .ok (.iload_n 3, 1) := by decide +kernel
theorem dX10_roundOf_111 : decode cX10_roundOf 111 = .ok (.ifCond .ne 8, 3) := by decide +kernel
theorem dX10_roundOf_114 : decode cX10_roundOf 114 = .ok (.bipush (-9), 2) := by decide +kernel
theorem dX10_roundOf_116 : decode cX10_roundOf 116 = .ok (.goto 29, 3) := by decide +kernel
theorem dX10_roundOf_119 : decode cX10_roundOf 119 = .ok (.iconst 0, 1) := by decide +kernel
theorem dX10_roundOf_120 : decode cX10_roundOf 120 = .ok (.goto 25, 3) := by decide +kernel
theorem dX10_roundOf_123 : decode cX10_roundOf 123 = .ok (.iload_n 3, 1) := by decide +kernel
theorem dX10_roundOf_124 : decode cX10_roundOf 124 = .ok (.ifCond .ne 16, 3) := by decide +kernel
theorem dX10_roundOf_127 : decode cX10_roundOf 127 = .ok (.aload_n 0, 1) := by decide +kernel
theorem dX10_roundOf_128 : decode cX10_roundOf 128 = .ok (.getfield 179, 3) := by decide +kernel
theorem dX10_roundOf_131 : decode cX10_roundOf 131 = .ok (.iload 6, 2) := by decide +kernel
theorem dX10_roundOf_133 : decode cX10_roundOf 133 = .ok (.bipush 8, 2) := by decide +kernel
theorem dX10_roundOf_135 : decode cX10_roundOf 135 = .ok (.idiv, 1) := by decide +kernel
theorem dX10_roundOf_136 : decode cX10_roundOf 136 = .ok (.iadd, 1) := by decide +kernel
theorem dX10_roundOf_137 : decode cX10_roundOf 137 = .ok (.goto 8, 3) := by decide +kernel
theorem dX10_roundOf_140 : decode cX10_roundOf 140 = .ok (.iload 6, 2) := by decide +kernel
theorem dX10_roundOf_142 : decode cX10_roundOf 142 = .ok (.bipush 8, 2) := by decide +kernel
theorem dX10_roundOf_144 : decode cX10_roundOf 144 = .ok (.irem, 1) := by decide +kernel
theorem dX10_roundOf_145 : decode cX10_roundOf 145 = .ok (.ireturn, 1) := by decide +kernel
theorem dX10_isDouble_0 : decode cX10_isDouble 0 = .ok (.aload_n 0, 1) := by decide +kernel
theorem dX10_isDouble_1 : decode cX10_isDouble 1 = .ok (.getfield 53, 3) := by decide +kernel
theorem dX10_isDouble_4 : decode cX10_isDouble 4 = .ok (.iload_n 1, 1) := by decide +kernel
theorem dX10_isDouble_5 : decode cX10_isDouble 5 = .ok (.iaload, 1) := by decide +kernel
theorem dX10_isDouble_6 : decode cX10_isDouble 6 = .ok (.aload_n 0, 1) := by decide +kernel
theorem dX10_isDouble_7 : decode cX10_isDouble 7 = .ok (.getfield 53, 3) := by decide +kernel
theorem dX10_isDouble_10 : decode cX10_isDouble 10 = .ok (.iload_n 2, 1) := by decide +kernel
theorem dX10_isDouble_11 : decode cX10_isDouble 11 = .ok (.iaload, 1) := by decide +kernel
theorem dX10_isDouble_12 : decode cX10_isDouble 12 = .ok (.if_icmp .ne 61, 3) := by decide +kernel
theorem dX10_isDouble_15 : decode cX10_isDouble 15 = .ok (.aload_n 0, 1) := by decide +kernel
theorem dX10_isDouble_16 : decode cX10_isDouble 16 = .ok (.getfield 59, 3) := by decide +kernel
theorem dX10_isDouble_19 : decode cX10_isDouble 19 = .ok (.iload_n 1, 1) := by decide +kernel
theorem dX10_isDouble_20 : decode cX10_isDouble 20 = .ok (.iaload, 1) := by decide +kernel
theorem dX10_isDouble_21 : decode cX10_isDouble 21 = .ok (.aload_n 0, 1) := by decide +kernel
theorem dX10_isDouble_22 : decode cX10_isDouble 22 = .ok (.getfield 59, 3) := by decide +kernel
theorem dX10_isDouble_25 : decode cX10_isDouble 25 = .ok (.iload_n 2, 1) := by decide +kernel
theorem dX10_isDouble_26 : decode cX10_isDouble 26 = .ok (.iaload, 1) := by decide +kernel
theorem dX10_isDouble_27 : decode cX10_isDouble 27 = .ok (.if_icmp .ne 46, 3) := by decide +kernel
theorem dX10_isDouble_30 : decode cX10_isDouble 30 = .ok (.aload_n 0, 1) := by decide +kernel
theorem dX10_isDouble_31 : decode cX10_isDouble 31 = .ok (.getfield 56, 3) := by decide +kernel
theorem dX10_isDouble_34 : decode cX10_isDouble 34 = .ok (.iload_n 1, 1) := by decide +kernel
theorem dX10_isDouble_35 : decode cX10_isDouble 35 = .ok (.iaload, 1) := by decide +kernel
theorem dX10_isDouble_36 : decode cX10_isDouble 36 = .ok (.aload_n 0, 1) := by decide +kernel
theorem dX10_isDouble_37 : decode cX10_isDouble 37 = .ok (.getfield 56, 3) := by decide +kernel
theorem dX10_isDouble_40 : decode cX10_isDouble 40 = .ok (.iload_n 2, 1) := by decide +kernel
theorem dX10_isDouble_41 : decode cX10_isDouble 41 = .ok (.iaload, 1) := by decide +kernel
theorem dX10_isDouble_42 : decode cX10_isDouble 42 = .ok (.if_icmp .eq 31, 3) := by decide +kernel
theorem dX10_isDouble_45 : decode cX10_isDouble 45 = .ok (.aload_n 0, 1) := by decide +kernel
theorem dX10_isDouble_46 : decode cX10_isDouble 46 = .ok (.iload_n 1, 1) := by decide +kernel
theorem dX10_isDouble_47 : decode cX10_isDouble 47 = .ok (.aload_n 0, 1) := by decide +kernel
theorem dX10_isDouble_48 : decode cX10_isDouble 48 = .ok (.getfield 179, 3) := by decide +kernel
theorem dX10_isDouble_51 : decode cX10_isDouble 51 = .ok (.invokevirtual 208, 3) := by decide +kernel
theorem dX10_isDouble_54 : decode cX10_isDouble 54 = .ok (.ifCond .eq 19, 3) := by decide +kernel
theorem dX10_isDouble_57 : decode cX10_isDouble 57 = .ok (.aload_n 0, 1) := by decide +kernel
theorem dX10_isDouble_58 : decode cX10_isDouble 58 = .ok (.iload_n 2, 1) := by decide +kernel
theorem dX10_isDouble_59 : decode cX10_isDouble 59 = .ok (.aload_n 0, 1) := by decide +kernel
theorem dX10_isDouble_60 : decode cX10_isDouble 60 = .ok (.getfield 179, 3) := by decide +kernel
theorem dX10_isDouble_63 : decode cX10_isDouble 63 = .ok (.invokevirtual 208, 3) := by decide +kernel
theorem dX10_isDouble_66 : decode cX10_isDouble 66 = .ok (.ifCond .eq 7, 3) := by decide +kernel
theorem dX10_isDouble_69 : decode cX10_isDouble 69 = .ok (.iconst 1, 1) := by decide +kernel
theorem dX10_isDouble_70 : decode cX10_isDouble 70 = .ok (.goto 4, 3) := by decide +kernel
theorem dX10_isDouble_73 : decode cX10_isDouble 73 = .ok (.iconst 0, 1) := by decide +kernel
theorem dX10_isDouble_74 : decode cX10_isDouble 74 = .ok (.ireturn, 1) := by decide +kernel
theorem dX10_doubles_0 : decode cX10_doubles 0 = .ok (.iconst 0, 1) := by decide +kernel
theorem dX10_doubles_1 : decode cX10_doubles 1 = .ok (.istore_n 1, 1) := by decide +kernel
theorem dX10_doubles_2 : decode cX10_doubles 2 = .ok (.iconst 0, 1) := by decide +kernel
theorem dX10_doubles_3 : decode cX10_doubles 3 = .ok (.istore_n 2, 1) := by decide +kernel
theorem dX10_doubles_4 : decode cX10_doubles 4 = .ok (.iload_n 2, 1) := by decide +kernel
theorem dX10_doubles_5 : decode cX10_doubles 5 = .ok (.aload_n 0, 1) := by decide +kernel
theorem dX10_doubles_6 : decode cX10_doubles 6 = .ok (.getfield 172, 3) := by decide +kernel
theorem dX10_doubles_9 : decode cX10_doubles 9 = .ok (.if_icmp .ge 39, 3) := by decide +kernel
theorem dX10_doubles_12 : decode cX10_doubles 12 = .ok (.iconst 0, 1) := by decide +kernel
theorem dX10_doubles_13 : decode cX10_doubles 13 = .ok (.istore_n 3, 1) := by decide +kernel
theorem dX10_doubles_14 : decode cX10_doubles 14 = .ok (.iload_n 3, 1) := by decide +kernel
theorem dX10_doubles_15 : decode cX10_doubles 15 = .ok (.iload_n 2, 1) := by decide +kernel
theorem dX10_doubles_16 : decode cX10_doubles 16 = .ok (.if_icmp .ge 26, 3) := by decide +kernel
theorem dX10_doubles_19 : decode cX10_doubles 19 = .ok (.iload_n 1, 1) := by decide +kernel
theorem dX10_doubles_20 : decode cX10_doubles 20 = .ok (.aload_n 0, 1) := by decide +kernel
theorem dX10_doubles_21 : decode cX10_doubles 21 = .ok (.iload_n 2, 1) := by decide +kernel
theorem dX10_doubles_22 : decode cX10_doubles 22 = .ok (.iload_n 3, 1) := by decide +kernel
theorem dX10_doubles_23 : decode cX10_doubles 23 = .ok (.invokevirtual 254, 3) := by decide +kernel
theorem dX10_doubles_26 : decode cX10_doubles 26 = .ok (.ifCond .eq 7, 3) := by decide +kernel
theorem dX10_doubles_29 : decode cX10_doubles 29 = .ok (.iconst 1, 1) := by decide +kernel
theorem dX10_doubles_30 : decode cX10_doubles 30 = .ok (.goto 4, 3) := by decide +kernel
theorem dX10_doubles_33 : decode cX10_doubles 33 = .ok (.iconst 0, 1) := by decide +kernel
theorem dX10_doubles_34 : decode cX10_doubles 34 = .ok (.iadd, 1) := by decide +kernel
theorem dX10_doubles_35 : decode cX10_doubles 35 = .ok (.istore_n 1, 1) := by decide +kernel
theorem dX10_doubles_36 : decode cX10_doubles 36 = .ok (.iinc 3 1, 3) := by decide +kernel
theorem dX10_doubles_39 : decode cX10_doubles 39 = .ok (.goto (-25), 3) := by decide +kernel
theorem dX10_doubles_42 : decode cX10_doubles 42 = .ok (.iinc 2 1, 3) := by decide +kernel
theorem dX10_doubles_45 : decode cX10_doubles 45 = .ok (.goto (-41), 3) := by decide +kernel
theorem dX10_doubles_48 : decode cX10_doubles 48 = .ok (.iload_n 1, 1) := by decide +kernel
theorem dX10_doubles_49 : decode cX10_doubles 49 = .ok (.ireturn, 1) := by decide +kernel
theorem dX10_findDoubles_0 : decode cX10_findDoubles 0 = .ok (.iconst 0, 1) := by decide +kernel
theorem dX10_findDoubles_1 : decode cX10_findDoubles 1 = .ok (.istore_n 1, 1) := by decide +kernel
theorem dX10_findDoubles_2 : decode cX10_findDoubles 2 = .ok (.iload_n 1, 1) := by decide +kernel
theorem dX10_findDoubles_3 : decode cX10_findDoubles 3 = .ok (.bipush 25, 2) := by decide +kernel
theorem dX10_findDoubles_5 : decode cX10_findDoubles 5 = .ok (.if_icmp .ge 16, 3) := by decide +kernel
theorem dX10_findDoubles_8 : decode cX10_findDoubles 8 = .ok (.aload_n 0, 1) := by decide +kernel
theorem dX10_findDoubles_9 : decode cX10_findDoubles 9 = .ok (.getfield 111, 3) := by decide +kernel
theorem dX10_findDoubles_12 : decode cX10_findDoubles 12 = .ok (.iload_n 1, 1) := by decide +kernel
theorem dX10_findDoubles_13 : decode cX10_findDoubles 13 = .ok (.lconst 0, 1) := by decide +kernel
theorem dX10_findDoubles_14 : decode cX10_findDoubles 14 = .ok (.lastore, 1) := by decide +kernel
theorem dX10_findDoubles_15 : decode cX10_findDoubles 15 = .ok (.iinc 1 1, 3) := by decide +kernel
theorem dX10_findDoubles_18 : decode cX10_findDoubles 18 = .ok (.goto (-16), 3) := by decide +kernel
theorem dX10_findDoubles_21 : decode cX10_findDoubles 21 = .ok (.iconst 0, 1) := by decide +kernel
theorem dX10_findDoubles_22 : decode cX10_findDoubles 22 = .ok (.istore_n 1, 1) := by decide +kernel
theorem dX10_findDoubles_23 : decode cX10_findDoubles 23 = .ok (.iload_n 1, 1) := by decide +kernel
theorem dX10_findDoubles_24 : decode cX10_findDoubles 24 = .ok (.iconst 5, 1) := by decide +kernel
theorem dX10_findDoubles_25 : decode cX10_findDoubles 25 = .ok (.if_icmp .ge 23, 3) := by decide +kernel
theorem dX10_findDoubles_28 : decode cX10_findDoubles 28 = .ok (.aload_n 0, 1) := by decide +kernel
theorem dX10_findDoubles_29 : decode cX10_findDoubles 29 = .ok (.getfield 115, 3) := by decide +kernel
theorem dX10_findDoubles_32 : decode cX10_findDoubles 32 = .ok (.iload_n 1, 1) := by decide +kernel
theorem dX10_findDoubles_33 : decode cX10_findDoubles 33 = .ok (.lconst 0, 1) := by decide +kernel
theorem dX10_findDoubles_34 : decode cX10_findDoubles 34 = .ok (.lastore, 1) := by decide +kernel
theorem dX10_findDoubles_35 : decode cX10_findDoubles 35 = .ok (.aload_n 0, 1) := by decide +kernel
theorem dX10_findDoubles_36 : decode cX10_findDoubles 36 = .ok (.getfield 118, 3) := by decide +kernel
theorem dX10_findDoubles_39 : decode cX10_findDoubles 39 = .ok (.iload_n 1, 1) := by decide +kernel
theorem dX10_findDoubles_40 : decode cX10_findDoubles 40 = .ok (.iload_n 1, 1) := by decide +kernel
theorem dX10_findDoubles_41 : decode cX10_findDoubles 41 = .ok (.iastore, 1) := by decide +kernel
theorem dX10_findDoubles_42 : decode cX10_findDoubles 42 = .ok (.iinc 1 1, 3) := by decide +kernel
theorem dX10_findDoubles_45 : decode cX10_findDoubles 45 = .ok (.goto (-22), 3) := by decide +kernel
theorem dX10_findDoubles_48 : decode cX10_findDoubles 48 = .ok (.iconst 0, 1) := by decide +kernel
theorem dX10_findDoubles_49 : decode cX10_findDoubles 49 = .ok (.istore_n 1, 1) := by decide +kernel
theorem dX10_findDoubles_50 : decode cX10_findDoubles 50 = .ok (.iload_n 1, 1) := by decide +kernel
theorem dX10_findDoubles_51 : decode cX10_findDoubles 51 = .ok (.aload_n 0, 1) := by decide +kernel
theorem dX10_findDoubles_52 : decode cX10_findDoubles 52 = .ok (.getfield 172, 3) := by decide +kernel
theorem dX10_findDoubles_55 : decode cX10_findDoubles 55 = .ok (.if_icmp .ge 125, 3) := by decide +kernel
theorem dX10_findDoubles_58 : decode cX10_findDoubles 58 = .ok (.iconst 0, 1) := by decide +kernel
theorem dX10_findDoubles_59 : decode cX10_findDoubles 59 = .ok (.istore_n 2, 1) := by decide +kernel
theorem dX10_findDoubles_60 : decode cX10_findDoubles 60 = .ok (.iload_n 2, 1) := by decide +kernel
theorem dX10_findDoubles_61 : decode cX10_findDoubles 61 = .ok (.iload_n 1, 1) := by decide +kernel
theorem dX10_findDoubles_62 : decode cX10_findDoubles 62 = .ok (.if_icmp .ge 112, 3) := by decide +kernel
theorem dX10_findDoubles_65 : decode cX10_findDoubles 65 = .ok (.aload_n 0, 1) := by decide +kernel
theorem dX10_findDoubles_66 : decode cX10_findDoubles 66 = .ok (.iload_n 1, 1) := by decide +kernel
theorem dX10_findDoubles_67 : decode cX10_findDoubles 67 = .ok (.iload_n 2, 1) := by decide +kernel
theorem dX10_findDoubles_68 : decode cX10_findDoubles 68 = .ok (.invokevirtual 254, 3) := by decide +kernel
theorem dX10_findDoubles_71 : decode cX10_findDoubles 71 = .ok (.ifCond .eq 97, 3) := by decide +kernel
theorem dX10_findDoubles_74 : decode cX10_findDoubles 74 = .ok (.aload_n 0, 1) := by decide +kernel
theorem dX10_findDoubles_75 : decode cX10_findDoubles 75 = .ok (.getfield 56, 3) := by decide +kernel
theorem dX10_findDoubles_78 : decode cX10_findDoubles 78 = .ok (.iload_n 1, 1) := by decide +kernel
theorem dX10_findDoubles_79 : decode cX10_findDoubles 79 = .ok (.iaload, 1) := by decide +kernel
theorem dX10_findDoubles_80 : decode cX10_findDoubles 80 = .ok (.istore_n 3, 1) := by decide +kernel
theorem dX10_findDoubles_81 : decode cX10_findDoubles 81 = .ok (.aload_n 0, 1) := by decide +kernel
theorem dX10_findDoubles_82 : decode cX10_findDoubles 82 = .ok (.getfield 56, 3) := by decide +kernel
theorem dX10_findDoubles_85 : decode cX10_findDoubles 85 = .ok (.iload_n 2, 1) := by decide +kernel
theorem dX10_findDoubles_86 : decode cX10_findDoubles 86 = .ok (.iaload, 1) := by decide +kernel
theorem dX10_findDoubles_87 : decode cX10_findDoubles 87 = .ok (.istore 4, 2) := by decide +kernel
theorem dX10_findDoubles_89 : decode cX10_findDoubles 89 = .ok (.aload_n 0, 1) := by decide +kernel
theorem dX10_findDoubles_90 : decode cX10_findDoubles 90 = .ok (.iload_n 1, 1) := by decide +kernel
theorem dX10_findDoubles_91 : decode cX10_findDoubles 91 = .ok (.aload_n 0, 1) := by decide +kernel
theorem dX10_findDoubles_92 : decode cX10_findDoubles 92 = .ok (.getfield 59, 3) := by decide +kernel
theorem dX10_findDoubles_95 : decode cX10_findDoubles 95 = .ok (.iload_n 1, 1) := by decide +kernel
theorem dX10_findDoubles_96 : decode cX10_findDoubles 96 = .ok (.iaload, 1) := by decide +kernel
theorem dX10_findDoubles_97 : decode cX10_findDoubles 97 = .ok (.invokevirtual 202, 3) := by decide +kernel
theorem dX10_findDoubles_100 : decode cX10_findDoubles 100 = .ok (.aload_n 0, 1) := by decide +kernel
theorem dX10_findDoubles_101 : decode cX10_findDoubles 101 = .ok (.iload_n 2, 1) := by decide +kernel
theorem dX10_findDoubles_102 : decode cX10_findDoubles 102 = .ok (.aload_n 0, 1) := by decide +kernel
theorem dX10_findDoubles_103 : decode cX10_findDoubles 103 = .ok (.getfield 59, 3) := by decide +kernel
theorem dX10_findDoubles_106 : decode cX10_findDoubles 106 = .ok (.iload_n 2, 1) := by decide +kernel
theorem dX10_findDoubles_107 : decode cX10_findDoubles 107 = .ok (.iaload, 1) := by decide +kernel
theorem dX10_findDoubles_108 : decode cX10_findDoubles 108 = .ok (.invokevirtual 202, 3) := by decide +kernel
theorem dX10_findDoubles_111 : decode cX10_findDoubles 111 = .ok (.isub, 1) := by decide +kernel
theorem dX10_findDoubles_112 : decode cX10_findDoubles 112 = .ok (.i2l, 1) := by decide +kernel
theorem dX10_findDoubles_113 : decode cX10_findDoubles 113 = .ok (.lstore 5, 2) := by decide +kernel
theorem dX10_findDoubles_115 : decode cX10_findDoubles 115 = .ok (.aload_n 0, 1) := by decide +kernel
theorem dX10_findDoubles_116 : decode cX10_findDoubles 116 = .ok (.getfield 111, 3) := by decide +kernel
theorem dX10_findDoubles_119 : decode cX10_findDoubles 119 = .ok (.iconst 5, 1) := by decide +kernel
theorem dX10_findDoubles_120 : decode cX10_findDoubles 120 = .ok (.iload_n 3, 1) := by decide +kernel
theorem dX10_findDoubles_121 : decode cX10_findDoubles 121 = .ok (.imul, 1) := by decide +kernel
theorem dX10_findDoubles_122 : decode cX10_findDoubles 122 = .ok (.iload 4, 2) := by decide +kernel
theorem dX10_findDoubles_124 : decode cX10_findDoubles 124 = .ok (.iadd, 1) := by decide +kernel
theorem dX10_findDoubles_125 : decode cX10_findDoubles 125 = .ok (.dup2, 1) := by decide +kernel
theorem dX10_findDoubles_126 : decode cX10_findDoubles 126 = .ok (.laload, 1) := by decide +kernel
theorem dX10_findDoubles_127 : decode cX10_findDoubles 127 = .ok (.lconst 1, 1) := by decide +kernel
theorem dX10_findDoubles_128 : decode cX10_findDoubles 128 = .ok (.ladd, 1) := by decide +kernel
theorem dX10_findDoubles_129 : decode cX10_findDoubles 129 = .ok (.lastore, 1) := by decide +kernel
theorem dX10_findDoubles_130 : decode cX10_findDoubles 130 = .ok (.aload_n 0, 1) := by decide +kernel
theorem dX10_findDoubles_131 : decode cX10_findDoubles 131 = .ok (.getfield 111, 3) := by decide +kernel
theorem dX10_findDoubles_134 : decode cX10_findDoubles 134 = .ok (.iconst 5, 1) := by decide +kernel
theorem dX10_findDoubles_135 : decode cX10_findDoubles 135 = .ok (.iload 4, 2) := by decide +kernel
theorem dX10_findDoubles_137 : decode cX10_findDoubles 137 = .ok (.imul, 1) := by decide +kernel
theorem dX10_findDoubles_138 : decode cX10_findDoubles 138 = .ok (.iload_n 3, 1) := by decide +kernel
theorem dX10_findDoubles_139 : decode cX10_findDoubles 139 = .ok (.iadd, 1) := by decide +kernel
theorem dX10_findDoubles_140 : decode cX10_findDoubles 140 = .ok (.dup2, 1) := by decide +kernel
theorem dX10_findDoubles_141 : decode cX10_findDoubles 141 = .ok (.laload, 1) := by decide +kernel
theorem dX10_findDoubles_142 : decode cX10_findDoubles 142 = .ok (.lconst 1, 1) := by decide +kernel
theorem dX10_findDoubles_143 : decode cX10_findDoubles 143 = .ok (.ladd, 1) := by decide +kernel
theorem dX10_findDoubles_144 : decode cX10_findDoubles 144 = .ok (.lastore, 1) := by decide +kernel
theorem dX10_findDoubles_145 : decode cX10_findDoubles 145 = .ok (.aload_n 0, 1) := by decide +kernel
theorem dX10_findDoubles_146 : decode cX10_findDoubles 146 = .ok (.getfield 115, 3) := by decide +kernel
theorem dX10_findDoubles_149 : decode cX10_findDoubles 149 = .ok (.iload_n 3, 1) := by decide +kernel
theorem dX10_findDoubles_150 : decode cX10_findDoubles 150 = .ok (.dup2, 1) := by decide +kernel
theorem dX10_findDoubles_151 : decode cX10_findDoubles 151 = .ok (.laload, 1) := by decide +kernel
theorem dX10_findDoubles_152 : decode cX10_findDoubles 152 = .ok (.lload 5, 2) := by decide +kernel
theorem dX10_findDoubles_154 : decode cX10_findDoubles 154 = .ok (.ladd, 1) := by decide +kernel
theorem dX10_findDoubles_155 : decode cX10_findDoubles 155 = .ok (.lastore, 1) := by decide +kernel
theorem dX10_findDoubles_156 : decode cX10_findDoubles 156 = .ok (.aload_n 0, 1) := by decide +kernel
theorem dX10_findDoubles_157 : decode cX10_findDoubles 157 = .ok (.getfield 115, 3) := by decide +kernel
theorem dX10_findDoubles_160 : decode cX10_findDoubles 160 = .ok (.iload 4, 2) := by decide +kernel
theorem dX10_findDoubles_162 : decode cX10_findDoubles 162 = .ok (.dup2, 1) := by decide +kernel
theorem dX10_findDoubles_163 : decode cX10_findDoubles 163 = .ok (.laload, 1) := by decide +kernel
theorem dX10_findDoubles_164 : decode cX10_findDoubles 164 = .ok (.lload 5, 2) := by decide +kernel
theorem dX10_findDoubles_166 : decode cX10_findDoubles 166 = .ok (.lsub, 1) := by decide +kernel
theorem dX10_findDoubles_167 : decode cX10_findDoubles 167 = .ok (.lastore, 1) := by decide +kernel
theorem dX10_findDoubles_168 : decode cX10_findDoubles 168 = .ok (.iinc 2 1, 3) := by decide +kernel
theorem dX10_findDoubles_171 : decode cX10_findDoubles 171 = .ok (.goto (-111), 3) := by decide +kernel
theorem dX10_findDoubles_174 : decode cX10_findDoubles 174 = .ok (.iinc 1 1, 3) := by decide +kernel
theorem dX10_findDoubles_177 : decode cX10_findDoubles 177 = .ok (.goto (-127), 3) := by decide +kernel
theorem dX10_findDoubles_180 : decode cX10_findDoubles 180 = .ok (.iconst 0, 1) := by decide +kernel
theorem dX10_findDoubles_181 : decode cX10_findDoubles 181 = .ok (.istore_n 1, 1) := by decide +kernel
theorem dX10_findDoubles_182 : decode cX10_findDoubles 182 = .ok (.iload_n 1, 1) := by decide +kernel
theorem dX10_findDoubles_183 : decode cX10_findDoubles 183 = .ok (.iconst 5, 1) := by decide +kernel
theorem dX10_findDoubles_184 : decode cX10_findDoubles 184 = .ok (.if_icmp .ge 82, 3) := by decide +kernel
theorem dX10_findDoubles_187 : decode cX10_findDoubles 187 = .ok (.iconst 0, 1) := by decide +kernel
theorem dX10_findDoubles_188 : decode cX10_findDoubles 188 = .ok (.istore_n 2, 1) := by decide +kernel
theorem dX10_findDoubles_189 : decode cX10_findDoubles 189 = .ok (.iload_n 2, 1) := by decide +kernel
theorem dX10_findDoubles_190 : decode cX10_findDoubles 190 = .ok (.bipush 25, 2) := by decide +kernel
theorem dX10_findDoubles_192 : decode cX10_findDoubles 192 = .ok (.if_icmp .ge 68, 3) := by decide +kernel
theorem dX10_findDoubles_195 : decode cX10_findDoubles 195 = .ok (.iload_n 2, 1) := by decide +kernel
theorem dX10_findDoubles_196 : decode cX10_findDoubles 196 = .ok (.iconst 5, 1) := by decide +kernel
theorem dX10_findDoubles_197 : decode cX10_findDoubles 197 = .ok (.idiv, 1) := by decide +kernel
theorem dX10_findDoubles_198 : decode cX10_findDoubles 198 = .ok (.istore_n 3, 1) := by decide +kernel
theorem dX10_findDoubles_199 : decode cX10_findDoubles 199 = .ok (.iload_n 2, 1) := by decide +kernel
theorem dX10_findDoubles_200 : decode cX10_findDoubles 200 = .ok (.iconst 5, 1) := by decide +kernel
theorem dX10_findDoubles_201 : decode cX10_findDoubles 201 = .ok (.irem, 1) := by decide +kernel
theorem dX10_findDoubles_202 : decode cX10_findDoubles 202 = .ok (.istore 4, 2) := by decide +kernel
theorem dX10_findDoubles_204 : decode cX10_findDoubles 204 = .ok (.aload_n 0, 1) := by decide +kernel
theorem dX10_findDoubles_205 : decode cX10_findDoubles 205 = .ok (.getfield 118, 3) := by decide +kernel
theorem dX10_findDoubles_208 : decode cX10_findDoubles 208 = .ok (.iload 4, 2) := by decide +kernel
theorem dX10_findDoubles_210 : decode cX10_findDoubles 210 = .ok (.aload_n 0, 1) := by decide +kernel
theorem dX10_findDoubles_211 : decode cX10_findDoubles 211 = .ok (.getfield 111, 3) := by decide +kernel
theorem dX10_findDoubles_214 : decode cX10_findDoubles 214 = .ok (.iload_n 2, 1) := by decide +kernel
theorem dX10_findDoubles_215 : decode cX10_findDoubles 215 = .ok (.laload, 1) := by decide +kernel
theorem dX10_findDoubles_216 : decode cX10_findDoubles 216 = .ok (.lconst 0, 1) := by decide +kernel
theorem dX10_findDoubles_217 : decode cX10_findDoubles 217 = .ok (.lcmp, 1) := by decide +kernel
theorem dX10_findDoubles_218 : decode cX10_findDoubles 218 = .ok (.ifCond .le 28, 3) := by decide +kernel
theorem dX10_findDoubles_221 : decode cX10_findDoubles 221 = .ok (.aload_n 0, 1) := by decide +kernel
theorem dX10_findDoubles_222 : decode cX10_findDoubles 222 = .ok (.getfield 118, 3) := by decide +kernel
theorem dX10_findDoubles_225 : decode cX10_findDoubles 225 = .ok (.iload_n 3, 1) := by decide +kernel
theorem dX10_findDoubles_226 : decode cX10_findDoubles 226 = .ok (.iaload, 1) := by decide +kernel
theorem dX10_findDoubles_227 : decode cX10_findDoubles 227 = .ok (.aload_n 0, 1) := by decide +kernel
theorem dX10_findDoubles_228 : decode cX10_findDoubles 228 = .ok (.getfield 118, 3) := by decide +kernel
theorem dX10_findDoubles_231 : decode cX10_findDoubles 231 = .ok (.iload 4, 2) := by decide +kernel
theorem dX10_findDoubles_233 : decode cX10_findDoubles 233 = .ok (.iaload, 1) := by decide +kernel
theorem dX10_findDoubles_234 : decode cX10_findDoubles 234 = .ok (.if_icmp .ge 12, 3) := by decide +kernel
theorem dX10_findDoubles_237 : decode cX10_findDoubles 237 = .ok (.aload_n 0, 1) := by decide +kernel
theorem dX10_findDoubles_238 : decode cX10_findDoubles 238 = .ok (.getfield 118, 3) := by decide +kernel
theorem dX10_findDoubles_241 : decode cX10_findDoubles 241 = .ok (.iload_n 3, 1) := by decide +kernel
theorem dX10_findDoubles_242 : decode cX10_findDoubles 242 = .ok (.iaload, 1) := by decide +kernel
theorem dX10_findDoubles_243 : decode cX10_findDoubles 243 = .ok (.goto 10, 3) := by decide +kernel
theorem dX10_findDoubles_246 : decode cX10_findDoubles 246 = .ok (.aload_n 0, 1) := by decide +kernel
theorem dX10_findDoubles_247 : decode cX10_findDoubles 247 = .ok (.getfield 118, 3) := by decide +kernel
theorem dX10_findDoubles_250 : decode cX10_findDoubles 250 = .ok (.iload 4, 2) := by decide +kernel
theorem dX10_findDoubles_252 : decode cX10_findDoubles 252 = .ok (.iaload, 1) := by decide +kernel
theorem dX10_findDoubles_253 : decode cX10_findDoubles 253 = .ok (.iastore, 1) := by decide +kernel
theorem dX10_findDoubles_254 : decode cX10_findDoubles 254 = .ok (.iinc 2 1, 3) := by decide +kernel
theorem dX10_findDoubles_257 : decode cX10_findDoubles 257 = .ok (.goto (-68), 3) := by decide +kernel
theorem dX10_findDoubles_260 : decode cX10_findDoubles 260 = .ok (.iinc 1 1, 3) := by decide +kernel
theorem dX10_findDoubles_263 : decode cX10_findDoubles 263 = .ok (.goto (-81), 3) := by decide +kernel
theorem dX10_findDoubles_266 : decode cX10_findDoubles 266 = .ok (.return_, 1) := by decide +kernel
theorem dX10_isJoined_0 : decode cX10_isJoined 0 = .ok (.iconst 0, 1) := by decide +kernel
theorem dX10_isJoined_1 : decode cX10_isJoined 1 = .ok (.istore_n 2, 1) := by decide +kernel
theorem dX10_isJoined_2 : decode cX10_isJoined 2 = .ok (.iconst 0, 1) := by decide +kernel
theorem dX10_isJoined_3 : decode cX10_isJoined 3 = .ok (.istore_n 3, 1) := by decide +kernel
theorem dX10_isJoined_4 : decode cX10_isJoined 4 = .ok (.iload_n 3, 1) := by decide +kernel
theorem dX10_isJoined_5 : decode cX10_isJoined 5 = .ok (.iconst 5, 1) := by decide +kernel
theorem dX10_isJoined_6 : decode cX10_isJoined 6 = .ok (.if_icmp .ge 34, 3) := by decide +kernel
theorem dX10_isJoined_9 : decode cX10_isJoined 9 = .ok (.iload_n 2, 1) := by decide +kernel
theorem dX10_isJoined_10 : decode cX10_isJoined 10 = .ok (.ifCond .ne 18, 3) := by decide +kernel
theorem dX10_isJoined_13 : decode cX10_isJoined 13 = .ok (.aload_n 0, 1) := by decide +kernel
theorem dX10_isJoined_14 : decode cX10_isJoined 14 = .ok (.getfield 111, 3) := by decide +kernel
theorem dX10_isJoined_17 : decode cX10_isJoined 17 = .ok (.iconst 5, 1) := by decide +kernel
theorem dX10_isJoined_18 : decode cX10_isJoined 18 = .ok (.iload_n 1, 1) := by decide +kernel
theorem dX10_isJoined_19 : decode cX10_isJoined 19 = .ok (.imul, 1) := by decide +kernel
theorem dX10_isJoined_20 : decode cX10_isJoined 20 = .ok (.iload_n 3, 1) := by decide +kernel
theorem dX10_isJoined_21 : decode cX10_isJoined 21 = .ok (.iadd, 1) := by decide +kernel
theorem dX10_isJoined_22 : decode cX10_isJoined 22 = .ok (.laload, 1) := by decide +kernel
theorem dX10_isJoined_23 : decode cX10_isJoined 23 = .ok (.lconst 0, 1) := by decide +kernel
theorem dX10_isJoined_24 : decode cX10_isJoined 24 = .ok (.lcmp, 1) := by decide +kernel
theorem dX10_isJoined_25 : decode cX10_isJoined 25 = .ok (.ifCond .le 7, 3) := by decide +kernel
theorem dX10_isJoined_28 : decode cX10_isJoined 28 = .ok (.iconst 1, 1) := by decide +kernel
theorem dX10_isJoined_29 : decode cX10_isJoined 29 = .ok (.goto 4, 3) := by decide +kernel
theorem dX10_isJoined_32 : decode cX10_isJoined 32 = .ok (.iconst 0, 1) := by decide +kernel
theorem dX10_isJoined_33 : decode cX10_isJoined 33 = .ok (.istore_n 2, 1) := by decide +kernel
theorem dX10_isJoined_34 : decode cX10_isJoined 34 = .ok (.iinc 3 1, 3) := by decide +kernel
theorem dX10_isJoined_37 : decode cX10_isJoined 37 = .ok (.goto (-33), 3) := by decide +kernel
theorem dX10_isJoined_40 : decode cX10_isJoined 40 = .ok (.iload_n 2, 1) := by decide +kernel
theorem dX10_isJoined_41 : decode cX10_isJoined 41 = .ok (.ireturn, 1) := by decide +kernel
theorem dX10_entry_0 : decode cX10_entry 0 = .ok (.iload_n 2, 1) := by decide +kernel
theorem dX10_entry_1 : decode cX10_entry 1 = .ok (.iload_n 3, 1) := by decide +kernel
theorem dX10_entry_2 : decode cX10_entry 2 = .ok (.if_icmp .ne 15, 3) := by decide +kernel
theorem dX10_entry_5 : decode cX10_entry 5 = .ok (.aload_n 0, 1) := by decide +kernel
theorem dX10_entry_6 : decode cX10_entry 6 = .ok (.getfield 115, 3) := by decide +kernel
theorem dX10_entry_9 : decode cX10_entry 9 = .ok (.aload_n 0, 1) := by decide +kernel
theorem dX10_entry_10 : decode cX10_entry 10 = .ok (.getfield 121, 3) := by decide +kernel
theorem dX10_entry_13 : decode cX10_entry 13 = .ok (.iload_n 1, 1) := by decide +kernel
theorem dX10_entry_14 : decode cX10_entry 14 = .ok (.iaload, 1) := by decide +kernel
theorem dX10_entry_15 : decode cX10_entry 15 = .ok (.laload, 1) := by decide +kernel
theorem dX10_entry_16 : decode cX10_entry 16 = .ok (.lreturn, 1) := by decide +kernel
theorem dX10_entry_17 : decode cX10_entry 17 = .ok (.iload_n 1, 1) := by decide +kernel
theorem dX10_entry_18 : decode cX10_entry 18 = .ok (.iload_n 2, 1) := by decide +kernel
theorem dX10_entry_19 : decode cX10_entry 19 = .ok (.if_icmp .eq 25, 3) := by decide +kernel
theorem dX10_entry_22 : decode cX10_entry 22 = .ok (.aload_n 0, 1) := by decide +kernel
theorem dX10_entry_23 : decode cX10_entry 23 = .ok (.getfield 111, 3) := by decide +kernel
theorem dX10_entry_26 : decode cX10_entry 26 = .ok (.iconst 5, 1) := by decide +kernel
theorem dX10_entry_27 : decode cX10_entry 27 = .ok (.aload_n 0, 1) := by decide +kernel
theorem dX10_entry_28 : decode cX10_entry 28 = .ok (.getfield 121, 3) := by decide +kernel
theorem dX10_entry_31 : decode cX10_entry 31 = .ok (.iload_n 1, 1) := by decide +kernel
theorem dX10_entry_32 : decode cX10_entry 32 = .ok (.iaload, 1) := by decide +kernel
theorem dX10_entry_33 : decode cX10_entry 33 = .ok (.imul, 1) := by decide +kernel
theorem dX10_entry_34 : decode cX10_entry 34 = .ok (.aload_n 0, 1) := by decide +kernel
theorem dX10_entry_35 : decode cX10_entry 35 = .ok (.getfield 121, 3) := by decide +kernel
theorem dX10_entry_38 : decode cX10_entry 38 = .ok (.iload_n 2, 1) := by decide +kernel
theorem dX10_entry_39 : decode cX10_entry 39 = .ok (.iaload, 1) := by decide +kernel
theorem dX10_entry_40 : decode cX10_entry 40 = .ok (.iadd, 1) := by decide +kernel
theorem dX10_entry_41 : decode cX10_entry 41 = .ok (.laload, 1) := by decide +kernel
theorem dX10_entry_42 : decode cX10_entry 42 = .ok (.lneg, 1) := by decide +kernel
theorem dX10_entry_43 : decode cX10_entry 43 = .ok (.lreturn, 1) := by decide +kernel
theorem dX10_entry_44 : decode cX10_entry 44 = .ok (.lconst 0, 1) := by decide +kernel
theorem dX10_entry_45 : decode cX10_entry 45 = .ok (.lstore 4, 2) := by decide +kernel
theorem dX10_entry_47 : decode cX10_entry 47 = .ok (.iconst 0, 1) := by decide +kernel
theorem dX10_entry_48 : decode cX10_entry 48 = .ok (.istore 6, 2) := by decide +kernel
theorem dX10_entry_50 : decode cX10_entry 50 = .ok (.iload 6, 2) := by decide +kernel
theorem dX10_entry_52 : decode cX10_entry 52 = .ok (.iconst 5, 1) := by decide +kernel
theorem dX10_entry_53 : decode cX10_entry 53 = .ok (.if_icmp .ge 30, 3) := by decide +kernel
theorem dX10_entry_56 : decode cX10_entry 56 = .ok (.lload 4, 2) := by decide +kernel
theorem dX10_entry_58 : decode cX10_entry 58 = .ok (.aload_n 0, 1) := by decide +kernel
theorem dX10_entry_59 : decode cX10_entry 59 = .ok (.getfield 111, 3) := by decide +kernel
theorem dX10_entry_62 : decode cX10_entry 62 = .ok (.iconst 5, 1) := by decide +kernel
theorem dX10_entry_63 : decode cX10_entry 63 = .ok (.aload_n 0, 1) := by decide +kernel
theorem dX10_entry_64 : decode cX10_entry 64 = .ok (.getfield 121, 3) := by decide +kernel
theorem dX10_entry_67 : decode cX10_entry 67 = .ok (.iload_n 1, 1) := by decide +kernel
theorem dX10_entry_68 : decode cX10_entry 68 = .ok (.iaload, 1) := by decide +kernel
theorem dX10_entry_69 : decode cX10_entry 69 = .ok (.imul, 1) := by decide +kernel
theorem dX10_entry_70 : decode cX10_entry 70 = .ok (.iload 6, 2) := by decide +kernel
theorem dX10_entry_72 : decode cX10_entry 72 = .ok (.iadd, 1) := by decide +kernel
theorem dX10_entry_73 : decode cX10_entry 73 = .ok (.laload, 1) := by decide +kernel
theorem dX10_entry_74 : decode cX10_entry 74 = .ok (.ladd, 1) := by decide +kernel
theorem dX10_entry_75 : decode cX10_entry 75 = .ok (.lstore 4, 2) := by decide +kernel
theorem dX10_entry_77 : decode cX10_entry 77 = .ok (.iinc 6 1, 3) := by decide +kernel
theorem dX10_entry_80 : decode cX10_entry 80 = .ok (.goto (-30), 3) := by decide +kernel
theorem dX10_entry_83 : decode cX10_entry 83 = .ok (.lload 4, 2) := by decide +kernel
theorem dX10_entry_85 : decode cX10_entry 85 = .ok (.lreturn, 1) := by decide +kernel
theorem dX10_determinant_0 : decode cX10_determinant 0 = .ok (.lconst 0, 1) := by decide +kernel
theorem dX10_determinant_1 : decode cX10_determinant 1 = .ok (.lstore_n 2, 1) := by decide +kernel
theorem dX10_determinant_2 : decode cX10_determinant 2 = .ok (.iconst 1, 1) := by decide +kernel
theorem dX10_determinant_3 : decode cX10_determinant 3 = .ok (.istore 4, 2) := by decide +kernel
theorem dX10_determinant_5 : decode cX10_determinant 5 = .ok (.iconst 2, 1) := by decide +kernel
theorem dX10_determinant_6 : decode cX10_determinant 6 = .ok (.istore 5, 2) := by decide +kernel
theorem dX10_determinant_8 : decode cX10_determinant 8 = .ok (.iload 5, 2) := by decide +kernel
theorem dX10_determinant_10 : decode cX10_determinant 10 = .ok (.aload_n 0, 1) := by decide +kernel
theorem dX10_determinant_11 : decode cX10_determinant 11 = .ok (.getfield 257, 3) := by decide +kernel
theorem dX10_determinant_14 : decode cX10_determinant 14 = .ok (.if_icmp .gt 16, 3) := by decide +kernel
theorem dX10_determinant_17 : decode cX10_determinant 17 = .ok (.iload 4, 2) := by decide +kernel
theorem dX10_determinant_19 : decode cX10_determinant 19 = .ok (.iload 5, 2) := by decide +kernel
theorem dX10_determinant_21 : decode cX10_determinant 21 = .ok (.imul, 1) := by decide +kernel
theorem dX10_determinant_22 : decode cX10_determinant 22 = .ok (.istore 4, 2) := by decide +kernel
theorem dX10_determinant_24 : decode cX10_determinant 24 = .ok (.iinc 5 1, 3) := by decide +kernel
theorem dX10_determinant_27 : decode cX10_determinant 27 = .ok (.goto (-19), 3) := by decide +kernel
theorem dX10_determinant_30 : decode cX10_determinant 30 = .ok (.iconst 0, 1) := by decide +kernel
theorem dX10_determinant_31 : decode cX10_determinant 31 = .ok (.istore 5, 2) := by decide +kernel
theorem dX10_determinant_33 : decode cX10_determinant 33 = .ok (.iload 5, 2) := by decide +kernel
theorem dX10_determinant_35 : decode cX10_determinant 35 = .ok (.iload 4, 2) := by decide +kernel
theorem dX10_determinant_37 : decode cX10_determinant 37 = .ok (.if_icmp .ge 157, 3) := by decide +kernel
theorem dX10_determinant_40 : decode cX10_determinant 40 = .ok (.iload 5, 2) := by decide +kernel
theorem dX10_determinant_42 : decode cX10_determinant 42 = .ok (.istore 6, 2) := by decide +kernel
theorem dX10_determinant_44 : decode cX10_determinant 44 = .ok (.iconst 0, 1) := by decide +kernel
theorem dX10_determinant_45 : decode cX10_determinant 45 = .ok (.istore 7, 2) := by decide +kernel
theorem dX10_determinant_47 : decode cX10_determinant 47 = .ok (.iload 7, 2) := by decide +kernel
theorem dX10_determinant_49 : decode cX10_determinant 49 = .ok (.aload_n 0, 1) := by decide +kernel
theorem dX10_determinant_50 : decode cX10_determinant 50 = .ok (.getfield 257, 3) := by decide +kernel
theorem dX10_determinant_53 : decode cX10_determinant 53 = .ok (.if_icmp .ge 18, 3) := by decide +kernel
theorem dX10_determinant_56 : decode cX10_determinant 56 = .ok (.aload_n 0, 1) := by decide +kernel
theorem dX10_determinant_57 : decode cX10_determinant 57 = .ok (.getfield 124, 3) := by decide +kernel
theorem dX10_determinant_60 : decode cX10_determinant 60 = .ok (.iload 7, 2) := by decide +kernel
theorem dX10_determinant_62 : decode cX10_determinant 62 = .ok (.iload 7, 2) := by decide +kernel
theorem dX10_determinant_64 : decode cX10_determinant 64 = .ok (.iastore, 1) := by decide +kernel
theorem dX10_determinant_65 : decode cX10_determinant 65 = .ok (.iinc 7 1, 3) := by decide +kernel
theorem dX10_determinant_68 : decode cX10_determinant 68 = .ok (.goto (-21), 3) := by decide +kernel
theorem dX10_determinant_71 : decode cX10_determinant 71 = .ok (.lconst 1, 1) := by decide +kernel
theorem dX10_determinant_72 : decode cX10_determinant 72 = .ok (.lstore 7, 2) := by decide +kernel
theorem dX10_determinant_74 : decode cX10_determinant 74 = .ok (.iconst 0, 1) := by decide +kernel
theorem dX10_determinant_75 : decode cX10_determinant 75 = .ok (.istore 9, 2) := by decide +kernel
theorem dX10_determinant_77 : decode cX10_determinant 77 = .ok (.iload 9, 2) := by decide +kernel
theorem dX10_determinant_79 : decode cX10_determinant 79 = .ok (.aload_n 0, 1) := by decide +kernel
theorem dX10_determinant_80 : decode cX10_determinant 80 = .ok (.getfield 257, 3) := by decide +kernel
theorem dX10_determinant_83 : decode cX10_determinant 83 = .ok (.if_icmp .ge 100, 3) := by decide +kernel
theorem dX10_determinant_86 : decode cX10_determinant 86 = .ok (.iload 9, 2) := by decide +kernel
theorem dX10_determinant_88 : decode cX10_determinant 88 = .ok (.iload 6, 2) := by decide +kernel
theorem dX10_determinant_90 : decode cX10_determinant 90 = .ok (.aload_n 0, 1) := by decide +kernel
theorem dX10_determinant_91 : decode cX10_determinant 91 = .ok (.getfield 257, 3) := by decide +kernel
theorem dX10_determinant_94 : decode cX10_determinant 94 = .ok (.iload 9, 2) := by decide +kernel
theorem dX10_determinant_96 : decode cX10_determinant 96 = .ok (.isub, 1) := by decide +kernel
theorem dX10_determinant_97 : decode cX10_determinant 97 = .ok (.irem, 1) := by decide +kernel
theorem dX10_determinant_98 : decode cX10_determinant 98 = .ok (.iadd, 1) := by decide +kernel
theorem dX10_determinant_99 : decode cX10_determinant 99 = .ok (.istore 10, 2) := by decide +kernel
theorem dX10_determinant_101 : decode cX10_determinant 101 = .ok (.iload 6, 2) := by decide +kernel
theorem dX10_determinant_103 : decode cX10_determinant 103 = .ok (.aload_n 0, 1) := by decide +kernel
theorem dX10_determinant_104 : decode cX10_determinant 104 = .ok (.getfield 257, 3) := by decide +kernel
theorem dX10_determinant_107 : decode cX10_determinant 107 = .ok (.iload 9, 2) := by decide +kernel
theorem dX10_determinant_109 : decode cX10_determinant 109 = .ok (.isub, 1) := by decide +kernel
theorem dX10_determinant_110 : decode cX10_determinant 110 = .ok (.idiv, 1) := by decide +kernel
theorem dX10_determinant_111 : decode cX10_determinant 111 = .ok (.istore 6, 2) := by decide +kernel
theorem dX10_determinant_113 : decode cX10_determinant 113 = .ok (.aload_n 0, 1) := by decide +kernel
theorem dX10_determinant_114 : decode cX10_determinant 114 = .ok (.getfield 124, 3) := by decide +kernel
theorem dX10_determinant_117 : decode cX10_determinant 117 = .ok (.iload 9, 2) := by decide +kernel
theorem dX10_determinant_119 : decode cX10_determinant 119 = .ok (.iaload, 1) := by decide +kernel
theorem dX10_determinant_120 : decode cX10_determinant 120 = .ok (.istore 11, 2) := by decide +kernel
theorem dX10_determinant_122 : decode cX10_determinant 122 = .ok (.aload_n 0, 1) := by decide +kernel
theorem dX10_determinant_123 : decode cX10_determinant 123 = .ok (.getfield 124, 3) := by decide +kernel
theorem dX10_determinant_126 : decode cX10_determinant 126 = .ok (.iload 9, 2) := by decide +kernel
theorem dX10_determinant_128 : decode cX10_determinant 128 = .ok (.aload_n 0, 1) := by decide +kernel
theorem dX10_determinant_129 : decode cX10_determinant 129 = .ok (.getfield 124, 3) := by decide +kernel
theorem dX10_determinant_132 : decode cX10_determinant 132 = .ok (.iload 10, 2) := by decide +kernel
theorem dX10_determinant_134 : decode cX10_determinant 134 = .ok (.iaload, 1) := by decide +kernel
theorem dX10_determinant_135 : decode cX10_determinant 135 = .ok (.iastore, 1) := by decide +kernel
theorem dX10_determinant_136 : decode cX10_determinant 136 = .ok (.aload_n 0, 1) := by decide +kernel
theorem dX10_determinant_137 : decode cX10_determinant 137 = .ok (.getfield 124, 3) := by decide +kernel
theorem dX10_determinant_140 : decode cX10_determinant 140 = .ok (.iload 10, 2) := by decide +kernel
theorem dX10_determinant_142 : decode cX10_determinant 142 = .ok (.iload 11, 2) := by decide +kernel
theorem dX10_determinant_144 : decode cX10_determinant 144 = .ok (.iastore, 1) := by decide +kernel
theorem dX10_determinant_145 : decode cX10_determinant 145 = .ok (.iload 10, 2) := by decide +kernel
theorem dX10_determinant_147 : decode cX10_determinant 147 = .ok (.iload 9, 2) := by decide +kernel
theorem dX10_determinant_149 : decode cX10_determinant 149 = .ok (.if_icmp .ne 8, 3) := by decide +kernel
theorem dX10_determinant_152 : decode cX10_determinant 152 = .ok (.lload 7, 2) := by decide +kernel
theorem dX10_determinant_154 : decode cX10_determinant 154 = .ok (.goto 6, 3) := by decide +kernel
theorem dX10_determinant_157 : decode cX10_determinant 157 = .ok (.lload 7, 2) := by decide +kernel
theorem dX10_determinant_159 : decode cX10_determinant 159 = .ok (.lneg, 1) := by decide +kernel
theorem dX10_determinant_160 : decode cX10_determinant 160 = .ok (.aload_n 0, 1) := by decide +kernel
theorem dX10_determinant_161 : decode cX10_determinant 161 = .ok (.iload 9, 2) := by decide +kernel
theorem dX10_determinant_163 : decode cX10_determinant 163 = .ok (.aload_n 0, 1) := by decide +kernel
theorem dX10_determinant_164 : decode cX10_determinant 164 = .ok (.getfield 124, 3) := by decide +kernel
theorem dX10_determinant_167 : decode cX10_determinant 167 = .ok (.iload 9, 2) := by decide +kernel
theorem dX10_determinant_169 : decode cX10_determinant 169 = .ok (.iaload, 1) := by decide +kernel
theorem dX10_determinant_170 : decode cX10_determinant 170 = .ok (.iload_n 1, 1) := by decide +kernel
theorem dX10_determinant_171 : decode cX10_determinant 171 = .ok (.invokevirtual 260, 3) := by decide +kernel
theorem dX10_determinant_174 : decode cX10_determinant 174 = .ok (.lmul, 1) := by decide +kernel
theorem dX10_determinant_175 : decode cX10_determinant 175 = .ok (.lstore 7, 2) := by decide +kernel
theorem dX10_determinant_177 : decode cX10_determinant 177 = .ok (.iinc 9 1, 3) := by decide +kernel
theorem dX10_determinant_180 : decode cX10_determinant 180 = .ok (.goto (-103), 3) := by decide +kernel
theorem dX10_determinant_183 : decode cX10_determinant 183 = .ok (.lload_n 2, 1) := by decide +kernel
theorem dX10_determinant_184 : decode cX10_determinant 184 = .ok (.lload 7, 2) := by decide +kernel
theorem dX10_determinant_186 : decode cX10_determinant 186 = .ok (.ladd, 1) := by decide +kernel
theorem dX10_determinant_187 : decode cX10_determinant 187 = .ok (.lstore_n 2, 1) := by decide +kernel
theorem dX10_determinant_188 : decode cX10_determinant 188 = .ok (.iinc 5 1, 3) := by decide +kernel
theorem dX10_determinant_191 : decode cX10_determinant 191 = .ok (.goto (-158), 3) := by decide +kernel
theorem dX10_determinant_194 : decode cX10_determinant 194 = .ok (.lload_n 2, 1) := by decide +kernel
theorem dX10_determinant_195 : decode cX10_determinant 195 = .ok (.lreturn, 1) := by decide +kernel
theorem dX10_findHabit_0 : decode cX10_findHabit 0 = .ok (.aload_n 0, 1) := by decide +kernel
theorem dX10_findHabit_1 : decode cX10_findHabit 1 = .ok (.invokevirtual 264, 3) := by decide +kernel
theorem dX10_findHabit_4 : decode cX10_findHabit 4 = .ok (.aload_n 0, 1) := by decide +kernel
theorem dX10_findHabit_5 : decode cX10_findHabit 5 = .ok (.lconst 0, 1) := by decide +kernel
theorem dX10_findHabit_6 : decode cX10_findHabit 6 = .ok (.putfield 267, 3) := by decide +kernel
theorem dX10_findHabit_9 : decode cX10_findHabit 9 = .ok (.aload_n 0, 1) := by decide +kernel
theorem dX10_findHabit_10 : decode cX10_findHabit 10 = .ok (.lconst 1, 1) := by decide +kernel
theorem dX10_findHabit_11 : decode cX10_findHabit 11 = .ok (.putfield 271, 3) := by decide +kernel
theorem dX10_findHabit_14 : decode cX10_findHabit 14 = .ok (.aload_n 0, 1) := by decide +kernel
theorem dX10_findHabit_15 : decode cX10_findHabit 15 = .ok (.iload_n 1, 1) := by decide +kernel
theorem dX10_findHabit_16 : decode cX10_findHabit 16 = .ok (.invokevirtual 274, 3) := by decide +kernel
theorem dX10_findHabit_19 : decode cX10_findHabit 19 = .ok (.ifCond .eq 13, 3) := by decide +kernel
theorem dX10_findHabit_22 : decode cX10_findHabit 22 = .ok (.aload_n 0, 1) := by decide +kernel
theorem dX10_findHabit_23 : decode cX10_findHabit 23 = .ok (.getfield 118, 3) := by decide +kernel
theorem dX10_findHabit_26 : decode cX10_findHabit 26 = .ok (.iload_n 1, 1) := by decide +kernel
theorem dX10_findHabit_27 : decode cX10_findHabit 27 = .ok (.iaload, 1) := by decide +kernel
theorem dX10_findHabit_28 : decode cX10_findHabit 28 = .ok (.iload_n 1, 1) := by decide +kernel
theorem dX10_findHabit_29 : decode cX10_findHabit 29 = .ok (.if_icmp .ne 4, 3) := by decide +kernel
theorem dX10_findHabit_32 : decode cX10_findHabit 32 = .ok (.return_, 1) := by decide +kernel
theorem dX10_findHabit_33 : decode cX10_findHabit 33 = .ok (.aload_n 0, 1) := by decide +kernel
theorem dX10_findHabit_34 : decode cX10_findHabit 34 = .ok (.iconst 0, 1) := by decide +kernel
theorem dX10_findHabit_35 : decode cX10_findHabit 35 = .ok (.putfield 257, 3) := by decide +kernel
theorem dX10_findHabit_38 : decode cX10_findHabit 38 = .ok (.iconst 0, 1) := by decide +kernel
theorem dX10_findHabit_39 : decode cX10_findHabit 39 = .ok (.istore_n 2, 1) := by decide +kernel
theorem dX10_findHabit_40 : decode cX10_findHabit 40 = .ok (.iconst 0, 1) := by decide +kernel
theorem dX10_findHabit_41 : decode cX10_findHabit 41 = .ok (.istore_n 3, 1) := by decide +kernel
theorem dX10_findHabit_42 : decode cX10_findHabit 42 = .ok (.iload_n 3, 1) := by decide +kernel
theorem dX10_findHabit_43 : decode cX10_findHabit 43 = .ok (.iconst 5, 1) := by decide +kernel
theorem dX10_findHabit_44 : decode cX10_findHabit 44 = .ok (.if_icmp .ge 68, 3) := by decide +kernel
theorem dX10_findHabit_47 : decode cX10_findHabit 47 = .ok (.aload_n 0, 1) := by decide +kernel
theorem dX10_findHabit_48 : decode cX10_findHabit 48 = .ok (.getfield 118, 3) := by decide +kernel
theorem dX10_findHabit_51 : decode cX10_findHabit 51 = .ok (.iload_n 3, 1) := by decide +kernel
theorem dX10_findHabit_52 : decode cX10_findHabit 52 = .ok (.iaload, 1) := by decide +kernel
theorem dX10_findHabit_53 : decode cX10_findHabit 53 = .ok (.aload_n 0, 1) := by decide +kernel
theorem dX10_findHabit_54 : decode cX10_findHabit 54 = .ok (.getfield 118, 3) := by decide +kernel
theorem dX10_findHabit_57 : decode cX10_findHabit 57 = .ok (.iload_n 1, 1) := by decide +kernel
theorem dX10_findHabit_58 : decode cX10_findHabit 58 = .ok (.iaload, 1) := by decide +kernel
theorem dX10_findHabit_59 : decode cX10_findHabit 59 = .ok (.if_icmp .ne 47, 3) := by decide +kernel
theorem dX10_findHabit_62 : decode cX10_findHabit 62 = .ok (.aload_n 0, 1) := by decide +kernel
theorem dX10_findHabit_63 : decode cX10_findHabit 63 = .ok (.getfield 118, 3) := by decide +kernel
theorem dX10_findHabit_66 : decode cX10_findHabit 66 = .ok (.iload_n 3, 1) := by decide +kernel
theorem dX10_findHabit_67 : decode cX10_findHabit 67 = .ok (.iaload, 1) := by decide +kernel
theorem dX10_findHabit_68 : decode cX10_findHabit 68 = .ok (.iload_n 3, 1) := by decide +kernel
theorem dX10_findHabit_69 : decode cX10_findHabit 69 = .ok (.if_icmp .eq 37, 3) := by decide +kernel
theorem dX10_findHabit_72 : decode cX10_findHabit 72 = .ok (.iload_n 3, 1) := by decide +kernel
theorem dX10_findHabit_73 : decode cX10_findHabit 73 = .ok (.iload_n 1, 1) := by decide +kernel
theorem dX10_findHabit_74 : decode cX10_findHabit 74 = .ok (.if_icmp .ne 10, 3) := by decide +kernel
theorem dX10_findHabit_77 : decode cX10_findHabit 77 = .ok (.aload_n 0, 1) := by decide +kernel
theorem dX10_findHabit_78 : decode cX10_findHabit 78 = .ok (.getfield 257, 3) := by decide +kernel
theorem dX10_findHabit_81 : decode cX10_findHabit 81 = .ok (.goto 4, 3) := by decide +kernel
theorem dX10_findHabit_84 : decode cX10_findHabit 84 = .ok (.iload_n 2, 1) := by decide +kernel
theorem dX10_findHabit_85 : decode cX10_findHabit 85 = .ok (.istore_n 2, 1) := by decide +kernel
theorem dX10_findHabit_86 : decode cX10_findHabit 86 = .ok (.aload_n 0, 1) := by decide +kernel
theorem dX10_findHabit_87 : decode cX10_findHabit 87 = .ok (.getfield 121, 3) := by decide +kernel
theorem dX10_findHabit_90 : decode cX10_findHabit 90 = .ok (.aload_n 0, 1) := by decide +kernel
theorem dX10_findHabit_91 : decode cX10_findHabit 91 = .ok (.getfield 257, 3) := by decide +kernel
theorem dX10_findHabit_94 : decode cX10_findHabit 94 = .ok (.iload_n 3, 1) := by decide +kernel
theorem dX10_findHabit_95 : decode cX10_findHabit 95 = .ok (.iastore, 1) := by decide +kernel
theorem dX10_findHabit_96 : decode cX10_findHabit 96 = .ok (.aload_n 0, 1) := by decide +kernel
theorem dX10_findHabit_97 : decode cX10_findHabit 97 = .ok (.dup, 1) := by decide +kernel
theorem dX10_findHabit_98 : decode cX10_findHabit 98 = .ok (.getfield 257, 3) := by decide +kernel
theorem dX10_findHabit_101 : decode cX10_findHabit 101 = .ok (.iconst 1, 1) := by decide +kernel
theorem dX10_findHabit_102 : decode cX10_findHabit 102 = .ok (.iadd, 1) := by decide +kernel
theorem dX10_findHabit_103 : decode cX10_findHabit 103 = .ok (.putfield 257, 3) := by decide +kernel
theorem dX10_findHabit_106 : decode cX10_findHabit 106 = .ok (.iinc 3 1, 3) := by decide +kernel
theorem dX10_findHabit_109 : decode cX10_findHabit 109 = .ok (.goto (-67), 3) := by decide +kernel
theorem dX10_findHabit_112 : decode cX10_findHabit 112 = .ok (.aload_n 0, 1) := by decide +kernel
theorem dX10_findHabit_113 : decode cX10_findHabit 113 = .ok (.aload_n 0, 1) := by decide +kernel
theorem dX10_findHabit_114 : decode cX10_findHabit 114 = .ok (.iload_n 2, 1) := by decide +kernel
theorem dX10_findHabit_115 : decode cX10_findHabit 115 = .ok (.invokevirtual 277, 3) := by decide +kernel
theorem dX10_findHabit_118 : decode cX10_findHabit 118 = .ok (.putfield 267, 3) := by decide +kernel
theorem dX10_findHabit_121 : decode cX10_findHabit 121 = .ok (.aload_n 0, 1) := by decide +kernel
theorem dX10_findHabit_122 : decode cX10_findHabit 122 = .ok (.aload_n 0, 1) := by decide +kernel
theorem dX10_findHabit_123 : decode cX10_findHabit 123 = .ok (.iconst (-1), 1) := by decide +kernel
theorem dX10_findHabit_124 : decode cX10_findHabit 124 = .ok (.invokevirtual 277, 3) := by decide +kernel
theorem dX10_findHabit_127 : decode cX10_findHabit 127 = .ok (.putfield 271, 3) := by decide +kernel
theorem dX10_findHabit_130 : decode cX10_findHabit 130 = .ok (.aload_n 0, 1) := by decide +kernel
theorem dX10_findHabit_131 : decode cX10_findHabit 131 = .ok (.getfield 267, 3) := by decide +kernel
theorem dX10_findHabit_134 : decode cX10_findHabit 134 = .ok (.aload_n 0, 1) := by decide +kernel
theorem dX10_findHabit_135 : decode cX10_findHabit 135 = .ok (.getfield 271, 3) := by decide +kernel
theorem dX10_findHabit_138 : decode cX10_findHabit 138 = .ok (.invokestatic 281, 3) := by decide +kernel
theorem dX10_findHabit_141 : decode cX10_findHabit 141 = .ok (.lstore_n 3, 1) := by decide +kernel
theorem dX10_findHabit_142 : decode cX10_findHabit 142 = .ok (.aload_n 0, 1) := by decide +kernel
theorem dX10_findHabit_143 : decode cX10_findHabit 143 = .ok (.dup, 1) := by decide +kernel
theorem dX10_findHabit_144 : decode cX10_findHabit 144 = .ok (.getfield 267, 3) := by decide +kernel
theorem dX10_findHabit_147 : decode cX10_findHabit 147 = .ok (.lload_n 3, 1) := by decide +kernel
theorem dX10_findHabit_148 : decode cX10_findHabit 148 = .ok (.ldiv, 1) := by decide +kernel
theorem dX10_findHabit_149 : decode cX10_findHabit 149 = .ok (.putfield 267, 3) := by decide +kernel
theorem dX10_findHabit_152 : decode cX10_findHabit 152 = .ok (.aload_n 0, 1) := by decide +kernel
theorem dX10_findHabit_153 : decode cX10_findHabit 153 = .ok (.dup, 1) := by decide +kernel
theorem dX10_findHabit_154 : decode cX10_findHabit 154 = .ok (.getfield 271, 3) := by decide +kernel
theorem dX10_findHabit_157 : decode cX10_findHabit 157 = .ok (.lload_n 3, 1) := by decide +kernel
theorem dX10_findHabit_158 : decode cX10_findHabit 158 = .ok (.ldiv, 1) := by decide +kernel
theorem dX10_findHabit_159 : decode cX10_findHabit 159 = .ok (.putfield 271, 3) := by decide +kernel
theorem dX10_findHabit_162 : decode cX10_findHabit 162 = .ok (.return_, 1) := by decide +kernel
theorem dX10_habit_0 : decode cX10_habit 0 = .ok (.iload_n 1, 1) := by decide +kernel
theorem dX10_habit_1 : decode cX10_habit 1 = .ok (.iconst 0, 1) := by decide +kernel
theorem dX10_habit_2 : decode cX10_habit 2 = .ok (.iconst 4, 1) := by decide +kernel
theorem dX10_habit_3 : decode cX10_habit 3 = .ok (.invokestatic 168, 3) := by decide +kernel
theorem dX10_habit_6 : decode cX10_habit 6 = .ok (.ifCond .ne 9, 3) := by decide +kernel
theorem dX10_habit_9 : decode cX10_habit 9 = .ok (.aload_n 0, 1) := by decide +kernel
theorem dX10_habit_10 : decode cX10_habit 10 = .ok (.iconst (-1), 1) := by decide +kernel
theorem dX10_habit_11 : decode cX10_habit 11 = .ok (.invokevirtual 285, 3) := by decide +kernel
theorem dX10_habit_14 : decode cX10_habit 14 = .ok (.lreturn, 1) := by decide +kernel
theorem dX10_habit_15 : decode cX10_habit 15 = .ok (.iload_n 2, 1) := by decide +kernel
theorem dX10_habit_16 : decode cX10_habit 16 = .ok (.iconst 0, 1) := by decide +kernel
theorem dX10_habit_17 : decode cX10_habit 17 = .ok (.iconst 1, 1) := by decide +kernel
theorem dX10_habit_18 : decode cX10_habit 18 = .ok (.invokestatic 168, 3) := by decide +kernel
theorem dX10_habit_21 : decode cX10_habit 21 = .ok (.ifCond .ne 10, 3) := by decide +kernel
theorem dX10_habit_24 : decode cX10_habit 24 = .ok (.aload_n 0, 1) := by decide +kernel
theorem dX10_habit_25 : decode cX10_habit 25 = .ok (.bipush (-2), 2) := by decide +kernel
theorem dX10_habit_27 : decode cX10_habit 27 = .ok (.invokevirtual 285, 3) := by decide +kernel
theorem dX10_habit_30 : decode cX10_habit 30 = .ok (.lreturn, 1) := by decide +kernel
theorem dX10_habit_31 : decode cX10_habit 31 = .ok (.aload_n 0, 1) := by decide +kernel
theorem dX10_habit_32 : decode cX10_habit 32 = .ok (.iload_n 1, 1) := by decide +kernel
theorem dX10_habit_33 : decode cX10_habit 33 = .ok (.invokevirtual 288, 3) := by decide +kernel
theorem dX10_habit_36 : decode cX10_habit 36 = .ok (.aload_n 0, 1) := by decide +kernel
theorem dX10_habit_37 : decode cX10_habit 37 = .ok (.iload_n 1, 1) := by decide +kernel
theorem dX10_habit_38 : decode cX10_habit 38 = .ok (.invokevirtual 274, 3) := by decide +kernel
theorem dX10_habit_41 : decode cX10_habit 41 = .ok (.ifCond .ne 10, 3) := by decide +kernel
theorem dX10_habit_44 : decode cX10_habit 44 = .ok (.aload_n 0, 1) := by decide +kernel
theorem dX10_habit_45 : decode cX10_habit 45 = .ok (.bipush (-3), 2) := by decide +kernel
theorem dX10_habit_47 : decode cX10_habit 47 = .ok (.invokevirtual 285, 3) := by decide +kernel
theorem dX10_habit_50 : decode cX10_habit 50 = .ok (.lreturn, 1) := by decide +kernel
theorem dX10_habit_51 : decode cX10_habit 51 = .ok (.iload_n 2, 1) := by decide +kernel
theorem dX10_habit_52 : decode cX10_habit 52 = .ok (.ifCond .ne 10, 3) := by decide +kernel
theorem dX10_habit_55 : decode cX10_habit 55 = .ok (.aload_n 0, 1) := by decide +kernel
theorem dX10_habit_56 : decode cX10_habit 56 = .ok (.getfield 267, 3) := by decide +kernel
theorem dX10_habit_59 : decode cX10_habit 59 = .ok (.goto 7, 3) := by decide +kernel
theorem dX10_habit_62 : decode cX10_habit 62 = .ok (.aload_n 0, 1) := by decide +kernel
theorem dX10_habit_63 : decode cX10_habit 63 = .ok (.getfield 271, 3) := by decide +kernel
theorem dX10_habit_66 : decode cX10_habit 66 = .ok (.lreturn, 1) := by decide +kernel
theorem dX10_findEvened_0 : decode cX10_findEvened 0 = .ok (.aload_n 0, 1) := by decide +kernel
theorem dX10_findEvened_1 : decode cX10_findEvened 1 = .ok (.aload_n 0, 1) := by decide +kernel
theorem dX10_findEvened_2 : decode cX10_findEvened 2 = .ok (.getfield 56, 3) := by decide +kernel
theorem dX10_findEvened_5 : decode cX10_findEvened 5 = .ok (.iload_n 1, 1) := by decide +kernel
theorem dX10_findEvened_6 : decode cX10_findEvened 6 = .ok (.iaload, 1) := by decide +kernel
theorem dX10_findEvened_7 : decode cX10_findEvened 7 = .ok (.invokevirtual 288, 3) := by decide +kernel
theorem dX10_findEvened_10 : decode cX10_findEvened 10 = .ok (.aload_n 0, 1) := by decide +kernel
theorem dX10_findEvened_11 : decode cX10_findEvened 11 = .ok (.aload_n 0, 1) := by decide +kernel
theorem dX10_findEvened_12 : decode cX10_findEvened 12 = .ok (.iload_n 1, 1) := by decide +kernel
theorem dX10_findEvened_13 : decode cX10_findEvened 13 = .ok (.aload_n 0, 1) := by decide +kernel
theorem dX10_findEvened_14 : decode cX10_findEvened 14 = .ok (.getfield 59, 3) := by decide +kernel
theorem dX10_findEvened_17 : decode cX10_findEvened 17 = .ok (.iload_n 1, 1) := by decide +kernel
theorem dX10_findEvened_18 : decode cX10_findEvened 18 = .ok (.iaload, 1) := by decide +kernel
theorem dX10_findEvened_19 : decode cX10_findEvened 19 = .ok (.invokevirtual 202, 3) := by decide +kernel
theorem dX10_findEvened_22 : decode cX10_findEvened 22 = .ok (.i2l, 1) := by decide +kernel
theorem dX10_findEvened_23 : decode cX10_findEvened 23 = .ok (.aload_n 0, 1) := by decide +kernel
theorem dX10_findEvened_24 : decode cX10_findEvened 24 = .ok (.getfield 271, 3) := by decide +kernel
theorem dX10_findEvened_27 : decode cX10_findEvened 27 = .ok (.lmul, 1) := by decide +kernel
theorem dX10_findEvened_28 : decode cX10_findEvened 28 = .ok (.aload_n 0, 1) := by decide +kernel
theorem dX10_findEvened_29 : decode cX10_findEvened 29 = .ok (.getfield 267, 3) := by decide +kernel
theorem dX10_findEvened_32 : decode cX10_findEvened 32 = .ok (.lsub, 1) := by decide +kernel
theorem dX10_findEvened_33 : decode cX10_findEvened 33 = .ok (.putfield 267, 3) := by decide +kernel
theorem dX10_findEvened_36 : decode cX10_findEvened 36 = .ok (.aload_n 0, 1) := by decide +kernel
theorem dX10_findEvened_37 : decode cX10_findEvened 37 = .ok (.getfield 267, 3) := by decide +kernel
theorem dX10_findEvened_40 : decode cX10_findEvened 40 = .ok (.aload_n 0, 1) := by decide +kernel
theorem dX10_findEvened_41 : decode cX10_findEvened 41 = .ok (.getfield 271, 3) := by decide +kernel
theorem dX10_findEvened_44 : decode cX10_findEvened 44 = .ok (.invokestatic 281, 3) := by decide +kernel
theorem dX10_findEvened_47 : decode cX10_findEvened 47 = .ok (.lstore_n 2, 1) := by decide +kernel
theorem dX10_findEvened_48 : decode cX10_findEvened 48 = .ok (.aload_n 0, 1) := by decide +kernel
theorem dX10_findEvened_49 : decode cX10_findEvened 49 = .ok (.dup, 1) := by decide +kernel
theorem dX10_findEvened_50 : decode cX10_findEvened 50 = .ok (.getfield 267, 3) := by decide +kernel
theorem dX10_findEvened_53 : decode cX10_findEvened 53 = .ok (.lload_n 2, 1) := by decide +kernel
theorem dX10_findEvened_54 : decode cX10_findEvened 54 = .ok (.ldiv, 1) := by decide +kernel
theorem dX10_findEvened_55 : decode cX10_findEvened 55 = .ok (.putfield 267, 3) := by decide +kernel
theorem dX10_findEvened_58 : decode cX10_findEvened 58 = .ok (.aload_n 0, 1) := by decide +kernel
theorem dX10_findEvened_59 : decode cX10_findEvened 59 = .ok (.dup, 1) := by decide +kernel
theorem dX10_findEvened_60 : decode cX10_findEvened 60 = .ok (.getfield 271, 3) := by decide +kernel
theorem dX10_findEvened_63 : decode cX10_findEvened 63 = .ok (.lload_n 2, 1) := by decide +kernel
theorem dX10_findEvened_64 : decode cX10_findEvened 64 = .ok (.ldiv, 1) := by decide +kernel
theorem dX10_findEvened_65 : decode cX10_findEvened 65 = .ok (.putfield 271, 3) := by decide +kernel
theorem dX10_findEvened_68 : decode cX10_findEvened 68 = .ok (.return_, 1) := by decide +kernel
theorem dX10_evened_0 : decode cX10_evened 0 = .ok (.aload_n 0, 1) := by decide +kernel
theorem dX10_evened_1 : decode cX10_evened 1 = .ok (.iload_n 1, 1) := by decide +kernel
theorem dX10_evened_2 : decode cX10_evened 2 = .ok (.invokevirtual 199, 3) := by decide +kernel
theorem dX10_evened_5 : decode cX10_evened 5 = .ok (.ifCond .ne 9, 3) := by decide +kernel
theorem dX10_evened_8 : decode cX10_evened 8 = .ok (.aload_n 0, 1) := by decide +kernel
theorem dX10_evened_9 : decode cX10_evened 9 = .ok (.iconst (-1), 1) := by decide +kernel
theorem dX10_evened_10 : decode cX10_evened 10 = .ok (.invokevirtual 285, 3) := by decide +kernel
theorem dX10_evened_13 : decode cX10_evened 13 = .ok (.lreturn, 1) := by decide +kernel
theorem dX10_evened_14 : decode cX10_evened 14 = .ok (.iload_n 2, 1) := by decide +kernel
theorem dX10_evened_15 : decode cX10_evened 15 = .ok (.iconst 0, 1) := by decide +kernel
theorem dX10_evened_16 : decode cX10_evened 16 = .ok (.iconst 1, 1) := by decide +kernel
theorem dX10_evened_17 : decode cX10_evened 17 = .ok (.invokestatic 168, 3) := by decide +kernel
theorem dX10_evened_20 : decode cX10_evened 20 = .ok (.ifCond .ne 10, 3) := by decide +kernel
theorem dX10_evened_23 : decode cX10_evened 23 = .ok (.aload_n 0, 1) := by decide +kernel
theorem dX10_evened_24 : decode cX10_evened 24 = .ok (.bipush (-2), 2) := by decide +kernel
theorem dX10_evened_26 : decode cX10_evened 26 = .ok (.invokevirtual 285, 3) := by decide +kernel
theorem dX10_evened_29 : decode cX10_evened 29 = .ok (.lreturn, 1) := by decide +kernel
theorem dX10_evened_30 : decode cX10_evened 30 = .ok (.aload_n 0, 1) := by decide +kernel
theorem dX10_evened_31 : decode cX10_evened 31 = .ok (.iload_n 1, 1) := by decide +kernel
theorem dX10_evened_32 : decode cX10_evened 32 = .ok (.invokevirtual 292, 3) := by decide +kernel
theorem dX10_evened_35 : decode cX10_evened 35 = .ok (.iload_n 2, 1) := by decide +kernel
theorem dX10_evened_36 : decode cX10_evened 36 = .ok (.ifCond .ne 10, 3) := by decide +kernel
theorem dX10_evened_39 : decode cX10_evened 39 = .ok (.aload_n 0, 1) := by decide +kernel
theorem dX10_evened_40 : decode cX10_evened 40 = .ok (.getfield 267, 3) := by decide +kernel
theorem dX10_evened_43 : decode cX10_evened 43 = .ok (.goto 7, 3) := by decide +kernel
theorem dX10_evened_46 : decode cX10_evened 46 = .ok (.aload_n 0, 1) := by decide +kernel
theorem dX10_evened_47 : decode cX10_evened 47 = .ok (.getfield 271, 3) := by decide +kernel
theorem dX10_evened_50 : decode cX10_evened 50 = .ok (.lreturn, 1) := by decide +kernel
theorem dX10_others_0 : decode cX10_others 0 = .ok (.iconst 0, 1) := by decide +kernel
theorem dX10_others_1 : decode cX10_others 1 = .ok (.istore_n 1, 1) := by decide +kernel
theorem dX10_others_2 : decode cX10_others 2 = .ok (.iconst 0, 1) := by decide +kernel
theorem dX10_others_3 : decode cX10_others 3 = .ok (.istore_n 2, 1) := by decide +kernel
theorem dX10_others_4 : decode cX10_others 4 = .ok (.iload_n 2, 1) := by decide +kernel
theorem dX10_others_5 : decode cX10_others 5 = .ok (.aload_n 0, 1) := by decide +kernel
theorem dX10_others_6 : decode cX10_others 6 = .ok (.getfield 165, 3) := by decide +kernel
theorem dX10_others_9 : decode cX10_others 9 = .ok (.if_icmp .ge 79, 3) := by decide +kernel
theorem dX10_others_12 : decode cX10_others 12 = .ok (.aload_n 0, 1) := by decide +kernel
theorem dX10_others_13 : decode cX10_others 13 = .ok (.iload_n 2, 1) := by decide +kernel
theorem dX10_others_14 : decode cX10_others 14 = .ok (.aload_n 0, 1) := by decide +kernel
theorem dX10_others_15 : decode cX10_others 15 = .ok (.getfield 179, 3) := by decide +kernel
theorem dX10_others_18 : decode cX10_others 18 = .ok (.aload_n 0, 1) := by decide +kernel
theorem dX10_others_19 : decode cX10_others 19 = .ok (.getfield 179, 3) := by decide +kernel
theorem dX10_others_22 : decode cX10_others 22 = .ok (.invokevirtual 212, 3) := by decide +kernel
theorem dX10_others_25 : decode cX10_others 25 = .ok (.istore_n 3, 1) := by decide +kernel
theorem dX10_others_26 : decode cX10_others 26 = .ok (.aload_n 0, 1) := by decide +kernel
theorem dX10_others_27 : decode cX10_others 27 = .ok (.iload_n 2, 1) := by decide +kernel
theorem dX10_others_28 : decode cX10_others 28 = .ok (.aload_n 0, 1) := by decide +kernel
theorem dX10_others_29 : decode cX10_others 29 = .ok (.getfield 179, 3) := by decide +kernel
theorem dX10_others_32 : decode cX10_others 32 = .ok (.aload_n 0, 1) := by decide +kernel
theorem dX10_others_33 : decode cX10_others 33 = .ok (.getfield 179, 3) := by decide +kernel
theorem dX10_others_36 : decode cX10_others 36 = .ok (.invokevirtual 220, 3) := by decide +kernel
theorem dX10_others_39 : decode cX10_others 39 = .ok (.istore 4, 2) := by decide +kernel
theorem dX10_others_41 : decode cX10_others 41 = .ok (.iload 4, 2) := by decide +kernel
theorem dX10_others_43 : decode cX10_others 43 = .ok (.ifCond .le 39, 3) := by decide +kernel
theorem dX10_others_46 : decode cX10_others 46 = .ok (.aload_n 0, 1) := by decide +kernel
theorem dX10_others_47 : decode cX10_others 47 = .ok (.iload_n 3, 1) := by decide +kernel
theorem dX10_others_48 : decode cX10_others 48 = .ok (.invokevirtual 292, 3) := by decide +kernel
theorem dX10_others_51 : decode cX10_others 51 = .ok (.iload_n 1, 1) := by decide +kernel
theorem dX10_others_52 : decode cX10_others 52 = .ok (.aload_n 0, 1) := by decide +kernel
theorem dX10_others_53 : decode cX10_others 53 = .ok (.aload_n 0, 1) := by decide +kernel
theorem dX10_others_54 : decode cX10_others 54 = .ok (.getfield 267, 3) := by decide +kernel
theorem dX10_others_57 : decode cX10_others 57 = .ok (.aload_n 0, 1) := by decide +kernel
theorem dX10_others_58 : decode cX10_others 58 = .ok (.getfield 271, 3) := by decide +kernel
theorem dX10_others_61 : decode cX10_others 61 = .ok (.aload_n 0, 1) := by decide +kernel
theorem dX10_others_62 : decode cX10_others 62 = .ok (.getfield 59, 3) := by decide +kernel
theorem dX10_others_65 : decode cX10_others 65 = .ok (.iload_n 3, 1) := by decide +kernel
theorem dX10_others_66 : decode cX10_others 66 = .ok (.iaload, 1) := by decide +kernel
theorem dX10_others_67 : decode cX10_others 67 = .ok (.invokevirtual 216, 3) := by decide +kernel
theorem dX10_others_70 : decode cX10_others 70 = .ok (.iload 4, 2) := by decide +kernel
theorem dX10_others_72 : decode cX10_others 72 = .ok (.if_icmp .ne 7, 3) := by decide +kernel
theorem dX10_others_75 : decode cX10_others 75 = .ok (.iconst 0, 1) := by decide +kernel
theorem dX10_others_76 : decode cX10_others 76 = .ok (.goto 4, 3) := by decide +kernel
theorem dX10_others_79 : decode cX10_others 79 = .ok (.iconst 1, 1) := by decide +kernel
theorem dX10_others_80 : decode cX10_others 80 = .ok (.iadd, 1) := by decide +kernel
theorem dX10_others_81 : decode cX10_others 81 = .ok (.istore_n 1, 1) := by decide +kernel
theorem dX10_others_82 : decode cX10_others 82 = .ok (.iinc 2 1, 3) := by decide +kernel
theorem dX10_others_85 : decode cX10_others 85 = .ok (.goto (-81), 3) := by decide +kernel
theorem dX10_others_88 : decode cX10_others 88 = .ok (.iload_n 1, 1) := by decide +kernel
theorem dX10_others_89 : decode cX10_others 89 = .ok (.ireturn, 1) := by decide +kernel
theorem dX10_swap_0 : decode cX10_swap 0 = .ok (.iload_n 1, 1) := by decide +kernel
theorem dX10_swap_1 : decode cX10_swap 1 = .ok (.ifCond .lt 8, 3) := by decide +kernel
theorem dX10_swap_4 : decode cX10_swap 4 = .ok (.iload_n 2, 1) := by decide +kernel
theorem dX10_swap_5 : decode cX10_swap 5 = .ok (.iconst 2, 1) := by decide +kernel
theorem dX10_swap_6 : decode cX10_swap 6 = .ok (.if_icmp .ge 10, 3) := by decide +kernel
theorem dX10_swap_9 : decode cX10_swap 9 = .ok (.aload_n 0, 1) := by decide +kernel
theorem dX10_swap_10 : decode cX10_swap 10 = .ok (.bipush (-4), 2) := by decide +kernel
theorem dX10_swap_12 : decode cX10_swap 12 = .ok (.invokevirtual 175, 3) := by decide +kernel
theorem dX10_swap_15 : decode cX10_swap 15 = .ok (.ireturn, 1) := by decide +kernel
theorem dX10_swap_16 : decode cX10_swap 16 = .ok (.iload_n 1, 1) := by decide +kernel
theorem dX10_swap_17 : decode cX10_swap 17 = .ok (.sipush 9999, 3) := by decide +kernel
theorem dX10_swap_20 : decode cX10_swap 20 = .ok (.if_icmp .gt 8, 3) := by decide +kernel
theorem dX10_swap_23 : decode cX10_swap 23 = .ok (.iload_n 2, 1) := by decide +kernel
theorem dX10_swap_24 : decode cX10_swap 24 = .ok (.iconst 5, 1) := by decide +kernel
theorem dX10_swap_25 : decode cX10_swap 25 = .ok (.if_icmp .le 10, 3) := by decide +kernel
theorem dX10_swap_28 : decode cX10_swap 28 = .ok (.aload_n 0, 1) := by decide +kernel
theorem dX10_swap_29 : decode cX10_swap 29 = .ok (.bipush (-6), 2) := by decide +kernel
theorem dX10_swap_31 : decode cX10_swap 31 = .ok (.invokevirtual 175, 3) := by decide +kernel
theorem dX10_swap_34 : decode cX10_swap 34 = .ok (.ireturn, 1) := by decide +kernel
theorem dX10_swap_35 : decode cX10_swap 35 = .ok (.iload_n 3, 1) := by decide +kernel
theorem dX10_swap_36 : decode cX10_swap 36 = .ok (.iconst 0, 1) := by decide +kernel
theorem dX10_swap_37 : decode cX10_swap 37 = .ok (.iload_n 2, 1) := by decide +kernel
theorem dX10_swap_38 : decode cX10_swap 38 = .ok (.iconst 1, 1) := by decide +kernel
theorem dX10_swap_39 : decode cX10_swap 39 = .ok (.isub, 1) := by decide +kernel
theorem dX10_swap_40 : decode cX10_swap 40 = .ok (.invokestatic 168, 3) := by decide +kernel
theorem dX10_swap_43 : decode cX10_swap 43 = .ok (.ifCond .ne 9, 3) := by decide +kernel
theorem dX10_swap_46 : decode cX10_swap 46 = .ok (.aload_n 0, 1) := by decide +kernel
theorem dX10_swap_47 : decode cX10_swap 47 = .ok (.iconst (-1), 1) := by decide +kernel
theorem dX10_swap_48 : decode cX10_swap 48 = .ok (.invokevirtual 175, 3) := by decide +kernel
theorem dX10_swap_51 : decode cX10_swap 51 = .ok (.ireturn, 1) := by decide +kernel
theorem dX10_swap_52 : decode cX10_swap 52 = .ok (.iconst 0, 1) := by decide +kernel
theorem dX10_swap_53 : decode cX10_swap 53 = .ok (.istore 4, 2) := by decide +kernel
theorem dX10_swap_55 : decode cX10_swap 55 = .ok (.iload 4, 2) := by decide +kernel
theorem dX10_swap_57 : decode cX10_swap 57 = .ok (.iload_n 2, 1) := by decide +kernel
theorem dX10_swap_58 : decode cX10_swap 58 = .ok (.if_icmp .ge 18, 3) := by decide +kernel
theorem dX10_swap_61 : decode cX10_swap 61 = .ok (.aload_n 0, 1) := by decide +kernel
theorem dX10_swap_62 : decode cX10_swap 62 = .ok (.getfield 127, 3) := by decide +kernel
theorem dX10_swap_65 : decode cX10_swap 65 = .ok (.iload 4, 2) := by decide +kernel
theorem dX10_swap_67 : decode cX10_swap 67 = .ok (.iload 4, 2) := by decide +kernel
theorem dX10_swap_69 : decode cX10_swap 69 = .ok (.iastore, 1) := by decide +kernel
theorem dX10_swap_70 : decode cX10_swap 70 = .ok (.iinc 4 1, 3) := by decide +kernel
theorem dX10_swap_73 : decode cX10_swap 73 = .ok (.goto (-18), 3) := by decide +kernel
theorem dX10_swap_76 : decode cX10_swap 76 = .ok (.iload_n 1, 1) := by decide +kernel
theorem dX10_swap_77 : decode cX10_swap 77 = .ok (.istore 4, 2) := by decide +kernel
theorem dX10_swap_79 : decode cX10_swap 79 = .ok (.iload_n 2, 1) := by decide +kernel
theorem dX10_swap_80 : decode cX10_swap 80 = .ok (.iconst 1, 1) := by decide +kernel
theorem dX10_swap_81 : decode cX10_swap 81 = .ok (.isub, 1) := by decide +kernel
theorem dX10_swap_82 : decode cX10_swap 82 = .ok (.istore 5, 2) := by decide +kernel
theorem dX10_swap_84 : decode cX10_swap 84 = .ok (.iload 5, 2) := by decide +kernel
theorem dX10_swap_86 : decode cX10_swap 86 = .ok (.ifCond .le 64, 3) := by decide +kernel
theorem dX10_swap_89 : decode cX10_swap 89 = .ok (.iload 4, 2) := by decide +kernel
theorem dX10_swap_91 : decode cX10_swap 91 = .ok (.bipush 37, 2) := by decide +kernel
theorem dX10_swap_93 : decode cX10_swap 93 = .ok (.imul, 1) := by decide +kernel
theorem dX10_swap_94 : decode cX10_swap 94 = .ok (.bipush 101, 2) := by decide +kernel
theorem dX10_swap_96 : decode cX10_swap 96 = .ok (.iadd, 1) := by decide +kernel
theorem dX10_swap_97 : decode cX10_swap 97 = .ok (.sipush 10007, 3) := by decide +kernel
theorem dX10_swap_100 : decode cX10_swap 100 = .ok (.irem, 1) := by decide +kernel
theorem dX10_swap_101 : decode cX10_swap 101 = .ok (.istore 4, 2) := by decide +kernel
theorem dX10_swap_103 : decode cX10_swap 103 = .ok (.iload 4, 2) := by decide +kernel
theorem dX10_swap_105 : decode cX10_swap 105 = .ok (.iload 5, 2) := by decide +kernel
theorem dX10_swap_107 : decode cX10_swap 107 = .ok (.iconst 1, 1) := by decide +kernel
theorem dX10_swap_108 : decode cX10_swap 108 = .ok (.iadd, 1) := by decide +kernel
theorem dX10_swap_109 : decode cX10_swap 109 = .ok (.irem, 1) := by decide +kernel
theorem dX10_swap_110 : decode cX10_swap 110 = .ok (.istore 6, 2) := by decide +kernel
theorem dX10_swap_112 : decode cX10_swap 112 = .ok (.aload_n 0, 1) := by decide +kernel
theorem dX10_swap_113 : decode cX10_swap 113 = .ok (.getfield 127, 3) := by decide +kernel
theorem dX10_swap_116 : decode cX10_swap 116 = .ok (.iload 5, 2) := by decide +kernel
theorem dX10_swap_118 : decode cX10_swap 118 = .ok (.iaload, 1) := by decide +kernel
theorem dX10_swap_119 : decode cX10_swap 119 = .ok (.istore 7, 2) := by decide +kernel
theorem dX10_swap_121 : decode cX10_swap 121 = .ok (.aload_n 0, 1) := by decide +kernel
theorem dX10_swap_122 : decode cX10_swap 122 = .ok (.getfield 127, 3) := by decide +kernel
theorem dX10_swap_125 : decode cX10_swap 125 = .ok (.iload 5, 2) := by decide +kernel
theorem dX10_swap_127 : decode cX10_swap 127 = .ok (.aload_n 0, 1) := by decide +kernel
theorem dX10_swap_128 : decode cX10_swap 128 = .ok (.getfield 127, 3) := by decide +kernel
theorem dX10_swap_131 : decode cX10_swap 131 = .ok (.iload 6, 2) := by decide +kernel
theorem dX10_swap_133 : decode cX10_swap 133 = .ok (.iaload, 1) := by decide +kernel
theorem dX10_swap_134 : decode cX10_swap 134 = .ok (.iastore, 1) := by decide +kernel
theorem dX10_swap_135 : decode cX10_swap 135 = .ok (.aload_n 0, 1) := by decide +kernel
theorem dX10_swap_136 : decode cX10_swap 136 = .ok (.getfield 127, 3) := by decide +kernel
theorem dX10_swap_139 : decode cX10_swap 139 = .ok (.iload 6, 2) := by decide +kernel
theorem dX10_swap_141 : decode cX10_swap 141 = .ok (.iload 7, 2) := by decide +kernel
theorem dX10_swap_143 : decode cX10_swap 143 = .ok (.iastore, 1) := by decide +kernel
theorem dX10_swap_144 : decode cX10_swap 144 = .ok (.iinc 5 (-1), 3) := by decide +kernel
theorem dX10_swap_147 : decode cX10_swap 147 = .ok (.goto (-63), 3) := by decide +kernel
theorem dX10_swap_150 : decode cX10_swap 150 = .ok (.aload_n 0, 1) := by decide +kernel
theorem dX10_swap_151 : decode cX10_swap 151 = .ok (.getfield 127, 3) := by decide +kernel
theorem dX10_swap_154 : decode cX10_swap 154 = .ok (.iload_n 3, 1) := by decide +kernel
theorem dX10_swap_155 : decode cX10_swap 155 = .ok (.iaload, 1) := by decide +kernel
theorem dX10_swap_156 : decode cX10_swap 156 = .ok (.ireturn, 1) := by decide +kernel
theorem dX10_shut_0 : decode cX10_shut 0 = .ok (.aload_n 0, 1) := by decide +kernel
theorem dX10_shut_1 : decode cX10_shut 1 = .ok (.iload_n 1, 1) := by decide +kernel
theorem dX10_shut_2 : decode cX10_shut 2 = .ok (.invokevirtual 196, 3) := by decide +kernel
theorem dX10_shut_5 : decode cX10_shut 5 = .ok (.ifCond .ne 9, 3) := by decide +kernel
theorem dX10_shut_8 : decode cX10_shut 8 = .ok (.aload_n 0, 1) := by decide +kernel
theorem dX10_shut_9 : decode cX10_shut 9 = .ok (.iconst (-1), 1) := by decide +kernel
theorem dX10_shut_10 : decode cX10_shut 10 = .ok (.invokevirtual 175, 3) := by decide +kernel
theorem dX10_shut_13 : decode cX10_shut 13 = .ok (.ireturn, 1) := by decide +kernel
theorem dX10_shut_14 : decode cX10_shut 14 = .ok (.iload_n 2, 1) := by decide +kernel
theorem dX10_shut_15 : decode cX10_shut 15 = .ok (.ifCond .lt 8, 3) := by decide +kernel
theorem dX10_shut_18 : decode cX10_shut 18 = .ok (.iload_n 3, 1) := by decide +kernel
theorem dX10_shut_19 : decode cX10_shut 19 = .ok (.iload_n 2, 1) := by decide +kernel
theorem dX10_shut_20 : decode cX10_shut 20 = .ok (.if_icmp .ge 10, 3) := by decide +kernel
theorem dX10_shut_23 : decode cX10_shut 23 = .ok (.aload_n 0, 1) := by decide +kernel
theorem dX10_shut_24 : decode cX10_shut 24 = .ok (.bipush (-4), 2) := by decide +kernel
theorem dX10_shut_26 : decode cX10_shut 26 = .ok (.invokevirtual 175, 3) := by decide +kernel
theorem dX10_shut_29 : decode cX10_shut 29 = .ok (.ireturn, 1) := by decide +kernel
theorem dX10_shut_30 : decode cX10_shut 30 = .ok (.iload_n 3, 1) := by decide +kernel
theorem dX10_shut_31 : decode cX10_shut 31 = .ok (.sipush 1500, 3) := by decide +kernel
theorem dX10_shut_34 : decode cX10_shut 34 = .ok (.if_icmp .gt 14, 3) := by decide +kernel
theorem dX10_shut_37 : decode cX10_shut 37 = .ok (.aload_n 0, 1) := by decide +kernel
theorem dX10_shut_38 : decode cX10_shut 38 = .ok (.getfield 130, 3) := by decide +kernel
theorem dX10_shut_41 : decode cX10_shut 41 = .ok (.iload_n 1, 1) := by decide +kernel
theorem dX10_shut_42 : decode cX10_shut 42 = .ok (.iaload, 1) := by decide +kernel
theorem dX10_shut_43 : decode cX10_shut 43 = .ok (.bipush 8, 2) := by decide +kernel
theorem dX10_shut_45 : decode cX10_shut 45 = .ok (.if_icmp .ne 10, 3) := by decide +kernel
theorem dX10_shut_48 : decode cX10_shut 48 = .ok (.aload_n 0, 1) := by decide +kernel
theorem dX10_shut_49 : decode cX10_shut 49 = .ok (.bipush (-6), 2) := by decide +kernel
theorem dX10_shut_51 : decode cX10_shut 51 = .ok (.invokevirtual 175, 3) := by decide +kernel
theorem dX10_shut_54 : decode cX10_shut 54 = .ok (.ireturn, 1) := by decide +kernel
theorem dX10_shut_55 : decode cX10_shut 55 = .ok (.aload_n 0, 1) := by decide +kernel
theorem dX10_shut_56 : decode cX10_shut 56 = .ok (.getfield 133, 3) := by decide +kernel
theorem dX10_shut_59 : decode cX10_shut 59 = .ok (.bipush 8, 2) := by decide +kernel
theorem dX10_shut_61 : decode cX10_shut 61 = .ok (.iload_n 1, 1) := by decide +kernel
theorem dX10_shut_62 : decode cX10_shut 62 = .ok (.imul, 1) := by decide +kernel
theorem dX10_shut_63 : decode cX10_shut 63 = .ok (.aload_n 0, 1) := by decide +kernel
theorem dX10_shut_64 : decode cX10_shut 64 = .ok (.getfield 130, 3) := by decide +kernel
theorem dX10_shut_67 : decode cX10_shut 67 = .ok (.iload_n 1, 1) := by decide +kernel
theorem dX10_shut_68 : decode cX10_shut 68 = .ok (.iaload, 1) := by decide +kernel
theorem dX10_shut_69 : decode cX10_shut 69 = .ok (.iadd, 1) := by decide +kernel
theorem dX10_shut_70 : decode cX10_shut 70 = .ok (.iload_n 2, 1) := by decide +kernel
theorem dX10_shut_71 : decode cX10_shut 71 = .ok (.iastore, 1) := by decide +kernel
theorem dX10_shut_72 : decode cX10_shut 72 = .ok (.aload_n 0, 1) := by decide +kernel
theorem dX10_shut_73 : decode cX10_shut 73 = .ok (.getfield 136, 3) := by decide +kernel
theorem dX10_shut_76 : decode cX10_shut 76 = .ok (.bipush 8, 2) := by decide +kernel
theorem dX10_shut_78 : decode cX10_shut 78 = .ok (.iload_n 1, 1) := by decide +kernel
theorem dX10_shut_79 : decode cX10_shut 79 = .ok (.imul, 1) := by decide +kernel
theorem dX10_shut_80 : decode cX10_shut 80 = .ok (.aload_n 0, 1) := by decide +kernel
theorem dX10_shut_81 : decode cX10_shut 81 = .ok (.getfield 130, 3) := by decide +kernel
theorem dX10_shut_84 : decode cX10_shut 84 = .ok (.iload_n 1, 1) := by decide +kernel
theorem dX10_shut_85 : decode cX10_shut 85 = .ok (.iaload, 1) := by decide +kernel
theorem dX10_shut_86 : decode cX10_shut 86 = .ok (.iadd, 1) := by decide +kernel
theorem dX10_shut_87 : decode cX10_shut 87 = .ok (.iload_n 3, 1) := by decide +kernel
theorem dX10_shut_88 : decode cX10_shut 88 = .ok (.iastore, 1) := by decide +kernel
theorem dX10_shut_89 : decode cX10_shut 89 = .ok (.aload_n 0, 1) := by decide +kernel
theorem dX10_shut_90 : decode cX10_shut 90 = .ok (.getfield 130, 3) := by decide +kernel
theorem dX10_shut_93 : decode cX10_shut 93 = .ok (.iload_n 1, 1) := by decide +kernel
theorem dX10_shut_94 : decode cX10_shut 94 = .ok (.dup2, 1) := by decide +kernel
theorem dX10_shut_95 : decode cX10_shut 95 = .ok (.iaload, 1) := by decide +kernel
theorem dX10_shut_96 : decode cX10_shut 96 = .ok (.iconst 1, 1) := by decide +kernel
theorem dX10_shut_97 : decode cX10_shut 97 = .ok (.iadd, 1) := by decide +kernel
theorem dX10_shut_98 : decode cX10_shut 98 = .ok (.iastore, 1) := by decide +kernel
theorem dX10_shut_99 : decode cX10_shut 99 = .ok (.aload_n 0, 1) := by decide +kernel
theorem dX10_shut_100 : decode cX10_shut 100 = .ok (.getfield 130, 3) := by decide +kernel
theorem dX10_shut_103 : decode cX10_shut 103 = .ok (.iload_n 1, 1) := by decide +kernel
theorem dX10_shut_104 : decode cX10_shut 104 = .ok (.iaload, 1) := by decide +kernel
theorem dX10_shut_105 : decode cX10_shut 105 = .ok (.ireturn, 1) := by decide +kernel
theorem dX10_complaint_0 : decode cX10_complaint 0 = .ok (.iload_n 1, 1) := by decide +kernel
theorem dX10_complaint_1 : decode cX10_complaint 1 = .ok (.iconst 0, 1) := by decide +kernel
theorem dX10_complaint_2 : decode cX10_complaint 2 = .ok (.iconst 5, 1) := by decide +kernel
theorem dX10_complaint_3 : decode cX10_complaint 3 = .ok (.invokestatic 168, 3) := by decide +kernel
theorem dX10_complaint_6 : decode cX10_complaint 6 = .ok (.ifCond .eq 14, 3) := by decide +kernel
theorem dX10_complaint_9 : decode cX10_complaint 9 = .ok (.iload 4, 2) := by decide +kernel
theorem dX10_complaint_11 : decode cX10_complaint 11 = .ok (.iconst 0, 1) := by decide +kernel
theorem dX10_complaint_12 : decode cX10_complaint 12 = .ok (.bipush 7, 2) := by decide +kernel
theorem dX10_complaint_14 : decode cX10_complaint 14 = .ok (.invokestatic 168, 3) := by decide +kernel
theorem dX10_complaint_17 : decode cX10_complaint 17 = .ok (.ifCond .ne 9, 3) := by decide +kernel
theorem dX10_complaint_20 : decode cX10_complaint 20 = .ok (.aload_n 0, 1) := by decide +kernel
theorem dX10_complaint_21 : decode cX10_complaint 21 = .ok (.iconst (-1), 1) := by decide +kernel
theorem dX10_complaint_22 : decode cX10_complaint 22 = .ok (.invokevirtual 175, 3) := by decide +kernel
theorem dX10_complaint_25 : decode cX10_complaint 25 = .ok (.ireturn, 1) := by decide +kernel
theorem dX10_complaint_26 : decode cX10_complaint 26 = .ok (.iload_n 2, 1) := by decide +kernel
theorem dX10_complaint_27 : decode cX10_complaint 27 = .ok (.ifCond .lt 8, 3) := by decide +kernel
theorem dX10_complaint_30 : decode cX10_complaint 30 = .ok (.iload_n 3, 1) := by decide +kernel
theorem dX10_complaint_31 : decode cX10_complaint 31 = .ok (.iload_n 2, 1) := by decide +kernel
theorem dX10_complaint_32 : decode cX10_complaint 32 = .ok (.if_icmp .ge 10, 3) := by decide +kernel
theorem dX10_complaint_35 : decode cX10_complaint 35 = .ok (.aload_n 0, 1) := by decide +kernel
theorem dX10_complaint_36 : decode cX10_complaint 36 = .ok (.bipush (-4), 2) := by decide +kernel
theorem dX10_complaint_38 : decode cX10_complaint 38 = .ok (.invokevirtual 175, 3) := by decide +kernel
theorem dX10_complaint_41 : decode cX10_complaint 41 = .ok (.ireturn, 1) := by decide +kernel
theorem dX10_complaint_42 : decode cX10_complaint 42 = .ok (.iload_n 3, 1) := by decide +kernel
theorem dX10_complaint_43 : decode cX10_complaint 43 = .ok (.sipush 1500, 3) := by decide +kernel
theorem dX10_complaint_46 : decode cX10_complaint 46 = .ok (.if_icmp .gt 12, 3) := by decide +kernel
theorem dX10_complaint_49 : decode cX10_complaint 49 = .ok (.aload_n 0, 1) := by decide +kernel
theorem dX10_complaint_50 : decode cX10_complaint 50 = .ok (.getfield 295, 3) := by decide +kernel
theorem dX10_complaint_53 : decode cX10_complaint 53 = .ok (.bipush 20, 2) := by decide +kernel
theorem dX10_complaint_55 : decode cX10_complaint 55 = .ok (.if_icmp .ne 10, 3) := by decide +kernel
theorem dX10_complaint_58 : decode cX10_complaint 58 = .ok (.aload_n 0, 1) := by decide +kernel
theorem dX10_complaint_59 : decode cX10_complaint 59 = .ok (.bipush (-6), 2) := by decide +kernel
theorem dX10_complaint_61 : decode cX10_complaint 61 = .ok (.invokevirtual 175, 3) := by decide +kernel
theorem dX10_complaint_64 : decode cX10_complaint 64 = .ok (.ireturn, 1) := by decide +kernel
theorem dX10_complaint_65 : decode cX10_complaint 65 = .ok (.aload_n 0, 1) := by decide +kernel
theorem dX10_complaint_66 : decode cX10_complaint 66 = .ok (.getfield 139, 3) := by decide +kernel
theorem dX10_complaint_69 : decode cX10_complaint 69 = .ok (.aload_n 0, 1) := by decide +kernel
theorem dX10_complaint_70 : decode cX10_complaint 70 = .ok (.getfield 295, 3) := by decide +kernel
theorem dX10_complaint_73 : decode cX10_complaint 73 = .ok (.iload_n 1, 1) := by decide +kernel
theorem dX10_complaint_74 : decode cX10_complaint 74 = .ok (.iastore, 1) := by decide +kernel
theorem dX10_complaint_75 : decode cX10_complaint 75 = .ok (.aload_n 0, 1) := by decide +kernel
theorem dX10_complaint_76 : decode cX10_complaint 76 = .ok (.getfield 142, 3) := by decide +kernel
theorem dX10_complaint_79 : decode cX10_complaint 79 = .ok (.aload_n 0, 1) := by decide +kernel
theorem dX10_complaint_80 : decode cX10_complaint 80 = .ok (.getfield 295, 3) := by decide +kernel
theorem dX10_complaint_83 : decode cX10_complaint 83 = .ok (.iload_n 2, 1) := by decide +kernel
theorem dX10_complaint_84 : decode cX10_complaint 84 = .ok (.iastore, 1) := by decide +kernel
theorem dX10_complaint_85 : decode cX10_complaint 85 = .ok (.aload_n 0, 1) := by decide +kernel
theorem dX10_complaint_86 : decode cX10_complaint 86 = .ok (.getfield 145, 3) := by decide +kernel
theorem dX10_complaint_89 : decode cX10_complaint 89 = .ok (.aload_n 0, 1) := by decide +kernel
theorem dX10_complaint_90 : decode cX10_complaint 90 = .ok (.getfield 295, 3) := by decide +kernel
theorem dX10_complaint_93 : decode cX10_complaint 93 = .ok (.iload_n 3, 1) := by decide +kernel
theorem dX10_complaint_94 : decode cX10_complaint 94 = .ok (.iastore, 1) := by decide +kernel
theorem dX10_complaint_95 : decode cX10_complaint 95 = .ok (.aload_n 0, 1) := by decide +kernel
theorem dX10_complaint_96 : decode cX10_complaint 96 = .ok (.getfield 148, 3) := by decide +kernel
theorem dX10_complaint_99 : decode cX10_complaint 99 = .ok (.aload_n 0, 1) := by decide +kernel
theorem dX10_complaint_100 : decode cX10_complaint 100 = .ok (.getfield 295, 3) := by decide +kernel
theorem dX10_complaint_103 : decode cX10_complaint 103 = .ok (.iload 4, 2) := by decide +kernel
theorem dX10_complaint_105 : decode cX10_complaint 105 = .ok (.iastore, 1) := by decide +kernel
theorem dX10_complaint_106 : decode cX10_complaint 106 = .ok (.aload_n 0, 1) := by decide +kernel
theorem dX10_complaint_107 : decode cX10_complaint 107 = .ok (.dup, 1) := by decide +kernel
theorem dX10_complaint_108 : decode cX10_complaint 108 = .ok (.getfield 295, 3) := by decide +kernel
theorem dX10_complaint_111 : decode cX10_complaint 111 = .ok (.iconst 1, 1) := by decide +kernel
theorem dX10_complaint_112 : decode cX10_complaint 112 = .ok (.iadd, 1) := by decide +kernel
theorem dX10_complaint_113 : decode cX10_complaint 113 = .ok (.putfield 295, 3) := by decide +kernel
theorem dX10_complaint_116 : decode cX10_complaint 116 = .ok (.aload_n 0, 1) := by decide +kernel
theorem dX10_complaint_117 : decode cX10_complaint 117 = .ok (.getfield 295, 3) := by decide +kernel
theorem dX10_complaint_120 : decode cX10_complaint 120 = .ok (.iconst 1, 1) := by decide +kernel
theorem dX10_complaint_121 : decode cX10_complaint 121 = .ok (.isub, 1) := by decide +kernel
theorem dX10_complaint_122 : decode cX10_complaint 122 = .ok (.ireturn, 1) := by decide +kernel
theorem dX10_weightOf_0 : decode cX10_weightOf 0 = .ok (.aload_n 0, 1) := by decide +kernel
theorem dX10_weightOf_1 : decode cX10_weightOf 1 = .ok (.getfield 31, 3) := by decide +kernel
theorem dX10_weightOf_4 : decode cX10_weightOf 4 = .ok (.iload_n 2, 1) := by decide +kernel
theorem dX10_weightOf_5 : decode cX10_weightOf 5 = .ok (.iaload, 1) := by decide +kernel
theorem dX10_weightOf_6 : decode cX10_weightOf 6 = .ok (.aload_n 0, 1) := by decide +kernel
theorem dX10_weightOf_7 : decode cX10_weightOf 7 = .ok (.getfield 139, 3) := by decide +kernel
theorem dX10_weightOf_10 : decode cX10_weightOf 10 = .ok (.iload_n 1, 1) := by decide +kernel
theorem dX10_weightOf_11 : decode cX10_weightOf 11 = .ok (.iaload, 1) := by decide +kernel
theorem dX10_weightOf_12 : decode cX10_weightOf 12 = .ok (.if_icmp .ne 21, 3) := by decide +kernel
theorem dX10_weightOf_15 : decode cX10_weightOf 15 = .ok (.aload_n 0, 1) := by decide +kernel
theorem dX10_weightOf_16 : decode cX10_weightOf 16 = .ok (.getfield 40, 3) := by decide +kernel
theorem dX10_weightOf_19 : decode cX10_weightOf 19 = .ok (.iload_n 2, 1) := by decide +kernel
theorem dX10_weightOf_20 : decode cX10_weightOf 20 = .ok (.iaload, 1) := by decide +kernel
theorem dX10_weightOf_21 : decode cX10_weightOf 21 = .ok (.aload_n 0, 1) := by decide +kernel
theorem dX10_weightOf_22 : decode cX10_weightOf 22 = .ok (.getfield 148, 3) := by decide +kernel
theorem dX10_weightOf_25 : decode cX10_weightOf 25 = .ok (.iload_n 1, 1) := by decide +kernel
theorem dX10_weightOf_26 : decode cX10_weightOf 26 = .ok (.iaload, 1) := by decide +kernel
theorem dX10_weightOf_27 : decode cX10_weightOf 27 = .ok (.ishr, 1) := by decide +kernel
theorem dX10_weightOf_28 : decode cX10_weightOf 28 = .ok (.iconst 1, 1) := by decide +kernel
theorem dX10_weightOf_29 : decode cX10_weightOf 29 = .ok (.iand, 1) := by decide +kernel
theorem dX10_weightOf_30 : decode cX10_weightOf 30 = .ok (.ifCond .ne 5, 3) := by decide +kernel
theorem dX10_weightOf_33 : decode cX10_weightOf 33 = .ok (.iconst 0, 1) := by decide +kernel
theorem dX10_weightOf_34 : decode cX10_weightOf 34 = .ok (.ireturn, 1) := by decide +kernel
theorem dX10_weightOf_35 : decode cX10_weightOf 35 = .ok (.iconst 0, 1) := by decide +kernel
theorem dX10_weightOf_36 : decode cX10_weightOf 36 = .ok (.istore_n 3, 1) := by decide +kernel
theorem dX10_weightOf_37 : decode cX10_weightOf 37 = .ok (.aload_n 0, 1) := by decide +kernel
theorem dX10_weightOf_38 : decode cX10_weightOf 38 = .ok (.getfield 142, 3) := by decide +kernel
theorem dX10_weightOf_41 : decode cX10_weightOf 41 = .ok (.iload_n 1, 1) := by decide +kernel
theorem dX10_weightOf_42 : decode cX10_weightOf 42 = .ok (.iaload, 1) := by decide +kernel
theorem dX10_weightOf_43 : decode cX10_weightOf 43 = .ok (.istore 4, 2) := by decide +kernel
theorem dX10_weightOf_45 : decode cX10_weightOf 45 = .ok (.iload 4, 2) := by decide +kernel
theorem dX10_weightOf_47 : decode cX10_weightOf 47 = .ok (.aload_n 0, 1) := by decide +kernel
theorem dX10_weightOf_48 : decode cX10_weightOf 48 = .ok (.getfield 145, 3) := by decide +kernel
theorem dX10_weightOf_51 : decode cX10_weightOf 51 = .ok (.iload_n 1, 1) := by decide +kernel
theorem dX10_weightOf_52 : decode cX10_weightOf 52 = .ok (.iaload, 1) := by decide +kernel
theorem dX10_weightOf_53 : decode cX10_weightOf 53 = .ok (.if_icmp .gt 89, 3) := by decide +kernel
theorem dX10_weightOf_56 : decode cX10_weightOf 56 = .ok (.iconst 0, 1) := by decide +kernel
theorem dX10_weightOf_57 : decode cX10_weightOf 57 = .ok (.istore 5, 2) := by decide +kernel
theorem dX10_weightOf_59 : decode cX10_weightOf 59 = .ok (.iconst 0, 1) := by decide +kernel
theorem dX10_weightOf_60 : decode cX10_weightOf 60 = .ok (.istore 6, 2) := by decide +kernel
theorem dX10_weightOf_62 : decode cX10_weightOf 62 = .ok (.iload 6, 2) := by decide +kernel
theorem dX10_weightOf_64 : decode cX10_weightOf 64 = .ok (.aload_n 0, 1) := by decide +kernel
theorem dX10_weightOf_65 : decode cX10_weightOf 65 = .ok (.getfield 130, 3) := by decide +kernel
theorem dX10_weightOf_68 : decode cX10_weightOf 68 = .ok (.iload_n 2, 1) := by decide +kernel
theorem dX10_weightOf_69 : decode cX10_weightOf 69 = .ok (.iaload, 1) := by decide +kernel
theorem dX10_weightOf_70 : decode cX10_weightOf 70 = .ok (.if_icmp .ge 53, 3) := by decide +kernel
theorem dX10_weightOf_73 : decode cX10_weightOf 73 = .ok (.iload 5, 2) := by decide +kernel
theorem dX10_weightOf_75 : decode cX10_weightOf 75 = .ok (.ifCond .ne 35, 3) := by decide +kernel
theorem dX10_weightOf_78 : decode cX10_weightOf 78 = .ok (.iload 4, 2) := by decide +kernel
theorem dX10_weightOf_80 : decode cX10_weightOf 80 = .ok (.aload_n 0, 1) := by decide +kernel
theorem dX10_weightOf_81 : decode cX10_weightOf 81 = .ok (.getfield 133, 3) := by decide +kernel
theorem dX10_weightOf_84 : decode cX10_weightOf 84 = .ok (.bipush 8, 2) := by decide +kernel
theorem dX10_weightOf_86 : decode cX10_weightOf 86 = .ok (.iload_n 2, 1) := by decide +kernel
theorem dX10_weightOf_87 : decode cX10_weightOf 87 = .ok (.imul, 1) := by decide +kernel
theorem dX10_weightOf_88 : decode cX10_weightOf 88 = .ok (.iload 6, 2) := by decide +kernel
theorem dX10_weightOf_90 : decode cX10_weightOf 90 = .ok (.iadd, 1) := by decide +kernel
theorem dX10_weightOf_91 : decode cX10_weightOf 91 = .ok (.iaload, 1) := by decide +kernel
theorem dX10_weightOf_92 : decode cX10_weightOf 92 = .ok (.aload_n 0, 1) := by decide +kernel
theorem dX10_weightOf_93 : decode cX10_weightOf 93 = .ok (.getfield 136, 3) := by decide +kernel
theorem dX10_weightOf_96 : decode cX10_weightOf 96 = .ok (.bipush 8, 2) := by decide +kernel
theorem dX10_weightOf_98 : decode cX10_weightOf 98 = .ok (.iload_n 2, 1) := by decide +kernel
theorem dX10_weightOf_99 : decode cX10_weightOf 99 = .ok (.imul, 1) := by decide +kernel
theorem dX10_weightOf_100 : decode cX10_weightOf 100 = .ok (.iload 6, 2) := by decide +kernel
theorem dX10_weightOf_102 : decode cX10_weightOf 102 = .ok (.iadd, 1) := by decide +kernel
theorem dX10_weightOf_103 : decode cX10_weightOf 103 = .ok (.iaload, 1) := by decide +kernel
theorem dX10_weightOf_104 : decode cX10_weightOf 104 = .ok (.invokestatic 168, 3) := by decide +kernel
theorem dX10_weightOf_107 : decode cX10_weightOf 107 = .ok (.ifCond .eq 7, 3) := by decide +kernel
theorem dX10_weightOf_110 : decode cX10_weightOf 110 = .ok (.iconst 1, 1) := by decide +kernel
theorem dX10_weightOf_111 : decode cX10_weightOf 111 = .ok (.goto 4, 3) := by decide +kernel
theorem dX10_weightOf_114 : decode cX10_weightOf 114 = .ok (.iconst 0, 1) := by decide +kernel
theorem dX10_weightOf_115 : decode cX10_weightOf 115 = .ok (.istore 5, 2) := by decide +kernel
theorem dX10_weightOf_117 : decode cX10_weightOf 117 = .ok (.iinc 6 1, 3) := by decide +kernel
theorem dX10_weightOf_120 : decode cX10_weightOf 120 = .ok (.goto (-58), 3) := by decide +kernel
theorem dX10_weightOf_123 : decode cX10_weightOf 123 = .ok (.iload_n 3, 1) := by decide +kernel
theorem dX10_weightOf_124 : decode cX10_weightOf 124 = .ok (.iload 5, 2) := by decide +kernel
theorem dX10_weightOf_126 : decode cX10_weightOf 126 = .ok (.ifCond .eq 7, 3) := by decide +kernel
theorem dX10_weightOf_129 : decode cX10_weightOf 129 = .ok (.iconst 0, 1) := by decide +kernel
theorem dX10_weightOf_130 : decode cX10_weightOf 130 = .ok (.goto 4, 3) := by decide +kernel
theorem dX10_weightOf_133 : decode cX10_weightOf 133 = .ok (.iconst 1, 1) := by decide +kernel
theorem dX10_weightOf_134 : decode cX10_weightOf 134 = .ok (.iadd, 1) := by decide +kernel
theorem dX10_weightOf_135 : decode cX10_weightOf 135 = .ok (.istore_n 3, 1) := by decide +kernel
theorem dX10_weightOf_136 : decode cX10_weightOf 136 = .ok (.iinc 4 1, 3) := by decide +kernel
theorem dX10_weightOf_139 : decode cX10_weightOf 139 = .ok (.goto (-94), 3) := by decide +kernel
theorem dX10_weightOf_142 : decode cX10_weightOf 142 = .ok (.iload_n 3, 1) := by decide +kernel
theorem dX10_weightOf_143 : decode cX10_weightOf 143 = .ok (.aload_n 0, 1) := by decide +kernel
theorem dX10_weightOf_144 : decode cX10_weightOf 144 = .ok (.getfield 34, 3) := by decide +kernel
theorem dX10_weightOf_147 : decode cX10_weightOf 147 = .ok (.iload_n 2, 1) := by decide +kernel
theorem dX10_weightOf_148 : decode cX10_weightOf 148 = .ok (.iaload, 1) := by decide +kernel
theorem dX10_weightOf_149 : decode cX10_weightOf 149 = .ok (.imul, 1) := by decide +kernel
theorem dX10_weightOf_150 : decode cX10_weightOf 150 = .ok (.ireturn, 1) := by decide +kernel
theorem dX10_weightsOf_0 : decode cX10_weightsOf 0 = .ok (.iconst 0, 1) := by decide +kernel
theorem dX10_weightsOf_1 : decode cX10_weightsOf 1 = .ok (.istore_n 2, 1) := by decide +kernel
theorem dX10_weightsOf_2 : decode cX10_weightsOf 2 = .ok (.iconst 0, 1) := by decide +kernel
theorem dX10_weightsOf_3 : decode cX10_weightsOf 3 = .ok (.istore_n 3, 1) := by decide +kernel
theorem dX10_weightsOf_4 : decode cX10_weightsOf 4 = .ok (.iload_n 3, 1) := by decide +kernel
theorem dX10_weightsOf_5 : decode cX10_weightsOf 5 = .ok (.aload_n 0, 1) := by decide +kernel
theorem dX10_weightsOf_6 : decode cX10_weightsOf 6 = .ok (.getfield 165, 3) := by decide +kernel
theorem dX10_weightsOf_9 : decode cX10_weightsOf 9 = .ok (.if_icmp .ge 18, 3) := by decide +kernel
theorem dX10_weightsOf_12 : decode cX10_weightsOf 12 = .ok (.iload_n 2, 1) := by decide +kernel
theorem dX10_weightsOf_13 : decode cX10_weightsOf 13 = .ok (.aload_n 0, 1) := by decide +kernel
theorem dX10_weightsOf_14 : decode cX10_weightsOf 14 = .ok (.iload_n 1, 1) := by decide +kernel
theorem dX10_weightsOf_15 : decode cX10_weightsOf 15 = .ok (.iload_n 3, 1) := by decide +kernel
theorem dX10_weightsOf_16 : decode cX10_weightsOf 16 = .ok (.invokevirtual 298, 3) := by decide +kernel
theorem dX10_weightsOf_19 : decode cX10_weightsOf 19 = .ok (.iadd, 1) := by decide +kernel
theorem dX10_weightsOf_20 : decode cX10_weightsOf 20 = .ok (.istore_n 2, 1) := by decide +kernel
theorem dX10_weightsOf_21 : decode cX10_weightsOf 21 = .ok (.iinc 3 1, 3) := by decide +kernel
theorem dX10_weightsOf_24 : decode cX10_weightsOf 24 = .ok (.goto (-20), 3) := by decide +kernel
theorem dX10_weightsOf_27 : decode cX10_weightsOf 27 = .ok (.iload_n 2, 1) := by decide +kernel
theorem dX10_weightsOf_28 : decode cX10_weightsOf 28 = .ok (.ireturn, 1) := by decide +kernel
theorem dX10_part_0 : decode cX10_part 0 = .ok (.iload_n 1, 1) := by decide +kernel
theorem dX10_part_1 : decode cX10_part 1 = .ok (.iconst 0, 1) := by decide +kernel
theorem dX10_part_2 : decode cX10_part 2 = .ok (.aload_n 0, 1) := by decide +kernel
theorem dX10_part_3 : decode cX10_part 3 = .ok (.getfield 295, 3) := by decide +kernel
theorem dX10_part_6 : decode cX10_part 6 = .ok (.iconst 1, 1) := by decide +kernel
theorem dX10_part_7 : decode cX10_part 7 = .ok (.isub, 1) := by decide +kernel
theorem dX10_part_8 : decode cX10_part 8 = .ok (.invokestatic 168, 3) := by decide +kernel
theorem dX10_part_11 : decode cX10_part 11 = .ok (.ifCond .eq 11, 3) := by decide +kernel
theorem dX10_part_14 : decode cX10_part 14 = .ok (.aload_n 0, 1) := by decide +kernel
theorem dX10_part_15 : decode cX10_part 15 = .ok (.iload_n 2, 1) := by decide +kernel
theorem dX10_part_16 : decode cX10_part 16 = .ok (.invokevirtual 196, 3) := by decide +kernel
theorem dX10_part_19 : decode cX10_part 19 = .ok (.ifCond .ne 9, 3) := by decide +kernel
theorem dX10_part_22 : decode cX10_part 22 = .ok (.aload_n 0, 1) := by decide +kernel
theorem dX10_part_23 : decode cX10_part 23 = .ok (.iconst (-1), 1) := by decide +kernel
theorem dX10_part_24 : decode cX10_part 24 = .ok (.invokevirtual 175, 3) := by decide +kernel
theorem dX10_part_27 : decode cX10_part 27 = .ok (.ireturn, 1) := by decide +kernel
theorem dX10_part_28 : decode cX10_part 28 = .ok (.iload_n 3, 1) := by decide +kernel
theorem dX10_part_29 : decode cX10_part 29 = .ok (.iconst 0, 1) := by decide +kernel
theorem dX10_part_30 : decode cX10_part 30 = .ok (.iconst 1, 1) := by decide +kernel
theorem dX10_part_31 : decode cX10_part 31 = .ok (.invokestatic 168, 3) := by decide +kernel
theorem dX10_part_34 : decode cX10_part 34 = .ok (.ifCond .ne 10, 3) := by decide +kernel
theorem dX10_part_37 : decode cX10_part 37 = .ok (.aload_n 0, 1) := by decide +kernel
theorem dX10_part_38 : decode cX10_part 38 = .ok (.bipush (-2), 2) := by decide +kernel
theorem dX10_part_40 : decode cX10_part 40 = .ok (.invokevirtual 175, 3) := by decide +kernel
theorem dX10_part_43 : decode cX10_part 43 = .ok (.ireturn, 1) := by decide +kernel
theorem dX10_part_44 : decode cX10_part 44 = .ok (.aload_n 0, 1) := by decide +kernel
theorem dX10_part_45 : decode cX10_part 45 = .ok (.iload_n 1, 1) := by decide +kernel
theorem dX10_part_46 : decode cX10_part 46 = .ok (.iload_n 2, 1) := by decide +kernel
theorem dX10_part_47 : decode cX10_part 47 = .ok (.invokevirtual 298, 3) := by decide +kernel
theorem dX10_part_50 : decode cX10_part 50 = .ok (.istore 4, 2) := by decide +kernel
theorem dX10_part_52 : decode cX10_part 52 = .ok (.iload 4, 2) := by decide +kernel
theorem dX10_part_54 : decode cX10_part 54 = .ok (.ifCond .ne 5, 3) := by decide +kernel
theorem dX10_part_57 : decode cX10_part 57 = .ok (.iload_n 3, 1) := by decide +kernel
theorem dX10_part_58 : decode cX10_part 58 = .ok (.ireturn, 1) := by decide +kernel
theorem dX10_part_59 : decode cX10_part 59 = .ok (.aload_n 0, 1) := by decide +kernel
theorem dX10_part_60 : decode cX10_part 60 = .ok (.iload_n 1, 1) := by decide +kernel
theorem dX10_part_61 : decode cX10_part 61 = .ok (.invokevirtual 301, 3) := by decide +kernel
theorem dX10_part_64 : decode cX10_part 64 = .ok (.istore 5, 2) := by decide +kernel
theorem dX10_part_66 : decode cX10_part 66 = .ok (.iload 4, 2) := by decide +kernel
theorem dX10_part_68 : decode cX10_part 68 = .ok (.i2l, 1) := by decide +kernel
theorem dX10_part_69 : decode cX10_part 69 = .ok (.iload 5, 2) := by decide +kernel
theorem dX10_part_71 : decode cX10_part 71 = .ok (.i2l, 1) := by decide +kernel
theorem dX10_part_72 : decode cX10_part 72 = .ok (.invokestatic 281, 3) := by decide +kernel
theorem dX10_part_75 : decode cX10_part 75 = .ok (.l2i, 1) := by decide +kernel
theorem dX10_part_76 : decode cX10_part 76 = .ok (.istore 6, 2) := by decide +kernel
theorem dX10_part_78 : decode cX10_part 78 = .ok (.iload_n 3, 1) := by decide +kernel
theorem dX10_part_79 : decode cX10_part 79 = .ok (.ifCond .ne 11, 3) := by decide +kernel
theorem dX10_part_82 : decode cX10_part 82 = .ok (.iload 4, 2) := by decide +kernel
theorem dX10_part_84 : decode cX10_part 84 = .ok (.iload 6, 2) := by decide +kernel
theorem dX10_part_86 : decode cX10_part 86 = .ok (.idiv, 1) := by decide +kernel
theorem dX10_part_87 : decode cX10_part 87 = .ok (.goto 8, 3) := by decide +kernel
theorem dX10_part_90 : decode cX10_part 90 = .ok (.iload 5, 2) := by decide +kernel
theorem dX10_part_92 : decode cX10_part 92 = .ok (.iload 6, 2) := by decide +kernel
theorem dX10_part_94 : decode cX10_part 94 = .ok (.idiv, 1) := by decide +kernel
theorem dX10_part_95 : decode cX10_part 95 = .ok (.ireturn, 1) := by decide +kernel
theorem dX10_joinedTo_0 : decode cX10_joinedTo 0 = .ok (.aload_n 0, 1) := by decide +kernel
theorem dX10_joinedTo_1 : decode cX10_joinedTo 1 = .ok (.iload_n 1, 1) := by decide +kernel
theorem dX10_joinedTo_2 : decode cX10_joinedTo 2 = .ok (.invokevirtual 301, 3) := by decide +kernel
theorem dX10_joinedTo_5 : decode cX10_joinedTo 5 = .ok (.istore_n 2, 1) := by decide +kernel
theorem dX10_joinedTo_6 : decode cX10_joinedTo 6 = .ok (.iconst 0, 1) := by decide +kernel
theorem dX10_joinedTo_7 : decode cX10_joinedTo 7 = .ok (.istore_n 3, 1) := by decide +kernel
theorem dX10_joinedTo_8 : decode cX10_joinedTo 8 = .ok (.iload_n 3, 1) := by decide +kernel
theorem dX10_joinedTo_9 : decode cX10_joinedTo 9 = .ok (.aload_n 0, 1) := by decide +kernel
theorem dX10_joinedTo_10 : decode cX10_joinedTo 10 = .ok (.getfield 165, 3) := by decide +kernel
theorem dX10_joinedTo_13 : decode cX10_joinedTo 13 = .ok (.if_icmp .ge 28, 3) := by decide +kernel
theorem dX10_joinedTo_16 : decode cX10_joinedTo 16 = .ok (.ldc2_w 304, 3) := by decide +kernel
theorem dX10_joinedTo_19 : decode cX10_joinedTo 19 = .ok (.aload_n 0, 1) := by decide +kernel
theorem dX10_joinedTo_20 : decode cX10_joinedTo 20 = .ok (.iload_n 1, 1) := by decide +kernel
theorem dX10_joinedTo_21 : decode cX10_joinedTo 21 = .ok (.iload_n 3, 1) := by decide +kernel
theorem dX10_joinedTo_22 : decode cX10_joinedTo 22 = .ok (.invokevirtual 298, 3) := by decide +kernel
theorem dX10_joinedTo_25 : decode cX10_joinedTo 25 = .ok (.i2l, 1) := by decide +kernel
theorem dX10_joinedTo_26 : decode cX10_joinedTo 26 = .ok (.lmul, 1) := by decide +kernel
theorem dX10_joinedTo_27 : decode cX10_joinedTo 27 = .ok (.iload_n 2, 1) := by decide +kernel
theorem dX10_joinedTo_28 : decode cX10_joinedTo 28 = .ok (.i2l, 1) := by decide +kernel
theorem dX10_joinedTo_29 : decode cX10_joinedTo 29 = .ok (.lcmp, 1) := by decide +kernel
theorem dX10_joinedTo_30 : decode cX10_joinedTo 30 = .ok (.ifCond .le 5, 3) := by decide +kernel
theorem dX10_joinedTo_33 : decode cX10_joinedTo 33 = .ok (.iload_n 3, 1) := by decide +kernel
theorem dX10_joinedTo_34 : decode cX10_joinedTo 34 = .ok (.ireturn, 1) := by decide +kernel
theorem dX10_joinedTo_35 : decode cX10_joinedTo 35 = .ok (.iinc 3 1, 3) := by decide +kernel
theorem dX10_joinedTo_38 : decode cX10_joinedTo 38 = .ok (.goto (-30), 3) := by decide +kernel
theorem dX10_joinedTo_41 : decode cX10_joinedTo 41 = .ok (.bipush (-9), 2) := by decide +kernel
theorem dX10_joinedTo_43 : decode cX10_joinedTo 43 = .ok (.ireturn, 1) := by decide +kernel
theorem dX10_joined_0 : decode cX10_joined 0 = .ok (.iload_n 1, 1) := by decide +kernel
theorem dX10_joined_1 : decode cX10_joined 1 = .ok (.iconst 0, 1) := by decide +kernel
theorem dX10_joined_2 : decode cX10_joined 2 = .ok (.aload_n 0, 1) := by decide +kernel
theorem dX10_joined_3 : decode cX10_joined 3 = .ok (.getfield 295, 3) := by decide +kernel
theorem dX10_joined_6 : decode cX10_joined 6 = .ok (.iconst 1, 1) := by decide +kernel
theorem dX10_joined_7 : decode cX10_joined 7 = .ok (.isub, 1) := by decide +kernel
theorem dX10_joined_8 : decode cX10_joined 8 = .ok (.invokestatic 168, 3) := by decide +kernel
theorem dX10_joined_11 : decode cX10_joined 11 = .ok (.ifCond .eq 11, 3) := by decide +kernel
theorem dX10_joined_14 : decode cX10_joined 14 = .ok (.aload_n 0, 1) := by decide +kernel
theorem dX10_joined_15 : decode cX10_joined 15 = .ok (.iload_n 1, 1) := by decide +kernel
theorem dX10_joined_16 : decode cX10_joined 16 = .ok (.invokevirtual 306, 3) := by decide +kernel
theorem dX10_joined_19 : decode cX10_joined 19 = .ok (.goto 8, 3) := by decide +kernel
theorem dX10_joined_22 : decode cX10_joined 22 = .ok (.aload_n 0, 1) := by decide +kernel
theorem dX10_joined_23 : decode cX10_joined 23 = .ok (.iconst (-1), 1) := by decide +kernel
theorem dX10_joined_24 : decode cX10_joined 24 = .ok (.invokevirtual 175, 3) := by decide +kernel
theorem dX10_joined_27 : decode cX10_joined 27 = .ok (.ireturn, 1) := by decide +kernel
theorem dX10_began_0 : decode cX10_began 0 = .ok (.iload_n 1, 1) := by decide +kernel
theorem dX10_began_1 : decode cX10_began 1 = .ok (.iconst 0, 1) := by decide +kernel
theorem dX10_began_2 : decode cX10_began 2 = .ok (.iconst 5, 1) := by decide +kernel
theorem dX10_began_3 : decode cX10_began 3 = .ok (.invokestatic 168, 3) := by decide +kernel
theorem dX10_began_6 : decode cX10_began 6 = .ok (.ifCond .ne 9, 3) := by decide +kernel
theorem dX10_began_9 : decode cX10_began 9 = .ok (.aload_n 0, 1) := by decide +kernel
theorem dX10_began_10 : decode cX10_began 10 = .ok (.iconst (-1), 1) := by decide +kernel
theorem dX10_began_11 : decode cX10_began 11 = .ok (.invokevirtual 175, 3) := by decide +kernel
theorem dX10_began_14 : decode cX10_began 14 = .ok (.ireturn, 1) := by decide +kernel
theorem dX10_began_15 : decode cX10_began 15 = .ok (.iload_n 2, 1) := by decide +kernel
theorem dX10_began_16 : decode cX10_began 16 = .ok (.ifCond .ge 10, 3) := by decide +kernel
theorem dX10_began_19 : decode cX10_began 19 = .ok (.aload_n 0, 1) := by decide +kernel
theorem dX10_began_20 : decode cX10_began 20 = .ok (.bipush (-4), 2) := by decide +kernel
theorem dX10_began_22 : decode cX10_began 22 = .ok (.invokevirtual 175, 3) := by decide +kernel
theorem dX10_began_25 : decode cX10_began 25 = .ok (.ireturn, 1) := by decide +kernel
theorem dX10_began_26 : decode cX10_began 26 = .ok (.iload_n 2, 1) := by decide +kernel
theorem dX10_began_27 : decode cX10_began 27 = .ok (.bipush 12, 2) := by decide +kernel
theorem dX10_began_29 : decode cX10_began 29 = .ok (.if_icmp .le 10, 3) := by decide +kernel
theorem dX10_began_32 : decode cX10_began 32 = .ok (.aload_n 0, 1) := by decide +kernel
theorem dX10_began_33 : decode cX10_began 33 = .ok (.bipush (-6), 2) := by decide +kernel
theorem dX10_began_35 : decode cX10_began 35 = .ok (.invokevirtual 175, 3) := by decide +kernel
theorem dX10_began_38 : decode cX10_began 38 = .ok (.ireturn, 1) := by decide +kernel
theorem dX10_began_39 : decode cX10_began 39 = .ok (.aload_n 0, 1) := by decide +kernel
theorem dX10_began_40 : decode cX10_began 40 = .ok (.getfield 151, 3) := by decide +kernel
theorem dX10_began_43 : decode cX10_began 43 = .ok (.iload_n 1, 1) := by decide +kernel
theorem dX10_began_44 : decode cX10_began 44 = .ok (.iaload, 1) := by decide +kernel
theorem dX10_began_45 : decode cX10_began 45 = .ok (.istore_n 3, 1) := by decide +kernel
theorem dX10_began_46 : decode cX10_began 46 = .ok (.aload_n 0, 1) := by decide +kernel
theorem dX10_began_47 : decode cX10_began 47 = .ok (.getfield 151, 3) := by decide +kernel
theorem dX10_began_50 : decode cX10_began 50 = .ok (.iload_n 1, 1) := by decide +kernel
theorem dX10_began_51 : decode cX10_began 51 = .ok (.iload_n 2, 1) := by decide +kernel
theorem dX10_began_52 : decode cX10_began 52 = .ok (.iastore, 1) := by decide +kernel
theorem dX10_began_53 : decode cX10_began 53 = .ok (.iload_n 3, 1) := by decide +kernel
theorem dX10_began_54 : decode cX10_began 54 = .ok (.ireturn, 1) := by decide +kernel
theorem dX10_cases_0 : decode cX10_cases 0 = .ok (.iload_n 1, 1) := by decide +kernel
theorem dX10_cases_1 : decode cX10_cases 1 = .ok (.iconst 0, 1) := by decide +kernel
theorem dX10_cases_2 : decode cX10_cases 2 = .ok (.iconst 5, 1) := by decide +kernel
theorem dX10_cases_3 : decode cX10_cases 3 = .ok (.invokestatic 168, 3) := by decide +kernel
theorem dX10_cases_6 : decode cX10_cases 6 = .ok (.ifCond .eq 13, 3) := by decide +kernel
theorem dX10_cases_9 : decode cX10_cases 9 = .ok (.iload_n 2, 1) := by decide +kernel
theorem dX10_cases_10 : decode cX10_cases 10 = .ok (.iconst 0, 1) := by decide +kernel
theorem dX10_cases_11 : decode cX10_cases 11 = .ok (.bipush 11, 2) := by decide +kernel
theorem dX10_cases_13 : decode cX10_cases 13 = .ok (.invokestatic 168, 3) := by decide +kernel
theorem dX10_cases_16 : decode cX10_cases 16 = .ok (.ifCond .ne 9, 3) := by decide +kernel
theorem dX10_cases_19 : decode cX10_cases 19 = .ok (.aload_n 0, 1) := by decide +kernel
theorem dX10_cases_20 : decode cX10_cases 20 = .ok (.iconst (-1), 1) := by decide +kernel
theorem dX10_cases_21 : decode cX10_cases 21 = .ok (.invokevirtual 175, 3) := by decide +kernel
theorem dX10_cases_24 : decode cX10_cases 24 = .ok (.ireturn, 1) := by decide +kernel
theorem dX10_cases_25 : decode cX10_cases 25 = .ok (.iload_n 3, 1) := by decide +kernel
theorem dX10_cases_26 : decode cX10_cases 26 = .ok (.ifCond .ge 10, 3) := by decide +kernel
theorem dX10_cases_29 : decode cX10_cases 29 = .ok (.aload_n 0, 1) := by decide +kernel
theorem dX10_cases_30 : decode cX10_cases 30 = .ok (.bipush (-4), 2) := by decide +kernel
theorem dX10_cases_32 : decode cX10_cases 32 = .ok (.invokevirtual 175, 3) := by decide +kernel
theorem dX10_cases_35 : decode cX10_cases 35 = .ok (.ireturn, 1) := by decide +kernel
theorem dX10_cases_36 : decode cX10_cases 36 = .ok (.iload_n 3, 1) := by decide +kernel
theorem dX10_cases_37 : decode cX10_cases 37 = .ok (.sipush 999, 3) := by decide +kernel
theorem dX10_cases_40 : decode cX10_cases 40 = .ok (.if_icmp .le 10, 3) := by decide +kernel
theorem dX10_cases_43 : decode cX10_cases 43 = .ok (.aload_n 0, 1) := by decide +kernel
theorem dX10_cases_44 : decode cX10_cases 44 = .ok (.bipush (-6), 2) := by decide +kernel
theorem dX10_cases_46 : decode cX10_cases 46 = .ok (.invokevirtual 175, 3) := by decide +kernel
theorem dX10_cases_49 : decode cX10_cases 49 = .ok (.ireturn, 1) := by decide +kernel
theorem dX10_cases_50 : decode cX10_cases 50 = .ok (.aload_n 0, 1) := by decide +kernel
theorem dX10_cases_51 : decode cX10_cases 51 = .ok (.getfield 154, 3) := by decide +kernel
theorem dX10_cases_54 : decode cX10_cases 54 = .ok (.bipush 12, 2) := by decide +kernel
theorem dX10_cases_56 : decode cX10_cases 56 = .ok (.iload_n 1, 1) := by decide +kernel
theorem dX10_cases_57 : decode cX10_cases 57 = .ok (.imul, 1) := by decide +kernel
theorem dX10_cases_58 : decode cX10_cases 58 = .ok (.iload_n 2, 1) := by decide +kernel
theorem dX10_cases_59 : decode cX10_cases 59 = .ok (.iadd, 1) := by decide +kernel
theorem dX10_cases_60 : decode cX10_cases 60 = .ok (.iaload, 1) := by decide +kernel
theorem dX10_cases_61 : decode cX10_cases 61 = .ok (.istore 4, 2) := by decide +kernel
theorem dX10_cases_63 : decode cX10_cases 63 = .ok (.aload_n 0, 1) := by decide +kernel
theorem dX10_cases_64 : decode cX10_cases 64 = .ok (.getfield 154, 3) := by decide +kernel
theorem dX10_cases_67 : decode cX10_cases 67 = .ok (.bipush 12, 2) := by decide +kernel
theorem dX10_cases_69 : decode cX10_cases 69 = .ok (.iload_n 1, 1) := by decide +kernel
theorem dX10_cases_70 : decode cX10_cases 70 = .ok (.imul, 1) := by decide +kernel
theorem dX10_cases_71 : decode cX10_cases 71 = .ok (.iload_n 2, 1) := by decide +kernel
theorem dX10_cases_72 : decode cX10_cases 72 = .ok (.iadd, 1) := by decide +kernel
theorem dX10_cases_73 : decode cX10_cases 73 = .ok (.iload_n 3, 1) := by decide +kernel
theorem dX10_cases_74 : decode cX10_cases 74 = .ok (.iastore, 1) := by decide +kernel
theorem dX10_cases_75 : decode cX10_cases 75 = .ok (.iload 4, 2) := by decide +kernel
theorem dX10_cases_77 : decode cX10_cases 77 = .ok (.ireturn, 1) := by decide +kernel
theorem dX10_addEffect_0 : decode cX10_addEffect 0 = .ok (.aload_n 0, 1) := by decide +kernel
theorem dX10_addEffect_1 : decode cX10_addEffect 1 = .ok (.aload_n 0, 1) := by decide +kernel
theorem dX10_addEffect_2 : decode cX10_addEffect 2 = .ok (.getfield 309, 3) := by decide +kernel
theorem dX10_addEffect_5 : decode cX10_addEffect 5 = .ok (.lload_n 3, 1) := by decide +kernel
theorem dX10_addEffect_6 : decode cX10_addEffect 6 = .ok (.lmul, 1) := by decide +kernel
theorem dX10_addEffect_7 : decode cX10_addEffect 7 = .ok (.lload_n 1, 1) := by decide +kernel
theorem dX10_addEffect_8 : decode cX10_addEffect 8 = .ok (.aload_n 0, 1) := by decide +kernel
theorem dX10_addEffect_9 : decode cX10_addEffect 9 = .ok (.getfield 312, 3) := by decide +kernel
theorem dX10_addEffect_12 : decode cX10_addEffect 12 = .ok (.lmul, 1) := by decide +kernel
theorem dX10_addEffect_13 : decode cX10_addEffect 13 = .ok (.ladd, 1) := by decide +kernel
theorem dX10_addEffect_14 : decode cX10_addEffect 14 = .ok (.putfield 309, 3) := by decide +kernel
theorem dX10_addEffect_17 : decode cX10_addEffect 17 = .ok (.aload_n 0, 1) := by decide +kernel
theorem dX10_addEffect_18 : decode cX10_addEffect 18 = .ok (.dup, 1) := by decide +kernel
theorem dX10_addEffect_19 : decode cX10_addEffect 19 = .ok (.getfield 312, 3) := by decide +kernel
theorem dX10_addEffect_22 : decode cX10_addEffect 22 = .ok (.lload_n 3, 1) := by decide +kernel
theorem dX10_addEffect_23 : decode cX10_addEffect 23 = .ok (.lmul, 1) := by decide +kernel
theorem dX10_addEffect_24 : decode cX10_addEffect 24 = .ok (.putfield 312, 3) := by decide +kernel
theorem dX10_addEffect_27 : decode cX10_addEffect 27 = .ok (.aload_n 0, 1) := by decide +kernel
theorem dX10_addEffect_28 : decode cX10_addEffect 28 = .ok (.getfield 309, 3) := by decide +kernel
theorem dX10_addEffect_31 : decode cX10_addEffect 31 = .ok (.aload_n 0, 1) := by decide +kernel
theorem dX10_addEffect_32 : decode cX10_addEffect 32 = .ok (.getfield 312, 3) := by decide +kernel
theorem dX10_addEffect_35 : decode cX10_addEffect 35 = .ok (.invokestatic 281, 3) := by decide +kernel
theorem dX10_addEffect_38 : decode cX10_addEffect 38 = .ok (.lstore 5, 2) := by decide +kernel
theorem dX10_addEffect_40 : decode cX10_addEffect 40 = .ok (.aload_n 0, 1) := by decide +kernel
theorem dX10_addEffect_41 : decode cX10_addEffect 41 = .ok (.dup, 1) := by decide +kernel
theorem dX10_addEffect_42 : decode cX10_addEffect 42 = .ok (.getfield 309, 3) := by decide +kernel
theorem dX10_addEffect_45 : decode cX10_addEffect 45 = .ok (.lload 5, 2) := by decide +kernel
theorem dX10_addEffect_47 : decode cX10_addEffect 47 = .ok (.ldiv, 1) := by decide +kernel
theorem dX10_addEffect_48 : decode cX10_addEffect 48 = .ok (.putfield 309, 3) := by decide +kernel
theorem dX10_addEffect_51 : decode cX10_addEffect 51 = .ok (.aload_n 0, 1) := by decide +kernel
theorem dX10_addEffect_52 : decode cX10_addEffect 52 = .ok (.dup, 1) := by decide +kernel
theorem dX10_addEffect_53 : decode cX10_addEffect 53 = .ok (.getfield 312, 3) := by decide +kernel
theorem dX10_addEffect_56 : decode cX10_addEffect 56 = .ok (.lload 5, 2) := by decide +kernel
theorem dX10_addEffect_58 : decode cX10_addEffect 58 = .ok (.ldiv, 1) := by decide +kernel
theorem dX10_addEffect_59 : decode cX10_addEffect 59 = .ok (.putfield 312, 3) := by decide +kernel
theorem dX10_addEffect_62 : decode cX10_addEffect 62 = .ok (.return_, 1) := by decide +kernel
theorem dX10_casesOf_0 : decode cX10_casesOf 0 = .ok (.lconst 0, 1) := by decide +kernel
theorem dX10_casesOf_1 : decode cX10_casesOf 1 = .ok (.lstore 4, 2) := by decide +kernel
theorem dX10_casesOf_3 : decode cX10_casesOf 3 = .ok (.iload_n 3, 1) := by decide +kernel
theorem dX10_casesOf_4 : decode cX10_casesOf 4 = .ok (.ifCond .eq 7, 3) := by decide +kernel
theorem dX10_casesOf_7 : decode cX10_casesOf 7 = .ok (.iload_n 2, 1) := by decide +kernel
theorem dX10_casesOf_8 : decode cX10_casesOf 8 = .ok (.goto 4, 3) := by decide +kernel
theorem dX10_casesOf_11 : decode cX10_casesOf 11 = .ok (.iconst 0, 1) := by decide +kernel
theorem dX10_casesOf_12 : decode cX10_casesOf 12 = .ok (.istore 6, 2) := by decide +kernel
theorem dX10_casesOf_14 : decode cX10_casesOf 14 = .ok (.iload 6, 2) := by decide +kernel
theorem dX10_casesOf_16 : decode cX10_casesOf 16 = .ok (.iload_n 3, 1) := by decide +kernel
theorem dX10_casesOf_17 : decode cX10_casesOf 17 = .ok (.ifCond .eq 8, 3) := by decide +kernel
theorem dX10_casesOf_20 : decode cX10_casesOf 20 = .ok (.bipush 12, 2) := by decide +kernel
theorem dX10_casesOf_22 : decode cX10_casesOf 22 = .ok (.goto 4, 3) := by decide +kernel
theorem dX10_casesOf_25 : decode cX10_casesOf 25 = .ok (.iload_n 2, 1) := by decide +kernel
theorem dX10_casesOf_26 : decode cX10_casesOf 26 = .ok (.if_icmp .ge 27, 3) := by decide +kernel
theorem dX10_casesOf_29 : decode cX10_casesOf 29 = .ok (.lload 4, 2) := by decide +kernel
theorem dX10_casesOf_31 : decode cX10_casesOf 31 = .ok (.aload_n 0, 1) := by decide +kernel
theorem dX10_casesOf_32 : decode cX10_casesOf 32 = .ok (.getfield 154, 3) := by decide +kernel
theorem dX10_casesOf_35 : decode cX10_casesOf 35 = .ok (.bipush 12, 2) := by decide +kernel
theorem dX10_casesOf_37 : decode cX10_casesOf 37 = .ok (.iload_n 1, 1) := by decide +kernel
theorem dX10_casesOf_38 : decode cX10_casesOf 38 = .ok (.imul, 1) := by decide +kernel
theorem dX10_casesOf_39 : decode cX10_casesOf 39 = .ok (.iload 6, 2) := by decide +kernel
theorem dX10_casesOf_41 : decode cX10_casesOf 41 = .ok (.iadd, 1) := by decide +kernel
theorem dX10_casesOf_42 : decode cX10_casesOf 42 = .ok (.iaload, 1) := by decide +kernel
theorem dX10_casesOf_43 : decode cX10_casesOf 43 = .ok (.i2l, 1) := by decide +kernel
theorem dX10_casesOf_44 : decode cX10_casesOf 44 = .ok (.ladd, 1) := by decide +kernel
theorem dX10_casesOf_45 : decode cX10_casesOf 45 = .ok (.lstore 4, 2) := by decide +kernel
theorem dX10_casesOf_47 : decode cX10_casesOf 47 = .ok (.iinc 6 1, 3) := by decide +kernel
theorem dX10_casesOf_50 : decode cX10_casesOf 50 = .ok (.goto (-36), 3) := by decide +kernel
theorem dX10_casesOf_53 : decode cX10_casesOf 53 = .ok (.lload 4, 2) := by decide +kernel
theorem dX10_casesOf_55 : decode cX10_casesOf 55 = .ok (.lreturn, 1) := by decide +kernel
end
section
theorem dX10_findEffect_0 : decode cX10_findEffect 0 = .ok (.iconst 0, 1) := by decide +kernel
theorem dX10_findEffect_1 : decode cX10_findEffect 1 = .ok (.istore_n 1, 1) := by decide +kernel
theorem dX10_findEffect_2 : decode cX10_findEffect 2 = .ok (.iconst 0, 1) := by decide +kernel
theorem dX10_findEffect_3 : decode cX10_findEffect 3 = .ok (.istore_n 2, 1) := by decide +kernel
theorem dX10_findEffect_4 : decode cX10_findEffect 4 = .ok (.iconst 0, 1) := by decide +kernel
theorem dX10_findEffect_5 : decode cX10_findEffect 5 = .ok (.istore_n 3, 1) := by decide +kernel
theorem dX10_findEffect_6 : decode cX10_findEffect 6 = .ok (.iload_n 3, 1) := by decide +kernel
theorem dX10_findEffect_7 : decode cX10_findEffect 7 = .ok (.bipush 6, 2) := by decide +kernel
theorem dX10_findEffect_9 : decode cX10_findEffect 9 = .ok (.if_icmp .ge 51, 3) := by decide +kernel
theorem dX10_findEffect_12 : decode cX10_findEffect 12 = .ok (.iload_n 1, 1) := by decide +kernel
theorem dX10_findEffect_13 : decode cX10_findEffect 13 = .ok (.aload_n 0, 1) := by decide +kernel
theorem dX10_findEffect_14 : decode cX10_findEffect 14 = .ok (.getfield 157, 3) := by decide +kernel
theorem dX10_findEffect_17 : decode cX10_findEffect 17 = .ok (.iload_n 3, 1) := by decide +kernel
theorem dX10_findEffect_18 : decode cX10_findEffect 18 = .ok (.iaload, 1) := by decide +kernel
theorem dX10_findEffect_19 : decode cX10_findEffect 19 = .ok (.bipush 12, 2) := by decide +kernel
theorem dX10_findEffect_21 : decode cX10_findEffect 21 = .ok (.if_icmp .ne 7, 3) := by decide +kernel
theorem dX10_findEffect_24 : decode cX10_findEffect 24 = .ok (.iconst 1, 1) := by decide +kernel
theorem dX10_findEffect_25 : decode cX10_findEffect 25 = .ok (.goto 4, 3) := by decide +kernel
theorem dX10_findEffect_28 : decode cX10_findEffect 28 = .ok (.iconst 0, 1) := by decide +kernel
theorem dX10_findEffect_29 : decode cX10_findEffect 29 = .ok (.iadd, 1) := by decide +kernel
theorem dX10_findEffect_30 : decode cX10_findEffect 30 = .ok (.istore_n 1, 1) := by decide +kernel
theorem dX10_findEffect_31 : decode cX10_findEffect 31 = .ok (.iload_n 2, 1) := by decide +kernel
theorem dX10_findEffect_32 : decode cX10_findEffect 32 = .ok (.aload_n 0, 1) := by decide +kernel
theorem dX10_findEffect_33 : decode cX10_findEffect 33 = .ok (.getfield 157, 3) := by decide +kernel
theorem dX10_findEffect_36 : decode cX10_findEffect 36 = .ok (.iload_n 3, 1) := by decide +kernel
theorem dX10_findEffect_37 : decode cX10_findEffect 37 = .ok (.iaload, 1) := by decide +kernel
theorem dX10_findEffect_38 : decode cX10_findEffect 38 = .ok (.iconst 1, 1) := by decide +kernel
theorem dX10_findEffect_39 : decode cX10_findEffect 39 = .ok (.bipush 11, 2) := by decide +kernel
theorem dX10_findEffect_41 : decode cX10_findEffect 41 = .ok (.invokestatic 168, 3) := by decide +kernel
theorem dX10_findEffect_44 : decode cX10_findEffect 44 = .ok (.ifCond .eq 7, 3) := by decide +kernel
theorem dX10_findEffect_47 : decode cX10_findEffect 47 = .ok (.iconst 1, 1) := by decide +kernel
theorem dX10_findEffect_48 : decode cX10_findEffect 48 = .ok (.goto 4, 3) := by decide +kernel
theorem dX10_findEffect_51 : decode cX10_findEffect 51 = .ok (.iconst 0, 1) := by decide +kernel
theorem dX10_findEffect_52 : decode cX10_findEffect 52 = .ok (.iadd, 1) := by decide +kernel
theorem dX10_findEffect_53 : decode cX10_findEffect 53 = .ok (.istore_n 2, 1) := by decide +kernel
theorem dX10_findEffect_54 : decode cX10_findEffect 54 = .ok (.iinc 3 1, 3) := by decide +kernel
theorem dX10_findEffect_57 : decode cX10_findEffect 57 = .ok (.goto (-51), 3) := by decide +kernel
theorem dX10_findEffect_60 : decode cX10_findEffect 60 = .ok (.aload_n 0, 1) := by decide +kernel
theorem dX10_findEffect_61 : decode cX10_findEffect 61 = .ok (.lconst 0, 1) := by decide +kernel
theorem dX10_findEffect_62 : decode cX10_findEffect 62 = .ok (.putfield 309, 3) := by decide +kernel
theorem dX10_findEffect_65 : decode cX10_findEffect 65 = .ok (.aload_n 0, 1) := by decide +kernel
theorem dX10_findEffect_66 : decode cX10_findEffect 66 = .ok (.lconst 1, 1) := by decide +kernel
theorem dX10_findEffect_67 : decode cX10_findEffect 67 = .ok (.putfield 312, 3) := by decide +kernel
theorem dX10_findEffect_70 : decode cX10_findEffect 70 = .ok (.iconst 0, 1) := by decide +kernel
theorem dX10_findEffect_71 : decode cX10_findEffect 71 = .ok (.istore_n 3, 1) := by decide +kernel
theorem dX10_findEffect_72 : decode cX10_findEffect 72 = .ok (.iload_n 3, 1) := by decide +kernel
theorem dX10_findEffect_73 : decode cX10_findEffect 73 = .ok (.bipush 6, 2) := by decide +kernel
theorem dX10_findEffect_75 : decode cX10_findEffect 75 = .ok (.if_icmp .ge 177, 3) := by decide +kernel
theorem dX10_findEffect_78 : decode cX10_findEffect 78 = .ok (.iload_n 1, 1) := by decide +kernel
theorem dX10_findEffect_79 : decode cX10_findEffect 79 = .ok (.ifCond .le 173, 3) := by decide +kernel
theorem dX10_findEffect_82 : decode cX10_findEffect 82 = .ok (.aload_n 0, 1) := by decide +kernel
theorem dX10_findEffect_83 : decode cX10_findEffect 83 = .ok (.getfield 157, 3) := by decide +kernel
theorem dX10_findEffect_86 : decode cX10_findEffect 86 = .ok (.iload_n 3, 1) := by decide +kernel
theorem dX10_findEffect_87 : decode cX10_findEffect 87 = .ok (.iaload, 1) := by decide +kernel
theorem dX10_findEffect_88 : decode cX10_findEffect 88 = .ok (.istore 4, 2) := by decide +kernel
theorem dX10_findEffect_90 : decode cX10_findEffect 90 = .ok (.iload 4, 2) := by decide +kernel
theorem dX10_findEffect_92 : decode cX10_findEffect 92 = .ok (.iconst 1, 1) := by decide +kernel
theorem dX10_findEffect_93 : decode cX10_findEffect 93 = .ok (.bipush 11, 2) := by decide +kernel
theorem dX10_findEffect_95 : decode cX10_findEffect 95 = .ok (.invokestatic 168, 3) := by decide +kernel
theorem dX10_findEffect_98 : decode cX10_findEffect 98 = .ok (.ifCond .eq 148, 3) := by decide +kernel
theorem dX10_findEffect_101 : decode cX10_findEffect 101 = .ok (.aload_n 0, 1) := by decide +kernel
theorem dX10_findEffect_102 : decode cX10_findEffect 102 = .ok (.aload_n 0, 1) := by decide +kernel
theorem dX10_findEffect_103 : decode cX10_findEffect 103 = .ok (.iload_n 3, 1) := by decide +kernel
theorem dX10_findEffect_104 : decode cX10_findEffect 104 = .ok (.iload 4, 2) := by decide +kernel
theorem dX10_findEffect_106 : decode cX10_findEffect 106 = .ok (.iconst 1, 1) := by decide +kernel
theorem dX10_findEffect_107 : decode cX10_findEffect 107 = .ok (.invokevirtual 315, 3) := by decide +kernel
theorem dX10_findEffect_110 : decode cX10_findEffect 110 = .ok (.bipush 12, 2) := by decide +kernel
theorem dX10_findEffect_112 : decode cX10_findEffect 112 = .ok (.iload 4, 2) := by decide +kernel
theorem dX10_findEffect_114 : decode cX10_findEffect 114 = .ok (.isub, 1) := by decide +kernel
theorem dX10_findEffect_115 : decode cX10_findEffect 115 = .ok (.i2l, 1) := by decide +kernel
theorem dX10_findEffect_116 : decode cX10_findEffect 116 = .ok (.invokevirtual 319, 3) := by decide +kernel
theorem dX10_findEffect_119 : decode cX10_findEffect 119 = .ok (.aload_n 0, 1) := by decide +kernel
theorem dX10_findEffect_120 : decode cX10_findEffect 120 = .ok (.aload_n 0, 1) := by decide +kernel
theorem dX10_findEffect_121 : decode cX10_findEffect 121 = .ok (.iload_n 3, 1) := by decide +kernel
theorem dX10_findEffect_122 : decode cX10_findEffect 122 = .ok (.iload 4, 2) := by decide +kernel
theorem dX10_findEffect_124 : decode cX10_findEffect 124 = .ok (.iconst 0, 1) := by decide +kernel
theorem dX10_findEffect_125 : decode cX10_findEffect 125 = .ok (.invokevirtual 315, 3) := by decide +kernel
theorem dX10_findEffect_128 : decode cX10_findEffect 128 = .ok (.lneg, 1) := by decide +kernel
theorem dX10_findEffect_129 : decode cX10_findEffect 129 = .ok (.iload 4, 2) := by decide +kernel
theorem dX10_findEffect_131 : decode cX10_findEffect 131 = .ok (.i2l, 1) := by decide +kernel
theorem dX10_findEffect_132 : decode cX10_findEffect 132 = .ok (.invokevirtual 319, 3) := by decide +kernel
theorem dX10_findEffect_135 : decode cX10_findEffect 135 = .ok (.lconst 0, 1) := by decide +kernel
theorem dX10_findEffect_136 : decode cX10_findEffect 136 = .ok (.lstore 5, 2) := by decide +kernel
theorem dX10_findEffect_138 : decode cX10_findEffect 138 = .ok (.lconst 0, 1) := by decide +kernel
theorem dX10_findEffect_139 : decode cX10_findEffect 139 = .ok (.lstore 7, 2) := by decide +kernel
theorem dX10_findEffect_141 : decode cX10_findEffect 141 = .ok (.iconst 0, 1) := by decide +kernel
theorem dX10_findEffect_142 : decode cX10_findEffect 142 = .ok (.istore 9, 2) := by decide +kernel
theorem dX10_findEffect_144 : decode cX10_findEffect 144 = .ok (.iload 9, 2) := by decide +kernel
theorem dX10_findEffect_146 : decode cX10_findEffect 146 = .ok (.bipush 6, 2) := by decide +kernel
theorem dX10_findEffect_148 : decode cX10_findEffect 148 = .ok (.if_icmp .ge 69, 3) := by decide +kernel
theorem dX10_findEffect_151 : decode cX10_findEffect 151 = .ok (.lload 5, 2) := by decide +kernel
theorem dX10_findEffect_153 : decode cX10_findEffect 153 = .ok (.aload_n 0, 1) := by decide +kernel
theorem dX10_findEffect_154 : decode cX10_findEffect 154 = .ok (.getfield 157, 3) := by decide +kernel
theorem dX10_findEffect_157 : decode cX10_findEffect 157 = .ok (.iload 9, 2) := by decide +kernel
theorem dX10_findEffect_159 : decode cX10_findEffect 159 = .ok (.iaload, 1) := by decide +kernel
theorem dX10_findEffect_160 : decode cX10_findEffect 160 = .ok (.bipush 12, 2) := by decide +kernel
theorem dX10_findEffect_162 : decode cX10_findEffect 162 = .ok (.if_icmp .ne 15, 3) := by decide +kernel
theorem dX10_findEffect_165 : decode cX10_findEffect 165 = .ok (.aload_n 0, 1) := by decide +kernel
theorem dX10_findEffect_166 : decode cX10_findEffect 166 = .ok (.iload 9, 2) := by decide +kernel
theorem dX10_findEffect_168 : decode cX10_findEffect 168 = .ok (.iload 4, 2) := by decide +kernel
theorem dX10_findEffect_170 : decode cX10_findEffect 170 = .ok (.iconst 1, 1) := by decide +kernel
theorem dX10_findEffect_171 : decode cX10_findEffect 171 = .ok (.invokevirtual 315, 3) := by decide +kernel
theorem dX10_findEffect_174 : decode cX10_findEffect 174 = .ok (.goto 4, 3) := by decide +kernel
theorem dX10_findEffect_177 : decode cX10_findEffect 177 = .ok (.lconst 0, 1) := by decide +kernel
theorem dX10_findEffect_178 : decode cX10_findEffect 178 = .ok (.ladd, 1) := by decide +kernel
theorem dX10_findEffect_179 : decode cX10_findEffect 179 = .ok (.lstore 5, 2) := by decide +kernel
theorem dX10_findEffect_181 : decode cX10_findEffect 181 = .ok (.lload 7, 2) := by decide +kernel
theorem dX10_findEffect_183 : decode cX10_findEffect 183 = .ok (.aload_n 0, 1) := by decide +kernel
theorem dX10_findEffect_184 : decode cX10_findEffect 184 = .ok (.getfield 157, 3) := by decide +kernel
theorem dX10_findEffect_187 : decode cX10_findEffect 187 = .ok (.iload 9, 2) := by decide +kernel
theorem dX10_findEffect_189 : decode cX10_findEffect 189 = .ok (.iaload, 1) := by decide +kernel
theorem dX10_findEffect_190 : decode cX10_findEffect 190 = .ok (.bipush 12, 2) := by decide +kernel
theorem dX10_findEffect_192 : decode cX10_findEffect 192 = .ok (.if_icmp .ne 15, 3) := by decide +kernel
theorem dX10_findEffect_195 : decode cX10_findEffect 195 = .ok (.aload_n 0, 1) := by decide +kernel
theorem dX10_findEffect_196 : decode cX10_findEffect 196 = .ok (.iload 9, 2) := by decide +kernel
theorem dX10_findEffect_198 : decode cX10_findEffect 198 = .ok (.iload 4, 2) := by decide +kernel
theorem dX10_findEffect_200 : decode cX10_findEffect 200 = .ok (.iconst 0, 1) := by decide +kernel
theorem dX10_findEffect_201 : decode cX10_findEffect 201 = .ok (.invokevirtual 315, 3) := by decide +kernel
theorem dX10_findEffect_204 : decode cX10_findEffect 204 = .ok (.goto 4, 3) := by decide +kernel
theorem dX10_findEffect_207 : decode cX10_findEffect 207 = .ok (.lconst 0, 1) := by decide +kernel
theorem dX10_findEffect_208 : decode cX10_findEffect 208 = .ok (.ladd, 1) := by decide +kernel
theorem dX10_findEffect_209 : decode cX10_findEffect 209 = .ok (.lstore 7, 2) := by decide +kernel
theorem dX10_findEffect_211 : decode cX10_findEffect 211 = .ok (.iinc 9 1, 3) := by decide +kernel
theorem dX10_findEffect_214 : decode cX10_findEffect 214 = .ok (.goto (-70), 3) := by decide +kernel
theorem dX10_findEffect_217 : decode cX10_findEffect 217 = .ok (.aload_n 0, 1) := by decide +kernel
theorem dX10_findEffect_218 : decode cX10_findEffect 218 = .ok (.lload 5, 2) := by decide +kernel
theorem dX10_findEffect_220 : decode cX10_findEffect 220 = .ok (.lneg, 1) := by decide +kernel
theorem dX10_findEffect_221 : decode cX10_findEffect 221 = .ok (.iload_n 1, 1) := by decide +kernel
theorem dX10_findEffect_222 : decode cX10_findEffect 222 = .ok (.i2l, 1) := by decide +kernel
theorem dX10_findEffect_223 : decode cX10_findEffect 223 = .ok (.ldc2_w 323, 3) := by decide +kernel
theorem dX10_findEffect_226 : decode cX10_findEffect 226 = .ok (.iload 4, 2) := by decide +kernel
theorem dX10_findEffect_228 : decode cX10_findEffect 228 = .ok (.i2l, 1) := by decide +kernel
theorem dX10_findEffect_229 : decode cX10_findEffect 229 = .ok (.lsub, 1) := by decide +kernel
theorem dX10_findEffect_230 : decode cX10_findEffect 230 = .ok (.lmul, 1) := by decide +kernel
theorem dX10_findEffect_231 : decode cX10_findEffect 231 = .ok (.invokevirtual 319, 3) := by decide +kernel
theorem dX10_findEffect_234 : decode cX10_findEffect 234 = .ok (.aload_n 0, 1) := by decide +kernel
theorem dX10_findEffect_235 : decode cX10_findEffect 235 = .ok (.lload 7, 2) := by decide +kernel
theorem dX10_findEffect_237 : decode cX10_findEffect 237 = .ok (.iload_n 1, 1) := by decide +kernel
theorem dX10_findEffect_238 : decode cX10_findEffect 238 = .ok (.i2l, 1) := by decide +kernel
theorem dX10_findEffect_239 : decode cX10_findEffect 239 = .ok (.iload 4, 2) := by decide +kernel
theorem dX10_findEffect_241 : decode cX10_findEffect 241 = .ok (.i2l, 1) := by decide +kernel
theorem dX10_findEffect_242 : decode cX10_findEffect 242 = .ok (.lmul, 1) := by decide +kernel
theorem dX10_findEffect_243 : decode cX10_findEffect 243 = .ok (.invokevirtual 319, 3) := by decide +kernel
theorem dX10_findEffect_246 : decode cX10_findEffect 246 = .ok (.iinc 3 1, 3) := by decide +kernel
theorem dX10_findEffect_249 : decode cX10_findEffect 249 = .ok (.goto (-177), 3) := by decide +kernel
theorem dX10_findEffect_252 : decode cX10_findEffect 252 = .ok (.aload_n 0, 1) := by decide +kernel
theorem dX10_findEffect_253 : decode cX10_findEffect 253 = .ok (.dup, 1) := by decide +kernel
theorem dX10_findEffect_254 : decode cX10_findEffect 254 = .ok (.getfield 312, 3) := by decide +kernel
theorem dX10_findEffect_257 : decode cX10_findEffect 257 = .ok (.iload_n 2, 1) := by decide +kernel
theorem dX10_findEffect_258 : decode cX10_findEffect 258 = .ok (.ifCond .le 8, 3) := by decide +kernel
theorem dX10_findEffect_261 : decode cX10_findEffect 261 = .ok (.iload_n 2, 1) := by decide +kernel
theorem dX10_findEffect_262 : decode cX10_findEffect 262 = .ok (.i2l, 1) := by decide +kernel
theorem dX10_findEffect_263 : decode cX10_findEffect 263 = .ok (.goto 4, 3) := by decide +kernel
theorem dX10_findEffect_266 : decode cX10_findEffect 266 = .ok (.lconst 1, 1) := by decide +kernel
theorem dX10_findEffect_267 : decode cX10_findEffect 267 = .ok (.lmul, 1) := by decide +kernel
theorem dX10_findEffect_268 : decode cX10_findEffect 268 = .ok (.putfield 312, 3) := by decide +kernel
theorem dX10_findEffect_271 : decode cX10_findEffect 271 = .ok (.aload_n 0, 1) := by decide +kernel
theorem dX10_findEffect_272 : decode cX10_findEffect 272 = .ok (.getfield 309, 3) := by decide +kernel
theorem dX10_findEffect_275 : decode cX10_findEffect 275 = .ok (.aload_n 0, 1) := by decide +kernel
theorem dX10_findEffect_276 : decode cX10_findEffect 276 = .ok (.getfield 312, 3) := by decide +kernel
theorem dX10_findEffect_279 : decode cX10_findEffect 279 = .ok (.invokestatic 281, 3) := by decide +kernel
theorem dX10_findEffect_282 : decode cX10_findEffect 282 = .ok (.lstore_n 3, 1) := by decide +kernel
theorem dX10_findEffect_283 : decode cX10_findEffect 283 = .ok (.aload_n 0, 1) := by decide +kernel
theorem dX10_findEffect_284 : decode cX10_findEffect 284 = .ok (.dup, 1) := by decide +kernel
theorem dX10_findEffect_285 : decode cX10_findEffect 285 = .ok (.getfield 309, 3) := by decide +kernel
theorem dX10_findEffect_288 : decode cX10_findEffect 288 = .ok (.lload_n 3, 1) := by decide +kernel
theorem dX10_findEffect_289 : decode cX10_findEffect 289 = .ok (.ldiv, 1) := by decide +kernel
theorem dX10_findEffect_290 : decode cX10_findEffect 290 = .ok (.putfield 309, 3) := by decide +kernel
theorem dX10_findEffect_293 : decode cX10_findEffect 293 = .ok (.aload_n 0, 1) := by decide +kernel
theorem dX10_findEffect_294 : decode cX10_findEffect 294 = .ok (.dup, 1) := by decide +kernel
theorem dX10_findEffect_295 : decode cX10_findEffect 295 = .ok (.getfield 312, 3) := by decide +kernel
theorem dX10_findEffect_298 : decode cX10_findEffect 298 = .ok (.lload_n 3, 1) := by decide +kernel
theorem dX10_findEffect_299 : decode cX10_findEffect 299 = .ok (.ldiv, 1) := by decide +kernel
theorem dX10_findEffect_300 : decode cX10_findEffect 300 = .ok (.putfield 312, 3) := by decide +kernel
theorem dX10_findEffect_303 : decode cX10_findEffect 303 = .ok (.iload_n 1, 1) := by decide +kernel
theorem dX10_findEffect_304 : decode cX10_findEffect 304 = .ok (.ifCond .le 11, 3) := by decide +kernel
theorem dX10_findEffect_307 : decode cX10_findEffect 307 = .ok (.iload_n 2, 1) := by decide +kernel
theorem dX10_findEffect_308 : decode cX10_findEffect 308 = .ok (.ifCond .le 7, 3) := by decide +kernel
theorem dX10_findEffect_311 : decode cX10_findEffect 311 = .ok (.iconst 1, 1) := by decide +kernel
theorem dX10_findEffect_312 : decode cX10_findEffect 312 = .ok (.goto 4, 3) := by decide +kernel
theorem dX10_findEffect_315 : decode cX10_findEffect 315 = .ok (.iconst 0, 1) := by decide +kernel
theorem dX10_findEffect_316 : decode cX10_findEffect 316 = .ok (.ireturn, 1) := by decide +kernel
theorem dX10_findTrue_0 : decode cX10_findTrue 0 = .ok (.iconst 0, 1) := by decide +kernel
theorem dX10_findTrue_1 : decode cX10_findTrue 1 = .ok (.istore_n 1, 1) := by decide +kernel
theorem dX10_findTrue_2 : decode cX10_findTrue 2 = .ok (.iload_n 1, 1) := by decide +kernel
theorem dX10_findTrue_3 : decode cX10_findTrue 3 = .ok (.bipush 6, 2) := by decide +kernel
theorem dX10_findTrue_5 : decode cX10_findTrue 5 = .ok (.if_icmp .ge 21, 3) := by decide +kernel
theorem dX10_findTrue_8 : decode cX10_findTrue 8 = .ok (.aload_n 0, 1) := by decide +kernel
theorem dX10_findTrue_9 : decode cX10_findTrue 9 = .ok (.getfield 157, 3) := by decide +kernel
theorem dX10_findTrue_12 : decode cX10_findTrue 12 = .ok (.iload_n 1, 1) := by decide +kernel
theorem dX10_findTrue_13 : decode cX10_findTrue 13 = .ok (.aload_n 0, 1) := by decide +kernel
theorem dX10_findTrue_14 : decode cX10_findTrue 14 = .ok (.getfield 151, 3) := by decide +kernel
theorem dX10_findTrue_17 : decode cX10_findTrue 17 = .ok (.iload_n 1, 1) := by decide +kernel
theorem dX10_findTrue_18 : decode cX10_findTrue 18 = .ok (.iaload, 1) := by decide +kernel
theorem dX10_findTrue_19 : decode cX10_findTrue 19 = .ok (.iastore, 1) := by decide +kernel
theorem dX10_findTrue_20 : decode cX10_findTrue 20 = .ok (.iinc 1 1, 3) := by decide +kernel
theorem dX10_findTrue_23 : decode cX10_findTrue 23 = .ok (.goto (-21), 3) := by decide +kernel
theorem dX10_findTrue_26 : decode cX10_findTrue 26 = .ok (.aload_n 0, 1) := by decide +kernel
theorem dX10_findTrue_27 : decode cX10_findTrue 27 = .ok (.invokevirtual 325, 3) := by decide +kernel
theorem dX10_findTrue_30 : decode cX10_findTrue 30 = .ok (.ireturn, 1) := by decide +kernel
theorem dX10_effect_0 : decode cX10_effect 0 = .ok (.iload_n 1, 1) := by decide +kernel
theorem dX10_effect_1 : decode cX10_effect 1 = .ok (.iconst 0, 1) := by decide +kernel
theorem dX10_effect_2 : decode cX10_effect 2 = .ok (.iconst 1, 1) := by decide +kernel
theorem dX10_effect_3 : decode cX10_effect 3 = .ok (.invokestatic 168, 3) := by decide +kernel
theorem dX10_effect_6 : decode cX10_effect 6 = .ok (.ifCond .ne 10, 3) := by decide +kernel
theorem dX10_effect_9 : decode cX10_effect 9 = .ok (.aload_n 0, 1) := by decide +kernel
theorem dX10_effect_10 : decode cX10_effect 10 = .ok (.bipush (-2), 2) := by decide +kernel
theorem dX10_effect_12 : decode cX10_effect 12 = .ok (.invokevirtual 285, 3) := by decide +kernel
theorem dX10_effect_15 : decode cX10_effect 15 = .ok (.lreturn, 1) := by decide +kernel
theorem dX10_effect_16 : decode cX10_effect 16 = .ok (.aload_n 0, 1) := by decide +kernel
theorem dX10_effect_17 : decode cX10_effect 17 = .ok (.invokevirtual 329, 3) := by decide +kernel
theorem dX10_effect_20 : decode cX10_effect 20 = .ok (.ifCond .ne 10, 3) := by decide +kernel
theorem dX10_effect_23 : decode cX10_effect 23 = .ok (.aload_n 0, 1) := by decide +kernel
theorem dX10_effect_24 : decode cX10_effect 24 = .ok (.bipush (-3), 2) := by decide +kernel
theorem dX10_effect_26 : decode cX10_effect 26 = .ok (.invokevirtual 285, 3) := by decide +kernel
theorem dX10_effect_29 : decode cX10_effect 29 = .ok (.lreturn, 1) := by decide +kernel
theorem dX10_effect_30 : decode cX10_effect 30 = .ok (.iload_n 1, 1) := by decide +kernel
theorem dX10_effect_31 : decode cX10_effect 31 = .ok (.ifCond .ne 10, 3) := by decide +kernel
theorem dX10_effect_34 : decode cX10_effect 34 = .ok (.aload_n 0, 1) := by decide +kernel
theorem dX10_effect_35 : decode cX10_effect 35 = .ok (.getfield 309, 3) := by decide +kernel
theorem dX10_effect_38 : decode cX10_effect 38 = .ok (.goto 7, 3) := by decide +kernel
theorem dX10_effect_41 : decode cX10_effect 41 = .ok (.aload_n 0, 1) := by decide +kernel
theorem dX10_effect_42 : decode cX10_effect 42 = .ok (.getfield 312, 3) := by decide +kernel
theorem dX10_effect_45 : decode cX10_effect 45 = .ok (.lreturn, 1) := by decide +kernel
theorem dX10_findChance_0 : decode cX10_findChance 0 = .ok (.aload_n 0, 1) := by decide +kernel
theorem dX10_findChance_1 : decode cX10_findChance 1 = .ok (.invokevirtual 329, 3) := by decide +kernel
theorem dX10_findChance_4 : decode cX10_findChance 4 = .ok (.ifCond .ne 6, 3) := by decide +kernel
theorem dX10_findChance_7 : decode cX10_findChance 7 = .ok (.bipush (-9), 2) := by decide +kernel
theorem dX10_findChance_9 : decode cX10_findChance 9 = .ok (.ireturn, 1) := by decide +kernel
theorem dX10_findChance_10 : decode cX10_findChance 10 = .ok (.aload_n 0, 1) := by decide +kernel
theorem dX10_findChance_11 : decode cX10_findChance 11 = .ok (.getfield 309, 3) := by decide +kernel
theorem dX10_findChance_14 : decode cX10_findChance 14 = .ok (.lstore_n 1, 1) := by decide +kernel
theorem dX10_findChance_15 : decode cX10_findChance 15 = .ok (.aload_n 0, 1) := by decide +kernel
theorem dX10_findChance_16 : decode cX10_findChance 16 = .ok (.getfield 312, 3) := by decide +kernel
theorem dX10_findChance_19 : decode cX10_findChance 19 = .ok (.lstore_n 3, 1) := by decide +kernel
theorem dX10_findChance_20 : decode cX10_findChance 20 = .ok (.iconst 0, 1) := by decide +kernel
theorem dX10_findChance_21 : decode cX10_findChance 21 = .ok (.istore 5, 2) := by decide +kernel
theorem dX10_findChance_23 : decode cX10_findChance 23 = .ok (.iconst 0, 1) := by decide +kernel
theorem dX10_findChance_24 : decode cX10_findChance 24 = .ok (.istore 6, 2) := by decide +kernel
theorem dX10_findChance_26 : decode cX10_findChance 26 = .ok (.iload 6, 2) := by decide +kernel
theorem dX10_findChance_28 : decode cX10_findChance 28 = .ok (.sipush 720, 3) := by decide +kernel
theorem dX10_findChance_31 : decode cX10_findChance 31 = .ok (.if_icmp .ge 160, 3) := by decide +kernel
theorem dX10_findChance_34 : decode cX10_findChance 34 = .ok (.iload 6, 2) := by decide +kernel
theorem dX10_findChance_36 : decode cX10_findChance 36 = .ok (.istore 7, 2) := by decide +kernel
theorem dX10_findChance_38 : decode cX10_findChance 38 = .ok (.iconst 0, 1) := by decide +kernel
theorem dX10_findChance_39 : decode cX10_findChance 39 = .ok (.istore 8, 2) := by decide +kernel
theorem dX10_findChance_41 : decode cX10_findChance 41 = .ok (.iload 8, 2) := by decide +kernel
theorem dX10_findChance_43 : decode cX10_findChance 43 = .ok (.bipush 6, 2) := by decide +kernel
theorem dX10_findChance_45 : decode cX10_findChance 45 = .ok (.if_icmp .ge 18, 3) := by decide +kernel
theorem dX10_findChance_48 : decode cX10_findChance 48 = .ok (.aload_n 0, 1) := by decide +kernel
theorem dX10_findChance_49 : decode cX10_findChance 49 = .ok (.getfield 160, 3) := by decide +kernel
theorem dX10_findChance_52 : decode cX10_findChance 52 = .ok (.iload 8, 2) := by decide +kernel
theorem dX10_findChance_54 : decode cX10_findChance 54 = .ok (.iload 8, 2) := by decide +kernel
theorem dX10_findChance_56 : decode cX10_findChance 56 = .ok (.iastore, 1) := by decide +kernel
theorem dX10_findChance_57 : decode cX10_findChance 57 = .ok (.iinc 8 1, 3) := by decide +kernel
theorem dX10_findChance_60 : decode cX10_findChance 60 = .ok (.goto (-19), 3) := by decide +kernel
theorem dX10_findChance_63 : decode cX10_findChance 63 = .ok (.iconst 0, 1) := by decide +kernel
theorem dX10_findChance_64 : decode cX10_findChance 64 = .ok (.istore 8, 2) := by decide +kernel
theorem dX10_findChance_66 : decode cX10_findChance 66 = .ok (.iload 8, 2) := by decide +kernel
theorem dX10_findChance_68 : decode cX10_findChance 68 = .ok (.bipush 6, 2) := by decide +kernel
theorem dX10_findChance_70 : decode cX10_findChance 70 = .ok (.if_icmp .ge 83, 3) := by decide +kernel
theorem dX10_findChance_73 : decode cX10_findChance 73 = .ok (.iload 8, 2) := by decide +kernel
theorem dX10_findChance_75 : decode cX10_findChance 75 = .ok (.iload 7, 2) := by decide +kernel
theorem dX10_findChance_77 : decode cX10_findChance 77 = .ok (.bipush 6, 2) := by decide +kernel
theorem dX10_findChance_79 : decode cX10_findChance 79 = .ok (.iload 8, 2) := by decide +kernel
theorem dX10_findChance_81 : decode cX10_findChance 81 = .ok (.isub, 1) := by decide +kernel
theorem dX10_findChance_82 : decode cX10_findChance 82 = .ok (.irem, 1) := by decide +kernel
theorem dX10_findChance_83 : decode cX10_findChance 83 = .ok (.iadd, 1) := by decide +kernel
theorem dX10_findChance_84 : decode cX10_findChance 84 = .ok (.istore 9, 2) := by decide +kernel
theorem dX10_findChance_86 : decode cX10_findChance 86 = .ok (.iload 7, 2) := by decide +kernel
theorem dX10_findChance_88 : decode cX10_findChance 88 = .ok (.bipush 6, 2) := by decide +kernel
theorem dX10_findChance_90 : decode cX10_findChance 90 = .ok (.iload 8, 2) := by decide +kernel
theorem dX10_findChance_92 : decode cX10_findChance 92 = .ok (.isub, 1) := by decide +kernel
theorem dX10_findChance_93 : decode cX10_findChance 93 = .ok (.idiv, 1) := by decide +kernel
theorem dX10_findChance_94 : decode cX10_findChance 94 = .ok (.istore 7, 2) := by decide +kernel
theorem dX10_findChance_96 : decode cX10_findChance 96 = .ok (.aload_n 0, 1) := by decide +kernel
theorem dX10_findChance_97 : decode cX10_findChance 97 = .ok (.getfield 160, 3) := by decide +kernel
theorem dX10_findChance_100 : decode cX10_findChance 100 = .ok (.iload 8, 2) := by decide +kernel
theorem dX10_findChance_102 : decode cX10_findChance 102 = .ok (.iaload, 1) := by decide +kernel
theorem dX10_findChance_103 : decode cX10_findChance 103 = .ok (.istore 10, 2) := by decide +kernel
theorem dX10_findChance_105 : decode cX10_findChance 105 = .ok (.aload_n 0, 1) := by decide +kernel
theorem dX10_findChance_106 : decode cX10_findChance 106 = .ok (.getfield 160, 3) := by decide +kernel
theorem dX10_findChance_109 : decode cX10_findChance 109 = .ok (.iload 8, 2) := by decide +kernel
theorem dX10_findChance_111 : decode cX10_findChance 111 = .ok (.aload_n 0, 1) := by decide +kernel
theorem dX10_findChance_112 : decode cX10_findChance 112 = .ok (.getfield 160, 3) := by decide +kernel
theorem dX10_findChance_115 : decode cX10_findChance 115 = .ok (.iload 9, 2) := by decide +kernel
theorem dX10_findChance_117 : decode cX10_findChance 117 = .ok (.iaload, 1) := by decide +kernel
theorem dX10_findChance_118 : decode cX10_findChance 118 = .ok (.iastore, 1) := by decide +kernel
theorem dX10_findChance_119 : decode cX10_findChance 119 = .ok (.aload_n 0, 1) := by decide +kernel
theorem dX10_findChance_120 : decode cX10_findChance 120 = .ok (.getfield 160, 3) := by decide +kernel
theorem dX10_findChance_123 : decode cX10_findChance 123 = .ok (.iload 9, 2) := by decide +kernel
theorem dX10_findChance_125 : decode cX10_findChance 125 = .ok (.iload 10, 2) := by decide +kernel
theorem dX10_findChance_127 : decode cX10_findChance 127 = .ok (.iastore, 1) := by decide +kernel
theorem dX10_findChance_128 : decode cX10_findChance 128 = .ok (.aload_n 0, 1) := by decide +kernel
theorem dX10_findChance_129 : decode cX10_findChance 129 = .ok (.getfield 157, 3) := by decide +kernel
theorem dX10_findChance_132 : decode cX10_findChance 132 = .ok (.iload 8, 2) := by decide +kernel
theorem dX10_findChance_134 : decode cX10_findChance 134 = .ok (.aload_n 0, 1) := by decide +kernel
theorem dX10_findChance_135 : decode cX10_findChance 135 = .ok (.getfield 151, 3) := by decide +kernel
theorem dX10_findChance_138 : decode cX10_findChance 138 = .ok (.aload_n 0, 1) := by decide +kernel
theorem dX10_findChance_139 : decode cX10_findChance 139 = .ok (.getfield 160, 3) := by decide +kernel
theorem dX10_findChance_142 : decode cX10_findChance 142 = .ok (.iload 8, 2) := by decide +kernel
theorem dX10_findChance_144 : decode cX10_findChance 144 = .ok (.iaload, 1) := by decide +kernel
theorem dX10_findChance_145 : decode cX10_findChance 145 = .ok (.iaload, 1) := by decide +kernel
theorem dX10_findChance_146 : decode cX10_findChance 146 = .ok (.iastore, 1) := by decide +kernel
theorem dX10_findChance_147 : decode cX10_findChance 147 = .ok (.iinc 8 1, 3) := by decide +kernel
theorem dX10_findChance_150 : decode cX10_findChance 150 = .ok (.goto (-84), 3) := by decide +kernel
theorem dX10_findChance_153 : decode cX10_findChance 153 = .ok (.aload_n 0, 1) := by decide +kernel
theorem dX10_findChance_154 : decode cX10_findChance 154 = .ok (.invokevirtual 325, 3) := by decide +kernel
theorem dX10_findChance_157 : decode cX10_findChance 157 = .ok (.istore 8, 2) := by decide +kernel
theorem dX10_findChance_159 : decode cX10_findChance 159 = .ok (.iload 5, 2) := by decide +kernel
theorem dX10_findChance_161 : decode cX10_findChance 161 = .ok (.aload_n 0, 1) := by decide +kernel
theorem dX10_findChance_162 : decode cX10_findChance 162 = .ok (.getfield 309, 3) := by decide +kernel
theorem dX10_findChance_165 : decode cX10_findChance 165 = .ok (.lload_n 3, 1) := by decide +kernel
theorem dX10_findChance_166 : decode cX10_findChance 166 = .ok (.lmul, 1) := by decide +kernel
theorem dX10_findChance_167 : decode cX10_findChance 167 = .ok (.lload_n 1, 1) := by decide +kernel
theorem dX10_findChance_168 : decode cX10_findChance 168 = .ok (.aload_n 0, 1) := by decide +kernel
theorem dX10_findChance_169 : decode cX10_findChance 169 = .ok (.getfield 312, 3) := by decide +kernel
theorem dX10_findChance_172 : decode cX10_findChance 172 = .ok (.lmul, 1) := by decide +kernel
theorem dX10_findChance_173 : decode cX10_findChance 173 = .ok (.lcmp, 1) := by decide +kernel
theorem dX10_findChance_174 : decode cX10_findChance 174 = .ok (.ifCond .gt 7, 3) := by decide +kernel
theorem dX10_findChance_177 : decode cX10_findChance 177 = .ok (.iconst 1, 1) := by decide +kernel
theorem dX10_findChance_178 : decode cX10_findChance 178 = .ok (.goto 4, 3) := by decide +kernel
theorem dX10_findChance_181 : decode cX10_findChance 181 = .ok (.iconst 0, 1) := by decide +kernel
theorem dX10_findChance_182 : decode cX10_findChance 182 = .ok (.iadd, 1) := by decide +kernel
theorem dX10_findChance_183 : decode cX10_findChance 183 = .ok (.istore 5, 2) := by decide +kernel
theorem dX10_findChance_185 : decode cX10_findChance 185 = .ok (.iinc 6 1, 3) := by decide +kernel
theorem dX10_findChance_188 : decode cX10_findChance 188 = .ok (.goto (-162), 3) := by decide +kernel
theorem dX10_findChance_191 : decode cX10_findChance 191 = .ok (.iload 5, 2) := by decide +kernel
theorem dX10_findChance_193 : decode cX10_findChance 193 = .ok (.ireturn, 1) := by decide +kernel
theorem dX10_chance_0 : decode cX10_chance 0 = .ok (.aload_n 0, 1) := by decide +kernel
theorem dX10_chance_1 : decode cX10_chance 1 = .ok (.invokevirtual 332, 3) := by decide +kernel
theorem dX10_chance_4 : decode cX10_chance 4 = .ok (.ireturn, 1) := by decide +kernel
theorem dX10_helped_0 : decode cX10_helped 0 = .ok (.aload_n 0, 1) := by decide +kernel
theorem dX10_helped_1 : decode cX10_helped 1 = .ok (.invokevirtual 332, 3) := by decide +kernel
theorem dX10_helped_4 : decode cX10_helped 4 = .ok (.istore_n 1, 1) := by decide +kernel
theorem dX10_helped_5 : decode cX10_helped 5 = .ok (.aload_n 0, 1) := by decide +kernel
theorem dX10_helped_6 : decode cX10_helped 6 = .ok (.invokevirtual 329, 3) := by decide +kernel
theorem dX10_helped_9 : decode cX10_helped 9 = .ok (.istore_n 2, 1) := by decide +kernel
theorem dX10_helped_10 : decode cX10_helped 10 = .ok (.iload_n 1, 1) := by decide +kernel
theorem dX10_helped_11 : decode cX10_helped 11 = .ok (.bipush (-9), 2) := by decide +kernel
theorem dX10_helped_13 : decode cX10_helped 13 = .ok (.if_icmp .eq 22, 3) := by decide +kernel
theorem dX10_helped_16 : decode cX10_helped 16 = .ok (.iload_n 1, 1) := by decide +kernel
theorem dX10_helped_17 : decode cX10_helped 17 = .ok (.bipush 36, 2) := by decide +kernel
theorem dX10_helped_19 : decode cX10_helped 19 = .ok (.if_icmp .gt 16, 3) := by decide +kernel
theorem dX10_helped_22 : decode cX10_helped 22 = .ok (.aload_n 0, 1) := by decide +kernel
theorem dX10_helped_23 : decode cX10_helped 23 = .ok (.getfield 309, 3) := by decide +kernel
theorem dX10_helped_26 : decode cX10_helped 26 = .ok (.lconst 0, 1) := by decide +kernel
theorem dX10_helped_27 : decode cX10_helped 27 = .ok (.lcmp, 1) := by decide +kernel
theorem dX10_helped_28 : decode cX10_helped 28 = .ok (.ifCond .ge 7, 3) := by decide +kernel
theorem dX10_helped_31 : decode cX10_helped 31 = .ok (.iconst 1, 1) := by decide +kernel
theorem dX10_helped_32 : decode cX10_helped 32 = .ok (.goto 4, 3) := by decide +kernel
theorem dX10_helped_35 : decode cX10_helped 35 = .ok (.iconst 0, 1) := by decide +kernel
theorem dX10_helped_36 : decode cX10_helped 36 = .ok (.ireturn, 1) := by decide +kernel
theorem dX10_count_0 : decode cX10_count 0 = .ok (.iconst 0, 1) := by decide +kernel
theorem dX10_count_1 : decode cX10_count 1 = .ok (.istore_n 2, 1) := by decide +kernel
theorem dX10_count_2 : decode cX10_count 2 = .ok (.iload_n 1, 1) := by decide +kernel
theorem dX10_count_3 : decode cX10_count 3 = .ok (.tableswitch 144 0 7 #[45, 50, 55, 60, 65, 100, 105, 110], 45) := by decide +kernel
theorem dX10_count_48 : decode cX10_count 48 = .ok (.aload_n 0, 1) := by decide +kernel
theorem dX10_count_49 : decode cX10_count 49 = .ok (.getfield 179, 3) := by decide +kernel
theorem dX10_count_52 : decode cX10_count 52 = .ok (.ireturn, 1) := by decide +kernel
theorem dX10_count_53 : decode cX10_count 53 = .ok (.aload_n 0, 1) := by decide +kernel
theorem dX10_count_54 : decode cX10_count 54 = .ok (.getfield 182, 3) := by decide +kernel
theorem dX10_count_57 : decode cX10_count 57 = .ok (.ireturn, 1) := by decide +kernel
theorem dX10_count_58 : decode cX10_count 58 = .ok (.aload_n 0, 1) := by decide +kernel
theorem dX10_count_59 : decode cX10_count 59 = .ok (.getfield 165, 3) := by decide +kernel
theorem dX10_count_62 : decode cX10_count 62 = .ok (.ireturn, 1) := by decide +kernel
theorem dX10_count_63 : decode cX10_count 63 = .ok (.aload_n 0, 1) := by decide +kernel
theorem dX10_count_64 : decode cX10_count 64 = .ok (.getfield 172, 3) := by decide +kernel
theorem dX10_count_67 : decode cX10_count 67 = .ok (.ireturn, 1) := by decide +kernel
theorem dX10_count_68 : decode cX10_count 68 = .ok (.iconst 0, 1) := by decide +kernel
theorem dX10_count_69 : decode cX10_count 69 = .ok (.istore_n 3, 1) := by decide +kernel
theorem dX10_count_70 : decode cX10_count 70 = .ok (.iload_n 3, 1) := by decide +kernel
theorem dX10_count_71 : decode cX10_count 71 = .ok (.aload_n 0, 1) := by decide +kernel
theorem dX10_count_72 : decode cX10_count 72 = .ok (.getfield 172, 3) := by decide +kernel
theorem dX10_count_75 : decode cX10_count 75 = .ok (.if_icmp .ge 26, 3) := by decide +kernel
theorem dX10_count_78 : decode cX10_count 78 = .ok (.iload_n 2, 1) := by decide +kernel
theorem dX10_count_79 : decode cX10_count 79 = .ok (.aload_n 0, 1) := by decide +kernel
theorem dX10_count_80 : decode cX10_count 80 = .ok (.getfield 65, 3) := by decide +kernel
theorem dX10_count_83 : decode cX10_count 83 = .ok (.iload_n 3, 1) := by decide +kernel
theorem dX10_count_84 : decode cX10_count 84 = .ok (.iaload, 1) := by decide +kernel
theorem dX10_count_85 : decode cX10_count 85 = .ok (.ifCond .lt 7, 3) := by decide +kernel
theorem dX10_count_88 : decode cX10_count 88 = .ok (.iconst 1, 1) := by decide +kernel
theorem dX10_count_89 : decode cX10_count 89 = .ok (.goto 4, 3) := by decide +kernel
theorem dX10_count_92 : decode cX10_count 92 = .ok (.iconst 0, 1) := by decide +kernel
theorem dX10_count_93 : decode cX10_count 93 = .ok (.iadd, 1) := by decide +kernel
theorem dX10_count_94 : decode cX10_count 94 = .ok (.istore_n 2, 1) := by decide +kernel
theorem dX10_count_95 : decode cX10_count 95 = .ok (.iinc 3 1, 3) := by decide +kernel
theorem dX10_count_98 : decode cX10_count 98 = .ok (.goto (-28), 3) := by decide +kernel
theorem dX10_count_101 : decode cX10_count 101 = .ok (.iload_n 2, 1) := by decide +kernel
theorem dX10_count_102 : decode cX10_count 102 = .ok (.ireturn, 1) := by decide +kernel
theorem dX10_count_103 : decode cX10_count 103 = .ok (.aload_n 0, 1) := by decide +kernel
theorem dX10_count_104 : decode cX10_count 104 = .ok (.getfield 205, 3) := by decide +kernel
theorem dX10_count_107 : decode cX10_count 107 = .ok (.ireturn, 1) := by decide +kernel
theorem dX10_count_108 : decode cX10_count 108 = .ok (.aload_n 0, 1) := by decide +kernel
theorem dX10_count_109 : decode cX10_count 109 = .ok (.getfield 295, 3) := by decide +kernel
theorem dX10_count_112 : decode cX10_count 112 = .ok (.ireturn, 1) := by decide +kernel
theorem dX10_count_113 : decode cX10_count 113 = .ok (.iconst 0, 1) := by decide +kernel
theorem dX10_count_114 : decode cX10_count 114 = .ok (.istore_n 3, 1) := by decide +kernel
theorem dX10_count_115 : decode cX10_count 115 = .ok (.iload_n 3, 1) := by decide +kernel
theorem dX10_count_116 : decode cX10_count 116 = .ok (.aload_n 0, 1) := by decide +kernel
theorem dX10_count_117 : decode cX10_count 117 = .ok (.getfield 295, 3) := by decide +kernel
theorem dX10_count_120 : decode cX10_count 120 = .ok (.if_icmp .ge 25, 3) := by decide +kernel
theorem dX10_count_123 : decode cX10_count 123 = .ok (.iload_n 2, 1) := by decide +kernel
theorem dX10_count_124 : decode cX10_count 124 = .ok (.aload_n 0, 1) := by decide +kernel
theorem dX10_count_125 : decode cX10_count 125 = .ok (.iload_n 3, 1) := by decide +kernel
theorem dX10_count_126 : decode cX10_count 126 = .ok (.invokevirtual 306, 3) := by decide +kernel
theorem dX10_count_129 : decode cX10_count 129 = .ok (.ifCond .lt 7, 3) := by decide +kernel
theorem dX10_count_132 : decode cX10_count 132 = .ok (.iconst 1, 1) := by decide +kernel
theorem dX10_count_133 : decode cX10_count 133 = .ok (.goto 4, 3) := by decide +kernel
theorem dX10_count_136 : decode cX10_count 136 = .ok (.iconst 0, 1) := by decide +kernel
theorem dX10_count_137 : decode cX10_count 137 = .ok (.iadd, 1) := by decide +kernel
theorem dX10_count_138 : decode cX10_count 138 = .ok (.istore_n 2, 1) := by decide +kernel
theorem dX10_count_139 : decode cX10_count 139 = .ok (.iinc 3 1, 3) := by decide +kernel
theorem dX10_count_142 : decode cX10_count 142 = .ok (.goto (-27), 3) := by decide +kernel
theorem dX10_count_145 : decode cX10_count 145 = .ok (.iload_n 2, 1) := by decide +kernel
theorem dX10_count_146 : decode cX10_count 146 = .ok (.ireturn, 1) := by decide +kernel
theorem dX10_count_147 : decode cX10_count 147 = .ok (.iload_n 1, 1) := by decide +kernel
theorem dX10_count_148 : decode cX10_count 148 = .ok (.bipush 11, 2) := by decide +kernel
theorem dX10_count_150 : decode cX10_count 150 = .ok (.bipush 17, 2) := by decide +kernel
theorem dX10_count_152 : decode cX10_count 152 = .ok (.invokestatic 168, 3) := by decide +kernel
theorem dX10_count_155 : decode cX10_count 155 = .ok (.ifCond .eq 15, 3) := by decide +kernel
theorem dX10_count_158 : decode cX10_count 158 = .ok (.aload_n 0, 1) := by decide +kernel
theorem dX10_count_159 : decode cX10_count 159 = .ok (.getfield 71, 3) := by decide +kernel
theorem dX10_count_162 : decode cX10_count 162 = .ok (.iload_n 1, 1) := by decide +kernel
theorem dX10_count_163 : decode cX10_count 163 = .ok (.bipush 10, 2) := by decide +kernel
theorem dX10_count_165 : decode cX10_count 165 = .ok (.isub, 1) := by decide +kernel
theorem dX10_count_166 : decode cX10_count 166 = .ok (.iaload, 1) := by decide +kernel
theorem dX10_count_167 : decode cX10_count 167 = .ok (.goto 5, 3) := by decide +kernel
theorem dX10_count_170 : decode cX10_count 170 = .ok (.bipush (-9), 2) := by decide +kernel
theorem dX10_count_172 : decode cX10_count 172 = .ok (.ireturn, 1) := by decide +kernel
theorem dJ6_bitCount_0f7a4_0 : decode cJ6_bitCount_0f7a4 0 = .ok (.iload_n 0, 1) := by decide +kernel
theorem dJ6_bitCount_0f7a4_1 : decode cJ6_bitCount_0f7a4 1 = .ok (.iload_n 0, 1) := by decide +kernel
theorem dJ6_bitCount_0f7a4_2 : decode cJ6_bitCount_0f7a4 2 = .ok (.iconst 1, 1) := by decide +kernel
theorem dJ6_bitCount_0f7a4_3 : decode cJ6_bitCount_0f7a4 3 = .ok (.iushr, 1) := by decide +kernel
theorem dJ6_bitCount_0f7a4_4 : decode cJ6_bitCount_0f7a4 4 = .ok (.ldc_w 265, 3) := by decide +kernel
theorem dJ6_bitCount_0f7a4_7 : decode cJ6_bitCount_0f7a4 7 = .ok (.iand, 1) := by decide +kernel
theorem dJ6_bitCount_0f7a4_8 : decode cJ6_bitCount_0f7a4 8 = .ok (.isub, 1) := by decide +kernel
theorem dJ6_bitCount_0f7a4_9 : decode cJ6_bitCount_0f7a4 9 = .ok (.istore_n 0, 1) := by decide +kernel
theorem dJ6_bitCount_0f7a4_10 : decode cJ6_bitCount_0f7a4 10 = .ok (.iload_n 0, 1) := by decide +kernel
theorem dJ6_bitCount_0f7a4_11 : decode cJ6_bitCount_0f7a4 11 = .ok (.ldc_w 266, 3) := by decide +kernel
theorem dJ6_bitCount_0f7a4_14 : decode cJ6_bitCount_0f7a4 14 = .ok (.iand, 1) := by decide +kernel
theorem dJ6_bitCount_0f7a4_15 : decode cJ6_bitCount_0f7a4 15 = .ok (.iload_n 0, 1) := by decide +kernel
theorem dJ6_bitCount_0f7a4_16 : decode cJ6_bitCount_0f7a4 16 = .ok (.iconst 2, 1) := by decide +kernel
theorem dJ6_bitCount_0f7a4_17 : decode cJ6_bitCount_0f7a4 17 = .ok (.iushr, 1) := by decide +kernel
theorem dJ6_bitCount_0f7a4_18 : decode cJ6_bitCount_0f7a4 18 = .ok (.ldc_w 266, 3) := by decide +kernel
theorem dJ6_bitCount_0f7a4_21 : decode cJ6_bitCount_0f7a4 21 = .ok (.iand, 1) := by decide +kernel
theorem dJ6_bitCount_0f7a4_22 : decode cJ6_bitCount_0f7a4 22 = .ok (.iadd, 1) := by decide +kernel
theorem dJ6_bitCount_0f7a4_23 : decode cJ6_bitCount_0f7a4 23 = .ok (.istore_n 0, 1) := by decide +kernel
theorem dJ6_bitCount_0f7a4_24 : decode cJ6_bitCount_0f7a4 24 = .ok (.iload_n 0, 1) := by decide +kernel
theorem dJ6_bitCount_0f7a4_25 : decode cJ6_bitCount_0f7a4 25 = .ok (.iload_n 0, 1) := by decide +kernel
theorem dJ6_bitCount_0f7a4_26 : decode cJ6_bitCount_0f7a4 26 = .ok (.iconst 4, 1) := by decide +kernel
theorem dJ6_bitCount_0f7a4_27 : decode cJ6_bitCount_0f7a4 27 = .ok (.iushr, 1) := by decide +kernel
theorem dJ6_bitCount_0f7a4_28 : decode cJ6_bitCount_0f7a4 28 = .ok (.iadd, 1) := by decide +kernel
theorem dJ6_bitCount_0f7a4_29 : decode cJ6_bitCount_0f7a4 29 = .ok (.ldc_w 267, 3) := by decide +kernel
theorem dJ6_bitCount_0f7a4_32 : decode cJ6_bitCount_0f7a4 32 = .ok (.iand, 1) := by decide +kernel
theorem dJ6_bitCount_0f7a4_33 : decode cJ6_bitCount_0f7a4 33 = .ok (.istore_n 0, 1) := by decide +kernel
theorem dJ6_bitCount_0f7a4_34 : decode cJ6_bitCount_0f7a4 34 = .ok (.iload_n 0, 1) := by decide +kernel
theorem dJ6_bitCount_0f7a4_35 : decode cJ6_bitCount_0f7a4 35 = .ok (.iload_n 0, 1) := by decide +kernel
theorem dJ6_bitCount_0f7a4_36 : decode cJ6_bitCount_0f7a4 36 = .ok (.bipush 8, 2) := by decide +kernel
theorem dJ6_bitCount_0f7a4_38 : decode cJ6_bitCount_0f7a4 38 = .ok (.iushr, 1) := by decide +kernel
theorem dJ6_bitCount_0f7a4_39 : decode cJ6_bitCount_0f7a4 39 = .ok (.iadd, 1) := by decide +kernel
theorem dJ6_bitCount_0f7a4_40 : decode cJ6_bitCount_0f7a4 40 = .ok (.istore_n 0, 1) := by decide +kernel
theorem dJ6_bitCount_0f7a4_41 : decode cJ6_bitCount_0f7a4 41 = .ok (.iload_n 0, 1) := by decide +kernel
theorem dJ6_bitCount_0f7a4_42 : decode cJ6_bitCount_0f7a4 42 = .ok (.iload_n 0, 1) := by decide +kernel
theorem dJ6_bitCount_0f7a4_43 : decode cJ6_bitCount_0f7a4 43 = .ok (.bipush 16, 2) := by decide +kernel
theorem dJ6_bitCount_0f7a4_45 : decode cJ6_bitCount_0f7a4 45 = .ok (.iushr, 1) := by decide +kernel
theorem dJ6_bitCount_0f7a4_46 : decode cJ6_bitCount_0f7a4 46 = .ok (.iadd, 1) := by decide +kernel
theorem dJ6_bitCount_0f7a4_47 : decode cJ6_bitCount_0f7a4 47 = .ok (.istore_n 0, 1) := by decide +kernel
theorem dJ6_bitCount_0f7a4_48 : decode cJ6_bitCount_0f7a4 48 = .ok (.iload_n 0, 1) := by decide +kernel
theorem dJ6_bitCount_0f7a4_49 : decode cJ6_bitCount_0f7a4 49 = .ok (.bipush 63, 2) := by decide +kernel
theorem dJ6_bitCount_0f7a4_51 : decode cJ6_bitCount_0f7a4 51 = .ok (.iand, 1) := by decide +kernel
theorem dJ6_bitCount_0f7a4_52 : decode cJ6_bitCount_0f7a4 52 = .ok (.ireturn, 1) := by decide +kernel
theorem dJ9_floorMod_7cf53_0 : decode cJ9_floorMod_7cf53 0 = .ok (.iload_n 0, 1) := by decide +kernel
theorem dJ9_floorMod_7cf53_1 : decode cJ9_floorMod_7cf53 1 = .ok (.iload_n 1, 1) := by decide +kernel
theorem dJ9_floorMod_7cf53_2 : decode cJ9_floorMod_7cf53 2 = .ok (.irem, 1) := by decide +kernel
theorem dJ9_floorMod_7cf53_3 : decode cJ9_floorMod_7cf53 3 = .ok (.istore_n 2, 1) := by decide +kernel
theorem dJ9_floorMod_7cf53_4 : decode cJ9_floorMod_7cf53 4 = .ok (.iload_n 0, 1) := by decide +kernel
theorem dJ9_floorMod_7cf53_5 : decode cJ9_floorMod_7cf53 5 = .ok (.iload_n 1, 1) := by decide +kernel
theorem dJ9_floorMod_7cf53_6 : decode cJ9_floorMod_7cf53 6 = .ok (.ixor, 1) := by decide +kernel
theorem dJ9_floorMod_7cf53_7 : decode cJ9_floorMod_7cf53 7 = .ok (.ifCond .ge 11, 3) := by decide +kernel
theorem dJ9_floorMod_7cf53_10 : decode cJ9_floorMod_7cf53 10 = .ok (.iload_n 2, 1) := by decide +kernel
theorem dJ9_floorMod_7cf53_11 : decode cJ9_floorMod_7cf53 11 = .ok (.ifCond .eq 7, 3) := by decide +kernel
theorem dJ9_floorMod_7cf53_14 : decode cJ9_floorMod_7cf53 14 = .ok (.iload_n 2, 1) := by decide +kernel
theorem dJ9_floorMod_7cf53_15 : decode cJ9_floorMod_7cf53 15 = .ok (.iload_n 1, 1) := by decide +kernel
theorem dJ9_floorMod_7cf53_16 : decode cJ9_floorMod_7cf53 16 = .ok (.iadd, 1) := by decide +kernel
theorem dJ9_floorMod_7cf53_17 : decode cJ9_floorMod_7cf53 17 = .ok (.ireturn, 1) := by decide +kernel
theorem dJ9_floorMod_7cf53_18 : decode cJ9_floorMod_7cf53 18 = .ok (.iload_n 2, 1) := by decide +kernel
theorem dJ9_floorMod_7cf53_19 : decode cJ9_floorMod_7cf53 19 = .ok (.ireturn, 1) := by decide +kernel
theorem dJ9_abs_067f4_0 : decode cJ9_abs_067f4 0 = .ok (.lload_n 0, 1) := by decide +kernel
theorem dJ9_abs_067f4_1 : decode cJ9_abs_067f4 1 = .ok (.lconst 0, 1) := by decide +kernel
theorem dJ9_abs_067f4_2 : decode cJ9_abs_067f4 2 = .ok (.lcmp, 1) := by decide +kernel
theorem dJ9_abs_067f4_3 : decode cJ9_abs_067f4 3 = .ok (.ifCond .ge 8, 3) := by decide +kernel
theorem dJ9_abs_067f4_6 : decode cJ9_abs_067f4 6 = .ok (.lload_n 0, 1) := by decide +kernel
theorem dJ9_abs_067f4_7 : decode cJ9_abs_067f4 7 = .ok (.lneg, 1) := by decide +kernel
theorem dJ9_abs_067f4_8 : decode cJ9_abs_067f4 8 = .ok (.goto 4, 3) := by decide +kernel
theorem dJ9_abs_067f4_11 : decode cJ9_abs_067f4 11 = .ok (.lload_n 0, 1) := by decide +kernel
theorem dJ9_abs_067f4_12 : decode cJ9_abs_067f4 12 = .ok (.lreturn, 1) := by decide +kernel
theorem dJ9_max_7cf53_0 : decode cJ9_max_7cf53 0 = .ok (.iload_n 0, 1) := by decide +kernel
theorem dJ9_max_7cf53_1 : decode cJ9_max_7cf53 1 = .ok (.iload_n 1, 1) := by decide +kernel
theorem dJ9_max_7cf53_2 : decode cJ9_max_7cf53 2 = .ok (.if_icmp .lt 7, 3) := by decide +kernel
theorem dJ9_max_7cf53_5 : decode cJ9_max_7cf53 5 = .ok (.iload_n 0, 1) := by decide +kernel
theorem dJ9_max_7cf53_6 : decode cJ9_max_7cf53 6 = .ok (.goto 4, 3) := by decide +kernel
theorem dJ9_max_7cf53_9 : decode cJ9_max_7cf53 9 = .ok (.iload_n 1, 1) := by decide +kernel
theorem dJ9_max_7cf53_10 : decode cJ9_max_7cf53 10 = .ok (.ireturn, 1) := by decide +kernel
theorem dJ9_min_7cf53_0 : decode cJ9_min_7cf53 0 = .ok (.iload_n 0, 1) := by decide +kernel
theorem dJ9_min_7cf53_1 : decode cJ9_min_7cf53 1 = .ok (.iload_n 1, 1) := by decide +kernel
theorem dJ9_min_7cf53_2 : decode cJ9_min_7cf53 2 = .ok (.if_icmp .gt 7, 3) := by decide +kernel
theorem dJ9_min_7cf53_5 : decode cJ9_min_7cf53 5 = .ok (.iload_n 0, 1) := by decide +kernel
theorem dJ9_min_7cf53_6 : decode cJ9_min_7cf53 6 = .ok (.goto 4, 3) := by decide +kernel
theorem dJ9_min_7cf53_9 : decode cJ9_min_7cf53 9 = .ok (.iload_n 1, 1) := by decide +kernel
theorem dJ9_min_7cf53_10 : decode cJ9_min_7cf53 10 = .ok (.ireturn, 1) := by decide +kernel
theorem dJ7_fill_d0a16_0 : decode cJ7_fill_d0a16 0 = .ok (.iconst 0, 1) := by decide +kernel
theorem dJ7_fill_d0a16_1 : decode cJ7_fill_d0a16 1 = .ok (.istore_n 3, 1) := by decide +kernel
theorem dJ7_fill_d0a16_2 : decode cJ7_fill_d0a16 2 = .ok (.aload_n 0, 1) := by decide +kernel
theorem dJ7_fill_d0a16_3 : decode cJ7_fill_d0a16 3 = .ok (.arraylength, 1) := by decide +kernel
theorem dJ7_fill_d0a16_4 : decode cJ7_fill_d0a16 4 = .ok (.istore 4, 2) := by decide +kernel
theorem dJ7_fill_d0a16_6 : decode cJ7_fill_d0a16 6 = .ok (.iload_n 3, 1) := by decide +kernel
theorem dJ7_fill_d0a16_7 : decode cJ7_fill_d0a16 7 = .ok (.iload 4, 2) := by decide +kernel
theorem dJ7_fill_d0a16_9 : decode cJ7_fill_d0a16 9 = .ok (.if_icmp .ge 13, 3) := by decide +kernel
theorem dJ7_fill_d0a16_12 : decode cJ7_fill_d0a16 12 = .ok (.aload_n 0, 1) := by decide +kernel
theorem dJ7_fill_d0a16_13 : decode cJ7_fill_d0a16 13 = .ok (.iload_n 3, 1) := by decide +kernel
theorem dJ7_fill_d0a16_14 : decode cJ7_fill_d0a16 14 = .ok (.lload_n 1, 1) := by decide +kernel
theorem dJ7_fill_d0a16_15 : decode cJ7_fill_d0a16 15 = .ok (.lastore, 1) := by decide +kernel
theorem dJ7_fill_d0a16_16 : decode cJ7_fill_d0a16 16 = .ok (.iinc 3 1, 3) := by decide +kernel
theorem dJ7_fill_d0a16_19 : decode cJ7_fill_d0a16 19 = .ok (.goto (-13), 3) := by decide +kernel
theorem dJ7_fill_d0a16_22 : decode cJ7_fill_d0a16 22 = .ok (.return_, 1) := by decide +kernel
theorem dJ7_fill_53178_0 : decode cJ7_fill_53178 0 = .ok (.iconst 0, 1) := by decide +kernel
theorem dJ7_fill_53178_1 : decode cJ7_fill_53178 1 = .ok (.istore_n 2, 1) := by decide +kernel
theorem dJ7_fill_53178_2 : decode cJ7_fill_53178 2 = .ok (.aload_n 0, 1) := by decide +kernel
theorem dJ7_fill_53178_3 : decode cJ7_fill_53178 3 = .ok (.arraylength, 1) := by decide +kernel
theorem dJ7_fill_53178_4 : decode cJ7_fill_53178 4 = .ok (.istore_n 3, 1) := by decide +kernel
theorem dJ7_fill_53178_5 : decode cJ7_fill_53178 5 = .ok (.iload_n 2, 1) := by decide +kernel
theorem dJ7_fill_53178_6 : decode cJ7_fill_53178 6 = .ok (.iload_n 3, 1) := by decide +kernel
theorem dJ7_fill_53178_7 : decode cJ7_fill_53178 7 = .ok (.if_icmp .ge 13, 3) := by decide +kernel
theorem dJ7_fill_53178_10 : decode cJ7_fill_53178 10 = .ok (.aload_n 0, 1) := by decide +kernel
theorem dJ7_fill_53178_11 : decode cJ7_fill_53178 11 = .ok (.iload_n 2, 1) := by decide +kernel
theorem dJ7_fill_53178_12 : decode cJ7_fill_53178 12 = .ok (.iload_n 1, 1) := by decide +kernel
theorem dJ7_fill_53178_13 : decode cJ7_fill_53178 13 = .ok (.iastore, 1) := by decide +kernel
theorem dJ7_fill_53178_14 : decode cJ7_fill_53178 14 = .ok (.iinc 2 1, 3) := by decide +kernel
theorem dJ7_fill_53178_17 : decode cJ7_fill_53178 17 = .ok (.goto (-12), 3) := by decide +kernel
theorem dJ7_fill_53178_20 : decode cJ7_fill_53178 20 = .ok (.return_, 1) := by decide +kernel
end
section
theorem dL_law_0 : decode cL_law 0 = .ok (.new 7, 3) := by decide +kernel
theorem dL_law_3 : decode cL_law 3 = .ok (.dup, 1) := by decide +kernel
theorem dL_law_4 : decode cL_law 4 = .ok (.invokespecial 9, 3) := by decide +kernel
theorem dL_law_7 : decode cL_law 7 = .ok (.astore_n 1, 1) := by decide +kernel
theorem dL_law_8 : decode cL_law 8 = .ok (.new 10, 3) := by decide +kernel
theorem dL_law_11 : decode cL_law 11 = .ok (.dup, 1) := by decide +kernel
theorem dL_law_12 : decode cL_law 12 = .ok (.invokespecial 12, 3) := by decide +kernel
theorem dL_law_15 : decode cL_law 15 = .ok (.astore_n 2, 1) := by decide +kernel
theorem dL_law_16 : decode cL_law 16 = .ok (.iconst 0, 1) := by decide +kernel
theorem dL_law_17 : decode cL_law 17 = .ok (.istore_n 3, 1) := by decide +kernel
theorem dL_law_18 : decode cL_law 18 = .ok (.iload_n 3, 1) := by decide +kernel
theorem dL_law_19 : decode cL_law 19 = .ok (.aload_n 0, 1) := by decide +kernel
theorem dL_law_20 : decode cL_law 20 = .ok (.arraylength, 1) := by decide +kernel
theorem dL_law_21 : decode cL_law 21 = .ok (.bipush 6, 2) := by decide +kernel
theorem dL_law_23 : decode cL_law 23 = .ok (.isub, 1) := by decide +kernel
theorem dL_law_24 : decode cL_law 24 = .ok (.if_icmp .gt 1444, 3) := by decide +kernel
theorem dL_law_27 : decode cL_law 27 = .ok (.aload_n 0, 1) := by decide +kernel
theorem dL_law_28 : decode cL_law 28 = .ok (.iload_n 3, 1) := by decide +kernel
theorem dL_law_29 : decode cL_law 29 = .ok (.iaload, 1) := by decide +kernel
theorem dL_law_30 : decode cL_law 30 = .ok (.bipush 63, 2) := by decide +kernel
theorem dL_law_32 : decode cL_law 32 = .ok (.iand, 1) := by decide +kernel
theorem dL_law_33 : decode cL_law 33 = .ok (.tableswitch 1429 0 36 #[163, 186, 229, 272, 305, 338, 401, 450, 509, 552, 585, 608, 641, 704, 747, 780, 793, 826, 859, 892, 915, 938, 981, 994, 1028, 1062, 1075, 1118, 1161, 1214, 1257, 1280, 1313, 1356, 1380, 1393, 1406], 163) := by decide +kernel
theorem dL_law_196 : decode cL_law 196 = .ok (.aload_n 1, 1) := by decide +kernel
theorem dL_law_197 : decode cL_law 197 = .ok (.aload_n 0, 1) := by decide +kernel
theorem dL_law_198 : decode cL_law 198 = .ok (.iload_n 3, 1) := by decide +kernel
theorem dL_law_199 : decode cL_law 199 = .ok (.iconst 1, 1) := by decide +kernel
theorem dL_law_200 : decode cL_law 200 = .ok (.iadd, 1) := by decide +kernel
theorem dL_law_201 : decode cL_law 201 = .ok (.iaload, 1) := by decide +kernel
theorem dL_law_202 : decode cL_law 202 = .ok (.invokevirtual 13, 3) := by decide +kernel
theorem dL_law_205 : decode cL_law 205 = .ok (.aload_n 2, 1) := by decide +kernel
theorem dL_law_206 : decode cL_law 206 = .ok (.aload_n 0, 1) := by decide +kernel
theorem dL_law_207 : decode cL_law 207 = .ok (.iload_n 3, 1) := by decide +kernel
theorem dL_law_208 : decode cL_law 208 = .ok (.iconst 1, 1) := by decide +kernel
theorem dL_law_209 : decode cL_law 209 = .ok (.iadd, 1) := by decide +kernel
theorem dL_law_210 : decode cL_law 210 = .ok (.iaload, 1) := by decide +kernel
theorem dL_law_211 : decode cL_law 211 = .ok (.invokevirtual 17, 3) := by decide +kernel
theorem dL_law_214 : decode cL_law 214 = .ok (.if_icmp .eq 1248, 3) := by decide +kernel
theorem dL_law_217 : decode cL_law 217 = .ok (.iconst 0, 1) := by decide +kernel
theorem dL_law_218 : decode cL_law 218 = .ok (.ireturn, 1) := by decide +kernel
theorem dL_law_219 : decode cL_law 219 = .ok (.aload_n 1, 1) := by decide +kernel
theorem dL_law_220 : decode cL_law 220 = .ok (.aload_n 0, 1) := by decide +kernel
theorem dL_law_221 : decode cL_law 221 = .ok (.iload_n 3, 1) := by decide +kernel
theorem dL_law_222 : decode cL_law 222 = .ok (.iconst 1, 1) := by decide +kernel
theorem dL_law_223 : decode cL_law 223 = .ok (.iadd, 1) := by decide +kernel
theorem dL_law_224 : decode cL_law 224 = .ok (.iaload, 1) := by decide +kernel
theorem dL_law_225 : decode cL_law 225 = .ok (.aload_n 0, 1) := by decide +kernel
theorem dL_law_226 : decode cL_law 226 = .ok (.iload_n 3, 1) := by decide +kernel
theorem dL_law_227 : decode cL_law 227 = .ok (.iconst 2, 1) := by decide +kernel
theorem dL_law_228 : decode cL_law 228 = .ok (.iadd, 1) := by decide +kernel
theorem dL_law_229 : decode cL_law 229 = .ok (.iaload, 1) := by decide +kernel
theorem dL_law_230 : decode cL_law 230 = .ok (.aload_n 0, 1) := by decide +kernel
theorem dL_law_231 : decode cL_law 231 = .ok (.iload_n 3, 1) := by decide +kernel
theorem dL_law_232 : decode cL_law 232 = .ok (.iconst 3, 1) := by decide +kernel
theorem dL_law_233 : decode cL_law 233 = .ok (.iadd, 1) := by decide +kernel
theorem dL_law_234 : decode cL_law 234 = .ok (.iaload, 1) := by decide +kernel
theorem dL_law_235 : decode cL_law 235 = .ok (.invokevirtual 18, 3) := by decide +kernel
theorem dL_law_238 : decode cL_law 238 = .ok (.aload_n 2, 1) := by decide +kernel
theorem dL_law_239 : decode cL_law 239 = .ok (.aload_n 0, 1) := by decide +kernel
theorem dL_law_240 : decode cL_law 240 = .ok (.iload_n 3, 1) := by decide +kernel
theorem dL_law_241 : decode cL_law 241 = .ok (.iconst 1, 1) := by decide +kernel
theorem dL_law_242 : decode cL_law 242 = .ok (.iadd, 1) := by decide +kernel
theorem dL_law_243 : decode cL_law 243 = .ok (.iaload, 1) := by decide +kernel
theorem dL_law_244 : decode cL_law 244 = .ok (.aload_n 0, 1) := by decide +kernel
theorem dL_law_245 : decode cL_law 245 = .ok (.iload_n 3, 1) := by decide +kernel
theorem dL_law_246 : decode cL_law 246 = .ok (.iconst 2, 1) := by decide +kernel
theorem dL_law_247 : decode cL_law 247 = .ok (.iadd, 1) := by decide +kernel
theorem dL_law_248 : decode cL_law 248 = .ok (.iaload, 1) := by decide +kernel
theorem dL_law_249 : decode cL_law 249 = .ok (.aload_n 0, 1) := by decide +kernel
theorem dL_law_250 : decode cL_law 250 = .ok (.iload_n 3, 1) := by decide +kernel
theorem dL_law_251 : decode cL_law 251 = .ok (.iconst 3, 1) := by decide +kernel
theorem dL_law_252 : decode cL_law 252 = .ok (.iadd, 1) := by decide +kernel
theorem dL_law_253 : decode cL_law 253 = .ok (.iaload, 1) := by decide +kernel
theorem dL_law_254 : decode cL_law 254 = .ok (.invokevirtual 22, 3) := by decide +kernel
theorem dL_law_257 : decode cL_law 257 = .ok (.if_icmp .eq 1205, 3) := by decide +kernel
theorem dL_law_260 : decode cL_law 260 = .ok (.iconst 0, 1) := by decide +kernel
theorem dL_law_261 : decode cL_law 261 = .ok (.ireturn, 1) := by decide +kernel
theorem dL_law_262 : decode cL_law 262 = .ok (.aload_n 1, 1) := by decide +kernel
theorem dL_law_263 : decode cL_law 263 = .ok (.aload_n 0, 1) := by decide +kernel
theorem dL_law_264 : decode cL_law 264 = .ok (.iload_n 3, 1) := by decide +kernel
theorem dL_law_265 : decode cL_law 265 = .ok (.iconst 1, 1) := by decide +kernel
theorem dL_law_266 : decode cL_law 266 = .ok (.iadd, 1) := by decide +kernel
theorem dL_law_267 : decode cL_law 267 = .ok (.iaload, 1) := by decide +kernel
theorem dL_law_268 : decode cL_law 268 = .ok (.aload_n 0, 1) := by decide +kernel
theorem dL_law_269 : decode cL_law 269 = .ok (.iload_n 3, 1) := by decide +kernel
theorem dL_law_270 : decode cL_law 270 = .ok (.iconst 2, 1) := by decide +kernel
theorem dL_law_271 : decode cL_law 271 = .ok (.iadd, 1) := by decide +kernel
theorem dL_law_272 : decode cL_law 272 = .ok (.iaload, 1) := by decide +kernel
theorem dL_law_273 : decode cL_law 273 = .ok (.aload_n 0, 1) := by decide +kernel
theorem dL_law_274 : decode cL_law 274 = .ok (.iload_n 3, 1) := by decide +kernel
theorem dL_law_275 : decode cL_law 275 = .ok (.iconst 3, 1) := by decide +kernel
theorem dL_law_276 : decode cL_law 276 = .ok (.iadd, 1) := by decide +kernel
theorem dL_law_277 : decode cL_law 277 = .ok (.iaload, 1) := by decide +kernel
theorem dL_law_278 : decode cL_law 278 = .ok (.invokevirtual 23, 3) := by decide +kernel
theorem dL_law_281 : decode cL_law 281 = .ok (.aload_n 2, 1) := by decide +kernel
theorem dL_law_282 : decode cL_law 282 = .ok (.aload_n 0, 1) := by decide +kernel
theorem dL_law_283 : decode cL_law 283 = .ok (.iload_n 3, 1) := by decide +kernel
theorem dL_law_284 : decode cL_law 284 = .ok (.iconst 1, 1) := by decide +kernel
theorem dL_law_285 : decode cL_law 285 = .ok (.iadd, 1) := by decide +kernel
theorem dL_law_286 : decode cL_law 286 = .ok (.iaload, 1) := by decide +kernel
theorem dL_law_287 : decode cL_law 287 = .ok (.aload_n 0, 1) := by decide +kernel
theorem dL_law_288 : decode cL_law 288 = .ok (.iload_n 3, 1) := by decide +kernel
theorem dL_law_289 : decode cL_law 289 = .ok (.iconst 2, 1) := by decide +kernel
theorem dL_law_290 : decode cL_law 290 = .ok (.iadd, 1) := by decide +kernel
theorem dL_law_291 : decode cL_law 291 = .ok (.iaload, 1) := by decide +kernel
theorem dL_law_292 : decode cL_law 292 = .ok (.aload_n 0, 1) := by decide +kernel
theorem dL_law_293 : decode cL_law 293 = .ok (.iload_n 3, 1) := by decide +kernel
theorem dL_law_294 : decode cL_law 294 = .ok (.iconst 3, 1) := by decide +kernel
theorem dL_law_295 : decode cL_law 295 = .ok (.iadd, 1) := by decide +kernel
theorem dL_law_296 : decode cL_law 296 = .ok (.iaload, 1) := by decide +kernel
theorem dL_law_297 : decode cL_law 297 = .ok (.invokevirtual 26, 3) := by decide +kernel
theorem dL_law_300 : decode cL_law 300 = .ok (.if_icmp .eq 1162, 3) := by decide +kernel
theorem dL_law_303 : decode cL_law 303 = .ok (.iconst 0, 1) := by decide +kernel
theorem dL_law_304 : decode cL_law 304 = .ok (.ireturn, 1) := by decide +kernel
theorem dL_law_305 : decode cL_law 305 = .ok (.aload_n 1, 1) := by decide +kernel
theorem dL_law_306 : decode cL_law 306 = .ok (.aload_n 0, 1) := by decide +kernel
theorem dL_law_307 : decode cL_law 307 = .ok (.iload_n 3, 1) := by decide +kernel
theorem dL_law_308 : decode cL_law 308 = .ok (.iconst 1, 1) := by decide +kernel
theorem dL_law_309 : decode cL_law 309 = .ok (.iadd, 1) := by decide +kernel
theorem dL_law_310 : decode cL_law 310 = .ok (.iaload, 1) := by decide +kernel
theorem dL_law_311 : decode cL_law 311 = .ok (.aload_n 0, 1) := by decide +kernel
theorem dL_law_312 : decode cL_law 312 = .ok (.iload_n 3, 1) := by decide +kernel
theorem dL_law_313 : decode cL_law 313 = .ok (.iconst 2, 1) := by decide +kernel
theorem dL_law_314 : decode cL_law 314 = .ok (.iadd, 1) := by decide +kernel
theorem dL_law_315 : decode cL_law 315 = .ok (.iaload, 1) := by decide +kernel
theorem dL_law_316 : decode cL_law 316 = .ok (.invokevirtual 27, 3) := by decide +kernel
theorem dL_law_319 : decode cL_law 319 = .ok (.aload_n 2, 1) := by decide +kernel
theorem dL_law_320 : decode cL_law 320 = .ok (.aload_n 0, 1) := by decide +kernel
theorem dL_law_321 : decode cL_law 321 = .ok (.iload_n 3, 1) := by decide +kernel
theorem dL_law_322 : decode cL_law 322 = .ok (.iconst 1, 1) := by decide +kernel
theorem dL_law_323 : decode cL_law 323 = .ok (.iadd, 1) := by decide +kernel
theorem dL_law_324 : decode cL_law 324 = .ok (.iaload, 1) := by decide +kernel
theorem dL_law_325 : decode cL_law 325 = .ok (.aload_n 0, 1) := by decide +kernel
theorem dL_law_326 : decode cL_law 326 = .ok (.iload_n 3, 1) := by decide +kernel
theorem dL_law_327 : decode cL_law 327 = .ok (.iconst 2, 1) := by decide +kernel
theorem dL_law_328 : decode cL_law 328 = .ok (.iadd, 1) := by decide +kernel
theorem dL_law_329 : decode cL_law 329 = .ok (.iaload, 1) := by decide +kernel
theorem dL_law_330 : decode cL_law 330 = .ok (.invokevirtual 31, 3) := by decide +kernel
theorem dL_law_333 : decode cL_law 333 = .ok (.if_icmp .eq 1129, 3) := by decide +kernel
theorem dL_law_336 : decode cL_law 336 = .ok (.iconst 0, 1) := by decide +kernel
theorem dL_law_337 : decode cL_law 337 = .ok (.ireturn, 1) := by decide +kernel
theorem dL_law_338 : decode cL_law 338 = .ok (.aload_n 1, 1) := by decide +kernel
theorem dL_law_339 : decode cL_law 339 = .ok (.aload_n 0, 1) := by decide +kernel
theorem dL_law_340 : decode cL_law 340 = .ok (.iload_n 3, 1) := by decide +kernel
theorem dL_law_341 : decode cL_law 341 = .ok (.iconst 1, 1) := by decide +kernel
theorem dL_law_342 : decode cL_law 342 = .ok (.iadd, 1) := by decide +kernel
theorem dL_law_343 : decode cL_law 343 = .ok (.iaload, 1) := by decide +kernel
theorem dL_law_344 : decode cL_law 344 = .ok (.aload_n 0, 1) := by decide +kernel
theorem dL_law_345 : decode cL_law 345 = .ok (.iload_n 3, 1) := by decide +kernel
theorem dL_law_346 : decode cL_law 346 = .ok (.iconst 2, 1) := by decide +kernel
theorem dL_law_347 : decode cL_law 347 = .ok (.iadd, 1) := by decide +kernel
theorem dL_law_348 : decode cL_law 348 = .ok (.iaload, 1) := by decide +kernel
theorem dL_law_349 : decode cL_law 349 = .ok (.invokevirtual 32, 3) := by decide +kernel
theorem dL_law_352 : decode cL_law 352 = .ok (.aload_n 2, 1) := by decide +kernel
theorem dL_law_353 : decode cL_law 353 = .ok (.aload_n 0, 1) := by decide +kernel
theorem dL_law_354 : decode cL_law 354 = .ok (.iload_n 3, 1) := by decide +kernel
theorem dL_law_355 : decode cL_law 355 = .ok (.iconst 1, 1) := by decide +kernel
theorem dL_law_356 : decode cL_law 356 = .ok (.iadd, 1) := by decide +kernel
theorem dL_law_357 : decode cL_law 357 = .ok (.iaload, 1) := by decide +kernel
theorem dL_law_358 : decode cL_law 358 = .ok (.aload_n 0, 1) := by decide +kernel
theorem dL_law_359 : decode cL_law 359 = .ok (.iload_n 3, 1) := by decide +kernel
theorem dL_law_360 : decode cL_law 360 = .ok (.iconst 2, 1) := by decide +kernel
theorem dL_law_361 : decode cL_law 361 = .ok (.iadd, 1) := by decide +kernel
theorem dL_law_362 : decode cL_law 362 = .ok (.iaload, 1) := by decide +kernel
theorem dL_law_363 : decode cL_law 363 = .ok (.invokevirtual 35, 3) := by decide +kernel
theorem dL_law_366 : decode cL_law 366 = .ok (.if_icmp .eq 1096, 3) := by decide +kernel
theorem dL_law_369 : decode cL_law 369 = .ok (.iconst 0, 1) := by decide +kernel
theorem dL_law_370 : decode cL_law 370 = .ok (.ireturn, 1) := by decide +kernel
theorem dL_law_371 : decode cL_law 371 = .ok (.aload_n 1, 1) := by decide +kernel
theorem dL_law_372 : decode cL_law 372 = .ok (.aload_n 0, 1) := by decide +kernel
theorem dL_law_373 : decode cL_law 373 = .ok (.iload_n 3, 1) := by decide +kernel
theorem dL_law_374 : decode cL_law 374 = .ok (.iconst 1, 1) := by decide +kernel
theorem dL_law_375 : decode cL_law 375 = .ok (.iadd, 1) := by decide +kernel
theorem dL_law_376 : decode cL_law 376 = .ok (.iaload, 1) := by decide +kernel
theorem dL_law_377 : decode cL_law 377 = .ok (.aload_n 0, 1) := by decide +kernel
theorem dL_law_378 : decode cL_law 378 = .ok (.iload_n 3, 1) := by decide +kernel
theorem dL_law_379 : decode cL_law 379 = .ok (.iconst 2, 1) := by decide +kernel
theorem dL_law_380 : decode cL_law 380 = .ok (.iadd, 1) := by decide +kernel
theorem dL_law_381 : decode cL_law 381 = .ok (.iaload, 1) := by decide +kernel
theorem dL_law_382 : decode cL_law 382 = .ok (.aload_n 0, 1) := by decide +kernel
theorem dL_law_383 : decode cL_law 383 = .ok (.iload_n 3, 1) := by decide +kernel
theorem dL_law_384 : decode cL_law 384 = .ok (.iconst 3, 1) := by decide +kernel
theorem dL_law_385 : decode cL_law 385 = .ok (.iadd, 1) := by decide +kernel
theorem dL_law_386 : decode cL_law 386 = .ok (.iaload, 1) := by decide +kernel
theorem dL_law_387 : decode cL_law 387 = .ok (.aload_n 0, 1) := by decide +kernel
theorem dL_law_388 : decode cL_law 388 = .ok (.iload_n 3, 1) := by decide +kernel
theorem dL_law_389 : decode cL_law 389 = .ok (.iconst 4, 1) := by decide +kernel
theorem dL_law_390 : decode cL_law 390 = .ok (.iadd, 1) := by decide +kernel
theorem dL_law_391 : decode cL_law 391 = .ok (.iaload, 1) := by decide +kernel
theorem dL_law_392 : decode cL_law 392 = .ok (.aload_n 0, 1) := by decide +kernel
theorem dL_law_393 : decode cL_law 393 = .ok (.iload_n 3, 1) := by decide +kernel
theorem dL_law_394 : decode cL_law 394 = .ok (.iconst 5, 1) := by decide +kernel
theorem dL_law_395 : decode cL_law 395 = .ok (.iadd, 1) := by decide +kernel
theorem dL_law_396 : decode cL_law 396 = .ok (.iaload, 1) := by decide +kernel
theorem dL_law_397 : decode cL_law 397 = .ok (.invokevirtual 36, 3) := by decide +kernel
theorem dL_law_400 : decode cL_law 400 = .ok (.aload_n 2, 1) := by decide +kernel
theorem dL_law_401 : decode cL_law 401 = .ok (.aload_n 0, 1) := by decide +kernel
theorem dL_law_402 : decode cL_law 402 = .ok (.iload_n 3, 1) := by decide +kernel
theorem dL_law_403 : decode cL_law 403 = .ok (.iconst 1, 1) := by decide +kernel
theorem dL_law_404 : decode cL_law 404 = .ok (.iadd, 1) := by decide +kernel
theorem dL_law_405 : decode cL_law 405 = .ok (.iaload, 1) := by decide +kernel
theorem dL_law_406 : decode cL_law 406 = .ok (.aload_n 0, 1) := by decide +kernel
theorem dL_law_407 : decode cL_law 407 = .ok (.iload_n 3, 1) := by decide +kernel
theorem dL_law_408 : decode cL_law 408 = .ok (.iconst 2, 1) := by decide +kernel
theorem dL_law_409 : decode cL_law 409 = .ok (.iadd, 1) := by decide +kernel
theorem dL_law_410 : decode cL_law 410 = .ok (.iaload, 1) := by decide +kernel
theorem dL_law_411 : decode cL_law 411 = .ok (.aload_n 0, 1) := by decide +kernel
theorem dL_law_412 : decode cL_law 412 = .ok (.iload_n 3, 1) := by decide +kernel
theorem dL_law_413 : decode cL_law 413 = .ok (.iconst 3, 1) := by decide +kernel
theorem dL_law_414 : decode cL_law 414 = .ok (.iadd, 1) := by decide +kernel
theorem dL_law_415 : decode cL_law 415 = .ok (.iaload, 1) := by decide +kernel
theorem dL_law_416 : decode cL_law 416 = .ok (.aload_n 0, 1) := by decide +kernel
theorem dL_law_417 : decode cL_law 417 = .ok (.iload_n 3, 1) := by decide +kernel
theorem dL_law_418 : decode cL_law 418 = .ok (.iconst 4, 1) := by decide +kernel
theorem dL_law_419 : decode cL_law 419 = .ok (.iadd, 1) := by decide +kernel
theorem dL_law_420 : decode cL_law 420 = .ok (.iaload, 1) := by decide +kernel
theorem dL_law_421 : decode cL_law 421 = .ok (.aload_n 0, 1) := by decide +kernel
theorem dL_law_422 : decode cL_law 422 = .ok (.iload_n 3, 1) := by decide +kernel
theorem dL_law_423 : decode cL_law 423 = .ok (.iconst 5, 1) := by decide +kernel
theorem dL_law_424 : decode cL_law 424 = .ok (.iadd, 1) := by decide +kernel
theorem dL_law_425 : decode cL_law 425 = .ok (.iaload, 1) := by decide +kernel
theorem dL_law_426 : decode cL_law 426 = .ok (.invokevirtual 40, 3) := by decide +kernel
theorem dL_law_429 : decode cL_law 429 = .ok (.if_icmp .eq 1033, 3) := by decide +kernel
theorem dL_law_432 : decode cL_law 432 = .ok (.iconst 0, 1) := by decide +kernel
theorem dL_law_433 : decode cL_law 433 = .ok (.ireturn, 1) := by decide +kernel
theorem dL_law_434 : decode cL_law 434 = .ok (.aload_n 1, 1) := by decide +kernel
theorem dL_law_435 : decode cL_law 435 = .ok (.aload_n 0, 1) := by decide +kernel
theorem dL_law_436 : decode cL_law 436 = .ok (.iload_n 3, 1) := by decide +kernel
theorem dL_law_437 : decode cL_law 437 = .ok (.iconst 1, 1) := by decide +kernel
theorem dL_law_438 : decode cL_law 438 = .ok (.iadd, 1) := by decide +kernel
theorem dL_law_439 : decode cL_law 439 = .ok (.iaload, 1) := by decide +kernel
theorem dL_law_440 : decode cL_law 440 = .ok (.aload_n 0, 1) := by decide +kernel
theorem dL_law_441 : decode cL_law 441 = .ok (.iload_n 3, 1) := by decide +kernel
theorem dL_law_442 : decode cL_law 442 = .ok (.iconst 2, 1) := by decide +kernel
theorem dL_law_443 : decode cL_law 443 = .ok (.iadd, 1) := by decide +kernel
theorem dL_law_444 : decode cL_law 444 = .ok (.iaload, 1) := by decide +kernel
theorem dL_law_445 : decode cL_law 445 = .ok (.ifCond .eq 7, 3) := by decide +kernel
theorem dL_law_448 : decode cL_law 448 = .ok (.iconst 1, 1) := by decide +kernel
theorem dL_law_449 : decode cL_law 449 = .ok (.goto 4, 3) := by decide +kernel
theorem dL_law_452 : decode cL_law 452 = .ok (.iconst 0, 1) := by decide +kernel
theorem dL_law_453 : decode cL_law 453 = .ok (.invokevirtual 41, 3) := by decide +kernel
theorem dL_law_456 : decode cL_law 456 = .ok (.aload_n 2, 1) := by decide +kernel
theorem dL_law_457 : decode cL_law 457 = .ok (.aload_n 0, 1) := by decide +kernel
theorem dL_law_458 : decode cL_law 458 = .ok (.iload_n 3, 1) := by decide +kernel
theorem dL_law_459 : decode cL_law 459 = .ok (.iconst 1, 1) := by decide +kernel
theorem dL_law_460 : decode cL_law 460 = .ok (.iadd, 1) := by decide +kernel
theorem dL_law_461 : decode cL_law 461 = .ok (.iaload, 1) := by decide +kernel
theorem dL_law_462 : decode cL_law 462 = .ok (.aload_n 0, 1) := by decide +kernel
theorem dL_law_463 : decode cL_law 463 = .ok (.iload_n 3, 1) := by decide +kernel
theorem dL_law_464 : decode cL_law 464 = .ok (.iconst 2, 1) := by decide +kernel
theorem dL_law_465 : decode cL_law 465 = .ok (.iadd, 1) := by decide +kernel
theorem dL_law_466 : decode cL_law 466 = .ok (.iaload, 1) := by decide +kernel
theorem dL_law_467 : decode cL_law 467 = .ok (.ifCond .eq 7, 3) := by decide +kernel
theorem dL_law_470 : decode cL_law 470 = .ok (.iconst 1, 1) := by decide +kernel
theorem dL_law_471 : decode cL_law 471 = .ok (.goto 4, 3) := by decide +kernel
theorem dL_law_474 : decode cL_law 474 = .ok (.iconst 0, 1) := by decide +kernel
theorem dL_law_475 : decode cL_law 475 = .ok (.invokevirtual 45, 3) := by decide +kernel
theorem dL_law_478 : decode cL_law 478 = .ok (.if_icmp .eq 984, 3) := by decide +kernel
theorem dL_law_481 : decode cL_law 481 = .ok (.iconst 0, 1) := by decide +kernel
theorem dL_law_482 : decode cL_law 482 = .ok (.ireturn, 1) := by decide +kernel
theorem dL_law_483 : decode cL_law 483 = .ok (.aload_n 1, 1) := by decide +kernel
theorem dL_law_484 : decode cL_law 484 = .ok (.aload_n 0, 1) := by decide +kernel
theorem dL_law_485 : decode cL_law 485 = .ok (.iload_n 3, 1) := by decide +kernel
theorem dL_law_486 : decode cL_law 486 = .ok (.iconst 1, 1) := by decide +kernel
theorem dL_law_487 : decode cL_law 487 = .ok (.iadd, 1) := by decide +kernel
theorem dL_law_488 : decode cL_law 488 = .ok (.iaload, 1) := by decide +kernel
theorem dL_law_489 : decode cL_law 489 = .ok (.aload_n 0, 1) := by decide +kernel
theorem dL_law_490 : decode cL_law 490 = .ok (.iload_n 3, 1) := by decide +kernel
theorem dL_law_491 : decode cL_law 491 = .ok (.iconst 2, 1) := by decide +kernel
theorem dL_law_492 : decode cL_law 492 = .ok (.iadd, 1) := by decide +kernel
theorem dL_law_493 : decode cL_law 493 = .ok (.iaload, 1) := by decide +kernel
theorem dL_law_494 : decode cL_law 494 = .ok (.aload_n 0, 1) := by decide +kernel
theorem dL_law_495 : decode cL_law 495 = .ok (.iload_n 3, 1) := by decide +kernel
theorem dL_law_496 : decode cL_law 496 = .ok (.iconst 3, 1) := by decide +kernel
theorem dL_law_497 : decode cL_law 497 = .ok (.iadd, 1) := by decide +kernel
theorem dL_law_498 : decode cL_law 498 = .ok (.iaload, 1) := by decide +kernel
theorem dL_law_499 : decode cL_law 499 = .ok (.ifCond .eq 7, 3) := by decide +kernel
theorem dL_law_502 : decode cL_law 502 = .ok (.iconst 1, 1) := by decide +kernel
theorem dL_law_503 : decode cL_law 503 = .ok (.goto 4, 3) := by decide +kernel
theorem dL_law_506 : decode cL_law 506 = .ok (.iconst 0, 1) := by decide +kernel
theorem dL_law_507 : decode cL_law 507 = .ok (.invokevirtual 46, 3) := by decide +kernel
theorem dL_law_510 : decode cL_law 510 = .ok (.aload_n 2, 1) := by decide +kernel
theorem dL_law_511 : decode cL_law 511 = .ok (.aload_n 0, 1) := by decide +kernel
theorem dL_law_512 : decode cL_law 512 = .ok (.iload_n 3, 1) := by decide +kernel
theorem dL_law_513 : decode cL_law 513 = .ok (.iconst 1, 1) := by decide +kernel
theorem dL_law_514 : decode cL_law 514 = .ok (.iadd, 1) := by decide +kernel
theorem dL_law_515 : decode cL_law 515 = .ok (.iaload, 1) := by decide +kernel
theorem dL_law_516 : decode cL_law 516 = .ok (.aload_n 0, 1) := by decide +kernel
theorem dL_law_517 : decode cL_law 517 = .ok (.iload_n 3, 1) := by decide +kernel
theorem dL_law_518 : decode cL_law 518 = .ok (.iconst 2, 1) := by decide +kernel
theorem dL_law_519 : decode cL_law 519 = .ok (.iadd, 1) := by decide +kernel
theorem dL_law_520 : decode cL_law 520 = .ok (.iaload, 1) := by decide +kernel
theorem dL_law_521 : decode cL_law 521 = .ok (.aload_n 0, 1) := by decide +kernel
theorem dL_law_522 : decode cL_law 522 = .ok (.iload_n 3, 1) := by decide +kernel
theorem dL_law_523 : decode cL_law 523 = .ok (.iconst 3, 1) := by decide +kernel
theorem dL_law_524 : decode cL_law 524 = .ok (.iadd, 1) := by decide +kernel
theorem dL_law_525 : decode cL_law 525 = .ok (.iaload, 1) := by decide +kernel
theorem dL_law_526 : decode cL_law 526 = .ok (.ifCond .eq 7, 3) := by decide +kernel
theorem dL_law_529 : decode cL_law 529 = .ok (.iconst 1, 1) := by decide +kernel
theorem dL_law_530 : decode cL_law 530 = .ok (.goto 4, 3) := by decide +kernel
theorem dL_law_533 : decode cL_law 533 = .ok (.iconst 0, 1) := by decide +kernel
theorem dL_law_534 : decode cL_law 534 = .ok (.invokevirtual 50, 3) := by decide +kernel
theorem dL_law_537 : decode cL_law 537 = .ok (.if_icmp .eq 925, 3) := by decide +kernel
theorem dL_law_540 : decode cL_law 540 = .ok (.iconst 0, 1) := by decide +kernel
theorem dL_law_541 : decode cL_law 541 = .ok (.ireturn, 1) := by decide +kernel
theorem dL_law_542 : decode cL_law 542 = .ok (.aload_n 1, 1) := by decide +kernel
theorem dL_law_543 : decode cL_law 543 = .ok (.aload_n 0, 1) := by decide +kernel
theorem dL_law_544 : decode cL_law 544 = .ok (.iload_n 3, 1) := by decide +kernel
theorem dL_law_545 : decode cL_law 545 = .ok (.iconst 1, 1) := by decide +kernel
theorem dL_law_546 : decode cL_law 546 = .ok (.iadd, 1) := by decide +kernel
theorem dL_law_547 : decode cL_law 547 = .ok (.iaload, 1) := by decide +kernel
theorem dL_law_548 : decode cL_law 548 = .ok (.aload_n 0, 1) := by decide +kernel
theorem dL_law_549 : decode cL_law 549 = .ok (.iload_n 3, 1) := by decide +kernel
theorem dL_law_550 : decode cL_law 550 = .ok (.iconst 2, 1) := by decide +kernel
theorem dL_law_551 : decode cL_law 551 = .ok (.iadd, 1) := by decide +kernel
theorem dL_law_552 : decode cL_law 552 = .ok (.iaload, 1) := by decide +kernel
theorem dL_law_553 : decode cL_law 553 = .ok (.aload_n 0, 1) := by decide +kernel
theorem dL_law_554 : decode cL_law 554 = .ok (.iload_n 3, 1) := by decide +kernel
theorem dL_law_555 : decode cL_law 555 = .ok (.iconst 3, 1) := by decide +kernel
theorem dL_law_556 : decode cL_law 556 = .ok (.iadd, 1) := by decide +kernel
theorem dL_law_557 : decode cL_law 557 = .ok (.iaload, 1) := by decide +kernel
theorem dL_law_558 : decode cL_law 558 = .ok (.invokevirtual 51, 3) := by decide +kernel
theorem dL_law_561 : decode cL_law 561 = .ok (.aload_n 2, 1) := by decide +kernel
theorem dL_law_562 : decode cL_law 562 = .ok (.aload_n 0, 1) := by decide +kernel
theorem dL_law_563 : decode cL_law 563 = .ok (.iload_n 3, 1) := by decide +kernel
theorem dL_law_564 : decode cL_law 564 = .ok (.iconst 1, 1) := by decide +kernel
theorem dL_law_565 : decode cL_law 565 = .ok (.iadd, 1) := by decide +kernel
theorem dL_law_566 : decode cL_law 566 = .ok (.iaload, 1) := by decide +kernel
theorem dL_law_567 : decode cL_law 567 = .ok (.aload_n 0, 1) := by decide +kernel
theorem dL_law_568 : decode cL_law 568 = .ok (.iload_n 3, 1) := by decide +kernel
theorem dL_law_569 : decode cL_law 569 = .ok (.iconst 2, 1) := by decide +kernel
theorem dL_law_570 : decode cL_law 570 = .ok (.iadd, 1) := by decide +kernel
theorem dL_law_571 : decode cL_law 571 = .ok (.iaload, 1) := by decide +kernel
theorem dL_law_572 : decode cL_law 572 = .ok (.aload_n 0, 1) := by decide +kernel
theorem dL_law_573 : decode cL_law 573 = .ok (.iload_n 3, 1) := by decide +kernel
theorem dL_law_574 : decode cL_law 574 = .ok (.iconst 3, 1) := by decide +kernel
theorem dL_law_575 : decode cL_law 575 = .ok (.iadd, 1) := by decide +kernel
theorem dL_law_576 : decode cL_law 576 = .ok (.iaload, 1) := by decide +kernel
theorem dL_law_577 : decode cL_law 577 = .ok (.invokevirtual 54, 3) := by decide +kernel
theorem dL_law_580 : decode cL_law 580 = .ok (.if_icmp .eq 882, 3) := by decide +kernel
theorem dL_law_583 : decode cL_law 583 = .ok (.iconst 0, 1) := by decide +kernel
theorem dL_law_584 : decode cL_law 584 = .ok (.ireturn, 1) := by decide +kernel
theorem dL_law_585 : decode cL_law 585 = .ok (.aload_n 1, 1) := by decide +kernel
theorem dL_law_586 : decode cL_law 586 = .ok (.aload_n 0, 1) := by decide +kernel
theorem dL_law_587 : decode cL_law 587 = .ok (.iload_n 3, 1) := by decide +kernel
theorem dL_law_588 : decode cL_law 588 = .ok (.iconst 1, 1) := by decide +kernel
theorem dL_law_589 : decode cL_law 589 = .ok (.iadd, 1) := by decide +kernel
theorem dL_law_590 : decode cL_law 590 = .ok (.iaload, 1) := by decide +kernel
theorem dL_law_591 : decode cL_law 591 = .ok (.aload_n 0, 1) := by decide +kernel
theorem dL_law_592 : decode cL_law 592 = .ok (.iload_n 3, 1) := by decide +kernel
theorem dL_law_593 : decode cL_law 593 = .ok (.iconst 2, 1) := by decide +kernel
theorem dL_law_594 : decode cL_law 594 = .ok (.iadd, 1) := by decide +kernel
theorem dL_law_595 : decode cL_law 595 = .ok (.iaload, 1) := by decide +kernel
theorem dL_law_596 : decode cL_law 596 = .ok (.invokevirtual 55, 3) := by decide +kernel
theorem dL_law_599 : decode cL_law 599 = .ok (.aload_n 2, 1) := by decide +kernel
theorem dL_law_600 : decode cL_law 600 = .ok (.aload_n 0, 1) := by decide +kernel
theorem dL_law_601 : decode cL_law 601 = .ok (.iload_n 3, 1) := by decide +kernel
theorem dL_law_602 : decode cL_law 602 = .ok (.iconst 1, 1) := by decide +kernel
theorem dL_law_603 : decode cL_law 603 = .ok (.iadd, 1) := by decide +kernel
theorem dL_law_604 : decode cL_law 604 = .ok (.iaload, 1) := by decide +kernel
theorem dL_law_605 : decode cL_law 605 = .ok (.aload_n 0, 1) := by decide +kernel
theorem dL_law_606 : decode cL_law 606 = .ok (.iload_n 3, 1) := by decide +kernel
theorem dL_law_607 : decode cL_law 607 = .ok (.iconst 2, 1) := by decide +kernel
theorem dL_law_608 : decode cL_law 608 = .ok (.iadd, 1) := by decide +kernel
theorem dL_law_609 : decode cL_law 609 = .ok (.iaload, 1) := by decide +kernel
theorem dL_law_610 : decode cL_law 610 = .ok (.invokevirtual 58, 3) := by decide +kernel
theorem dL_law_613 : decode cL_law 613 = .ok (.if_icmp .eq 849, 3) := by decide +kernel
theorem dL_law_616 : decode cL_law 616 = .ok (.iconst 0, 1) := by decide +kernel
theorem dL_law_617 : decode cL_law 617 = .ok (.ireturn, 1) := by decide +kernel
theorem dL_law_618 : decode cL_law 618 = .ok (.aload_n 1, 1) := by decide +kernel
theorem dL_law_619 : decode cL_law 619 = .ok (.aload_n 0, 1) := by decide +kernel
theorem dL_law_620 : decode cL_law 620 = .ok (.iload_n 3, 1) := by decide +kernel
theorem dL_law_621 : decode cL_law 621 = .ok (.iconst 1, 1) := by decide +kernel
theorem dL_law_622 : decode cL_law 622 = .ok (.iadd, 1) := by decide +kernel
theorem dL_law_623 : decode cL_law 623 = .ok (.iaload, 1) := by decide +kernel
theorem dL_law_624 : decode cL_law 624 = .ok (.invokevirtual 59, 3) := by decide +kernel
theorem dL_law_627 : decode cL_law 627 = .ok (.aload_n 2, 1) := by decide +kernel
theorem dL_law_628 : decode cL_law 628 = .ok (.aload_n 0, 1) := by decide +kernel
theorem dL_law_629 : decode cL_law 629 = .ok (.iload_n 3, 1) := by decide +kernel
theorem dL_law_630 : decode cL_law 630 = .ok (.iconst 1, 1) := by decide +kernel
theorem dL_law_631 : decode cL_law 631 = .ok (.iadd, 1) := by decide +kernel
theorem dL_law_632 : decode cL_law 632 = .ok (.iaload, 1) := by decide +kernel
theorem dL_law_633 : decode cL_law 633 = .ok (.invokevirtual 62, 3) := by decide +kernel
theorem dL_law_636 : decode cL_law 636 = .ok (.if_icmp .eq 826, 3) := by decide +kernel
theorem dL_law_639 : decode cL_law 639 = .ok (.iconst 0, 1) := by decide +kernel
theorem dL_law_640 : decode cL_law 640 = .ok (.ireturn, 1) := by decide +kernel
theorem dL_law_641 : decode cL_law 641 = .ok (.aload_n 1, 1) := by decide +kernel
theorem dL_law_642 : decode cL_law 642 = .ok (.aload_n 0, 1) := by decide +kernel
theorem dL_law_643 : decode cL_law 643 = .ok (.iload_n 3, 1) := by decide +kernel
theorem dL_law_644 : decode cL_law 644 = .ok (.iconst 1, 1) := by decide +kernel
theorem dL_law_645 : decode cL_law 645 = .ok (.iadd, 1) := by decide +kernel
theorem dL_law_646 : decode cL_law 646 = .ok (.iaload, 1) := by decide +kernel
theorem dL_law_647 : decode cL_law 647 = .ok (.aload_n 0, 1) := by decide +kernel
theorem dL_law_648 : decode cL_law 648 = .ok (.iload_n 3, 1) := by decide +kernel
theorem dL_law_649 : decode cL_law 649 = .ok (.iconst 2, 1) := by decide +kernel
theorem dL_law_650 : decode cL_law 650 = .ok (.iadd, 1) := by decide +kernel
theorem dL_law_651 : decode cL_law 651 = .ok (.iaload, 1) := by decide +kernel
theorem dL_law_652 : decode cL_law 652 = .ok (.invokevirtual 63, 3) := by decide +kernel
theorem dL_law_655 : decode cL_law 655 = .ok (.aload_n 2, 1) := by decide +kernel
theorem dL_law_656 : decode cL_law 656 = .ok (.aload_n 0, 1) := by decide +kernel
theorem dL_law_657 : decode cL_law 657 = .ok (.iload_n 3, 1) := by decide +kernel
theorem dL_law_658 : decode cL_law 658 = .ok (.iconst 1, 1) := by decide +kernel
theorem dL_law_659 : decode cL_law 659 = .ok (.iadd, 1) := by decide +kernel
theorem dL_law_660 : decode cL_law 660 = .ok (.iaload, 1) := by decide +kernel
theorem dL_law_661 : decode cL_law 661 = .ok (.aload_n 0, 1) := by decide +kernel
theorem dL_law_662 : decode cL_law 662 = .ok (.iload_n 3, 1) := by decide +kernel
theorem dL_law_663 : decode cL_law 663 = .ok (.iconst 2, 1) := by decide +kernel
theorem dL_law_664 : decode cL_law 664 = .ok (.iadd, 1) := by decide +kernel
theorem dL_law_665 : decode cL_law 665 = .ok (.iaload, 1) := by decide +kernel
theorem dL_law_666 : decode cL_law 666 = .ok (.invokevirtual 66, 3) := by decide +kernel
theorem dL_law_669 : decode cL_law 669 = .ok (.if_icmp .eq 793, 3) := by decide +kernel
theorem dL_law_672 : decode cL_law 672 = .ok (.iconst 0, 1) := by decide +kernel
theorem dL_law_673 : decode cL_law 673 = .ok (.ireturn, 1) := by decide +kernel
theorem dL_law_674 : decode cL_law 674 = .ok (.aload_n 1, 1) := by decide +kernel
theorem dL_law_675 : decode cL_law 675 = .ok (.aload_n 0, 1) := by decide +kernel
theorem dL_law_676 : decode cL_law 676 = .ok (.iload_n 3, 1) := by decide +kernel
theorem dL_law_677 : decode cL_law 677 = .ok (.iconst 1, 1) := by decide +kernel
theorem dL_law_678 : decode cL_law 678 = .ok (.iadd, 1) := by decide +kernel
theorem dL_law_679 : decode cL_law 679 = .ok (.iaload, 1) := by decide +kernel
theorem dL_law_680 : decode cL_law 680 = .ok (.aload_n 0, 1) := by decide +kernel
theorem dL_law_681 : decode cL_law 681 = .ok (.iload_n 3, 1) := by decide +kernel
theorem dL_law_682 : decode cL_law 682 = .ok (.iconst 2, 1) := by decide +kernel
theorem dL_law_683 : decode cL_law 683 = .ok (.iadd, 1) := by decide +kernel
theorem dL_law_684 : decode cL_law 684 = .ok (.iaload, 1) := by decide +kernel
theorem dL_law_685 : decode cL_law 685 = .ok (.aload_n 0, 1) := by decide +kernel
theorem dL_law_686 : decode cL_law 686 = .ok (.iload_n 3, 1) := by decide +kernel
theorem dL_law_687 : decode cL_law 687 = .ok (.iconst 3, 1) := by decide +kernel
theorem dL_law_688 : decode cL_law 688 = .ok (.iadd, 1) := by decide +kernel
theorem dL_law_689 : decode cL_law 689 = .ok (.iaload, 1) := by decide +kernel
theorem dL_law_690 : decode cL_law 690 = .ok (.aload_n 0, 1) := by decide +kernel
theorem dL_law_691 : decode cL_law 691 = .ok (.iload_n 3, 1) := by decide +kernel
theorem dL_law_692 : decode cL_law 692 = .ok (.iconst 4, 1) := by decide +kernel
theorem dL_law_693 : decode cL_law 693 = .ok (.iadd, 1) := by decide +kernel
theorem dL_law_694 : decode cL_law 694 = .ok (.iaload, 1) := by decide +kernel
theorem dL_law_695 : decode cL_law 695 = .ok (.aload_n 0, 1) := by decide +kernel
theorem dL_law_696 : decode cL_law 696 = .ok (.iload_n 3, 1) := by decide +kernel
theorem dL_law_697 : decode cL_law 697 = .ok (.iconst 5, 1) := by decide +kernel
theorem dL_law_698 : decode cL_law 698 = .ok (.iadd, 1) := by decide +kernel
theorem dL_law_699 : decode cL_law 699 = .ok (.iaload, 1) := by decide +kernel
theorem dL_law_700 : decode cL_law 700 = .ok (.invokevirtual 67, 3) := by decide +kernel
theorem dL_law_703 : decode cL_law 703 = .ok (.aload_n 2, 1) := by decide +kernel
theorem dL_law_704 : decode cL_law 704 = .ok (.aload_n 0, 1) := by decide +kernel
theorem dL_law_705 : decode cL_law 705 = .ok (.iload_n 3, 1) := by decide +kernel
theorem dL_law_706 : decode cL_law 706 = .ok (.iconst 1, 1) := by decide +kernel
theorem dL_law_707 : decode cL_law 707 = .ok (.iadd, 1) := by decide +kernel
theorem dL_law_708 : decode cL_law 708 = .ok (.iaload, 1) := by decide +kernel
theorem dL_law_709 : decode cL_law 709 = .ok (.aload_n 0, 1) := by decide +kernel
theorem dL_law_710 : decode cL_law 710 = .ok (.iload_n 3, 1) := by decide +kernel
theorem dL_law_711 : decode cL_law 711 = .ok (.iconst 2, 1) := by decide +kernel
theorem dL_law_712 : decode cL_law 712 = .ok (.iadd, 1) := by decide +kernel
theorem dL_law_713 : decode cL_law 713 = .ok (.iaload, 1) := by decide +kernel
theorem dL_law_714 : decode cL_law 714 = .ok (.aload_n 0, 1) := by decide +kernel
theorem dL_law_715 : decode cL_law 715 = .ok (.iload_n 3, 1) := by decide +kernel
theorem dL_law_716 : decode cL_law 716 = .ok (.iconst 3, 1) := by decide +kernel
theorem dL_law_717 : decode cL_law 717 = .ok (.iadd, 1) := by decide +kernel
theorem dL_law_718 : decode cL_law 718 = .ok (.iaload, 1) := by decide +kernel
theorem dL_law_719 : decode cL_law 719 = .ok (.aload_n 0, 1) := by decide +kernel
theorem dL_law_720 : decode cL_law 720 = .ok (.iload_n 3, 1) := by decide +kernel
theorem dL_law_721 : decode cL_law 721 = .ok (.iconst 4, 1) := by decide +kernel
theorem dL_law_722 : decode cL_law 722 = .ok (.iadd, 1) := by decide +kernel
theorem dL_law_723 : decode cL_law 723 = .ok (.iaload, 1) := by decide +kernel
theorem dL_law_724 : decode cL_law 724 = .ok (.aload_n 0, 1) := by decide +kernel
theorem dL_law_725 : decode cL_law 725 = .ok (.iload_n 3, 1) := by decide +kernel
theorem dL_law_726 : decode cL_law 726 = .ok (.iconst 5, 1) := by decide +kernel
theorem dL_law_727 : decode cL_law 727 = .ok (.iadd, 1) := by decide +kernel
theorem dL_law_728 : decode cL_law 728 = .ok (.iaload, 1) := by decide +kernel
theorem dL_law_729 : decode cL_law 729 = .ok (.invokevirtual 70, 3) := by decide +kernel
theorem dL_law_732 : decode cL_law 732 = .ok (.if_icmp .eq 730, 3) := by decide +kernel
theorem dL_law_735 : decode cL_law 735 = .ok (.iconst 0, 1) := by decide +kernel
theorem dL_law_736 : decode cL_law 736 = .ok (.ireturn, 1) := by decide +kernel
theorem dL_law_737 : decode cL_law 737 = .ok (.aload_n 1, 1) := by decide +kernel
theorem dL_law_738 : decode cL_law 738 = .ok (.aload_n 0, 1) := by decide +kernel
theorem dL_law_739 : decode cL_law 739 = .ok (.iload_n 3, 1) := by decide +kernel
theorem dL_law_740 : decode cL_law 740 = .ok (.iconst 1, 1) := by decide +kernel
theorem dL_law_741 : decode cL_law 741 = .ok (.iadd, 1) := by decide +kernel
theorem dL_law_742 : decode cL_law 742 = .ok (.iaload, 1) := by decide +kernel
theorem dL_law_743 : decode cL_law 743 = .ok (.aload_n 0, 1) := by decide +kernel
theorem dL_law_744 : decode cL_law 744 = .ok (.iload_n 3, 1) := by decide +kernel
theorem dL_law_745 : decode cL_law 745 = .ok (.iconst 2, 1) := by decide +kernel
theorem dL_law_746 : decode cL_law 746 = .ok (.iadd, 1) := by decide +kernel
theorem dL_law_747 : decode cL_law 747 = .ok (.iaload, 1) := by decide +kernel
theorem dL_law_748 : decode cL_law 748 = .ok (.aload_n 0, 1) := by decide +kernel
theorem dL_law_749 : decode cL_law 749 = .ok (.iload_n 3, 1) := by decide +kernel
theorem dL_law_750 : decode cL_law 750 = .ok (.iconst 3, 1) := by decide +kernel
theorem dL_law_751 : decode cL_law 751 = .ok (.iadd, 1) := by decide +kernel
theorem dL_law_752 : decode cL_law 752 = .ok (.iaload, 1) := by decide +kernel
theorem dL_law_753 : decode cL_law 753 = .ok (.invokevirtual 71, 3) := by decide +kernel
theorem dL_law_756 : decode cL_law 756 = .ok (.aload_n 2, 1) := by decide +kernel
theorem dL_law_757 : decode cL_law 757 = .ok (.aload_n 0, 1) := by decide +kernel
theorem dL_law_758 : decode cL_law 758 = .ok (.iload_n 3, 1) := by decide +kernel
theorem dL_law_759 : decode cL_law 759 = .ok (.iconst 1, 1) := by decide +kernel
theorem dL_law_760 : decode cL_law 760 = .ok (.iadd, 1) := by decide +kernel
theorem dL_law_761 : decode cL_law 761 = .ok (.iaload, 1) := by decide +kernel
theorem dL_law_762 : decode cL_law 762 = .ok (.aload_n 0, 1) := by decide +kernel
theorem dL_law_763 : decode cL_law 763 = .ok (.iload_n 3, 1) := by decide +kernel
theorem dL_law_764 : decode cL_law 764 = .ok (.iconst 2, 1) := by decide +kernel
theorem dL_law_765 : decode cL_law 765 = .ok (.iadd, 1) := by decide +kernel
theorem dL_law_766 : decode cL_law 766 = .ok (.iaload, 1) := by decide +kernel
theorem dL_law_767 : decode cL_law 767 = .ok (.aload_n 0, 1) := by decide +kernel
theorem dL_law_768 : decode cL_law 768 = .ok (.iload_n 3, 1) := by decide +kernel
theorem dL_law_769 : decode cL_law 769 = .ok (.iconst 3, 1) := by decide +kernel
theorem dL_law_770 : decode cL_law 770 = .ok (.iadd, 1) := by decide +kernel
theorem dL_law_771 : decode cL_law 771 = .ok (.iaload, 1) := by decide +kernel
theorem dL_law_772 : decode cL_law 772 = .ok (.invokevirtual 74, 3) := by decide +kernel
theorem dL_law_775 : decode cL_law 775 = .ok (.if_icmp .eq 687, 3) := by decide +kernel
theorem dL_law_778 : decode cL_law 778 = .ok (.iconst 0, 1) := by decide +kernel
theorem dL_law_779 : decode cL_law 779 = .ok (.ireturn, 1) := by decide +kernel
theorem dL_law_780 : decode cL_law 780 = .ok (.aload_n 1, 1) := by decide +kernel
theorem dL_law_781 : decode cL_law 781 = .ok (.aload_n 0, 1) := by decide +kernel
theorem dL_law_782 : decode cL_law 782 = .ok (.iload_n 3, 1) := by decide +kernel
theorem dL_law_783 : decode cL_law 783 = .ok (.iconst 1, 1) := by decide +kernel
theorem dL_law_784 : decode cL_law 784 = .ok (.iadd, 1) := by decide +kernel
theorem dL_law_785 : decode cL_law 785 = .ok (.iaload, 1) := by decide +kernel
theorem dL_law_786 : decode cL_law 786 = .ok (.aload_n 0, 1) := by decide +kernel
theorem dL_law_787 : decode cL_law 787 = .ok (.iload_n 3, 1) := by decide +kernel
theorem dL_law_788 : decode cL_law 788 = .ok (.iconst 2, 1) := by decide +kernel
theorem dL_law_789 : decode cL_law 789 = .ok (.iadd, 1) := by decide +kernel
theorem dL_law_790 : decode cL_law 790 = .ok (.iaload, 1) := by decide +kernel
theorem dL_law_791 : decode cL_law 791 = .ok (.invokevirtual 75, 3) := by decide +kernel
theorem dL_law_794 : decode cL_law 794 = .ok (.aload_n 2, 1) := by decide +kernel
theorem dL_law_795 : decode cL_law 795 = .ok (.aload_n 0, 1) := by decide +kernel
theorem dL_law_796 : decode cL_law 796 = .ok (.iload_n 3, 1) := by decide +kernel
theorem dL_law_797 : decode cL_law 797 = .ok (.iconst 1, 1) := by decide +kernel
theorem dL_law_798 : decode cL_law 798 = .ok (.iadd, 1) := by decide +kernel
theorem dL_law_799 : decode cL_law 799 = .ok (.iaload, 1) := by decide +kernel
theorem dL_law_800 : decode cL_law 800 = .ok (.aload_n 0, 1) := by decide +kernel
theorem dL_law_801 : decode cL_law 801 = .ok (.iload_n 3, 1) := by decide +kernel
theorem dL_law_802 : decode cL_law 802 = .ok (.iconst 2, 1) := by decide +kernel
theorem dL_law_803 : decode cL_law 803 = .ok (.iadd, 1) := by decide +kernel
theorem dL_law_804 : decode cL_law 804 = .ok (.iaload, 1) := by decide +kernel
theorem dL_law_805 : decode cL_law 805 = .ok (.invokevirtual 78, 3) := by decide +kernel
theorem dL_law_808 : decode cL_law 808 = .ok (.if_icmp .eq 654, 3) := by decide +kernel
theorem dL_law_811 : decode cL_law 811 = .ok (.iconst 0, 1) := by decide +kernel
theorem dL_law_812 : decode cL_law 812 = .ok (.ireturn, 1) := by decide +kernel
theorem dL_law_813 : decode cL_law 813 = .ok (.aload_n 1, 1) := by decide +kernel
theorem dL_law_814 : decode cL_law 814 = .ok (.invokevirtual 79, 3) := by decide +kernel
theorem dL_law_817 : decode cL_law 817 = .ok (.aload_n 2, 1) := by decide +kernel
theorem dL_law_818 : decode cL_law 818 = .ok (.invokevirtual 83, 3) := by decide +kernel
theorem dL_law_821 : decode cL_law 821 = .ok (.if_icmp .eq 641, 3) := by decide +kernel
theorem dL_law_824 : decode cL_law 824 = .ok (.iconst 0, 1) := by decide +kernel
theorem dL_law_825 : decode cL_law 825 = .ok (.ireturn, 1) := by decide +kernel
theorem dL_law_826 : decode cL_law 826 = .ok (.aload_n 1, 1) := by decide +kernel
theorem dL_law_827 : decode cL_law 827 = .ok (.aload_n 0, 1) := by decide +kernel
theorem dL_law_828 : decode cL_law 828 = .ok (.iload_n 3, 1) := by decide +kernel
theorem dL_law_829 : decode cL_law 829 = .ok (.iconst 1, 1) := by decide +kernel
theorem dL_law_830 : decode cL_law 830 = .ok (.iadd, 1) := by decide +kernel
theorem dL_law_831 : decode cL_law 831 = .ok (.iaload, 1) := by decide +kernel
theorem dL_law_832 : decode cL_law 832 = .ok (.aload_n 0, 1) := by decide +kernel
theorem dL_law_833 : decode cL_law 833 = .ok (.iload_n 3, 1) := by decide +kernel
theorem dL_law_834 : decode cL_law 834 = .ok (.iconst 2, 1) := by decide +kernel
theorem dL_law_835 : decode cL_law 835 = .ok (.iadd, 1) := by decide +kernel
theorem dL_law_836 : decode cL_law 836 = .ok (.iaload, 1) := by decide +kernel
theorem dL_law_837 : decode cL_law 837 = .ok (.invokevirtual 84, 3) := by decide +kernel
theorem dL_law_840 : decode cL_law 840 = .ok (.aload_n 2, 1) := by decide +kernel
theorem dL_law_841 : decode cL_law 841 = .ok (.aload_n 0, 1) := by decide +kernel
theorem dL_law_842 : decode cL_law 842 = .ok (.iload_n 3, 1) := by decide +kernel
theorem dL_law_843 : decode cL_law 843 = .ok (.iconst 1, 1) := by decide +kernel
theorem dL_law_844 : decode cL_law 844 = .ok (.iadd, 1) := by decide +kernel
theorem dL_law_845 : decode cL_law 845 = .ok (.iaload, 1) := by decide +kernel
theorem dL_law_846 : decode cL_law 846 = .ok (.aload_n 0, 1) := by decide +kernel
theorem dL_law_847 : decode cL_law 847 = .ok (.iload_n 3, 1) := by decide +kernel
theorem dL_law_848 : decode cL_law 848 = .ok (.iconst 2, 1) := by decide +kernel
theorem dL_law_849 : decode cL_law 849 = .ok (.iadd, 1) := by decide +kernel
theorem dL_law_850 : decode cL_law 850 = .ok (.iaload, 1) := by decide +kernel
theorem dL_law_851 : decode cL_law 851 = .ok (.invokevirtual 87, 3) := by decide +kernel
theorem dL_law_854 : decode cL_law 854 = .ok (.if_icmp .eq 608, 3) := by decide +kernel
theorem dL_law_857 : decode cL_law 857 = .ok (.iconst 0, 1) := by decide +kernel
theorem dL_law_858 : decode cL_law 858 = .ok (.ireturn, 1) := by decide +kernel
theorem dL_law_859 : decode cL_law 859 = .ok (.aload_n 1, 1) := by decide +kernel
theorem dL_law_860 : decode cL_law 860 = .ok (.aload_n 0, 1) := by decide +kernel
theorem dL_law_861 : decode cL_law 861 = .ok (.iload_n 3, 1) := by decide +kernel
theorem dL_law_862 : decode cL_law 862 = .ok (.iconst 1, 1) := by decide +kernel
theorem dL_law_863 : decode cL_law 863 = .ok (.iadd, 1) := by decide +kernel
theorem dL_law_864 : decode cL_law 864 = .ok (.iaload, 1) := by decide +kernel
theorem dL_law_865 : decode cL_law 865 = .ok (.aload_n 0, 1) := by decide +kernel
theorem dL_law_866 : decode cL_law 866 = .ok (.iload_n 3, 1) := by decide +kernel
theorem dL_law_867 : decode cL_law 867 = .ok (.iconst 2, 1) := by decide +kernel
theorem dL_law_868 : decode cL_law 868 = .ok (.iadd, 1) := by decide +kernel
theorem dL_law_869 : decode cL_law 869 = .ok (.iaload, 1) := by decide +kernel
theorem dL_law_870 : decode cL_law 870 = .ok (.invokevirtual 88, 3) := by decide +kernel
theorem dL_law_873 : decode cL_law 873 = .ok (.aload_n 2, 1) := by decide +kernel
theorem dL_law_874 : decode cL_law 874 = .ok (.aload_n 0, 1) := by decide +kernel
theorem dL_law_875 : decode cL_law 875 = .ok (.iload_n 3, 1) := by decide +kernel
theorem dL_law_876 : decode cL_law 876 = .ok (.iconst 1, 1) := by decide +kernel
theorem dL_law_877 : decode cL_law 877 = .ok (.iadd, 1) := by decide +kernel
theorem dL_law_878 : decode cL_law 878 = .ok (.iaload, 1) := by decide +kernel
theorem dL_law_879 : decode cL_law 879 = .ok (.aload_n 0, 1) := by decide +kernel
theorem dL_law_880 : decode cL_law 880 = .ok (.iload_n 3, 1) := by decide +kernel
theorem dL_law_881 : decode cL_law 881 = .ok (.iconst 2, 1) := by decide +kernel
theorem dL_law_882 : decode cL_law 882 = .ok (.iadd, 1) := by decide +kernel
theorem dL_law_883 : decode cL_law 883 = .ok (.iaload, 1) := by decide +kernel
theorem dL_law_884 : decode cL_law 884 = .ok (.invokevirtual 91, 3) := by decide +kernel
theorem dL_law_887 : decode cL_law 887 = .ok (.if_icmp .eq 575, 3) := by decide +kernel
theorem dL_law_890 : decode cL_law 890 = .ok (.iconst 0, 1) := by decide +kernel
theorem dL_law_891 : decode cL_law 891 = .ok (.ireturn, 1) := by decide +kernel
theorem dL_law_892 : decode cL_law 892 = .ok (.aload_n 1, 1) := by decide +kernel
theorem dL_law_893 : decode cL_law 893 = .ok (.aload_n 0, 1) := by decide +kernel
theorem dL_law_894 : decode cL_law 894 = .ok (.iload_n 3, 1) := by decide +kernel
theorem dL_law_895 : decode cL_law 895 = .ok (.iconst 1, 1) := by decide +kernel
theorem dL_law_896 : decode cL_law 896 = .ok (.iadd, 1) := by decide +kernel
theorem dL_law_897 : decode cL_law 897 = .ok (.iaload, 1) := by decide +kernel
theorem dL_law_898 : decode cL_law 898 = .ok (.aload_n 0, 1) := by decide +kernel
theorem dL_law_899 : decode cL_law 899 = .ok (.iload_n 3, 1) := by decide +kernel
theorem dL_law_900 : decode cL_law 900 = .ok (.iconst 2, 1) := by decide +kernel
theorem dL_law_901 : decode cL_law 901 = .ok (.iadd, 1) := by decide +kernel
theorem dL_law_902 : decode cL_law 902 = .ok (.iaload, 1) := by decide +kernel
theorem dL_law_903 : decode cL_law 903 = .ok (.invokevirtual 92, 3) := by decide +kernel
theorem dL_law_906 : decode cL_law 906 = .ok (.aload_n 2, 1) := by decide +kernel
theorem dL_law_907 : decode cL_law 907 = .ok (.aload_n 0, 1) := by decide +kernel
theorem dL_law_908 : decode cL_law 908 = .ok (.iload_n 3, 1) := by decide +kernel
theorem dL_law_909 : decode cL_law 909 = .ok (.iconst 1, 1) := by decide +kernel
theorem dL_law_910 : decode cL_law 910 = .ok (.iadd, 1) := by decide +kernel
theorem dL_law_911 : decode cL_law 911 = .ok (.iaload, 1) := by decide +kernel
theorem dL_law_912 : decode cL_law 912 = .ok (.aload_n 0, 1) := by decide +kernel
theorem dL_law_913 : decode cL_law 913 = .ok (.iload_n 3, 1) := by decide +kernel
theorem dL_law_914 : decode cL_law 914 = .ok (.iconst 2, 1) := by decide +kernel
theorem dL_law_915 : decode cL_law 915 = .ok (.iadd, 1) := by decide +kernel
theorem dL_law_916 : decode cL_law 916 = .ok (.iaload, 1) := by decide +kernel
theorem dL_law_917 : decode cL_law 917 = .ok (.invokevirtual 95, 3) := by decide +kernel
theorem dL_law_920 : decode cL_law 920 = .ok (.if_icmp .eq 542, 3) := by decide +kernel
theorem dL_law_923 : decode cL_law 923 = .ok (.iconst 0, 1) := by decide +kernel
theorem dL_law_924 : decode cL_law 924 = .ok (.ireturn, 1) := by decide +kernel
theorem dL_law_925 : decode cL_law 925 = .ok (.aload_n 1, 1) := by decide +kernel
theorem dL_law_926 : decode cL_law 926 = .ok (.aload_n 0, 1) := by decide +kernel
theorem dL_law_927 : decode cL_law 927 = .ok (.iload_n 3, 1) := by decide +kernel
theorem dL_law_928 : decode cL_law 928 = .ok (.iconst 1, 1) := by decide +kernel
theorem dL_law_929 : decode cL_law 929 = .ok (.iadd, 1) := by decide +kernel
theorem dL_law_930 : decode cL_law 930 = .ok (.iaload, 1) := by decide +kernel
theorem dL_law_931 : decode cL_law 931 = .ok (.invokevirtual 96, 3) := by decide +kernel
theorem dL_law_934 : decode cL_law 934 = .ok (.aload_n 2, 1) := by decide +kernel
theorem dL_law_935 : decode cL_law 935 = .ok (.aload_n 0, 1) := by decide +kernel
theorem dL_law_936 : decode cL_law 936 = .ok (.iload_n 3, 1) := by decide +kernel
theorem dL_law_937 : decode cL_law 937 = .ok (.iconst 1, 1) := by decide +kernel
theorem dL_law_938 : decode cL_law 938 = .ok (.iadd, 1) := by decide +kernel
theorem dL_law_939 : decode cL_law 939 = .ok (.iaload, 1) := by decide +kernel
theorem dL_law_940 : decode cL_law 940 = .ok (.invokevirtual 99, 3) := by decide +kernel
theorem dL_law_943 : decode cL_law 943 = .ok (.if_icmp .eq 519, 3) := by decide +kernel
theorem dL_law_946 : decode cL_law 946 = .ok (.iconst 0, 1) := by decide +kernel
theorem dL_law_947 : decode cL_law 947 = .ok (.ireturn, 1) := by decide +kernel
theorem dL_law_948 : decode cL_law 948 = .ok (.aload_n 1, 1) := by decide +kernel
theorem dL_law_949 : decode cL_law 949 = .ok (.aload_n 0, 1) := by decide +kernel
theorem dL_law_950 : decode cL_law 950 = .ok (.iload_n 3, 1) := by decide +kernel
theorem dL_law_951 : decode cL_law 951 = .ok (.iconst 1, 1) := by decide +kernel
theorem dL_law_952 : decode cL_law 952 = .ok (.iadd, 1) := by decide +kernel
theorem dL_law_953 : decode cL_law 953 = .ok (.iaload, 1) := by decide +kernel
theorem dL_law_954 : decode cL_law 954 = .ok (.invokevirtual 100, 3) := by decide +kernel
theorem dL_law_957 : decode cL_law 957 = .ok (.aload_n 2, 1) := by decide +kernel
theorem dL_law_958 : decode cL_law 958 = .ok (.aload_n 0, 1) := by decide +kernel
theorem dL_law_959 : decode cL_law 959 = .ok (.iload_n 3, 1) := by decide +kernel
theorem dL_law_960 : decode cL_law 960 = .ok (.iconst 1, 1) := by decide +kernel
theorem dL_law_961 : decode cL_law 961 = .ok (.iadd, 1) := by decide +kernel
theorem dL_law_962 : decode cL_law 962 = .ok (.iaload, 1) := by decide +kernel
theorem dL_law_963 : decode cL_law 963 = .ok (.invokevirtual 103, 3) := by decide +kernel
theorem dL_law_966 : decode cL_law 966 = .ok (.if_icmp .eq 496, 3) := by decide +kernel
theorem dL_law_969 : decode cL_law 969 = .ok (.iconst 0, 1) := by decide +kernel
theorem dL_law_970 : decode cL_law 970 = .ok (.ireturn, 1) := by decide +kernel
theorem dL_law_971 : decode cL_law 971 = .ok (.aload_n 1, 1) := by decide +kernel
theorem dL_law_972 : decode cL_law 972 = .ok (.aload_n 0, 1) := by decide +kernel
theorem dL_law_973 : decode cL_law 973 = .ok (.iload_n 3, 1) := by decide +kernel
theorem dL_law_974 : decode cL_law 974 = .ok (.iconst 1, 1) := by decide +kernel
theorem dL_law_975 : decode cL_law 975 = .ok (.iadd, 1) := by decide +kernel
theorem dL_law_976 : decode cL_law 976 = .ok (.iaload, 1) := by decide +kernel
theorem dL_law_977 : decode cL_law 977 = .ok (.aload_n 0, 1) := by decide +kernel
theorem dL_law_978 : decode cL_law 978 = .ok (.iload_n 3, 1) := by decide +kernel
theorem dL_law_979 : decode cL_law 979 = .ok (.iconst 2, 1) := by decide +kernel
theorem dL_law_980 : decode cL_law 980 = .ok (.iadd, 1) := by decide +kernel
theorem dL_law_981 : decode cL_law 981 = .ok (.iaload, 1) := by decide +kernel
theorem dL_law_982 : decode cL_law 982 = .ok (.aload_n 0, 1) := by decide +kernel
theorem dL_law_983 : decode cL_law 983 = .ok (.iload_n 3, 1) := by decide +kernel
theorem dL_law_984 : decode cL_law 984 = .ok (.iconst 3, 1) := by decide +kernel
theorem dL_law_985 : decode cL_law 985 = .ok (.iadd, 1) := by decide +kernel
theorem dL_law_986 : decode cL_law 986 = .ok (.iaload, 1) := by decide +kernel
theorem dL_law_987 : decode cL_law 987 = .ok (.invokevirtual 104, 3) := by decide +kernel
theorem dL_law_990 : decode cL_law 990 = .ok (.aload_n 2, 1) := by decide +kernel
theorem dL_law_991 : decode cL_law 991 = .ok (.aload_n 0, 1) := by decide +kernel
theorem dL_law_992 : decode cL_law 992 = .ok (.iload_n 3, 1) := by decide +kernel
theorem dL_law_993 : decode cL_law 993 = .ok (.iconst 1, 1) := by decide +kernel
theorem dL_law_994 : decode cL_law 994 = .ok (.iadd, 1) := by decide +kernel
theorem dL_law_995 : decode cL_law 995 = .ok (.iaload, 1) := by decide +kernel
theorem dL_law_996 : decode cL_law 996 = .ok (.aload_n 0, 1) := by decide +kernel
theorem dL_law_997 : decode cL_law 997 = .ok (.iload_n 3, 1) := by decide +kernel
theorem dL_law_998 : decode cL_law 998 = .ok (.iconst 2, 1) := by decide +kernel
theorem dL_law_999 : decode cL_law 999 = .ok (.iadd, 1) := by decide +kernel
theorem dL_law_1000 : decode cL_law 1000 = .ok (.iaload, 1) := by decide +kernel
theorem dL_law_1001 : decode cL_law 1001 = .ok (.aload_n 0, 1) := by decide +kernel
theorem dL_law_1002 : decode cL_law 1002 = .ok (.iload_n 3, 1) := by decide +kernel
theorem dL_law_1003 : decode cL_law 1003 = .ok (.iconst 3, 1) := by decide +kernel
theorem dL_law_1004 : decode cL_law 1004 = .ok (.iadd, 1) := by decide +kernel
theorem dL_law_1005 : decode cL_law 1005 = .ok (.iaload, 1) := by decide +kernel
theorem dL_law_1006 : decode cL_law 1006 = .ok (.invokevirtual 107, 3) := by decide +kernel
theorem dL_law_1009 : decode cL_law 1009 = .ok (.if_icmp .eq 453, 3) := by decide +kernel
theorem dL_law_1012 : decode cL_law 1012 = .ok (.iconst 0, 1) := by decide +kernel
theorem dL_law_1013 : decode cL_law 1013 = .ok (.ireturn, 1) := by decide +kernel
theorem dL_law_1014 : decode cL_law 1014 = .ok (.aload_n 1, 1) := by decide +kernel
theorem dL_law_1015 : decode cL_law 1015 = .ok (.invokevirtual 108, 3) := by decide +kernel
theorem dL_law_1018 : decode cL_law 1018 = .ok (.aload_n 2, 1) := by decide +kernel
theorem dL_law_1019 : decode cL_law 1019 = .ok (.invokevirtual 111, 3) := by decide +kernel
theorem dL_law_1022 : decode cL_law 1022 = .ok (.if_icmp .eq 440, 3) := by decide +kernel
theorem dL_law_1025 : decode cL_law 1025 = .ok (.iconst 0, 1) := by decide +kernel
theorem dL_law_1026 : decode cL_law 1026 = .ok (.ireturn, 1) := by decide +kernel
theorem dL_law_1027 : decode cL_law 1027 = .ok (.aload_n 1, 1) := by decide +kernel
theorem dL_law_1028 : decode cL_law 1028 = .ok (.aload_n 0, 1) := by decide +kernel
theorem dL_law_1029 : decode cL_law 1029 = .ok (.iload_n 3, 1) := by decide +kernel
theorem dL_law_1030 : decode cL_law 1030 = .ok (.iconst 1, 1) := by decide +kernel
theorem dL_law_1031 : decode cL_law 1031 = .ok (.iadd, 1) := by decide +kernel
theorem dL_law_1032 : decode cL_law 1032 = .ok (.iaload, 1) := by decide +kernel
theorem dL_law_1033 : decode cL_law 1033 = .ok (.aload_n 0, 1) := by decide +kernel
theorem dL_law_1034 : decode cL_law 1034 = .ok (.iload_n 3, 1) := by decide +kernel
theorem dL_law_1035 : decode cL_law 1035 = .ok (.iconst 2, 1) := by decide +kernel
theorem dL_law_1036 : decode cL_law 1036 = .ok (.iadd, 1) := by decide +kernel
theorem dL_law_1037 : decode cL_law 1037 = .ok (.iaload, 1) := by decide +kernel
theorem dL_law_1038 : decode cL_law 1038 = .ok (.invokevirtual 112, 3) := by decide +kernel
theorem dL_law_1041 : decode cL_law 1041 = .ok (.aload_n 2, 1) := by decide +kernel
theorem dL_law_1042 : decode cL_law 1042 = .ok (.aload_n 0, 1) := by decide +kernel
theorem dL_law_1043 : decode cL_law 1043 = .ok (.iload_n 3, 1) := by decide +kernel
theorem dL_law_1044 : decode cL_law 1044 = .ok (.iconst 1, 1) := by decide +kernel
theorem dL_law_1045 : decode cL_law 1045 = .ok (.iadd, 1) := by decide +kernel
theorem dL_law_1046 : decode cL_law 1046 = .ok (.iaload, 1) := by decide +kernel
theorem dL_law_1047 : decode cL_law 1047 = .ok (.aload_n 0, 1) := by decide +kernel
theorem dL_law_1048 : decode cL_law 1048 = .ok (.iload_n 3, 1) := by decide +kernel
theorem dL_law_1049 : decode cL_law 1049 = .ok (.iconst 2, 1) := by decide +kernel
theorem dL_law_1050 : decode cL_law 1050 = .ok (.iadd, 1) := by decide +kernel
theorem dL_law_1051 : decode cL_law 1051 = .ok (.iaload, 1) := by decide +kernel
theorem dL_law_1052 : decode cL_law 1052 = .ok (.invokevirtual 116, 3) := by decide +kernel
theorem dL_law_1055 : decode cL_law 1055 = .ok (.lcmp, 1) := by decide +kernel
theorem dL_law_1056 : decode cL_law 1056 = .ok (.ifCond .eq 406, 3) := by decide +kernel
theorem dL_law_1059 : decode cL_law 1059 = .ok (.iconst 0, 1) := by decide +kernel
theorem dL_law_1060 : decode cL_law 1060 = .ok (.ireturn, 1) := by decide +kernel
theorem dL_law_1061 : decode cL_law 1061 = .ok (.aload_n 1, 1) := by decide +kernel
theorem dL_law_1062 : decode cL_law 1062 = .ok (.aload_n 0, 1) := by decide +kernel
theorem dL_law_1063 : decode cL_law 1063 = .ok (.iload_n 3, 1) := by decide +kernel
theorem dL_law_1064 : decode cL_law 1064 = .ok (.iconst 1, 1) := by decide +kernel
theorem dL_law_1065 : decode cL_law 1065 = .ok (.iadd, 1) := by decide +kernel
theorem dL_law_1066 : decode cL_law 1066 = .ok (.iaload, 1) := by decide +kernel
theorem dL_law_1067 : decode cL_law 1067 = .ok (.aload_n 0, 1) := by decide +kernel
theorem dL_law_1068 : decode cL_law 1068 = .ok (.iload_n 3, 1) := by decide +kernel
theorem dL_law_1069 : decode cL_law 1069 = .ok (.iconst 2, 1) := by decide +kernel
theorem dL_law_1070 : decode cL_law 1070 = .ok (.iadd, 1) := by decide +kernel
theorem dL_law_1071 : decode cL_law 1071 = .ok (.iaload, 1) := by decide +kernel
theorem dL_law_1072 : decode cL_law 1072 = .ok (.invokevirtual 117, 3) := by decide +kernel
theorem dL_law_1075 : decode cL_law 1075 = .ok (.aload_n 2, 1) := by decide +kernel
theorem dL_law_1076 : decode cL_law 1076 = .ok (.aload_n 0, 1) := by decide +kernel
theorem dL_law_1077 : decode cL_law 1077 = .ok (.iload_n 3, 1) := by decide +kernel
theorem dL_law_1078 : decode cL_law 1078 = .ok (.iconst 1, 1) := by decide +kernel
theorem dL_law_1079 : decode cL_law 1079 = .ok (.iadd, 1) := by decide +kernel
theorem dL_law_1080 : decode cL_law 1080 = .ok (.iaload, 1) := by decide +kernel
theorem dL_law_1081 : decode cL_law 1081 = .ok (.aload_n 0, 1) := by decide +kernel
theorem dL_law_1082 : decode cL_law 1082 = .ok (.iload_n 3, 1) := by decide +kernel
theorem dL_law_1083 : decode cL_law 1083 = .ok (.iconst 2, 1) := by decide +kernel
theorem dL_law_1084 : decode cL_law 1084 = .ok (.iadd, 1) := by decide +kernel
theorem dL_law_1085 : decode cL_law 1085 = .ok (.iaload, 1) := by decide +kernel
theorem dL_law_1086 : decode cL_law 1086 = .ok (.invokevirtual 120, 3) := by decide +kernel
theorem dL_law_1089 : decode cL_law 1089 = .ok (.lcmp, 1) := by decide +kernel
theorem dL_law_1090 : decode cL_law 1090 = .ok (.ifCond .eq 372, 3) := by decide +kernel
theorem dL_law_1093 : decode cL_law 1093 = .ok (.iconst 0, 1) := by decide +kernel
theorem dL_law_1094 : decode cL_law 1094 = .ok (.ireturn, 1) := by decide +kernel
theorem dL_law_1095 : decode cL_law 1095 = .ok (.aload_n 1, 1) := by decide +kernel
theorem dL_law_1096 : decode cL_law 1096 = .ok (.invokevirtual 121, 3) := by decide +kernel
theorem dL_law_1099 : decode cL_law 1099 = .ok (.aload_n 2, 1) := by decide +kernel
theorem dL_law_1100 : decode cL_law 1100 = .ok (.invokevirtual 124, 3) := by decide +kernel
theorem dL_law_1103 : decode cL_law 1103 = .ok (.if_icmp .eq 359, 3) := by decide +kernel
theorem dL_law_1106 : decode cL_law 1106 = .ok (.iconst 0, 1) := by decide +kernel
theorem dL_law_1107 : decode cL_law 1107 = .ok (.ireturn, 1) := by decide +kernel
theorem dL_law_1108 : decode cL_law 1108 = .ok (.aload_n 1, 1) := by decide +kernel
theorem dL_law_1109 : decode cL_law 1109 = .ok (.aload_n 0, 1) := by decide +kernel
theorem dL_law_1110 : decode cL_law 1110 = .ok (.iload_n 3, 1) := by decide +kernel
theorem dL_law_1111 : decode cL_law 1111 = .ok (.iconst 1, 1) := by decide +kernel
theorem dL_law_1112 : decode cL_law 1112 = .ok (.iadd, 1) := by decide +kernel
theorem dL_law_1113 : decode cL_law 1113 = .ok (.iaload, 1) := by decide +kernel
theorem dL_law_1114 : decode cL_law 1114 = .ok (.aload_n 0, 1) := by decide +kernel
theorem dL_law_1115 : decode cL_law 1115 = .ok (.iload_n 3, 1) := by decide +kernel
theorem dL_law_1116 : decode cL_law 1116 = .ok (.iconst 2, 1) := by decide +kernel
theorem dL_law_1117 : decode cL_law 1117 = .ok (.iadd, 1) := by decide +kernel
theorem dL_law_1118 : decode cL_law 1118 = .ok (.iaload, 1) := by decide +kernel
theorem dL_law_1119 : decode cL_law 1119 = .ok (.aload_n 0, 1) := by decide +kernel
theorem dL_law_1120 : decode cL_law 1120 = .ok (.iload_n 3, 1) := by decide +kernel
theorem dL_law_1121 : decode cL_law 1121 = .ok (.iconst 3, 1) := by decide +kernel
theorem dL_law_1122 : decode cL_law 1122 = .ok (.iadd, 1) := by decide +kernel
theorem dL_law_1123 : decode cL_law 1123 = .ok (.iaload, 1) := by decide +kernel
theorem dL_law_1124 : decode cL_law 1124 = .ok (.invokevirtual 125, 3) := by decide +kernel
theorem dL_law_1127 : decode cL_law 1127 = .ok (.aload_n 2, 1) := by decide +kernel
theorem dL_law_1128 : decode cL_law 1128 = .ok (.aload_n 0, 1) := by decide +kernel
theorem dL_law_1129 : decode cL_law 1129 = .ok (.iload_n 3, 1) := by decide +kernel
theorem dL_law_1130 : decode cL_law 1130 = .ok (.iconst 1, 1) := by decide +kernel
theorem dL_law_1131 : decode cL_law 1131 = .ok (.iadd, 1) := by decide +kernel
theorem dL_law_1132 : decode cL_law 1132 = .ok (.iaload, 1) := by decide +kernel
theorem dL_law_1133 : decode cL_law 1133 = .ok (.aload_n 0, 1) := by decide +kernel
theorem dL_law_1134 : decode cL_law 1134 = .ok (.iload_n 3, 1) := by decide +kernel
theorem dL_law_1135 : decode cL_law 1135 = .ok (.iconst 2, 1) := by decide +kernel
theorem dL_law_1136 : decode cL_law 1136 = .ok (.iadd, 1) := by decide +kernel
theorem dL_law_1137 : decode cL_law 1137 = .ok (.iaload, 1) := by decide +kernel
theorem dL_law_1138 : decode cL_law 1138 = .ok (.aload_n 0, 1) := by decide +kernel
theorem dL_law_1139 : decode cL_law 1139 = .ok (.iload_n 3, 1) := by decide +kernel
theorem dL_law_1140 : decode cL_law 1140 = .ok (.iconst 3, 1) := by decide +kernel
theorem dL_law_1141 : decode cL_law 1141 = .ok (.iadd, 1) := by decide +kernel
theorem dL_law_1142 : decode cL_law 1142 = .ok (.iaload, 1) := by decide +kernel
theorem dL_law_1143 : decode cL_law 1143 = .ok (.invokevirtual 128, 3) := by decide +kernel
theorem dL_law_1146 : decode cL_law 1146 = .ok (.if_icmp .eq 316, 3) := by decide +kernel
theorem dL_law_1149 : decode cL_law 1149 = .ok (.iconst 0, 1) := by decide +kernel
theorem dL_law_1150 : decode cL_law 1150 = .ok (.ireturn, 1) := by decide +kernel
theorem dL_law_1151 : decode cL_law 1151 = .ok (.aload_n 1, 1) := by decide +kernel
theorem dL_law_1152 : decode cL_law 1152 = .ok (.aload_n 0, 1) := by decide +kernel
theorem dL_law_1153 : decode cL_law 1153 = .ok (.iload_n 3, 1) := by decide +kernel
theorem dL_law_1154 : decode cL_law 1154 = .ok (.iconst 1, 1) := by decide +kernel
theorem dL_law_1155 : decode cL_law 1155 = .ok (.iadd, 1) := by decide +kernel
theorem dL_law_1156 : decode cL_law 1156 = .ok (.iaload, 1) := by decide +kernel
theorem dL_law_1157 : decode cL_law 1157 = .ok (.aload_n 0, 1) := by decide +kernel
theorem dL_law_1158 : decode cL_law 1158 = .ok (.iload_n 3, 1) := by decide +kernel
theorem dL_law_1159 : decode cL_law 1159 = .ok (.iconst 2, 1) := by decide +kernel
theorem dL_law_1160 : decode cL_law 1160 = .ok (.iadd, 1) := by decide +kernel
theorem dL_law_1161 : decode cL_law 1161 = .ok (.iaload, 1) := by decide +kernel
theorem dL_law_1162 : decode cL_law 1162 = .ok (.aload_n 0, 1) := by decide +kernel
theorem dL_law_1163 : decode cL_law 1163 = .ok (.iload_n 3, 1) := by decide +kernel
theorem dL_law_1164 : decode cL_law 1164 = .ok (.iconst 3, 1) := by decide +kernel
theorem dL_law_1165 : decode cL_law 1165 = .ok (.iadd, 1) := by decide +kernel
theorem dL_law_1166 : decode cL_law 1166 = .ok (.iaload, 1) := by decide +kernel
theorem dL_law_1167 : decode cL_law 1167 = .ok (.invokevirtual 129, 3) := by decide +kernel
theorem dL_law_1170 : decode cL_law 1170 = .ok (.aload_n 2, 1) := by decide +kernel
theorem dL_law_1171 : decode cL_law 1171 = .ok (.aload_n 0, 1) := by decide +kernel
theorem dL_law_1172 : decode cL_law 1172 = .ok (.iload_n 3, 1) := by decide +kernel
theorem dL_law_1173 : decode cL_law 1173 = .ok (.iconst 1, 1) := by decide +kernel
theorem dL_law_1174 : decode cL_law 1174 = .ok (.iadd, 1) := by decide +kernel
theorem dL_law_1175 : decode cL_law 1175 = .ok (.iaload, 1) := by decide +kernel
theorem dL_law_1176 : decode cL_law 1176 = .ok (.aload_n 0, 1) := by decide +kernel
theorem dL_law_1177 : decode cL_law 1177 = .ok (.iload_n 3, 1) := by decide +kernel
theorem dL_law_1178 : decode cL_law 1178 = .ok (.iconst 2, 1) := by decide +kernel
theorem dL_law_1179 : decode cL_law 1179 = .ok (.iadd, 1) := by decide +kernel
theorem dL_law_1180 : decode cL_law 1180 = .ok (.iaload, 1) := by decide +kernel
theorem dL_law_1181 : decode cL_law 1181 = .ok (.aload_n 0, 1) := by decide +kernel
theorem dL_law_1182 : decode cL_law 1182 = .ok (.iload_n 3, 1) := by decide +kernel
theorem dL_law_1183 : decode cL_law 1183 = .ok (.iconst 3, 1) := by decide +kernel
theorem dL_law_1184 : decode cL_law 1184 = .ok (.iadd, 1) := by decide +kernel
theorem dL_law_1185 : decode cL_law 1185 = .ok (.iaload, 1) := by decide +kernel
theorem dL_law_1186 : decode cL_law 1186 = .ok (.invokevirtual 132, 3) := by decide +kernel
theorem dL_law_1189 : decode cL_law 1189 = .ok (.if_icmp .eq 273, 3) := by decide +kernel
theorem dL_law_1192 : decode cL_law 1192 = .ok (.iconst 0, 1) := by decide +kernel
theorem dL_law_1193 : decode cL_law 1193 = .ok (.ireturn, 1) := by decide +kernel
theorem dL_law_1194 : decode cL_law 1194 = .ok (.aload_n 1, 1) := by decide +kernel
theorem dL_law_1195 : decode cL_law 1195 = .ok (.aload_n 0, 1) := by decide +kernel
theorem dL_law_1196 : decode cL_law 1196 = .ok (.iload_n 3, 1) := by decide +kernel
theorem dL_law_1197 : decode cL_law 1197 = .ok (.iconst 1, 1) := by decide +kernel
theorem dL_law_1198 : decode cL_law 1198 = .ok (.iadd, 1) := by decide +kernel
theorem dL_law_1199 : decode cL_law 1199 = .ok (.iaload, 1) := by decide +kernel
theorem dL_law_1200 : decode cL_law 1200 = .ok (.aload_n 0, 1) := by decide +kernel
theorem dL_law_1201 : decode cL_law 1201 = .ok (.iload_n 3, 1) := by decide +kernel
theorem dL_law_1202 : decode cL_law 1202 = .ok (.iconst 2, 1) := by decide +kernel
theorem dL_law_1203 : decode cL_law 1203 = .ok (.iadd, 1) := by decide +kernel
theorem dL_law_1204 : decode cL_law 1204 = .ok (.iaload, 1) := by decide +kernel
theorem dL_law_1205 : decode cL_law 1205 = .ok (.aload_n 0, 1) := by decide +kernel
theorem dL_law_1206 : decode cL_law 1206 = .ok (.iload_n 3, 1) := by decide +kernel
theorem dL_law_1207 : decode cL_law 1207 = .ok (.iconst 3, 1) := by decide +kernel
theorem dL_law_1208 : decode cL_law 1208 = .ok (.iadd, 1) := by decide +kernel
theorem dL_law_1209 : decode cL_law 1209 = .ok (.iaload, 1) := by decide +kernel
theorem dL_law_1210 : decode cL_law 1210 = .ok (.aload_n 0, 1) := by decide +kernel
theorem dL_law_1211 : decode cL_law 1211 = .ok (.iload_n 3, 1) := by decide +kernel
theorem dL_law_1212 : decode cL_law 1212 = .ok (.iconst 4, 1) := by decide +kernel
theorem dL_law_1213 : decode cL_law 1213 = .ok (.iadd, 1) := by decide +kernel
theorem dL_law_1214 : decode cL_law 1214 = .ok (.iaload, 1) := by decide +kernel
theorem dL_law_1215 : decode cL_law 1215 = .ok (.invokevirtual 133, 3) := by decide +kernel
theorem dL_law_1218 : decode cL_law 1218 = .ok (.aload_n 2, 1) := by decide +kernel
theorem dL_law_1219 : decode cL_law 1219 = .ok (.aload_n 0, 1) := by decide +kernel
theorem dL_law_1220 : decode cL_law 1220 = .ok (.iload_n 3, 1) := by decide +kernel
theorem dL_law_1221 : decode cL_law 1221 = .ok (.iconst 1, 1) := by decide +kernel
theorem dL_law_1222 : decode cL_law 1222 = .ok (.iadd, 1) := by decide +kernel
theorem dL_law_1223 : decode cL_law 1223 = .ok (.iaload, 1) := by decide +kernel
theorem dL_law_1224 : decode cL_law 1224 = .ok (.aload_n 0, 1) := by decide +kernel
theorem dL_law_1225 : decode cL_law 1225 = .ok (.iload_n 3, 1) := by decide +kernel
theorem dL_law_1226 : decode cL_law 1226 = .ok (.iconst 2, 1) := by decide +kernel
theorem dL_law_1227 : decode cL_law 1227 = .ok (.iadd, 1) := by decide +kernel
theorem dL_law_1228 : decode cL_law 1228 = .ok (.iaload, 1) := by decide +kernel
theorem dL_law_1229 : decode cL_law 1229 = .ok (.aload_n 0, 1) := by decide +kernel
theorem dL_law_1230 : decode cL_law 1230 = .ok (.iload_n 3, 1) := by decide +kernel
theorem dL_law_1231 : decode cL_law 1231 = .ok (.iconst 3, 1) := by decide +kernel
theorem dL_law_1232 : decode cL_law 1232 = .ok (.iadd, 1) := by decide +kernel
theorem dL_law_1233 : decode cL_law 1233 = .ok (.iaload, 1) := by decide +kernel
theorem dL_law_1234 : decode cL_law 1234 = .ok (.aload_n 0, 1) := by decide +kernel
theorem dL_law_1235 : decode cL_law 1235 = .ok (.iload_n 3, 1) := by decide +kernel
theorem dL_law_1236 : decode cL_law 1236 = .ok (.iconst 4, 1) := by decide +kernel
theorem dL_law_1237 : decode cL_law 1237 = .ok (.iadd, 1) := by decide +kernel
theorem dL_law_1238 : decode cL_law 1238 = .ok (.iaload, 1) := by decide +kernel
theorem dL_law_1239 : decode cL_law 1239 = .ok (.invokevirtual 137, 3) := by decide +kernel
theorem dL_law_1242 : decode cL_law 1242 = .ok (.if_icmp .eq 220, 3) := by decide +kernel
theorem dL_law_1245 : decode cL_law 1245 = .ok (.iconst 0, 1) := by decide +kernel
theorem dL_law_1246 : decode cL_law 1246 = .ok (.ireturn, 1) := by decide +kernel
theorem dL_law_1247 : decode cL_law 1247 = .ok (.aload_n 1, 1) := by decide +kernel
theorem dL_law_1248 : decode cL_law 1248 = .ok (.aload_n 0, 1) := by decide +kernel
theorem dL_law_1249 : decode cL_law 1249 = .ok (.iload_n 3, 1) := by decide +kernel
theorem dL_law_1250 : decode cL_law 1250 = .ok (.iconst 1, 1) := by decide +kernel
theorem dL_law_1251 : decode cL_law 1251 = .ok (.iadd, 1) := by decide +kernel
theorem dL_law_1252 : decode cL_law 1252 = .ok (.iaload, 1) := by decide +kernel
theorem dL_law_1253 : decode cL_law 1253 = .ok (.aload_n 0, 1) := by decide +kernel
theorem dL_law_1254 : decode cL_law 1254 = .ok (.iload_n 3, 1) := by decide +kernel
theorem dL_law_1255 : decode cL_law 1255 = .ok (.iconst 2, 1) := by decide +kernel
theorem dL_law_1256 : decode cL_law 1256 = .ok (.iadd, 1) := by decide +kernel
theorem dL_law_1257 : decode cL_law 1257 = .ok (.iaload, 1) := by decide +kernel
theorem dL_law_1258 : decode cL_law 1258 = .ok (.aload_n 0, 1) := by decide +kernel
theorem dL_law_1259 : decode cL_law 1259 = .ok (.iload_n 3, 1) := by decide +kernel
theorem dL_law_1260 : decode cL_law 1260 = .ok (.iconst 3, 1) := by decide +kernel
theorem dL_law_1261 : decode cL_law 1261 = .ok (.iadd, 1) := by decide +kernel
theorem dL_law_1262 : decode cL_law 1262 = .ok (.iaload, 1) := by decide +kernel
theorem dL_law_1263 : decode cL_law 1263 = .ok (.invokevirtual 138, 3) := by decide +kernel
theorem dL_law_1266 : decode cL_law 1266 = .ok (.aload_n 2, 1) := by decide +kernel
theorem dL_law_1267 : decode cL_law 1267 = .ok (.aload_n 0, 1) := by decide +kernel
theorem dL_law_1268 : decode cL_law 1268 = .ok (.iload_n 3, 1) := by decide +kernel
theorem dL_law_1269 : decode cL_law 1269 = .ok (.iconst 1, 1) := by decide +kernel
theorem dL_law_1270 : decode cL_law 1270 = .ok (.iadd, 1) := by decide +kernel
theorem dL_law_1271 : decode cL_law 1271 = .ok (.iaload, 1) := by decide +kernel
theorem dL_law_1272 : decode cL_law 1272 = .ok (.aload_n 0, 1) := by decide +kernel
theorem dL_law_1273 : decode cL_law 1273 = .ok (.iload_n 3, 1) := by decide +kernel
theorem dL_law_1274 : decode cL_law 1274 = .ok (.iconst 2, 1) := by decide +kernel
theorem dL_law_1275 : decode cL_law 1275 = .ok (.iadd, 1) := by decide +kernel
theorem dL_law_1276 : decode cL_law 1276 = .ok (.iaload, 1) := by decide +kernel
theorem dL_law_1277 : decode cL_law 1277 = .ok (.aload_n 0, 1) := by decide +kernel
theorem dL_law_1278 : decode cL_law 1278 = .ok (.iload_n 3, 1) := by decide +kernel
theorem dL_law_1279 : decode cL_law 1279 = .ok (.iconst 3, 1) := by decide +kernel
theorem dL_law_1280 : decode cL_law 1280 = .ok (.iadd, 1) := by decide +kernel
theorem dL_law_1281 : decode cL_law 1281 = .ok (.iaload, 1) := by decide +kernel
theorem dL_law_1282 : decode cL_law 1282 = .ok (.invokevirtual 141, 3) := by decide +kernel
theorem dL_law_1285 : decode cL_law 1285 = .ok (.if_icmp .eq 177, 3) := by decide +kernel
theorem dL_law_1288 : decode cL_law 1288 = .ok (.iconst 0, 1) := by decide +kernel
theorem dL_law_1289 : decode cL_law 1289 = .ok (.ireturn, 1) := by decide +kernel
theorem dL_law_1290 : decode cL_law 1290 = .ok (.aload_n 1, 1) := by decide +kernel
theorem dL_law_1291 : decode cL_law 1291 = .ok (.aload_n 0, 1) := by decide +kernel
theorem dL_law_1292 : decode cL_law 1292 = .ok (.iload_n 3, 1) := by decide +kernel
theorem dL_law_1293 : decode cL_law 1293 = .ok (.iconst 1, 1) := by decide +kernel
theorem dL_law_1294 : decode cL_law 1294 = .ok (.iadd, 1) := by decide +kernel
theorem dL_law_1295 : decode cL_law 1295 = .ok (.iaload, 1) := by decide +kernel
theorem dL_law_1296 : decode cL_law 1296 = .ok (.invokevirtual 142, 3) := by decide +kernel
theorem dL_law_1299 : decode cL_law 1299 = .ok (.aload_n 2, 1) := by decide +kernel
theorem dL_law_1300 : decode cL_law 1300 = .ok (.aload_n 0, 1) := by decide +kernel
theorem dL_law_1301 : decode cL_law 1301 = .ok (.iload_n 3, 1) := by decide +kernel
theorem dL_law_1302 : decode cL_law 1302 = .ok (.iconst 1, 1) := by decide +kernel
theorem dL_law_1303 : decode cL_law 1303 = .ok (.iadd, 1) := by decide +kernel
theorem dL_law_1304 : decode cL_law 1304 = .ok (.iaload, 1) := by decide +kernel
theorem dL_law_1305 : decode cL_law 1305 = .ok (.invokevirtual 145, 3) := by decide +kernel
theorem dL_law_1308 : decode cL_law 1308 = .ok (.if_icmp .eq 154, 3) := by decide +kernel
theorem dL_law_1311 : decode cL_law 1311 = .ok (.iconst 0, 1) := by decide +kernel
theorem dL_law_1312 : decode cL_law 1312 = .ok (.ireturn, 1) := by decide +kernel
theorem dL_law_1313 : decode cL_law 1313 = .ok (.aload_n 1, 1) := by decide +kernel
theorem dL_law_1314 : decode cL_law 1314 = .ok (.aload_n 0, 1) := by decide +kernel
theorem dL_law_1315 : decode cL_law 1315 = .ok (.iload_n 3, 1) := by decide +kernel
theorem dL_law_1316 : decode cL_law 1316 = .ok (.iconst 1, 1) := by decide +kernel
theorem dL_law_1317 : decode cL_law 1317 = .ok (.iadd, 1) := by decide +kernel
theorem dL_law_1318 : decode cL_law 1318 = .ok (.iaload, 1) := by decide +kernel
theorem dL_law_1319 : decode cL_law 1319 = .ok (.aload_n 0, 1) := by decide +kernel
theorem dL_law_1320 : decode cL_law 1320 = .ok (.iload_n 3, 1) := by decide +kernel
theorem dL_law_1321 : decode cL_law 1321 = .ok (.iconst 2, 1) := by decide +kernel
theorem dL_law_1322 : decode cL_law 1322 = .ok (.iadd, 1) := by decide +kernel
theorem dL_law_1323 : decode cL_law 1323 = .ok (.iaload, 1) := by decide +kernel
theorem dL_law_1324 : decode cL_law 1324 = .ok (.invokevirtual 146, 3) := by decide +kernel
theorem dL_law_1327 : decode cL_law 1327 = .ok (.aload_n 2, 1) := by decide +kernel
theorem dL_law_1328 : decode cL_law 1328 = .ok (.aload_n 0, 1) := by decide +kernel
theorem dL_law_1329 : decode cL_law 1329 = .ok (.iload_n 3, 1) := by decide +kernel
theorem dL_law_1330 : decode cL_law 1330 = .ok (.iconst 1, 1) := by decide +kernel
theorem dL_law_1331 : decode cL_law 1331 = .ok (.iadd, 1) := by decide +kernel
theorem dL_law_1332 : decode cL_law 1332 = .ok (.iaload, 1) := by decide +kernel
theorem dL_law_1333 : decode cL_law 1333 = .ok (.aload_n 0, 1) := by decide +kernel
theorem dL_law_1334 : decode cL_law 1334 = .ok (.iload_n 3, 1) := by decide +kernel
theorem dL_law_1335 : decode cL_law 1335 = .ok (.iconst 2, 1) := by decide +kernel
theorem dL_law_1336 : decode cL_law 1336 = .ok (.iadd, 1) := by decide +kernel
theorem dL_law_1337 : decode cL_law 1337 = .ok (.iaload, 1) := by decide +kernel
theorem dL_law_1338 : decode cL_law 1338 = .ok (.invokevirtual 149, 3) := by decide +kernel
theorem dL_law_1341 : decode cL_law 1341 = .ok (.if_icmp .eq 121, 3) := by decide +kernel
theorem dL_law_1344 : decode cL_law 1344 = .ok (.iconst 0, 1) := by decide +kernel
theorem dL_law_1345 : decode cL_law 1345 = .ok (.ireturn, 1) := by decide +kernel
theorem dL_law_1346 : decode cL_law 1346 = .ok (.aload_n 1, 1) := by decide +kernel
theorem dL_law_1347 : decode cL_law 1347 = .ok (.aload_n 0, 1) := by decide +kernel
theorem dL_law_1348 : decode cL_law 1348 = .ok (.iload_n 3, 1) := by decide +kernel
theorem dL_law_1349 : decode cL_law 1349 = .ok (.iconst 1, 1) := by decide +kernel
theorem dL_law_1350 : decode cL_law 1350 = .ok (.iadd, 1) := by decide +kernel
theorem dL_law_1351 : decode cL_law 1351 = .ok (.iaload, 1) := by decide +kernel
theorem dL_law_1352 : decode cL_law 1352 = .ok (.aload_n 0, 1) := by decide +kernel
theorem dL_law_1353 : decode cL_law 1353 = .ok (.iload_n 3, 1) := by decide +kernel
theorem dL_law_1354 : decode cL_law 1354 = .ok (.iconst 2, 1) := by decide +kernel
theorem dL_law_1355 : decode cL_law 1355 = .ok (.iadd, 1) := by decide +kernel
theorem dL_law_1356 : decode cL_law 1356 = .ok (.iaload, 1) := by decide +kernel
theorem dL_law_1357 : decode cL_law 1357 = .ok (.aload_n 0, 1) := by decide +kernel
theorem dL_law_1358 : decode cL_law 1358 = .ok (.iload_n 3, 1) := by decide +kernel
theorem dL_law_1359 : decode cL_law 1359 = .ok (.iconst 3, 1) := by decide +kernel
theorem dL_law_1360 : decode cL_law 1360 = .ok (.iadd, 1) := by decide +kernel
theorem dL_law_1361 : decode cL_law 1361 = .ok (.iaload, 1) := by decide +kernel
theorem dL_law_1362 : decode cL_law 1362 = .ok (.invokevirtual 150, 3) := by decide +kernel
theorem dL_law_1365 : decode cL_law 1365 = .ok (.aload_n 2, 1) := by decide +kernel
theorem dL_law_1366 : decode cL_law 1366 = .ok (.aload_n 0, 1) := by decide +kernel
theorem dL_law_1367 : decode cL_law 1367 = .ok (.iload_n 3, 1) := by decide +kernel
theorem dL_law_1368 : decode cL_law 1368 = .ok (.iconst 1, 1) := by decide +kernel
theorem dL_law_1369 : decode cL_law 1369 = .ok (.iadd, 1) := by decide +kernel
theorem dL_law_1370 : decode cL_law 1370 = .ok (.iaload, 1) := by decide +kernel
theorem dL_law_1371 : decode cL_law 1371 = .ok (.aload_n 0, 1) := by decide +kernel
theorem dL_law_1372 : decode cL_law 1372 = .ok (.iload_n 3, 1) := by decide +kernel
theorem dL_law_1373 : decode cL_law 1373 = .ok (.iconst 2, 1) := by decide +kernel
theorem dL_law_1374 : decode cL_law 1374 = .ok (.iadd, 1) := by decide +kernel
theorem dL_law_1375 : decode cL_law 1375 = .ok (.iaload, 1) := by decide +kernel
theorem dL_law_1376 : decode cL_law 1376 = .ok (.aload_n 0, 1) := by decide +kernel
theorem dL_law_1377 : decode cL_law 1377 = .ok (.iload_n 3, 1) := by decide +kernel
theorem dL_law_1378 : decode cL_law 1378 = .ok (.iconst 3, 1) := by decide +kernel
theorem dL_law_1379 : decode cL_law 1379 = .ok (.iadd, 1) := by decide +kernel
theorem dL_law_1380 : decode cL_law 1380 = .ok (.iaload, 1) := by decide +kernel
theorem dL_law_1381 : decode cL_law 1381 = .ok (.invokevirtual 153, 3) := by decide +kernel
theorem dL_law_1384 : decode cL_law 1384 = .ok (.if_icmp .eq 78, 3) := by decide +kernel
theorem dL_law_1387 : decode cL_law 1387 = .ok (.iconst 0, 1) := by decide +kernel
theorem dL_law_1388 : decode cL_law 1388 = .ok (.ireturn, 1) := by decide +kernel
theorem dL_law_1389 : decode cL_law 1389 = .ok (.aload_n 1, 1) := by decide +kernel
theorem dL_law_1390 : decode cL_law 1390 = .ok (.aload_n 0, 1) := by decide +kernel
theorem dL_law_1391 : decode cL_law 1391 = .ok (.iload_n 3, 1) := by decide +kernel
theorem dL_law_1392 : decode cL_law 1392 = .ok (.iconst 1, 1) := by decide +kernel
theorem dL_law_1393 : decode cL_law 1393 = .ok (.iadd, 1) := by decide +kernel
theorem dL_law_1394 : decode cL_law 1394 = .ok (.iaload, 1) := by decide +kernel
theorem dL_law_1395 : decode cL_law 1395 = .ok (.invokevirtual 154, 3) := by decide +kernel
theorem dL_law_1398 : decode cL_law 1398 = .ok (.aload_n 2, 1) := by decide +kernel
theorem dL_law_1399 : decode cL_law 1399 = .ok (.aload_n 0, 1) := by decide +kernel
theorem dL_law_1400 : decode cL_law 1400 = .ok (.iload_n 3, 1) := by decide +kernel
theorem dL_law_1401 : decode cL_law 1401 = .ok (.iconst 1, 1) := by decide +kernel
theorem dL_law_1402 : decode cL_law 1402 = .ok (.iadd, 1) := by decide +kernel
theorem dL_law_1403 : decode cL_law 1403 = .ok (.iaload, 1) := by decide +kernel
theorem dL_law_1404 : decode cL_law 1404 = .ok (.invokevirtual 158, 3) := by decide +kernel
theorem dL_law_1407 : decode cL_law 1407 = .ok (.lcmp, 1) := by decide +kernel
theorem dL_law_1408 : decode cL_law 1408 = .ok (.ifCond .eq 54, 3) := by decide +kernel
theorem dL_law_1411 : decode cL_law 1411 = .ok (.iconst 0, 1) := by decide +kernel
theorem dL_law_1412 : decode cL_law 1412 = .ok (.ireturn, 1) := by decide +kernel
theorem dL_law_1413 : decode cL_law 1413 = .ok (.aload_n 1, 1) := by decide +kernel
theorem dL_law_1414 : decode cL_law 1414 = .ok (.invokevirtual 159, 3) := by decide +kernel
theorem dL_law_1417 : decode cL_law 1417 = .ok (.aload_n 2, 1) := by decide +kernel
theorem dL_law_1418 : decode cL_law 1418 = .ok (.invokevirtual 162, 3) := by decide +kernel
theorem dL_law_1421 : decode cL_law 1421 = .ok (.if_icmp .eq 41, 3) := by decide +kernel
theorem dL_law_1424 : decode cL_law 1424 = .ok (.iconst 0, 1) := by decide +kernel
theorem dL_law_1425 : decode cL_law 1425 = .ok (.ireturn, 1) := by decide +kernel
theorem dL_law_1426 : decode cL_law 1426 = .ok (.aload_n 1, 1) := by decide +kernel
theorem dL_law_1427 : decode cL_law 1427 = .ok (.invokevirtual 163, 3) := by decide +kernel
theorem dL_law_1430 : decode cL_law 1430 = .ok (.aload_n 2, 1) := by decide +kernel
theorem dL_law_1431 : decode cL_law 1431 = .ok (.invokevirtual 166, 3) := by decide +kernel
theorem dL_law_1434 : decode cL_law 1434 = .ok (.if_icmp .eq 28, 3) := by decide +kernel
theorem dL_law_1437 : decode cL_law 1437 = .ok (.iconst 0, 1) := by decide +kernel
theorem dL_law_1438 : decode cL_law 1438 = .ok (.ireturn, 1) := by decide +kernel
theorem dL_law_1439 : decode cL_law 1439 = .ok (.aload_n 1, 1) := by decide +kernel
theorem dL_law_1440 : decode cL_law 1440 = .ok (.aload_n 0, 1) := by decide +kernel
theorem dL_law_1441 : decode cL_law 1441 = .ok (.iload_n 3, 1) := by decide +kernel
theorem dL_law_1442 : decode cL_law 1442 = .ok (.iconst 1, 1) := by decide +kernel
theorem dL_law_1443 : decode cL_law 1443 = .ok (.iadd, 1) := by decide +kernel
theorem dL_law_1444 : decode cL_law 1444 = .ok (.iaload, 1) := by decide +kernel
theorem dL_law_1445 : decode cL_law 1445 = .ok (.invokevirtual 167, 3) := by decide +kernel
theorem dL_law_1448 : decode cL_law 1448 = .ok (.aload_n 2, 1) := by decide +kernel
theorem dL_law_1449 : decode cL_law 1449 = .ok (.aload_n 0, 1) := by decide +kernel
theorem dL_law_1450 : decode cL_law 1450 = .ok (.iload_n 3, 1) := by decide +kernel
theorem dL_law_1451 : decode cL_law 1451 = .ok (.iconst 1, 1) := by decide +kernel
theorem dL_law_1452 : decode cL_law 1452 = .ok (.iadd, 1) := by decide +kernel
theorem dL_law_1453 : decode cL_law 1453 = .ok (.iaload, 1) := by decide +kernel
theorem dL_law_1454 : decode cL_law 1454 = .ok (.invokevirtual 170, 3) := by decide +kernel
theorem dL_law_1457 : decode cL_law 1457 = .ok (.if_icmp .eq 5, 3) := by decide +kernel
theorem dL_law_1460 : decode cL_law 1460 = .ok (.iconst 0, 1) := by decide +kernel
theorem dL_law_1461 : decode cL_law 1461 = .ok (.ireturn, 1) := by decide +kernel
theorem dL_law_1462 : decode cL_law 1462 = .ok (.iinc 3 6, 3) := by decide +kernel
theorem dL_law_1465 : decode cL_law 1465 = .ok (.goto (-1447), 3) := by decide +kernel
theorem dL_law_1468 : decode cL_law 1468 = .ok (.iconst 1, 1) := by decide +kernel
theorem dL_law_1469 : decode cL_law 1469 = .ok (.ireturn, 1) := by decide +kernel
end
