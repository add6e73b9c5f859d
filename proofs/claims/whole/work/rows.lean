section
-- ===== PART A: goes FIRST, ahead of the names: the tables' words, and 'selects' of the private methods out of them =====
/-- a private method of a class that the tables say can be made, by its rows of tables_1 -/
def lw_okq (q : MethodName × Nat) : Prop := (q.1.cls ≠ "java/lang/invoke/MethodHandle" ∧ q.1.cls ≠ "java/lang/invoke/VarHandle") ∧ Cond.instantiable q.1.cls q.2 ∈ tables_1 ∧ Cond.privateMethod q.1 ∈ tables_1 ∧ Cond.instanceMethod q.1 ∈ tables_1
theorem lw_p0 : lw_okq (⟨"BackByNoonOnMonday", "shelfAt", "(I)LBackByNoonOnMonday$Shelf;"⟩, 12) := ⟨⟨by decide +kernel, by decide +kernel⟩, List.mem_of_getElem? (i := 17) (by decide +kernel), List.mem_of_getElem? (i := 262) (by decide +kernel), List.mem_of_getElem? (i := 263) (by decide +kernel)⟩
theorem lw_p1 : lw_okq (⟨"BackByNoonOnMonday", "tellShop", "(LBackByNoonOnMonday$Shelf;)I"⟩, 12) := ⟨⟨by decide +kernel, by decide +kernel⟩, List.mem_of_getElem? (i := 17) (by decide +kernel), List.mem_of_getElem? (i := 279) (by decide +kernel), List.mem_of_getElem? (i := 280) (by decide +kernel)⟩
theorem lw_p2 : lw_okq (⟨"BackByNoonOnMonday$Fitting", "clear", "()V"⟩, 11) := ⟨⟨by decide +kernel, by decide +kernel⟩, List.mem_of_getElem? (i := 172) (by decide +kernel), List.mem_of_getElem? (i := 432) (by decide +kernel), List.mem_of_getElem? (i := 433) (by decide +kernel)⟩
theorem lw_p3 : lw_okq (⟨"BackByNoonOnMonday$Fitting", "seat", "(II)Z"⟩, 11) := ⟨⟨by decide +kernel, by decide +kernel⟩, List.mem_of_getElem? (i := 172) (by decide +kernel), List.mem_of_getElem? (i := 436) (by decide +kernel), List.mem_of_getElem? (i := 437) (by decide +kernel)⟩
theorem lw_p4 : lw_okq (⟨"BackByNoonOnMonday$Fitting", "moveOn", "(I)V"⟩, 11) := ⟨⟨by decide +kernel, by decide +kernel⟩, List.mem_of_getElem? (i := 172) (by decide +kernel), List.mem_of_getElem? (i := 440) (by decide +kernel), List.mem_of_getElem? (i := 441) (by decide +kernel)⟩
theorem lw_p5 : lw_okq (⟨"BackByNoonOnMonday$Fitting", "leastKeeping", "(IIII)I"⟩, 11) := ⟨⟨by decide +kernel, by decide +kernel⟩, List.mem_of_getElem? (i := 172) (by decide +kernel), List.mem_of_getElem? (i := 449) (by decide +kernel), List.mem_of_getElem? (i := 450) (by decide +kernel)⟩
theorem lw_p6 : lw_okq (⟨"BackByNoonOnMonday$Fitting", "dearest", "(I)I"⟩, 11) := ⟨⟨by decide +kernel, by decide +kernel⟩, List.mem_of_getElem? (i := 172) (by decide +kernel), List.mem_of_getElem? (i := 465) (by decide +kernel), List.mem_of_getElem? (i := 466) (by decide +kernel)⟩
theorem lw_p7 : lw_okq (⟨"BackByNoonOnMonday", "fillWays", "()V"⟩, 12) := ⟨⟨by decide +kernel, by decide +kernel⟩, List.mem_of_getElem? (i := 17) (by decide +kernel), List.mem_of_getElem? (i := 523) (by decide +kernel), List.mem_of_getElem? (i := 524) (by decide +kernel)⟩
theorem lw_p8 : lw_okq (⟨"BackByNoonOnMonday", "readHours", "(LBackByNoonOnMonday$Shelf;)Z"⟩, 12) := ⟨⟨by decide +kernel, by decide +kernel⟩, List.mem_of_getElem? (i := 17) (by decide +kernel), List.mem_of_getElem? (i := 549) (by decide +kernel), List.mem_of_getElem? (i := 550) (by decide +kernel)⟩
theorem lw_p9 : lw_okq (⟨"BackByNoonOnMonday", "orderCleaning", "()I"⟩, 12) := ⟨⟨by decide +kernel, by decide +kernel⟩, List.mem_of_getElem? (i := 17) (by decide +kernel), List.mem_of_getElem? (i := 563) (by decide +kernel), List.mem_of_getElem? (i := 564) (by decide +kernel)⟩
theorem lw_p10 : lw_okq (⟨"BackByNoonOnMonday", "mostReady", "(I)I"⟩, 12) := ⟨⟨by decide +kernel, by decide +kernel⟩, List.mem_of_getElem? (i := 17) (by decide +kernel), List.mem_of_getElem? (i := 567) (by decide +kernel), List.mem_of_getElem? (i := 568) (by decide +kernel)⟩
theorem lw_p11 : lw_okq (⟨"BackByNoonOnMonday", "inTime", "(II)Z"⟩, 12) := ⟨⟨by decide +kernel, by decide +kernel⟩, List.mem_of_getElem? (i := 17) (by decide +kernel), List.mem_of_getElem? (i := 571) (by decide +kernel), List.mem_of_getElem? (i := 572) (by decide +kernel)⟩
theorem lw_p12 : lw_okq (⟨"BackByNoonOnMonday", "firstCleaned", "(II)I"⟩, 12) := ⟨⟨by decide +kernel, by decide +kernel⟩, List.mem_of_getElem? (i := 17) (by decide +kernel), List.mem_of_getElem? (i := 575) (by decide +kernel), List.mem_of_getElem? (i := 576) (by decide +kernel)⟩
theorem lw_p13 : lw_okq (⟨"BackByNoonOnMonday", "feeTenths", "(I)I"⟩, 12) := ⟨⟨by decide +kernel, by decide +kernel⟩, List.mem_of_getElem? (i := 17) (by decide +kernel), List.mem_of_getElem? (i := 583) (by decide +kernel), List.mem_of_getElem? (i := 584) (by decide +kernel)⟩
theorem lw_p14 : lw_okq (⟨"BackByNoonOnMonday", "comersFor", "(I)I"⟩, 12) := ⟨⟨by decide +kernel, by decide +kernel⟩, List.mem_of_getElem? (i := 17) (by decide +kernel), List.mem_of_getElem? (i := 587) (by decide +kernel), List.mem_of_getElem? (i := 588) (by decide +kernel)⟩
theorem lw_p15 : lw_okq (⟨"BackByNoonOnMonday", "firstForged", "(LBackByNoonOnMonday$Shelf;)I"⟩, 12) := ⟨⟨by decide +kernel, by decide +kernel⟩, List.mem_of_getElem? (i := 17) (by decide +kernel), List.mem_of_getElem? (i := 624) (by decide +kernel), List.mem_of_getElem? (i := 625) (by decide +kernel)⟩
def lw_privs_1 : List (MethodName × Nat) := [(⟨"BackByNoonOnMonday", "shelfAt", "(I)LBackByNoonOnMonday$Shelf;"⟩, 12), (⟨"BackByNoonOnMonday", "tellShop", "(LBackByNoonOnMonday$Shelf;)I"⟩, 12), (⟨"BackByNoonOnMonday$Fitting", "clear", "()V"⟩, 11), (⟨"BackByNoonOnMonday$Fitting", "seat", "(II)Z"⟩, 11), (⟨"BackByNoonOnMonday$Fitting", "moveOn", "(I)V"⟩, 11), (⟨"BackByNoonOnMonday$Fitting", "leastKeeping", "(IIII)I"⟩, 11), (⟨"BackByNoonOnMonday$Fitting", "dearest", "(I)I"⟩, 11), (⟨"BackByNoonOnMonday", "fillWays", "()V"⟩, 12), (⟨"BackByNoonOnMonday", "readHours", "(LBackByNoonOnMonday$Shelf;)Z"⟩, 12), (⟨"BackByNoonOnMonday", "orderCleaning", "()I"⟩, 12), (⟨"BackByNoonOnMonday", "mostReady", "(I)I"⟩, 12), (⟨"BackByNoonOnMonday", "inTime", "(II)Z"⟩, 12), (⟨"BackByNoonOnMonday", "firstCleaned", "(II)I"⟩, 12), (⟨"BackByNoonOnMonday", "feeTenths", "(I)I"⟩, 12), (⟨"BackByNoonOnMonday", "comersFor", "(I)I"⟩, 12), (⟨"BackByNoonOnMonday", "firstForged", "(LBackByNoonOnMonday$Shelf;)I"⟩, 12)]
theorem lw_r1 : ∀ q ∈ lw_privs_1, lw_okq q := List.forall_mem_cons.mpr ⟨lw_p0, List.forall_mem_cons.mpr ⟨lw_p1, List.forall_mem_cons.mpr ⟨lw_p2, List.forall_mem_cons.mpr ⟨lw_p3, List.forall_mem_cons.mpr ⟨lw_p4, List.forall_mem_cons.mpr ⟨lw_p5, List.forall_mem_cons.mpr ⟨lw_p6, List.forall_mem_cons.mpr ⟨lw_p7, List.forall_mem_cons.mpr ⟨lw_p8, List.forall_mem_cons.mpr ⟨lw_p9, List.forall_mem_cons.mpr ⟨lw_p10, List.forall_mem_cons.mpr ⟨lw_p11, List.forall_mem_cons.mpr ⟨lw_p12, List.forall_mem_cons.mpr ⟨lw_p13, List.forall_mem_cons.mpr ⟨lw_p14, List.forall_mem_cons.mpr ⟨lw_p15, fun _ h => absurd h List.not_mem_nil⟩⟩⟩⟩⟩⟩⟩⟩⟩⟩⟩⟩⟩⟩⟩⟩
theorem lw_p16 : lw_okq (⟨"java/lang/Throwable", "fillInStackTrace", "(I)Ljava/lang/Throwable;"⟩, 6) := ⟨⟨by decide +kernel, by decide +kernel⟩, List.mem_of_getElem? (i := 767) (by decide +kernel), List.mem_of_getElem? (i := 765) (by decide +kernel), List.mem_of_getElem? (i := 766) (by decide +kernel)⟩
theorem lw_p17 : lw_okq (⟨"BackByNoonOnMondayModel", "wrongRow", "(I)I"⟩, 44) := ⟨⟨by decide +kernel, by decide +kernel⟩, List.mem_of_getElem? (i := 843) (by decide +kernel), List.mem_of_getElem? (i := 991) (by decide +kernel), List.mem_of_getElem? (i := 992) (by decide +kernel)⟩
theorem lw_p18 : lw_okq (⟨"BackByNoonOnMondayModel", "readStatement", "()V"⟩, 44) := ⟨⟨by decide +kernel, by decide +kernel⟩, List.mem_of_getElem? (i := 843) (by decide +kernel), List.mem_of_getElem? (i := 999) (by decide +kernel), List.mem_of_getElem? (i := 1000) (by decide +kernel)⟩
theorem lw_p19 : lw_okq (⟨"BackByNoonOnMondayModel", "here", "()I"⟩, 44) := ⟨⟨by decide +kernel, by decide +kernel⟩, List.mem_of_getElem? (i := 843) (by decide +kernel), List.mem_of_getElem? (i := 1003) (by decide +kernel), List.mem_of_getElem? (i := 1004) (by decide +kernel)⟩
theorem lw_p20 : lw_okq (⟨"BackByNoonOnMondayModel", "readNumbers", "(II)V"⟩, 44) := ⟨⟨by decide +kernel, by decide +kernel⟩, List.mem_of_getElem? (i := 843) (by decide +kernel), List.mem_of_getElem? (i := 1007) (by decide +kernel), List.mem_of_getElem? (i := 1008) (by decide +kernel)⟩
theorem lw_p21 : lw_okq (⟨"BackByNoonOnMondayModel", "readDigits", "(I)I"⟩, 44) := ⟨⟨by decide +kernel, by decide +kernel⟩, List.mem_of_getElem? (i := 843) (by decide +kernel), List.mem_of_getElem? (i := 1011) (by decide +kernel), List.mem_of_getElem? (i := 1012) (by decide +kernel)⟩
theorem lw_p22 : lw_okq (⟨"BackByNoonOnMondayModel", "open", "()V"⟩, 44) := ⟨⟨by decide +kernel, by decide +kernel⟩, List.mem_of_getElem? (i := 843) (by decide +kernel), List.mem_of_getElem? (i := 1017) (by decide +kernel), List.mem_of_getElem? (i := 1018) (by decide +kernel)⟩
theorem lw_p23 : lw_okq (⟨"BackByNoonOnMondayModel", "carryAll", "([IZ)V"⟩, 44) := ⟨⟨by decide +kernel, by decide +kernel⟩, List.mem_of_getElem? (i := 843) (by decide +kernel), List.mem_of_getElem? (i := 1021) (by decide +kernel), List.mem_of_getElem? (i := 1022) (by decide +kernel)⟩
theorem lw_p24 : lw_okq (⟨"BackByNoonOnMondayModel", "carry", "(I)I"⟩, 44) := ⟨⟨by decide +kernel, by decide +kernel⟩, List.mem_of_getElem? (i := 843) (by decide +kernel), List.mem_of_getElem? (i := 1025) (by decide +kernel), List.mem_of_getElem? (i := 1026) (by decide +kernel)⟩
theorem lw_p25 : lw_okq (⟨"BackByNoonOnMondayModel", "comesTold", "(I)Z"⟩, 44) := ⟨⟨by decide +kernel, by decide +kernel⟩, List.mem_of_getElem? (i := 843) (by decide +kernel), List.mem_of_getElem? (i := 1029) (by decide +kernel), List.mem_of_getElem? (i := 1030) (by decide +kernel)⟩
theorem lw_p26 : lw_okq (⟨"BackByNoonOnMondayModel", "suitComes", "(IIII)Z"⟩, 44) := ⟨⟨by decide +kernel, by decide +kernel⟩, List.mem_of_getElem? (i := 843) (by decide +kernel), List.mem_of_getElem? (i := 1033) (by decide +kernel), List.mem_of_getElem? (i := 1034) (by decide +kernel)⟩
theorem lw_p27 : lw_okq (⟨"BackByNoonOnMondayModel", "bookingComes", "(IIIII)Z"⟩, 44) := ⟨⟨by decide +kernel, by decide +kernel⟩, List.mem_of_getElem? (i := 843) (by decide +kernel), List.mem_of_getElem? (i := 1037) (by decide +kernel), List.mem_of_getElem? (i := 1038) (by decide +kernel)⟩
theorem lw_p28 : lw_okq (⟨"BackByNoonOnMondayModel", "isSuit", "(I)Z"⟩, 44) := ⟨⟨by decide +kernel, by decide +kernel⟩, List.mem_of_getElem? (i := 843) (by decide +kernel), List.mem_of_getElem? (i := 1041) (by decide +kernel), List.mem_of_getElem? (i := 1042) (by decide +kernel)⟩
theorem lw_p29 : lw_okq (⟨"BackByNoonOnMondayModel", "isBooking", "(I)Z"⟩, 44) := ⟨⟨by decide +kernel, by decide +kernel⟩, List.mem_of_getElem? (i := 843) (by decide +kernel), List.mem_of_getElem? (i := 1045) (by decide +kernel), List.mem_of_getElem? (i := 1046) (by decide +kernel)⟩
theorem lw_p30 : lw_okq (⟨"BackByNoonOnMondayModel", "canHire", "(II)Z"⟩, 44) := ⟨⟨by decide +kernel, by decide +kernel⟩, List.mem_of_getElem? (i := 843) (by decide +kernel), List.mem_of_getElem? (i := 1049) (by decide +kernel), List.mem_of_getElem? (i := 1050) (by decide +kernel)⟩
theorem lw_p31 : lw_okq (⟨"BackByNoonOnMondayModel", "fitsIn", "(II)Z"⟩, 44) := ⟨⟨by decide +kernel, by decide +kernel⟩, List.mem_of_getElem? (i := 843) (by decide +kernel), List.mem_of_getElem? (i := 1053) (by decide +kernel), List.mem_of_getElem? (i := 1054) (by decide +kernel)⟩
def lw_privs_2 : List (MethodName × Nat) := [(⟨"java/lang/Throwable", "fillInStackTrace", "(I)Ljava/lang/Throwable;"⟩, 6), (⟨"BackByNoonOnMondayModel", "wrongRow", "(I)I"⟩, 44), (⟨"BackByNoonOnMondayModel", "readStatement", "()V"⟩, 44), (⟨"BackByNoonOnMondayModel", "here", "()I"⟩, 44), (⟨"BackByNoonOnMondayModel", "readNumbers", "(II)V"⟩, 44), (⟨"BackByNoonOnMondayModel", "readDigits", "(I)I"⟩, 44), (⟨"BackByNoonOnMondayModel", "open", "()V"⟩, 44), (⟨"BackByNoonOnMondayModel", "carryAll", "([IZ)V"⟩, 44), (⟨"BackByNoonOnMondayModel", "carry", "(I)I"⟩, 44), (⟨"BackByNoonOnMondayModel", "comesTold", "(I)Z"⟩, 44), (⟨"BackByNoonOnMondayModel", "suitComes", "(IIII)Z"⟩, 44), (⟨"BackByNoonOnMondayModel", "bookingComes", "(IIIII)Z"⟩, 44), (⟨"BackByNoonOnMondayModel", "isSuit", "(I)Z"⟩, 44), (⟨"BackByNoonOnMondayModel", "isBooking", "(I)Z"⟩, 44), (⟨"BackByNoonOnMondayModel", "canHire", "(II)Z"⟩, 44), (⟨"BackByNoonOnMondayModel", "fitsIn", "(II)Z"⟩, 44)]
theorem lw_r2 : ∀ q ∈ lw_privs_2, lw_okq q := List.forall_mem_cons.mpr ⟨lw_p16, List.forall_mem_cons.mpr ⟨lw_p17, List.forall_mem_cons.mpr ⟨lw_p18, List.forall_mem_cons.mpr ⟨lw_p19, List.forall_mem_cons.mpr ⟨lw_p20, List.forall_mem_cons.mpr ⟨lw_p21, List.forall_mem_cons.mpr ⟨lw_p22, List.forall_mem_cons.mpr ⟨lw_p23, List.forall_mem_cons.mpr ⟨lw_p24, List.forall_mem_cons.mpr ⟨lw_p25, List.forall_mem_cons.mpr ⟨lw_p26, List.forall_mem_cons.mpr ⟨lw_p27, List.forall_mem_cons.mpr ⟨lw_p28, List.forall_mem_cons.mpr ⟨lw_p29, List.forall_mem_cons.mpr ⟨lw_p30, List.forall_mem_cons.mpr ⟨lw_p31, fun _ h => absurd h List.not_mem_nil⟩⟩⟩⟩⟩⟩⟩⟩⟩⟩⟩⟩⟩⟩⟩⟩
theorem lw_p32 : lw_okq (⟨"BackByNoonOnMondayModel", "givesOf", "(I)I"⟩, 44) := ⟨⟨by decide +kernel, by decide +kernel⟩, List.mem_of_getElem? (i := 843) (by decide +kernel), List.mem_of_getElem? (i := 1060) (by decide +kernel), List.mem_of_getElem? (i := 1061) (by decide +kernel)⟩
theorem lw_p33 : lw_okq (⟨"BackByNoonOnMondayModel", "priceOf", "(I)I"⟩, 44) := ⟨⟨by decide +kernel, by decide +kernel⟩, List.mem_of_getElem? (i := 843) (by decide +kernel), List.mem_of_getElem? (i := 1064) (by decide +kernel), List.mem_of_getElem? (i := 1065) (by decide +kernel)⟩
theorem lw_p34 : lw_okq (⟨"BackByNoonOnMondayModel", "hire", "(II)V"⟩, 44) := ⟨⟨by decide +kernel, by decide +kernel⟩, List.mem_of_getElem? (i := 843) (by decide +kernel), List.mem_of_getElem? (i := 1071) (by decide +kernel), List.mem_of_getElem? (i := 1072) (by decide +kernel)⟩
theorem lw_p35 : lw_okq (⟨"BackByNoonOnMondayModel", "comeBack", "(I)V"⟩, 44) := ⟨⟨by decide +kernel, by decide +kernel⟩, List.mem_of_getElem? (i := 843) (by decide +kernel), List.mem_of_getElem? (i := 1075) (by decide +kernel), List.mem_of_getElem? (i := 1076) (by decide +kernel)⟩
theorem lw_p36 : lw_okq (⟨"BackByNoonOnMondayModel", "bookingOf", "(I)I"⟩, 44) := ⟨⟨by decide +kernel, by decide +kernel⟩, List.mem_of_getElem? (i := 843) (by decide +kernel), List.mem_of_getElem? (i := 1079) (by decide +kernel), List.mem_of_getElem? (i := 1080) (by decide +kernel)⟩
theorem lw_p37 : lw_okq (⟨"BackByNoonOnMondayModel", "canClean", "(I)Z"⟩, 44) := ⟨⟨by decide +kernel, by decide +kernel⟩, List.mem_of_getElem? (i := 843) (by decide +kernel), List.mem_of_getElem? (i := 1083) (by decide +kernel), List.mem_of_getElem? (i := 1084) (by decide +kernel)⟩
theorem lw_p38 : lw_okq (⟨"BackByNoonOnMondayModel", "cleansOf", "(I)I"⟩, 44) := ⟨⟨by decide +kernel, by decide +kernel⟩, List.mem_of_getElem? (i := 843) (by decide +kernel), List.mem_of_getElem? (i := 1087) (by decide +kernel), List.mem_of_getElem? (i := 1088) (by decide +kernel)⟩
theorem lw_p39 : lw_okq (⟨"BackByNoonOnMondayModel", "clean", "(I)V"⟩, 44) := ⟨⟨by decide +kernel, by decide +kernel⟩, List.mem_of_getElem? (i := 843) (by decide +kernel), List.mem_of_getElem? (i := 1091) (by decide +kernel), List.mem_of_getElem? (i := 1092) (by decide +kernel)⟩
theorem lw_p40 : lw_okq (⟨"BackByNoonOnMondayModel", "close", "()V"⟩, 44) := ⟨⟨by decide +kernel, by decide +kernel⟩, List.mem_of_getElem? (i := 843) (by decide +kernel), List.mem_of_getElem? (i := 1095) (by decide +kernel), List.mem_of_getElem? (i := 1096) (by decide +kernel)⟩
theorem lw_p41 : lw_okq (⟨"BackByNoonOnMondayModel", "lastsOf", "(I)I"⟩, 44) := ⟨⟨by decide +kernel, by decide +kernel⟩, List.mem_of_getElem? (i := 843) (by decide +kernel), List.mem_of_getElem? (i := 1111) (by decide +kernel), List.mem_of_getElem? (i := 1112) (by decide +kernel)⟩
theorem lw_p42 : lw_okq (⟨"BackByNoonOnMondayModel", "wrongKept", "(I)I"⟩, 44) := ⟨⟨by decide +kernel, by decide +kernel⟩, List.mem_of_getElem? (i := 843) (by decide +kernel), List.mem_of_getElem? (i := 1124) (by decide +kernel), List.mem_of_getElem? (i := 1125) (by decide +kernel)⟩
theorem lw_p43 : lw_okq (⟨"BackByNoonOnMondayModel", "servedNow", "()I"⟩, 44) := ⟨⟨by decide +kernel, by decide +kernel⟩, List.mem_of_getElem? (i := 843) (by decide +kernel), List.mem_of_getElem? (i := 1155) (by decide +kernel), List.mem_of_getElem? (i := 1156) (by decide +kernel)⟩
theorem lw_p44 : lw_okq (⟨"BackByNoonOnMondayModel", "layMost", "()I"⟩, 44) := ⟨⟨by decide +kernel, by decide +kernel⟩, List.mem_of_getElem? (i := 843) (by decide +kernel), List.mem_of_getElem? (i := 1159) (by decide +kernel), List.mem_of_getElem? (i := 1160) (by decide +kernel)⟩
theorem lw_p45 : lw_okq (⟨"BackByNoonOnMondayModel", "mostBy", "(II)I"⟩, 44) := ⟨⟨by decide +kernel, by decide +kernel⟩, List.mem_of_getElem? (i := 843) (by decide +kernel), List.mem_of_getElem? (i := 1163) (by decide +kernel), List.mem_of_getElem? (i := 1164) (by decide +kernel)⟩
theorem lw_p46 : lw_okq (⟨"BackByNoonOnMondayModel", "isOpen", "(I)Z"⟩, 44) := ⟨⟨by decide +kernel, by decide +kernel⟩, List.mem_of_getElem? (i := 843) (by decide +kernel), List.mem_of_getElem? (i := 1167) (by decide +kernel), List.mem_of_getElem? (i := 1168) (by decide +kernel)⟩
theorem lw_p47 : lw_okq (⟨"BackByNoonOnMondayModel", "mayHave", "(II)Z"⟩, 44) := ⟨⟨by decide +kernel, by decide +kernel⟩, List.mem_of_getElem? (i := 843) (by decide +kernel), List.mem_of_getElem? (i := 1174) (by decide +kernel), List.mem_of_getElem? (i := 1175) (by decide +kernel)⟩
def lw_privs_3 : List (MethodName × Nat) := [(⟨"BackByNoonOnMondayModel", "givesOf", "(I)I"⟩, 44), (⟨"BackByNoonOnMondayModel", "priceOf", "(I)I"⟩, 44), (⟨"BackByNoonOnMondayModel", "hire", "(II)V"⟩, 44), (⟨"BackByNoonOnMondayModel", "comeBack", "(I)V"⟩, 44), (⟨"BackByNoonOnMondayModel", "bookingOf", "(I)I"⟩, 44), (⟨"BackByNoonOnMondayModel", "canClean", "(I)Z"⟩, 44), (⟨"BackByNoonOnMondayModel", "cleansOf", "(I)I"⟩, 44), (⟨"BackByNoonOnMondayModel", "clean", "(I)V"⟩, 44), (⟨"BackByNoonOnMondayModel", "close", "()V"⟩, 44), (⟨"BackByNoonOnMondayModel", "lastsOf", "(I)I"⟩, 44), (⟨"BackByNoonOnMondayModel", "wrongKept", "(I)I"⟩, 44), (⟨"BackByNoonOnMondayModel", "servedNow", "()I"⟩, 44), (⟨"BackByNoonOnMondayModel", "layMost", "()I"⟩, 44), (⟨"BackByNoonOnMondayModel", "mostBy", "(II)I"⟩, 44), (⟨"BackByNoonOnMondayModel", "isOpen", "(I)Z"⟩, 44), (⟨"BackByNoonOnMondayModel", "mayHave", "(II)Z"⟩, 44)]
theorem lw_r3 : ∀ q ∈ lw_privs_3, lw_okq q := List.forall_mem_cons.mpr ⟨lw_p32, List.forall_mem_cons.mpr ⟨lw_p33, List.forall_mem_cons.mpr ⟨lw_p34, List.forall_mem_cons.mpr ⟨lw_p35, List.forall_mem_cons.mpr ⟨lw_p36, List.forall_mem_cons.mpr ⟨lw_p37, List.forall_mem_cons.mpr ⟨lw_p38, List.forall_mem_cons.mpr ⟨lw_p39, List.forall_mem_cons.mpr ⟨lw_p40, List.forall_mem_cons.mpr ⟨lw_p41, List.forall_mem_cons.mpr ⟨lw_p42, List.forall_mem_cons.mpr ⟨lw_p43, List.forall_mem_cons.mpr ⟨lw_p44, List.forall_mem_cons.mpr ⟨lw_p45, List.forall_mem_cons.mpr ⟨lw_p46, List.forall_mem_cons.mpr ⟨lw_p47, fun _ h => absurd h List.not_mem_nil⟩⟩⟩⟩⟩⟩⟩⟩⟩⟩⟩⟩⟩⟩⟩⟩
theorem lw_p48 : lw_okq (⟨"BackByNoonOnMondayModel", "layFirst", "()I"⟩, 44) := ⟨⟨by decide +kernel, by decide +kernel⟩, List.mem_of_getElem? (i := 843) (by decide +kernel), List.mem_of_getElem? (i := 1181) (by decide +kernel), List.mem_of_getElem? (i := 1182) (by decide +kernel)⟩
theorem lw_p49 : lw_okq (⟨"BackByNoonOnMondayModel", "inState", "(I)I"⟩, 44) := ⟨⟨by decide +kernel, by decide +kernel⟩, List.mem_of_getElem? (i := 843) (by decide +kernel), List.mem_of_getElem? (i := 1189) (by decide +kernel), List.mem_of_getElem? (i := 1190) (by decide +kernel)⟩
theorem lw_p50 : lw_okq (⟨"BackByNoonOnMondayModel", "earnedNow", "()I"⟩, 44) := ⟨⟨by decide +kernel, by decide +kernel⟩, List.mem_of_getElem? (i := 843) (by decide +kernel), List.mem_of_getElem? (i := 1197) (by decide +kernel), List.mem_of_getElem? (i := 1198) (by decide +kernel)⟩
theorem lw_p51 : lw_okq (⟨"BackByNoonOnMondayModel", "add", "(III)V"⟩, 44) := ⟨⟨by decide +kernel, by decide +kernel⟩, List.mem_of_getElem? (i := 843) (by decide +kernel), List.mem_of_getElem? (i := 1209) (by decide +kernel), List.mem_of_getElem? (i := 1210) (by decide +kernel)⟩
theorem lw_p52 : lw_okq (⟨"BackByNoonOnMondayModel", "wrongHours", "(I)I"⟩, 44) := ⟨⟨by decide +kernel, by decide +kernel⟩, List.mem_of_getElem? (i := 843) (by decide +kernel), List.mem_of_getElem? (i := 1253) (by decide +kernel), List.mem_of_getElem? (i := 1254) (by decide +kernel)⟩
theorem lw_p53 : lw_okq (⟨"BackByNoonOnMondayModel", "skipped", "(I)J"⟩, 44) := ⟨⟨by decide +kernel, by decide +kernel⟩, List.mem_of_getElem? (i := 843) (by decide +kernel), List.mem_of_getElem? (i := 1257) (by decide +kernel), List.mem_of_getElem? (i := 1258) (by decide +kernel)⟩
theorem lw_p54 : lw_okq (⟨"BackByNoonOnMondayModel", "toldHour", "(II)J"⟩, 44) := ⟨⟨by decide +kernel, by decide +kernel⟩, List.mem_of_getElem? (i := 843) (by decide +kernel), List.mem_of_getElem? (i := 1265) (by decide +kernel), List.mem_of_getElem? (i := 1266) (by decide +kernel)⟩
theorem lw_p55 : lw_okq (⟨"BackByNoonOnMondayModel", "isReady", "(II)Z"⟩, 44) := ⟨⟨by decide +kernel, by decide +kernel⟩, List.mem_of_getElem? (i := 843) (by decide +kernel), List.mem_of_getElem? (i := 1269) (by decide +kernel), List.mem_of_getElem? (i := 1270) (by decide +kernel)⟩
theorem lw_p56 : lw_okq (⟨"BackByNoonOnMondayModel", "paidBy", "(I)I"⟩, 44) := ⟨⟨by decide +kernel, by decide +kernel⟩, List.mem_of_getElem? (i := 843) (by decide +kernel), List.mem_of_getElem? (i := 1277) (by decide +kernel), List.mem_of_getElem? (i := 1278) (by decide +kernel)⟩
theorem lw_p57 : lw_okq (⟨"BackByNoonOnMondayModel", "comesBy", "(I)I"⟩, 44) := ⟨⟨by decide +kernel, by decide +kernel⟩, List.mem_of_getElem? (i := 843) (by decide +kernel), List.mem_of_getElem? (i := 1281) (by decide +kernel), List.mem_of_getElem? (i := 1282) (by decide +kernel)⟩
theorem lw_p58 : lw_okq (⟨"BackByNoonOnMondayModel", "wrongPairs", "(I)I"⟩, 44) := ⟨⟨by decide +kernel, by decide +kernel⟩, List.mem_of_getElem? (i := 843) (by decide +kernel), List.mem_of_getElem? (i := 1309) (by decide +kernel), List.mem_of_getElem? (i := 1310) (by decide +kernel)⟩
theorem lw_p59 : lw_okq (⟨"BackByNoonOnMondayModel", "forgedIn", "(I)I"⟩, 44) := ⟨⟨by decide +kernel, by decide +kernel⟩, List.mem_of_getElem? (i := 843) (by decide +kernel), List.mem_of_getElem? (i := 1313) (by decide +kernel), List.mem_of_getElem? (i := 1314) (by decide +kernel)⟩
theorem lw_p60 : lw_okq (⟨"BackByNoonOnMondayModel", "hadAll", "(III)Z"⟩, 44) := ⟨⟨by decide +kernel, by decide +kernel⟩, List.mem_of_getElem? (i := 843) (by decide +kernel), List.mem_of_getElem? (i := 1322) (by decide +kernel), List.mem_of_getElem? (i := 1323) (by decide +kernel)⟩
theorem lw_p61 : lw_okq (⟨"BackByNoonOnMondayModel", "drawBelow", "(I)I"⟩, 44) := ⟨⟨by decide +kernel, by decide +kernel⟩, List.mem_of_getElem? (i := 843) (by decide +kernel), List.mem_of_getElem? (i := 1334) (by decide +kernel), List.mem_of_getElem? (i := 1335) (by decide +kernel)⟩
theorem lw_p62 : lw_okq (⟨"BackByNoonOnMondayModel", "hiresLeast", "(I)Z"⟩, 44) := ⟨⟨by decide +kernel, by decide +kernel⟩, List.mem_of_getElem? (i := 843) (by decide +kernel), List.mem_of_getElem? (i := 1341) (by decide +kernel), List.mem_of_getElem? (i := 1342) (by decide +kernel)⟩
def lw_privs_4 : List (MethodName × Nat) := [(⟨"BackByNoonOnMondayModel", "layFirst", "()I"⟩, 44), (⟨"BackByNoonOnMondayModel", "inState", "(I)I"⟩, 44), (⟨"BackByNoonOnMondayModel", "earnedNow", "()I"⟩, 44), (⟨"BackByNoonOnMondayModel", "add", "(III)V"⟩, 44), (⟨"BackByNoonOnMondayModel", "wrongHours", "(I)I"⟩, 44), (⟨"BackByNoonOnMondayModel", "skipped", "(I)J"⟩, 44), (⟨"BackByNoonOnMondayModel", "toldHour", "(II)J"⟩, 44), (⟨"BackByNoonOnMondayModel", "isReady", "(II)Z"⟩, 44), (⟨"BackByNoonOnMondayModel", "paidBy", "(I)I"⟩, 44), (⟨"BackByNoonOnMondayModel", "comesBy", "(I)I"⟩, 44), (⟨"BackByNoonOnMondayModel", "wrongPairs", "(I)I"⟩, 44), (⟨"BackByNoonOnMondayModel", "forgedIn", "(I)I"⟩, 44), (⟨"BackByNoonOnMondayModel", "hadAll", "(III)Z"⟩, 44), (⟨"BackByNoonOnMondayModel", "drawBelow", "(I)I"⟩, 44), (⟨"BackByNoonOnMondayModel", "hiresLeast", "(I)Z"⟩, 44)]
theorem lw_r4 : ∀ q ∈ lw_privs_4, lw_okq q := List.forall_mem_cons.mpr ⟨lw_p48, List.forall_mem_cons.mpr ⟨lw_p49, List.forall_mem_cons.mpr ⟨lw_p50, List.forall_mem_cons.mpr ⟨lw_p51, List.forall_mem_cons.mpr ⟨lw_p52, List.forall_mem_cons.mpr ⟨lw_p53, List.forall_mem_cons.mpr ⟨lw_p54, List.forall_mem_cons.mpr ⟨lw_p55, List.forall_mem_cons.mpr ⟨lw_p56, List.forall_mem_cons.mpr ⟨lw_p57, List.forall_mem_cons.mpr ⟨lw_p58, List.forall_mem_cons.mpr ⟨lw_p59, List.forall_mem_cons.mpr ⟨lw_p60, List.forall_mem_cons.mpr ⟨lw_p61, List.forall_mem_cons.mpr ⟨lw_p62, fun _ h => absurd h List.not_mem_nil⟩⟩⟩⟩⟩⟩⟩⟩⟩⟩⟩⟩⟩⟩⟩
def lw_privs : List (MethodName × Nat) := lw_privs_1 ++ (lw_privs_2 ++ (lw_privs_3 ++ (lw_privs_4)))
def lw_tbl : List Cond := k2_sels lw_privs ++ tables_1
theorem lw_privs_ok : ∀ q ∈ lw_privs, lw_okq q := by
  show ∀ q ∈ lw_privs_1 ++ (lw_privs_2 ++ (lw_privs_3 ++ (lw_privs_4))), lw_okq q
  exact List.forall_mem_append.mpr ⟨lw_r1, List.forall_mem_append.mpr ⟨lw_r2, List.forall_mem_append.mpr ⟨lw_r3, lw_r4⟩⟩⟩
-- ===== end of PART A; then your names; then what follows =====
end
section
/-! ===== BEGIN printed: names, fields, word lists, decode rows ===== -/
def RX0 : String := "BackByNoonOnMonday$Fitting"
def TX0 : u_T := fun k => match k with
  | 0 => ("BackByNoonOnMonday$Fitting", "usual", "[I", true)
  | 1 => ("BackByNoonOnMonday$Fitting", "grown", "[I", true)
  | 2 => ("BackByNoonOnMonday$Fitting", "takers", "[I", true)
  | 3 => ("BackByNoonOnMonday$Fitting", "prices", "[I", true)
  | 4 => ("BackByNoonOnMonday$Fitting", "bookingOf", "[I", true)
  | 5 => ("BackByNoonOnMonday$Fitting", "queue", "[I", true)
  | 6 => ("BackByNoonOnMonday$Fitting", "suitOf", "[I", true)
  | 7 => ("BackByNoonOnMonday$Fitting", "reachedBy", "[I", true)
  | 8 => ("BackByNoonOnMonday$Fitting", "chosen", "[I", true)
  | 9 => ("BackByNoonOnMonday$Fitting", "open", "I", false)
  | _ => ("BackByNoonOnMonday$Fitting", "in", "I", false)
def tyX0 : Nat → FieldType := fun k => match k with
  | 0 => .array .int
  | 1 => .array .int
  | 2 => .array .int
  | 3 => .array .int
  | 4 => .array .int
  | 5 => .array .int
  | 6 => .array .int
  | 7 => .array .int
  | 8 => .array .int
  | 9 => .int
  | _ => .int
abbrev wsX00 : List Cond := u_ws RX0 TX0 11
theorem nmX0 : ∀ a, a < 11 → ∀ b, b < 11 → a ≠ b → (TX0 a).2.1 ≠ (TX0 b).2.1 := by decide +kernel
theorem tyX0_ok : ∀ k, k < 11 → parseFieldDescriptor (TX0 k).2.2.1 = some (tyX0 k) := by decide +kernel
abbrev cX0_init : ByteArray := prog_2_method_1_code
def yX0_init : MethodName := ⟨RX0, "<init>", "()V"⟩
abbrev cX0_load : ByteArray := prog_2_method_2_code
def yX0_load : MethodName := ⟨RX0, "load", "(LBackByNoonOnMonday$Shop;)V"⟩
abbrev cX0_lend : ByteArray := prog_2_method_3_code
def yX0_lend : MethodName := ⟨RX0, "lend", "(LBackByNoonOnMonday$Shop;LBackByNoonOnMonday$Suit;I)V"⟩
abbrev cX0_grow : ByteArray := prog_2_method_4_code
def yX0_grow : MethodName := ⟨RX0, "grow", "(I)V"⟩
abbrev cX0_dress : ByteArray := prog_2_method_5_code
def yX0_dress : MethodName := ⟨RX0, "dress", "(LBackByNoonOnMonday$Shop;I)Z"⟩
abbrev cX0_most : ByteArray := prog_2_method_6_code
def yX0_most : MethodName := ⟨RX0, "most", "(II)I"⟩
abbrev cX0_richest : ByteArray := prog_2_method_7_code
def yX0_richest : MethodName := ⟨RX0, "richest", "(II)I"⟩
abbrev cX0_dearest : ByteArray := prog_2_method_8_code
def yX0_dearest : MethodName := ⟨RX0, "dearest", "(I)I"⟩
abbrev cX0_chooseFirst : ByteArray := prog_2_method_9_code
def yX0_chooseFirst : MethodName := ⟨RX0, "chooseFirst", "()I"⟩
abbrev cX0_leastKeeping : ByteArray := prog_2_method_10_code
def yX0_leastKeeping : MethodName := ⟨RX0, "leastKeeping", "(IIII)I"⟩
abbrev cX0_clear : ByteArray := prog_2_method_11_code
def yX0_clear : MethodName := ⟨RX0, "clear", "()V"⟩
abbrev cX0_seat : ByteArray := prog_2_method_12_code
def yX0_seat : MethodName := ⟨RX0, "seat", "(II)Z"⟩
abbrev cX0_moveOn : ByteArray := prog_2_method_13_code
def yX0_moveOn : MethodName := ⟨RX0, "moveOn", "(I)V"⟩
def RX1 : String := "BackByNoonOnMonday$Shelf"
def TX1 : u_T := fun k => match k with
  | 0 => ("BackByNoonOnMonday$Shelf", "cells", "[I", true)
  | 1 => ("BackByNoonOnMonday$Shelf", "holds", "I", false)
  | 2 => ("BackByNoonOnMonday$Shelf", "kind", "LBackByNoonOnMonday$Suit;", false)
  | 3 => ("BackByNoonOnMonday$Shelf", "sort", "I", false)
  | _ => ("BackByNoonOnMonday$Shelf", "length", "I", false)
def tyX1 : Nat → FieldType := fun k => match k with
  | 0 => .array .int
  | 1 => .int
  | 2 => .object "BackByNoonOnMonday$Suit"
  | 3 => .int
  | _ => .int
abbrev wsX10 : List Cond := u_ws RX1 TX1 5
theorem nmX1 : ∀ a, a < 5 → ∀ b, b < 5 → a ≠ b → (TX1 a).2.1 ≠ (TX1 b).2.1 := by decide +kernel
theorem tyX1_ok : ∀ k, k < 5 → parseFieldDescriptor (TX1 k).2.2.1 = some (tyX1 k) := by decide +kernel
abbrev cX1_init : ByteArray := prog_3_method_1_code
def yX1_init : MethodName := ⟨RX1, "<init>", "()V"⟩
abbrev cX1_clear : ByteArray := prog_3_method_2_code
def yX1_clear : MethodName := ⟨RX1, "clear", "()V"⟩
abbrev cX1_hang : ByteArray := prog_3_method_3_code
def yX1_hang : MethodName := ⟨RX1, "hang", "(LBackByNoonOnMonday$Suit;)V"⟩
abbrev cX1_lay : ByteArray := prog_3_method_4_code
def yX1_lay : MethodName := ⟨RX1, "lay", "(II)V"⟩
abbrev cX1_refusal : ByteArray := prog_3_method_5_code
def yX1_refusal : MethodName := ⟨RX1, "refusal", "(I)I"⟩
abbrev cX1_narrowed : ByteArray := prog_3_method_6_code
def yX1_narrowed : MethodName := ⟨RX1, "narrowed", "(I)I"⟩
abbrev cX1_least : ByteArray := prog_3_method_7_code
def yX1_least : MethodName := ⟨RX1, "least", "()I"⟩
abbrev cX1_hasStretch : ByteArray := prog_3_method_8_code
def yX1_hasStretch : MethodName := ⟨RX1, "hasStretch", "(II)Z"⟩
abbrev cX1_byteAt : ByteArray := prog_3_method_9_code
def yX1_byteAt : MethodName := ⟨RX1, "byteAt", "(I)I"⟩
abbrev cX1_number : ByteArray := prog_3_method_10_code
def yX1_number : MethodName := ⟨RX1, "number", "(II)I"⟩
def RX2 : String := "BackByNoonOnMonday$Shop"
def TX2 : u_T := fun k => match k with
  | 0 => ("BackByNoonOnMonday$Shop", "kinds", "[LBackByNoonOnMonday$Suit;", true)
  | 1 => ("BackByNoonOnMonday$Shop", "suitSize", "[I", true)
  | 2 => ("BackByNoonOnMonday$Shop", "worn", "[I", true)
  | 3 => ("BackByNoonOnMonday$Shop", "state", "[I", true)
  | 4 => ("BackByNoonOnMonday$Shop", "size", "[I", true)
  | 5 => ("BackByNoonOnMonday$Shop", "group", "[I", true)
  | 6 => ("BackByNoonOnMonday$Shop", "grows", "[I", true)
  | 7 => ("BackByNoonOnMonday$Shop", "late", "[I", true)
  | 8 => ("BackByNoonOnMonday$Shop", "absent", "[I", true)
  | 9 => ("BackByNoonOnMonday$Shop", "has", "[I", true)
  | 10 => ("BackByNoonOnMonday$Shop", "anyKind", "LBackByNoonOnMonday$Suit;", true)
  | 11 => ("BackByNoonOnMonday$Shop", "suits", "I", false)
  | 12 => ("BackByNoonOnMonday$Shop", "bookings", "I", false)
  | 13 => ("BackByNoonOnMonday$Shop", "pence", "I", false)
  | _ => ("BackByNoonOnMonday$Shop", "hour", "I", false)
def tyX2 : Nat → FieldType := fun k => match k with
  | 0 => .array (.object "BackByNoonOnMonday$Suit")
  | 1 => .array .int
  | 2 => .array .int
  | 3 => .array .int
  | 4 => .array .int
  | 5 => .array .int
  | 6 => .array .int
  | 7 => .array .int
  | 8 => .array .int
  | 9 => .array .int
  | 10 => .object "BackByNoonOnMonday$Suit"
  | 11 => .int
  | 12 => .int
  | 13 => .int
  | _ => .int
abbrev wsX20 : List Cond := u_ws RX2 TX2 15
theorem nmX2 : ∀ a, a < 15 → ∀ b, b < 15 → a ≠ b → (TX2 a).2.1 ≠ (TX2 b).2.1 := by decide +kernel
theorem tyX2_ok : ∀ k, k < 15 → parseFieldDescriptor (TX2 k).2.2.1 = some (tyX2 k) := by decide +kernel
abbrev cX2_init : ByteArray := prog_4_method_1_code
def yX2_init : MethodName := ⟨RX2, "<init>", "()V"⟩
abbrev cX2_become : ByteArray := prog_4_method_2_code
def yX2_become : MethodName := ⟨RX2, "become", "(LBackByNoonOnMonday$Shop;)V"⟩
abbrev cX2_isSuit : ByteArray := prog_4_method_3_code
def yX2_isSuit : MethodName := ⟨RX2, "isSuit", "(I)Z"⟩
abbrev cX2_isBooking : ByteArray := prog_4_method_4_code
def yX2_isBooking : MethodName := ⟨RX2, "isBooking", "(I)Z"⟩
abbrev cX2_kindOf : ByteArray := prog_4_method_5_code
def yX2_kindOf : MethodName := ⟨RX2, "kindOf", "(I)LBackByNoonOnMonday$Suit;"⟩
abbrev cX2_addSuit : ByteArray := prog_4_method_6_code
def yX2_addSuit : MethodName := ⟨RX2, "addSuit", "(LBackByNoonOnMonday$Suit;II)I"⟩
abbrev cX2_addBooking : ByteArray := prog_4_method_7_code
def yX2_addBooking : MethodName := ⟨RX2, "addBooking", "(III)I"⟩
abbrev cX2_hire : ByteArray := prog_4_method_8_code
def yX2_hire : MethodName := ⟨RX2, "hire", "(II)I"⟩
abbrev cX2_canHire : ByteArray := prog_4_method_9_code
def yX2_canHire : MethodName := ⟨RX2, "canHire", "(III)Z"⟩
abbrev cX2_giveBack : ByteArray := prog_4_method_10_code
def yX2_giveBack : MethodName := ⟨RX2, "giveBack", "(I)I"⟩
abbrev cX2_clean : ByteArray := prog_4_method_11_code
def yX2_clean : MethodName := ⟨RX2, "clean", "(I)I"⟩
abbrev cX2_holderOf : ByteArray := prog_4_method_12_code
def yX2_holderOf : MethodName := ⟨RX2, "holderOf", "(I)I"⟩
abbrev cX2_isRightFor : ByteArray := prog_4_method_13_code
def yX2_isRightFor : MethodName := ⟨RX2, "isRightFor", "(II)Z"⟩
abbrev cX2_reaches : ByteArray := prog_4_method_14_code
def yX2_reaches : MethodName := ⟨RX2, "reaches", "(LBackByNoonOnMonday$Suit;II)Z"⟩
abbrev cX2_suitsThatAre : ByteArray := prog_4_method_15_code
def yX2_suitsThatAre : MethodName := ⟨RX2, "suitsThatAre", "(I)I"⟩
abbrev cX2_openBookings : ByteArray := prog_4_method_16_code
def yX2_openBookings : MethodName := ⟨RX2, "openBookings", "()I"⟩
abbrev cX2_groupBits : ByteArray := prog_4_method_17_code
def yX2_groupBits : MethodName := ⟨RX2, "groupBits", "(I)I"⟩
abbrev cX2_takers : ByteArray := prog_4_method_18_code
def yX2_takers : MethodName := ⟨RX2, "takers", "(LBackByNoonOnMonday$Suit;II)I"⟩
abbrev cX2_growthWeight : ByteArray := prog_4_method_19_code
def yX2_growthWeight : MethodName := ⟨RX2, "growthWeight", "(II)J"⟩
abbrev cX2_leastFor : ByteArray := prog_4_method_20_code
def yX2_leastFor : MethodName := ⟨RX2, "leastFor", "(III)I"⟩
abbrev cX2_couldChange : ByteArray := prog_4_method_21_code
def yX2_couldChange : MethodName := ⟨RX2, "couldChange", "(II)Z"⟩
abbrev cX2_hoursOf : ByteArray := prog_4_method_22_code
def yX2_hoursOf : MethodName := ⟨RX2, "hoursOf", "(I)I"⟩
abbrev cX2_allWorn : ByteArray := prog_4_method_23_code
def yX2_allWorn : MethodName := ⟨RX2, "allWorn", "()I"⟩
def RX3 : String := "BackByNoonOnMonday$Suit"
def TX3 : u_T := fun k => match k with
  | 0 => ("BackByNoonOnMonday$Suit", "number", "I", true)
  | 1 => ("BackByNoonOnMonday$Suit", "figure", "I", true)
  | 2 => ("BackByNoonOnMonday$Suit", "price", "I", true)
  | 3 => ("BackByNoonOnMonday$Suit", "reach", "I", true)
  | 4 => ("BackByNoonOnMonday$Suit", "hours", "I", true)
  | 5 => ("BackByNoonOnMonday$Suit", "lasting", "I", true)
  | _ => ("BackByNoonOnMonday$Suit", "worth", "I", true)
def tyX3 : Nat → FieldType := fun k => match k with
  | 0 => .int
  | 1 => .int
  | 2 => .int
  | 3 => .int
  | 4 => .int
  | 5 => .int
  | _ => .int
abbrev wsX30 : List Cond := u_ws RX3 TX3 7
theorem nmX3 : ∀ a, a < 7 → ∀ b, b < 7 → a ≠ b → (TX3 a).2.1 ≠ (TX3 b).2.1 := by decide +kernel
theorem tyX3_ok : ∀ k, k < 7 → parseFieldDescriptor (TX3 k).2.2.1 = some (tyX3 k) := by decide +kernel
abbrev cX3_init : ByteArray := prog_5_method_1_code
def yX3_init : MethodName := ⟨RX3, "<init>", "(II)V"⟩
abbrev cX3_isBlack : ByteArray := prog_5_method_2_code
def yX3_isBlack : MethodName := ⟨RX3, "isBlack", "(I)Z"⟩
abbrev cX3_isMixed : ByteArray := prog_5_method_3_code
def yX3_isMixed : MethodName := ⟨RX3, "isMixed", "(I)Z"⟩
abbrev cX3_fail : ByteArray := prog_5_method_4_code
def yX3_fail : MethodName := ⟨RX3, "fail", "()V"⟩
def RX4 : String := "BackByNoonOnMonday"
def TX4 : u_T := fun k => match k with
  | 0 => ("BackByNoonOnMonday", "shop", "LBackByNoonOnMonday$Shop;", false)
  | 1 => ("BackByNoonOnMonday", "trial", "LBackByNoonOnMonday$Shop;", false)
  | 2 => ("BackByNoonOnMonday", "picture", "LBackByNoonOnMonday$Shop;", true)
  | 3 => ("BackByNoonOnMonday", "pictured", "Z", false)
  | 4 => ("BackByNoonOnMonday", "shelves", "[LBackByNoonOnMonday$Shelf;", true)
  | 5 => ("BackByNoonOnMonday", "noShelf", "LBackByNoonOnMonday$Shelf;", true)
  | 6 => ("BackByNoonOnMonday", "bought", "[LBackByNoonOnMonday$Suit;", true)
  | 7 => ("BackByNoonOnMonday", "plainest", "LBackByNoonOnMonday$Suit;", true)
  | 8 => ("BackByNoonOnMonday", "fitting", "LBackByNoonOnMonday$Fitting;", true)
  | 9 => ("BackByNoonOnMonday", "ways", "[I", true)
  | 10 => ("BackByNoonOnMonday", "toldHours", "[I", true)
  | _ => ("BackByNoonOnMonday", "cleaningOrder", "[I", true)
def tyX4 : Nat → FieldType := fun k => match k with
  | 0 => .object "BackByNoonOnMonday$Shop"
  | 1 => .object "BackByNoonOnMonday$Shop"
  | 2 => .object "BackByNoonOnMonday$Shop"
  | 3 => .boolean
  | 4 => .array (.object "BackByNoonOnMonday$Shelf")
  | 5 => .object "BackByNoonOnMonday$Shelf"
  | 6 => .array (.object "BackByNoonOnMonday$Suit")
  | 7 => .object "BackByNoonOnMonday$Suit"
  | 8 => .object "BackByNoonOnMonday$Fitting"
  | 9 => .array .int
  | 10 => .array .int
  | _ => .array .int
abbrev wsX40 : List Cond := u_ws RX4 TX4 12
theorem nmX4 : ∀ a, a < 12 → ∀ b, b < 12 → a ≠ b → (TX4 a).2.1 ≠ (TX4 b).2.1 := by decide +kernel
theorem tyX4_ok : ∀ k, k < 12 → parseFieldDescriptor (TX4 k).2.2.1 = some (tyX4 k) := by decide +kernel
abbrev cX4_init : ByteArray := prog_1_method_1_code
def yX4_init : MethodName := ⟨RX4, "<init>", "()V"⟩
abbrev cX4_shop : ByteArray := prog_1_method_2_code
def yX4_shop : MethodName := ⟨RX4, "shop", "(I)I"⟩
abbrev cX4_suit : ByteArray := prog_1_method_3_code
def yX4_suit : MethodName := ⟨RX4, "suit", "(II)I"⟩
abbrev cX4_booking : ByteArray := prog_1_method_4_code
def yX4_booking : MethodName := ⟨RX4, "booking", "(II)I"⟩
abbrev cX4_buys : ByteArray := prog_1_method_5_code
def yX4_buys : MethodName := ⟨RX4, "buys", "(II)I"⟩
abbrev cX4_books : ByteArray := prog_1_method_6_code
def yX4_books : MethodName := ⟨RX4, "books", "(III)I"⟩
abbrev cX4_hires : ByteArray := prog_1_method_7_code
def yX4_hires : MethodName := ⟨RX4, "hires", "(II)I"⟩
abbrev cX4_returns : ByteArray := prog_1_method_8_code
def yX4_returns : MethodName := ⟨RX4, "returns", "(I)I"⟩
abbrev cX4_cleans : ByteArray := prog_1_method_9_code
def yX4_cleans : MethodName := ⟨RX4, "cleans", "(I)I"⟩
abbrev cX4_fits : ByteArray := prog_1_method_10_code
def yX4_fits : MethodName := ⟨RX4, "fits", "(II)I"⟩
abbrev cX4_served : ByteArray := prog_1_method_11_code
def yX4_served : MethodName := ⟨RX4, "served", "(I)I"⟩
abbrev cX4_leftOver : ByteArray := prog_1_method_12_code
def yX4_leftOver : MethodName := ⟨RX4, "leftOver", "()I"⟩
abbrev cX4_earned : ByteArray := prog_1_method_13_code
def yX4_earned : MethodName := ⟨RX4, "earned", "()I"⟩
abbrev cX4_alike : ByteArray := prog_1_method_14_code
def yX4_alike : MethodName := ⟨RX4, "alike", "()I"⟩
abbrev cX4_oneMore : ByteArray := prog_1_method_15_code
def yX4_oneMore : MethodName := ⟨RX4, "oneMore", "()I"⟩
abbrev cX4_grown : ByteArray := prog_1_method_16_code
def yX4_grown : MethodName := ⟨RX4, "grown", "(I)J"⟩
abbrev cX4_come : ByteArray := prog_1_method_17_code
def yX4_come : MethodName := ⟨RX4, "come", "(II)J"⟩
abbrev cX4_refuse : ByteArray := prog_1_method_18_code
def yX4_refuse : MethodName := ⟨RX4, "refuse", "()I"⟩
abbrev cX4_buy : ByteArray := prog_1_method_19_code
def yX4_buy : MethodName := ⟨RX4, "buy", "(II)I"⟩
abbrev cX4_sell : ByteArray := prog_1_method_20_code
def yX4_sell : MethodName := ⟨RX4, "sell", "()I"⟩
abbrev cX4_shines : ByteArray := prog_1_method_21_code
def yX4_shines : MethodName := ⟨RX4, "shines", "()I"⟩
abbrev cX4_ready : ByteArray := prog_1_method_22_code
def yX4_ready : MethodName := ⟨RX4, "ready", "(II)I"⟩
abbrev cX4_fee : ByteArray := prog_1_method_23_code
def yX4_fee : MethodName := ⟨RX4, "fee", "(II)I"⟩
abbrev cX4_bestFee : ByteArray := prog_1_method_24_code
def yX4_bestFee : MethodName := ⟨RX4, "bestFee", "()I"⟩
abbrev cX4_atFive : ByteArray := prog_1_method_25_code
def yX4_atFive : MethodName := ⟨RX4, "atFive", "(III)I"⟩
abbrev cX4_taxi : ByteArray := prog_1_method_26_code
def yX4_taxi : MethodName := ⟨RX4, "taxi", "(III)I"⟩
abbrev cX4_friday : ByteArray := prog_1_method_27_code
def yX4_friday : MethodName := ⟨RX4, "friday", "(I)I"⟩
abbrev cX4_tight : ByteArray := prog_1_method_28_code
def yX4_tight : MethodName := ⟨RX4, "tight", "()I"⟩
abbrev cX4_stained : ByteArray := prog_1_method_29_code
def yX4_stained : MethodName := ⟨RX4, "stained", "(III)I"⟩
abbrev cX4_forged : ByteArray := prog_1_method_30_code
def yX4_forged : MethodName := ⟨RX4, "forged", "(I)I"⟩
abbrev cX4_judge : ByteArray := prog_1_method_31_code
def yX4_judge : MethodName := ⟨RX4, "judge", "(I)I"⟩
abbrev cX4_weeks : ByteArray := prog_1_method_32_code
def yX4_weeks : MethodName := ⟨RX4, "weeks", "(III)I"⟩
abbrev cX4_image : ByteArray := prog_1_method_33_code
def yX4_image : MethodName := ⟨RX4, "image", "()I"⟩
abbrev cX4_restore : ByteArray := prog_1_method_34_code
def yX4_restore : MethodName := ⟨RX4, "restore", "()I"⟩
abbrev cX4_count : ByteArray := prog_1_method_35_code
def yX4_count : MethodName := ⟨RX4, "count", "(I)I"⟩
abbrev cX4_keep : ByteArray := prog_1_method_36_code
def yX4_keep : MethodName := ⟨RX4, "keep", "(IIII)I"⟩
abbrev cX4_row : ByteArray := prog_1_method_37_code
def yX4_row : MethodName := ⟨RX4, "row", "(III)I"⟩
abbrev cX4_put : ByteArray := prog_1_method_38_code
def yX4_put : MethodName := ⟨RX4, "put", "(III)I"⟩
abbrev cX4_element : ByteArray := prog_1_method_39_code
def yX4_element : MethodName := ⟨RX4, "element", "(II)J"⟩
abbrev cX4_copy : ByteArray := prog_1_method_40_code
def yX4_copy : MethodName := ⟨RX4, "copy", "(IIIII)I"⟩
abbrev cX4_cost : ByteArray := prog_1_method_41_code
def yX4_cost : MethodName := ⟨RX4, "cost", "(I)I"⟩
abbrev cX4_toss : ByteArray := prog_1_method_42_code
def yX4_toss : MethodName := ⟨RX4, "toss", "(I)I"⟩
abbrev cX4_firstBadByte : ByteArray := prog_1_method_43_code
def yX4_firstBadByte : MethodName := ⟨RX4, "firstBadByte", "(LBackByNoonOnMonday$Shelf;)I"⟩
abbrev cX4_digitsBehind : ByteArray := prog_1_method_44_code
def yX4_digitsBehind : MethodName := ⟨RX4, "digitsBehind", "(I)I"⟩
abbrev cX4_tellShop : ByteArray := prog_1_method_45_code
def yX4_tellShop : MethodName := ⟨RX4, "tellShop", "(LBackByNoonOnMonday$Shelf;)I"⟩
abbrev cX4_tellStatement : ByteArray := prog_1_method_46_code
def yX4_tellStatement : MethodName := ⟨RX4, "tellStatement", "(LBackByNoonOnMonday$Shop;LBackByNoonOnMonday$Shelf;I)I"⟩
abbrev cX4_tellSuit : ByteArray := prog_1_method_47_code
def yX4_tellSuit : MethodName := ⟨RX4, "tellSuit", "(LBackByNoonOnMonday$Shop;LBackByNoonOnMonday$Shelf;I)I"⟩
abbrev cX4_tellBooking : ByteArray := prog_1_method_48_code
def yX4_tellBooking : MethodName := ⟨RX4, "tellBooking", "(LBackByNoonOnMonday$Shop;LBackByNoonOnMonday$Shelf;I)I"⟩
abbrev cX4_fillWays : ByteArray := prog_1_method_49_code
def yX4_fillWays : MethodName := ⟨RX4, "fillWays", "()V"⟩
abbrev cX4_partOf : ByteArray := prog_1_method_50_code
def yX4_partOf : MethodName := ⟨RX4, "partOf", "(JJI)J"⟩
abbrev cX4_commonDivisor : ByteArray := prog_1_method_51_code
def yX4_commonDivisor : MethodName := ⟨RX4, "commonDivisor", "(JJ)J"⟩
abbrev cX4_tenTo : ByteArray := prog_1_method_52_code
def yX4_tenTo : MethodName := ⟨RX4, "tenTo", "(I)J"⟩
abbrev cX4_nextSeed : ByteArray := prog_1_method_53_code
def yX4_nextSeed : MethodName := ⟨RX4, "nextSeed", "(I)I"⟩
abbrev cX4_drawBelow : ByteArray := prog_1_method_54_code
def yX4_drawBelow : MethodName := ⟨RX4, "drawBelow", "(II)I"⟩
abbrev cX4_readHours : ByteArray := prog_1_method_55_code
def yX4_readHours : MethodName := ⟨RX4, "readHours", "(LBackByNoonOnMonday$Shelf;)Z"⟩
abbrev cX4_orderCleaning : ByteArray := prog_1_method_56_code
def yX4_orderCleaning : MethodName := ⟨RX4, "orderCleaning", "()I"⟩
abbrev cX4_mostReady : ByteArray := prog_1_method_57_code
def yX4_mostReady : MethodName := ⟨RX4, "mostReady", "(I)I"⟩
abbrev cX4_inTime : ByteArray := prog_1_method_58_code
def yX4_inTime : MethodName := ⟨RX4, "inTime", "(II)Z"⟩
abbrev cX4_firstCleaned : ByteArray := prog_1_method_59_code
def yX4_firstCleaned : MethodName := ⟨RX4, "firstCleaned", "(II)I"⟩
abbrev cX4_feeTenths : ByteArray := prog_1_method_60_code
def yX4_feeTenths : MethodName := ⟨RX4, "feeTenths", "(I)I"⟩
abbrev cX4_comersFor : ByteArray := prog_1_method_61_code
def yX4_comersFor : MethodName := ⟨RX4, "comersFor", "(I)I"⟩
abbrev cX4_pairRefusal : ByteArray := prog_1_method_62_code
def yX4_pairRefusal : MethodName := ⟨RX4, "pairRefusal", "(LBackByNoonOnMonday$Shelf;)I"⟩
abbrev cX4_firstForged : ByteArray := prog_1_method_63_code
def yX4_firstForged : MethodName := ⟨RX4, "firstForged", "(LBackByNoonOnMonday$Shelf;)I"⟩
abbrev cX4_suitsHad : ByteArray := prog_1_method_64_code
def yX4_suitsHad : MethodName := ⟨RX4, "suitsHad", "(LBackByNoonOnMonday$Shelf;I)I"⟩
abbrev cX4_isShelf : ByteArray := prog_1_method_65_code
def yX4_isShelf : MethodName := ⟨RX4, "isShelf", "(I)Z"⟩
abbrev cX4_shelfAt : ByteArray := prog_1_method_66_code
def yX4_shelfAt : MethodName := ⟨RX4, "shelfAt", "(I)LBackByNoonOnMonday$Shelf;"⟩
abbrev cX4_isIn : ByteArray := prog_1_method_67_code
def yX4_isIn : MethodName := ⟨RX4, "isIn", "(III)Z"⟩
abbrev cX4_hasBit : ByteArray := prog_1_method_68_code
def yX4_hasBit : MethodName := ⟨RX4, "hasBit", "(II)Z"⟩
abbrev cX4_at : ByteArray := prog_1_method_69_code
def yX4_at : MethodName := ⟨RX4, "at", "([II)I"⟩
abbrev cX4_set : ByteArray := prog_1_method_70_code
def yX4_set : MethodName := ⟨RX4, "set", "([III)V"⟩
abbrev cX4_fill : ByteArray := prog_1_method_71_code
def yX4_fill : MethodName := ⟨RX4, "fill", "([I[I)V"⟩
abbrev cX4_caught : ByteArray := prog_1_method_72_code
def yX4_caught : MethodName := ⟨RX4, "caught", "(LBackByNoonOnMonday$Suit;)I"⟩
def RX5 : String := "BackByNoonOnMondayModel"
def TX5 : u_T := fun k => match k with
  | 0 => ("BackByNoonOnMondayModel", "suits", "I", false)
  | 1 => ("BackByNoonOnMondayModel", "kinds", "[I", true)
  | 2 => ("BackByNoonOnMondayModel", "figures", "[I", true)
  | 3 => ("BackByNoonOnMondayModel", "sizes", "[I", true)
  | 4 => ("BackByNoonOnMondayModel", "worns", "[I", true)
  | 5 => ("BackByNoonOnMondayModel", "states", "[I", true)
  | 6 => ("BackByNoonOnMondayModel", "bookings", "I", false)
  | 7 => ("BackByNoonOnMondayModel", "wants", "[I", true)
  | 8 => ("BackByNoonOnMondayModel", "groups", "[I", true)
  | 9 => ("BackByNoonOnMondayModel", "grows", "[I", true)
  | 10 => ("BackByNoonOnMondayModel", "lates", "[I", true)
  | 11 => ("BackByNoonOnMondayModel", "absents", "[I", true)
  | 12 => ("BackByNoonOnMondayModel", "having", "[I", true)
  | 13 => ("BackByNoonOnMondayModel", "pence", "I", false)
  | 14 => ("BackByNoonOnMondayModel", "hour", "I", false)
  | 15 => ("BackByNoonOnMondayModel", "holdsWhat", "[I", true)
  | 16 => ("BackByNoonOnMondayModel", "keptKind", "[I", true)
  | 17 => ("BackByNoonOnMondayModel", "keptFigure", "[I", true)
  | 18 => ("BackByNoonOnMondayModel", "rowSort", "[I", true)
  | 19 => ("BackByNoonOnMondayModel", "rowMany", "[I", true)
  | 20 => ("BackByNoonOnMondayModel", "rows", "[J", true)
  | 21 => ("BackByNoonOnMondayModel", "thrown", "I", false)
  | 22 => ("BackByNoonOnMondayModel", "reading", "I", false)
  | 23 => ("BackByNoonOnMondayModel", "at", "I", false)
  | 24 => ("BackByNoonOnMondayModel", "isBad", "Z", false)
  | 25 => ("BackByNoonOnMondayModel", "statements", "I", false)
  | 26 => ("BackByNoonOnMondayModel", "placeIn", "[I", true)
  | 27 => ("BackByNoonOnMondayModel", "letterOf", "[I", true)
  | 28 => ("BackByNoonOnMondayModel", "told", "[I", true)
  | 29 => ("BackByNoonOnMondayModel", "kept", "[I", true)
  | 30 => ("BackByNoonOnMondayModel", "imaged", "[I", true)
  | 31 => ("BackByNoonOnMondayModel", "hasImage", "Z", false)
  | 32 => ("BackByNoonOnMondayModel", "place0", "I", false)
  | 33 => ("BackByNoonOnMondayModel", "isTaking", "Z", false)
  | 34 => ("BackByNoonOnMondayModel", "keptIn", "[I", false)
  | 35 => ("BackByNoonOnMondayModel", "isPrice", "Z", false)
  | 36 => ("BackByNoonOnMondayModel", "kindFor", "[I", true)
  | 37 => ("BackByNoonOnMondayModel", "suitsOff", "I", false)
  | 38 => ("BackByNoonOnMondayModel", "bookingsOff", "I", false)
  | 39 => ("BackByNoonOnMondayModel", "mostFrom", "[I", true)
  | 40 => ("BackByNoonOnMondayModel", "first", "[I", true)
  | 41 => ("BackByNoonOnMondayModel", "firstCleaned", "I", false)
  | 42 => ("BackByNoonOnMondayModel", "seed", "I", false)
  | _ => ("BackByNoonOnMondayModel", "between", "[J", true)
def tyX5 : Nat → FieldType := fun k => match k with
  | 0 => .int
  | 1 => .array .int
  | 2 => .array .int
  | 3 => .array .int
  | 4 => .array .int
  | 5 => .array .int
  | 6 => .int
  | 7 => .array .int
  | 8 => .array .int
  | 9 => .array .int
  | 10 => .array .int
  | 11 => .array .int
  | 12 => .array .int
  | 13 => .int
  | 14 => .int
  | 15 => .array .int
  | 16 => .array .int
  | 17 => .array .int
  | 18 => .array .int
  | 19 => .array .int
  | 20 => .array .long
  | 21 => .int
  | 22 => .int
  | 23 => .int
  | 24 => .boolean
  | 25 => .int
  | 26 => .array .int
  | 27 => .array .int
  | 28 => .array .int
  | 29 => .array .int
  | 30 => .array .int
  | 31 => .boolean
  | 32 => .int
  | 33 => .boolean
  | 34 => .array .int
  | 35 => .boolean
  | 36 => .array .int
  | 37 => .int
  | 38 => .int
  | 39 => .array .int
  | 40 => .array .int
  | 41 => .int
  | 42 => .int
  | _ => .array .long
abbrev wsX50 : List Cond := u_ws RX5 TX5 44
theorem nmX5 : ∀ a, a < 44 → ∀ b, b < 44 → a ≠ b → (TX5 a).2.1 ≠ (TX5 b).2.1 := by decide +kernel
theorem tyX5_ok : ∀ k, k < 44 → parseFieldDescriptor (TX5 k).2.2.1 = some (tyX5 k) := by decide +kernel
abbrev cX5_init : ByteArray := prog_7_method_1_code
def yX5_init : MethodName := ⟨RX5, "<init>", "()V"⟩
abbrev cX5_thrown : ByteArray := prog_7_method_2_code
def yX5_thrown : MethodName := ⟨RX5, "thrown", "()I"⟩
abbrev cX5_in : ByteArray := prog_7_method_3_code
def yX5_in : MethodName := ⟨RX5, "in", "(JJJ)Z"⟩
abbrev cX5_hasBit : ByteArray := prog_7_method_4_code
def yX5_hasBit : MethodName := ⟨RX5, "hasBit", "(II)Z"⟩
abbrev cX5_onesOf : ByteArray := prog_7_method_5_code
def yX5_onesOf : MethodName := ⟨RX5, "onesOf", "(I)I"⟩
abbrev cX5_greater : ByteArray := prog_7_method_6_code
def yX5_greater : MethodName := ⟨RX5, "greater", "(II)I"⟩
abbrev cX5_apart : ByteArray := prog_7_method_7_code
def yX5_apart : MethodName := ⟨RX5, "apart", "(II)I"⟩
abbrev cX5_isSuit : ByteArray := prog_7_method_8_code
def yX5_isSuit : MethodName := ⟨RX5, "isSuit", "(I)Z"⟩
abbrev cX5_isBooking : ByteArray := prog_7_method_9_code
def yX5_isBooking : MethodName := ⟨RX5, "isBooking", "(I)Z"⟩
abbrev cX5_priceBy : ByteArray := prog_7_method_10_code
def yX5_priceBy : MethodName := ⟨RX5, "priceBy", "(II)I"⟩
abbrev cX5_givesOf : ByteArray := prog_7_method_11_code
def yX5_givesOf : MethodName := ⟨RX5, "givesOf", "(I)I"⟩
abbrev cX5_cleansOf : ByteArray := prog_7_method_12_code
def yX5_cleansOf : MethodName := ⟨RX5, "cleansOf", "(I)I"⟩
abbrev cX5_lastsOf : ByteArray := prog_7_method_13_code
def yX5_lastsOf : MethodName := ⟨RX5, "lastsOf", "(I)I"⟩
abbrev cX5_priceOf : ByteArray := prog_7_method_14_code
def yX5_priceOf : MethodName := ⟨RX5, "priceOf", "(I)I"⟩
abbrev cX5_fitsIn : ByteArray := prog_7_method_15_code
def yX5_fitsIn : MethodName := ⟨RX5, "fitsIn", "(II)Z"⟩
abbrev cX5_canHire : ByteArray := prog_7_method_16_code
def yX5_canHire : MethodName := ⟨RX5, "canHire", "(II)Z"⟩
abbrev cX5_hire : ByteArray := prog_7_method_17_code
def yX5_hire : MethodName := ⟨RX5, "hire", "(II)V"⟩
abbrev cX5_bookingOf : ByteArray := prog_7_method_18_code
def yX5_bookingOf : MethodName := ⟨RX5, "bookingOf", "(I)I"⟩
abbrev cX5_comeBack : ByteArray := prog_7_method_19_code
def yX5_comeBack : MethodName := ⟨RX5, "comeBack", "(I)V"⟩
abbrev cX5_canClean : ByteArray := prog_7_method_20_code
def yX5_canClean : MethodName := ⟨RX5, "canClean", "(I)Z"⟩
abbrev cX5_clean : ByteArray := prog_7_method_21_code
def yX5_clean : MethodName := ⟨RX5, "clean", "(I)V"⟩
abbrev cX5_here : ByteArray := prog_7_method_22_code
def yX5_here : MethodName := ⟨RX5, "here", "()I"⟩
abbrev cX5_readDigits : ByteArray := prog_7_method_23_code
def yX5_readDigits : MethodName := ⟨RX5, "readDigits", "(I)I"⟩
abbrev cX5_readNumbers : ByteArray := prog_7_method_24_code
def yX5_readNumbers : MethodName := ⟨RX5, "readNumbers", "(II)V"⟩
abbrev cX5_readStatement : ByteArray := prog_7_method_25_code
def yX5_readStatement : MethodName := ⟨RX5, "readStatement", "()V"⟩
abbrev cX5_suitComes : ByteArray := prog_7_method_26_code
def yX5_suitComes : MethodName := ⟨RX5, "suitComes", "(IIII)Z"⟩
abbrev cX5_bookingComes : ByteArray := prog_7_method_27_code
def yX5_bookingComes : MethodName := ⟨RX5, "bookingComes", "(IIIII)Z"⟩
abbrev cX5_comesTold : ByteArray := prog_7_method_28_code
def yX5_comesTold : MethodName := ⟨RX5, "comesTold", "(I)Z"⟩
abbrev cX5_shop : ByteArray := prog_7_method_29_code
def yX5_shop : MethodName := ⟨RX5, "shop", "(I)I"⟩
abbrev cX5_carry : ByteArray := prog_7_method_30_code
def yX5_carry : MethodName := ⟨RX5, "carry", "(I)I"⟩
abbrev cX5_carryAll : ByteArray := prog_7_method_31_code
def yX5_carryAll : MethodName := ⟨RX5, "carryAll", "([IZ)V"⟩
abbrev cX5_open : ByteArray := prog_7_method_32_code
def yX5_open : MethodName := ⟨RX5, "open", "()V"⟩
abbrev cX5_close : ByteArray := prog_7_method_33_code
def yX5_close : MethodName := ⟨RX5, "close", "()V"⟩
abbrev cX5_image : ByteArray := prog_7_method_34_code
def yX5_image : MethodName := ⟨RX5, "image", "()I"⟩
abbrev cX5_restore : ByteArray := prog_7_method_35_code
def yX5_restore : MethodName := ⟨RX5, "restore", "()I"⟩
abbrev cX5_suit : ByteArray := prog_7_method_36_code
def yX5_suit : MethodName := ⟨RX5, "suit", "(II)I"⟩
abbrev cX5_booking : ByteArray := prog_7_method_37_code
def yX5_booking : MethodName := ⟨RX5, "booking", "(II)I"⟩
abbrev cX5_wrongKept : ByteArray := prog_7_method_38_code
def yX5_wrongKept : MethodName := ⟨RX5, "wrongKept", "(I)I"⟩
abbrev cX5_buys : ByteArray := prog_7_method_39_code
def yX5_buys : MethodName := ⟨RX5, "buys", "(II)I"⟩
abbrev cX5_books : ByteArray := prog_7_method_40_code
def yX5_books : MethodName := ⟨RX5, "books", "(III)I"⟩
abbrev cX5_hires : ByteArray := prog_7_method_41_code
def yX5_hires : MethodName := ⟨RX5, "hires", "(II)I"⟩
abbrev cX5_returns : ByteArray := prog_7_method_42_code
def yX5_returns : MethodName := ⟨RX5, "returns", "(I)I"⟩
abbrev cX5_cleans : ByteArray := prog_7_method_43_code
def yX5_cleans : MethodName := ⟨RX5, "cleans", "(I)I"⟩
abbrev cX5_fits : ByteArray := prog_7_method_44_code
def yX5_fits : MethodName := ⟨RX5, "fits", "(II)I"⟩
abbrev cX5_mayHave : ByteArray := prog_7_method_45_code
def yX5_mayHave : MethodName := ⟨RX5, "mayHave", "(II)Z"⟩
abbrev cX5_isOpen : ByteArray := prog_7_method_46_code
def yX5_isOpen : MethodName := ⟨RX5, "isOpen", "(I)Z"⟩
abbrev cX5_mostBy : ByteArray := prog_7_method_47_code
def yX5_mostBy : MethodName := ⟨RX5, "mostBy", "(II)I"⟩
abbrev cX5_layMost : ByteArray := prog_7_method_48_code
def yX5_layMost : MethodName := ⟨RX5, "layMost", "()I"⟩
abbrev cX5_servedNow : ByteArray := prog_7_method_49_code
def yX5_servedNow : MethodName := ⟨RX5, "servedNow", "()I"⟩
abbrev cX5_earnedNow : ByteArray := prog_7_method_50_code
def yX5_earnedNow : MethodName := ⟨RX5, "earnedNow", "()I"⟩
abbrev cX5_layFirst : ByteArray := prog_7_method_51_code
def yX5_layFirst : MethodName := ⟨RX5, "layFirst", "()I"⟩
abbrev cX5_served : ByteArray := prog_7_method_52_code
def yX5_served : MethodName := ⟨RX5, "served", "(I)I"⟩
abbrev cX5_inState : ByteArray := prog_7_method_53_code
def yX5_inState : MethodName := ⟨RX5, "inState", "(I)I"⟩
abbrev cX5_leftOver : ByteArray := prog_7_method_54_code
def yX5_leftOver : MethodName := ⟨RX5, "leftOver", "()I"⟩
abbrev cX5_earned : ByteArray := prog_7_method_55_code
def yX5_earned : MethodName := ⟨RX5, "earned", "()I"⟩
abbrev cX5_alike : ByteArray := prog_7_method_56_code
def yX5_alike : MethodName := ⟨RX5, "alike", "()I"⟩
abbrev cX5_add : ByteArray := prog_7_method_57_code
def yX5_add : MethodName := ⟨RX5, "add", "(III)V"⟩
abbrev cX5_oneMore : ByteArray := prog_7_method_58_code
def yX5_oneMore : MethodName := ⟨RX5, "oneMore", "()I"⟩
abbrev cX5_divisor : ByteArray := prog_7_method_59_code
def yX5_divisor : MethodName := ⟨RX5, "divisor", "(JJ)J"⟩
abbrev cX5_partOf : ByteArray := prog_7_method_60_code
def yX5_partOf : MethodName := ⟨RX5, "partOf", "(JJI)J"⟩
abbrev cX5_grown : ByteArray := prog_7_method_61_code
def yX5_grown : MethodName := ⟨RX5, "grown", "(I)J"⟩
abbrev cX5_come : ByteArray := prog_7_method_62_code
def yX5_come : MethodName := ⟨RX5, "come", "(II)J"⟩
abbrev cX5_refuse : ByteArray := prog_7_method_63_code
def yX5_refuse : MethodName := ⟨RX5, "refuse", "()I"⟩
abbrev cX5_buy : ByteArray := prog_7_method_64_code
def yX5_buy : MethodName := ⟨RX5, "buy", "(II)I"⟩
abbrev cX5_sell : ByteArray := prog_7_method_65_code
def yX5_sell : MethodName := ⟨RX5, "sell", "()I"⟩
abbrev cX5_shines : ByteArray := prog_7_method_66_code
def yX5_shines : MethodName := ⟨RX5, "shines", "()I"⟩
abbrev cX5_skipped : ByteArray := prog_7_method_67_code
def yX5_skipped : MethodName := ⟨RX5, "skipped", "(I)J"⟩
abbrev cX5_toldHour : ByteArray := prog_7_method_68_code
def yX5_toldHour : MethodName := ⟨RX5, "toldHour", "(II)J"⟩
abbrev cX5_wrongHours : ByteArray := prog_7_method_69_code
def yX5_wrongHours : MethodName := ⟨RX5, "wrongHours", "(I)I"⟩
abbrev cX5_isReady : ByteArray := prog_7_method_70_code
def yX5_isReady : MethodName := ⟨RX5, "isReady", "(II)Z"⟩
abbrev cX5_ready : ByteArray := prog_7_method_71_code
def yX5_ready : MethodName := ⟨RX5, "ready", "(II)I"⟩
abbrev cX5_comesBy : ByteArray := prog_7_method_72_code
def yX5_comesBy : MethodName := ⟨RX5, "comesBy", "(I)I"⟩
abbrev cX5_paidBy : ByteArray := prog_7_method_73_code
def yX5_paidBy : MethodName := ⟨RX5, "paidBy", "(I)I"⟩
abbrev cX5_fee : ByteArray := prog_7_method_74_code
def yX5_fee : MethodName := ⟨RX5, "fee", "(II)I"⟩
abbrev cX5_bestFee : ByteArray := prog_7_method_75_code
def yX5_bestFee : MethodName := ⟨RX5, "bestFee", "()I"⟩
abbrev cX5_atFive : ByteArray := prog_7_method_76_code
def yX5_atFive : MethodName := ⟨RX5, "atFive", "(III)I"⟩
abbrev cX5_taxi : ByteArray := prog_7_method_77_code
def yX5_taxi : MethodName := ⟨RX5, "taxi", "(III)I"⟩
abbrev cX5_friday : ByteArray := prog_7_method_78_code
def yX5_friday : MethodName := ⟨RX5, "friday", "(I)I"⟩
abbrev cX5_tight : ByteArray := prog_7_method_79_code
def yX5_tight : MethodName := ⟨RX5, "tight", "()I"⟩
abbrev cX5_wrongPairs : ByteArray := prog_7_method_80_code
def yX5_wrongPairs : MethodName := ⟨RX5, "wrongPairs", "(I)I"⟩
abbrev cX5_forgedIn : ByteArray := prog_7_method_81_code
def yX5_forgedIn : MethodName := ⟨RX5, "forgedIn", "(I)I"⟩
abbrev cX5_forged : ByteArray := prog_7_method_82_code
def yX5_forged : MethodName := ⟨RX5, "forged", "(I)I"⟩
abbrev cX5_hadAll : ByteArray := prog_7_method_83_code
def yX5_hadAll : MethodName := ⟨RX5, "hadAll", "(III)Z"⟩
abbrev cX5_stained : ByteArray := prog_7_method_84_code
def yX5_stained : MethodName := ⟨RX5, "stained", "(III)I"⟩
abbrev cX5_judge : ByteArray := prog_7_method_85_code
def yX5_judge : MethodName := ⟨RX5, "judge", "(I)I"⟩
abbrev cX5_drawBelow : ByteArray := prog_7_method_86_code
def yX5_drawBelow : MethodName := ⟨RX5, "drawBelow", "(I)I"⟩
abbrev cX5_hiresLeast : ByteArray := prog_7_method_87_code
def yX5_hiresLeast : MethodName := ⟨RX5, "hiresLeast", "(I)Z"⟩
abbrev cX5_weeks : ByteArray := prog_7_method_88_code
def yX5_weeks : MethodName := ⟨RX5, "weeks", "(III)I"⟩
abbrev cX5_count : ByteArray := prog_7_method_89_code
def yX5_count : MethodName := ⟨RX5, "count", "(I)I"⟩
abbrev cX5_keep : ByteArray := prog_7_method_90_code
def yX5_keep : MethodName := ⟨RX5, "keep", "(IIII)I"⟩
abbrev cX5_wrongRow : ByteArray := prog_7_method_91_code
def yX5_wrongRow : MethodName := ⟨RX5, "wrongRow", "(I)I"⟩
abbrev cX5_narrowed : ByteArray := prog_7_method_92_code
def yX5_narrowed : MethodName := ⟨RX5, "narrowed", "(II)J"⟩
abbrev cX5_row : ByteArray := prog_7_method_93_code
def yX5_row : MethodName := ⟨RX5, "row", "(III)I"⟩
abbrev cX5_put : ByteArray := prog_7_method_94_code
def yX5_put : MethodName := ⟨RX5, "put", "(III)I"⟩
abbrev cX5_element : ByteArray := prog_7_method_95_code
def yX5_element : MethodName := ⟨RX5, "element", "(II)J"⟩
abbrev cX5_copy : ByteArray := prog_7_method_96_code
def yX5_copy : MethodName := ⟨RX5, "copy", "(IIIII)I"⟩
abbrev cX5_costOf : ByteArray := prog_7_method_97_code
def yX5_costOf : MethodName := ⟨RX5, "costOf", "(II)I"⟩
abbrev cX5_cost : ByteArray := prog_7_method_98_code
def yX5_cost : MethodName := ⟨RX5, "cost", "(I)I"⟩
abbrev cX5_toss : ByteArray := prog_7_method_99_code
def yX5_toss : MethodName := ⟨RX5, "toss", "(I)I"⟩
def RJ6 : String := "java/lang/Integer"
def TJ6 : u_T := fun k => match k with
  | _ => ("", "", "", false)
def tyJ6 : Nat → FieldType := fun k => match k with
  | _ => .int
abbrev wsJ60 : List Cond := u_ws RJ6 TJ6 0
theorem nmJ6 : ∀ a, a < 0 → ∀ b, b < 0 → a ≠ b → (TJ6 a).2.1 ≠ (TJ6 b).2.1 := by decide +kernel
theorem tyJ6_ok : ∀ k, k < 0 → parseFieldDescriptor (TJ6 k).2.2.1 = some (tyJ6 k) := by decide +kernel
abbrev cJ6_bitCount_0f7a4 : ByteArray := prog_11_method_49_code
def yJ6_bitCount_0f7a4 : MethodName := ⟨RJ6, "bitCount", "(I)I"⟩
def RJ9 : String := "java/lang/Math"
def TJ9 : u_T := fun k => match k with
  | _ => ("", "", "", false)
def tyJ9 : Nat → FieldType := fun k => match k with
  | _ => .int
abbrev wsJ90 : List Cond := u_ws RJ9 TJ9 0
theorem nmJ9 : ∀ a, a < 0 → ∀ b, b < 0 → a ≠ b → (TJ9 a).2.1 ≠ (TJ9 b).2.1 := by decide +kernel
theorem tyJ9_ok : ∀ k, k < 0 → parseFieldDescriptor (TJ9 k).2.2.1 = some (tyJ9 k) := by decide +kernel
abbrev cJ9_min_7cf53 : ByteArray := prog_12_method_69_code
def yJ9_min_7cf53 : MethodName := ⟨RJ9, "min", "(II)I"⟩
def RJ0 : String := "java/lang/String"
def TJ0 : u_T := fun k => match k with
  | _ => ("", "", "", false)
def tyJ0 : Nat → FieldType := fun k => match k with
  | _ => .int
abbrev wsJ00 : List Cond := u_ws RJ0 TJ0 0
theorem nmJ0 : ∀ a, a < 0 → ∀ b, b < 0 → a ≠ b → (TJ0 a).2.1 ≠ (TJ0 b).2.1 := by decide +kernel
theorem tyJ0_ok : ∀ k, k < 0 → parseFieldDescriptor (TJ0 k).2.2.1 = some (tyJ0 k) := by decide +kernel
def RJ10 : String := "java/lang/System"
def TJ10 : u_T := fun k => match k with
  | _ => ("", "", "", false)
def tyJ10 : Nat → FieldType := fun k => match k with
  | _ => .int
abbrev wsJ100 : List Cond := u_ws RJ10 TJ10 0
theorem nmJ10 : ∀ a, a < 0 → ∀ b, b < 0 → a ≠ b → (TJ10 a).2.1 ≠ (TJ10 b).2.1 := by decide +kernel
theorem tyJ10_ok : ∀ k, k < 0 → parseFieldDescriptor (TJ10 k).2.2.1 = some (tyJ10 k) := by decide +kernel
def RL : String := "BackByNoonOnMondayLaw"
abbrev cL_element : ByteArray := method_3_code
def yL_element : MethodName := ⟨RL, "element", "(LBackByNoonOnMonday;II[J)I"⟩
abbrev cL_law : ByteArray := code
def yL_law : MethodName := ⟨RL, "law", "([I)Z"⟩
abbrev vwCl : List vw_C := [(RX0, TX0, 11), (RX1, TX1, 5), (RX2, TX2, 15), (RX3, TX3, 7), (RX4, TX4, 12), (RX5, TX5, 44)]
end
section
/-! MY WORDS. A system's memory as numbers: which cell is of which kind and length, what references and numbers stand in it. -/
abbrev q_St : Type := Nat × (Nat → Nat) × (Nat → Nat) × (Nat → Nat → Nat)
abbrev q_Hp : Type := (Nat → Nat → Int32) × (Nat → Nat → Int64)
/-- the first address that is free -/
def q_sz (σ : q_St) : Nat := σ.1
/-- a cell's kind: 0 none of ours, 1 .. 6 an object of class 0 .. 5 of vwCl, 7 ints, 8 longs, 9 shelves, 10 suits -/
def q_tag (σ : q_St) : Nat → Nat := σ.2.1
def q_len (σ : q_St) : Nat → Nat := σ.2.2.1
/-- references; 0 is null -/
def q_ref (σ : q_St) : Nat → Nat → Nat := σ.2.2.2
def q_int (h : q_Hp) : Nat → Nat → Int32 := h.1
def q_lng (h : q_Hp) : Nat → Nat → Int64 := h.2
def q_si (h : q_Hp) (a k : Nat) (v : Int32) : q_Hp := (va_up h.1 a (upd (h.1 a) k v), h.2)
def q_sj (h : q_Hp) (a k : Nat) (v : Int64) : q_Hp := (h.1, va_up h.2 a (vp_updL (h.2 a) k v))
def q_sr (σ : q_St) (a k v : Nat) : q_St := (σ.1, σ.2.1, σ.2.2.1, va_up σ.2.2.2 a (va_up (σ.2.2.2 a) k v))
/-- a new cell of kind t, length n -/
def q_nw (σ : q_St) (t n : Nat) : q_St := (σ.1 + 1, va_up σ.2.1 σ.1 t, va_up σ.2.2.1 σ.1 n, va_up σ.2.2.2 σ.1 (fun _ => 0))
def q_nh (h : q_Hp) (a : Nat) : q_Hp := (va_up h.1 a (fun _ => 0), va_up h.2 a (fun _ => 0))
def q_op (n : Nat) : Option Nat := if n = 0 then none else some n
/-- a reference's value -/
def q_rv (n : Nat) : Value := va_rf (q_op n)
theorem q_rv_0 : q_rv 0 = .null := rfl
theorem q_rv_n {n : Nat} (h : n ≠ 0) : q_rv n = .ref n := by simp [q_rv, q_op, h, va_rf]
/-- which fields of a class are references -/
def q_lay : Nat → List Bool
  | 0 => [true, true, true, true, true, true, true, true, true, false, false]
  | 1 => [true, false, true, false, false]
  | 2 => [true, true, true, true, true, true, true, true, true, true, true, false, false, false, false]
  | 3 => [false, false, false, false, false, false, false]
  | 4 => [true, true, true, false, true, true, true, true, true, true, true, true]
  | _ => [false, true, true, true, true, true, false, true, true, true, true, true, true, false, false, true, true, true, true, true, true, false, false, false, false, false, true, true, true, true, true, false, false, false, true, false, true, false, false, true, true, false, false, true]
def q_fl (r : Nat → Nat) (f : Nat → Int32) : List Bool → Nat → List Value
  | [], _ => []
  | b :: l, k => (if b then q_rv (r k) else .int (f k)) :: q_fl r f l (k + 1)
theorem q_fl_len (r : Nat → Nat) (f : Nat → Int32) : ∀ (l : List Bool) (k : Nat), (q_fl r f l k).length = l.length
  | [], _ => rfl
  | _ :: l, k => by simp [q_fl, q_fl_len r f l (k + 1)]
theorem q_fl_get (r : Nat → Nat) (f : Nat → Int32) : ∀ (l : List Bool) (k j : Nat) (b : Bool), l[j]? = some b → (q_fl r f l k)[j]? = some (if b then q_rv (r (k + j)) else .int (f (k + j)))
  | [], _, j, b, h => by simp at h
  | c :: l, k, 0, b, h => by
    have : c = b := by simpa using h
    subst this
    simp [q_fl]
  | c :: l, k, j + 1, b, h => by
    have h' : l[j]? = some b := by simpa using h
    have := q_fl_get r f l (k + 1) j b h'
    rw [show k + 1 + j = k + (j + 1) by omega] at this
    simpa [q_fl] using this
theorem q_fl_cong {r r' : Nat → Nat} {f f' : Nat → Int32} : ∀ (l : List Bool) (k : Nat), (∀ i, k ≤ i → r i = r' i ∧ f i = f' i) → q_fl r f l k = q_fl r' f' l k
  | [], _, _ => rfl
  | b :: l, k, h => by
    simp only [q_fl, (h k (Nat.le_refl k)).1, (h k (Nat.le_refl k)).2, q_fl_cong l (k + 1) (fun i hi => h i (by omega))]
theorem q_fl_seti (r : Nat → Nat) (f : Nat → Int32) (v : Int32) : ∀ (l : List Bool) (k j : Nat), l[j]? = some false → q_fl r (upd f (k + j) v) l k = (q_fl r f l k).set j (.int v)
  | [], _, j, h => by simp at h
  | c :: l, k, 0, h => by
    have : c = false := by simpa using h
    subst this
    have e := q_fl_cong (r := r) (r' := r) (f := upd f k v) (f' := f) l (k + 1) (fun i hi => ⟨rfl, by simp [upd, show i ≠ k by omega]⟩)
    simp [q_fl, upd]
    exact e
  | c :: l, k, j + 1, h => by
    have h' : l[j]? = some false := by simpa using h
    have e := q_fl_seti r f v l (k + 1) j h'
    rw [show k + 1 + j = k + (j + 1) by omega] at e
    simp [q_fl, upd, show k ≠ k + (j + 1) by omega]
    exact e
theorem q_fl_setr (r : Nat → Nat) (f : Nat → Int32) (v : Nat) : ∀ (l : List Bool) (k j : Nat), l[j]? = some true → q_fl (va_up r (k + j) v) f l k = (q_fl r f l k).set j (q_rv v)
  | [], _, j, h => by simp at h
  | c :: l, k, 0, h => by
    have : c = true := by simpa using h
    subst this
    have e := q_fl_cong (r := va_up r k v) (r' := r) (f := f) (f' := f) l (k + 1) (fun i hi => ⟨by simp [va_up, show i ≠ k by omega], rfl⟩)
    simp [q_fl, va_up]
    exact e
  | c :: l, k, j + 1, h => by
    have h' : l[j]? = some true := by simpa using h
    have e := q_fl_setr r f v l (k + 1) j h'
    rw [show k + 1 + j = k + (j + 1) by omega] at e
    simp [q_fl, va_up, show k ≠ k + (j + 1) by omega]
    exact e
/-- what a cell holds -/
def q_cell (cy : Nat → Nat) (σ : q_St) (h : q_Hp) (a : Nat) : va_E :=
  if q_tag σ a ≤ 6 then .inr (q_tag σ a - 1, q_fl (q_ref σ a) (h.1 a) (q_lay (q_tag σ a - 1)) 0)
  else if q_tag σ a = 7 then .inl (cy 0, q_len σ a, .inl (h.1 a))
  else if q_tag σ a = 8 then .inl (cy 1, q_len σ a, .inr (.inl (h.2 a)))
  else .inl (cy (q_tag σ a - 7), q_len σ a, .inr (.inr (.inr (.inr (fun k => q_op (q_ref σ a k))))))
def q_L (σ : q_St) : List Nat := (List.range σ.1).filter (fun a => !(σ.2.1 a == 0))
theorem q_L_mem {σ : q_St} {a : Nat} : a ∈ q_L σ ↔ a < q_sz σ ∧ q_tag σ a ≠ 0 := by
  simp [q_L, q_sz, q_tag, List.mem_filter]
theorem q_L_nodup (σ : q_St) : (q_L σ).Nodup := List.Pairwise.filter _ (List.nodup_range (n := σ.1))
def q_tys (cy : Nat → Nat) : List (ClassId × FieldType) := [(cy 0, .int), (cy 1, .long), (cy 2, .object RX1), (cy 3, .object RX3)]
/-- the world in a heap -/
def q_HW (D : va_G) (cy : Nat → Nat) (b0 : Nat) (σ : q_St) (h : q_Hp) (H : Heap) : Prop :=
  H.size = q_sz σ ∧ va_P D vwCl ([] ++ va_pl (q_L σ) (q_cell cy σ h)) H ∧ 0 < b0 ∧ b0 ≤ q_sz σ ∧ ∀ a, q_tag σ a ≠ 0 → b0 ≤ a ∧ a < q_sz σ
theorem q_D {D : va_G} {cy : Nat → Nat} {b0 : Nat} {σ : q_St} {h : q_Hp} {H : Heap} (hW : q_HW D cy b0 σ h H) (f : Nat → va_E) : va_D (fun q => b0 ≤ q) ([] ++ va_pl (q_L σ) f) := by
  refine ⟨fun i j p q hi hj hpq => ?_, fun k q hk => ?_⟩
  · simp only [List.nil_append, va_pl, List.getElem?_map] at hi hj
    cases hx : (q_L σ)[i]? with
    | none => rw [hx] at hi; cases hi
    | some x =>
      cases hy : (q_L σ)[j]? with
      | none => rw [hy] at hj; cases hj
      | some y =>
        rw [hx] at hi; rw [hy] at hj
        cases hi; cases hj
        have hxy : x = y := hpq
        subst hxy
        have hli := (List.getElem?_eq_some_iff.mp hx).1
        exact (List.getElem?_inj hli (q_L_nodup σ)).mp (hx.trans hy.symm)
  · simp only [List.nil_append, va_pl, List.getElem?_map] at hk
    cases hx : (q_L σ)[k]? with
    | none => rw [hx] at hk; cases hk
    | some x =>
      rw [hx] at hk
      cases hk
      exact (hW.2.2.2.2 x (q_L_mem.mp (List.mem_of_getElem? hx)).2).1
theorem q_in {D : va_G} {cy : Nat → Nat} {b0 : Nat} {σ : q_St} {h : q_Hp} {H : Heap} (hW : q_HW D cy b0 σ h H) {a : Nat} (ha : q_tag σ a ≠ 0) : a ∈ q_L σ := q_L_mem.mpr ⟨(hW.2.2.2.2 a ha).2, ha⟩
theorem q_at {D : va_G} {cy : Nat → Nat} {b0 : Nat} {σ : q_St} {h : q_Hp} {H : Heap} (hW : q_HW D cy b0 σ h H) {a : Nat} (ha : q_tag σ a ≠ 0) : ∃ k : Nat, ([] ++ va_pl (q_L σ) (q_cell cy σ h))[k]? = some (a, q_cell cy σ h a) := va_pl_get (q_in hW ha)
theorem q_nz {D : va_G} {cy : Nat → Nat} {b0 : Nat} {σ : q_St} {h : q_Hp} {H : Heap} (hW : q_HW D cy b0 σ h H) {a : Nat} (ha : q_tag σ a ≠ 0) : a ≠ 0 := fun q => by
  have := (hW.2.2.2.2 a ha).1
  have := hW.2.2.1
  omega
theorem q_cell_obj {cy : Nat → Nat} {σ : q_St} {h : q_Hp} {a c : Nat} (ht : q_tag σ a = c + 1) (hc : c < 6) : q_cell cy σ h a = .inr (c, q_fl (q_ref σ a) (h.1 a) (q_lay c) 0) := by
  simp [q_cell, ht, show c + 1 ≤ 6 by omega]
theorem q_cell_ints {cy : Nat → Nat} {σ : q_St} {h : q_Hp} {a : Nat} (ht : q_tag σ a = 7) : q_cell cy σ h a = .inl (cy 0, q_len σ a, .inl (h.1 a)) := by
  simp [q_cell, ht]
theorem q_cell_longs {cy : Nat → Nat} {σ : q_St} {h : q_Hp} {a : Nat} (ht : q_tag σ a = 8) : q_cell cy σ h a = .inl (cy 1, q_len σ a, .inr (.inl (h.2 a))) := by
  simp [q_cell, ht]
theorem q_cell_refs {cy : Nat → Nat} {σ : q_St} {h : q_Hp} {a c : Nat} (ht : q_tag σ a = c + 9) : q_cell cy σ h a = .inl (cy (c + 2), q_len σ a, .inr (.inr (.inr (.inr (fun k => q_op (q_ref σ a k)))))) := by
  simp [q_cell, ht]
theorem q_cell_cong {cy : Nat → Nat} {σ σ' : q_St} {h h' : q_Hp} {a : Nat} (e1 : q_tag σ a = q_tag σ' a) (e2 : q_len σ a = q_len σ' a) (e3 : q_ref σ a = q_ref σ' a) (e4 : h.1 a = h'.1 a) (e5 : h.2 a = h'.2 a) : q_cell cy σ h a = q_cell cy σ' h' a := by
  simp only [q_cell, e1, e2, e3, e4, e5]
/-- one cell of the world is written -/
theorem q_wr {D : va_G} {cy : Nat → Nat} {b0 : Nat} {σ σ' : q_St} {h h' : q_Hp} {H H1 : Heap} (hW : q_HW D cy b0 σ h H) {a k : Nat} (ha : q_tag σ a ≠ 0) (hk : ([] ++ va_pl (q_L σ) (q_cell cy σ h))[k]? = some (a, q_cell cy σ h a)) {e : va_E}
    (hP : va_P D vwCl (([] ++ va_pl (q_L σ) (q_cell cy σ h)).set k (a, e)) H1) (hz : H1.size = H.size) (e0 : q_sz σ' = q_sz σ) (e1 : q_tag σ' = q_tag σ) (e2 : q_len σ' = q_len σ) (e3 : ∀ b, b ≠ a → q_ref σ' b = q_ref σ b) (e4 : ∀ b, b ≠ a → h'.1 b = h.1 b) (e5 : ∀ b, b ≠ a → h'.2 b = h.2 b) (he : e = q_cell cy σ' h' a) : q_HW D cy b0 σ' h' H1 := by
  have hL : q_L σ' = q_L σ := by
    unfold q_L
    rw [show σ'.1 = σ.1 from e0, show σ'.2.1 = σ.2.1 from e1]
  refine ⟨by rw [hz, e0]; exact hW.1, ?_, hW.2.2.1, by rw [e0]; exact hW.2.2.2.1, fun b hb => by rw [e0]; rw [e1] at hb; exact hW.2.2.2.2 b hb⟩
  rw [va_pl_set (q_D hW _) (q_in hW ha) hk] at hP
  rw [hL]
  refine (va_pl_congr (f := va_up (q_cell cy σ h) a e) (g := q_cell cy σ' h') (L := q_L σ) (fun b => ?_)) ▸ hP
  by_cases hb : b = a
  · subst hb
    rw [va_up_self, he]
  · rw [va_up_ne _ _ hb]
    exact q_cell_cong (by rw [e1]) (by rw [e2]) (e3 b hb).symm (e4 b hb).symm (e5 b hb).symm
end
section
/-! the heap's instructions, over the memory's words -/
def q_tbl : List Cond := lw_tbl.filter goodWord
theorem q_tbl_of {w : Cond} (h : w ∈ lw_tbl) (g : goodWord w = true) : w ∈ q_tbl := List.mem_filter.mpr ⟨h, g⟩
theorem q_tbl_good : q_tbl.all goodWord = true := List.all_eq_true.mpr fun _ h => (List.mem_filter.mp h).2
def q_dc : vw_C := (RX0, TX0, 11)
def q_cl (c : Nat) : vw_C := vwCl.getD c q_dc
def q_ty (c k : Nat) : FieldType := match c with
  | 0 => tyX0 k
  | 1 => tyX1 k
  | 2 => tyX2 k
  | 3 => tyX3 k
  | 4 => tyX4 k
  | _ => tyX5 k
/-- boolean fields -/
def q_isb (c k : Nat) : Bool := match q_ty c k with
  | .boolean => true
  | _ => false
theorem q_tb {w : Cond} (i : Nat) (h : tables_1[i]? = some w) (g : goodWord w = true) : w ∈ q_tbl := q_tbl_of (List.mem_append_right _ (List.mem_of_getElem? h)) g
theorem q_sl {w : Cond} (i : Nat) (h : (k2_sels lw_privs)[i]? = some w) (g : goodWord w = true) : w ∈ q_tbl := q_tbl_of (List.mem_append_left _ (List.mem_of_getElem? h)) g
theorem q_tbs {ws : List Cond} (ps : List Nat) (h : ws = ps.filterMap (fun i => tables_1[i]?)) (g : ws.all goodWord = true) : ∀ w ∈ ws, w ∈ q_tbl := by
  intro w hw
  have hg := List.all_eq_true.mp g w hw
  rw [h] at hw
  obtain ⟨i, -, hi⟩ := List.mem_filterMap.mp hw
  exact q_tb i hi hg
theorem q_sub0 : ∀ w ∈ wsX00, w ∈ q_tbl := q_tbs [191, 193, 195, 197, 199, 201, 203, 205, 207, 209, 211] (by decide +kernel) (by decide +kernel)
theorem q_sub1 : ∀ w ∈ wsX10, w ∈ q_tbl := q_tbs [158, 160, 162, 164, 166] (by decide +kernel) (by decide +kernel)
theorem q_sub2 : ∀ w ∈ wsX20, w ∈ q_tbl := q_tbs [108, 110, 112, 114, 116, 118, 120, 122, 124, 126, 128, 130, 132, 134, 136] (by decide +kernel) (by decide +kernel)
theorem q_sub3 : ∀ w ∈ wsX30, w ∈ q_tbl := q_tbs [62, 64, 66, 68, 70, 72, 74] (by decide +kernel) (by decide +kernel)
theorem q_sub4 : ∀ w ∈ wsX40, w ∈ q_tbl := q_tbs [226, 228, 230, 232, 234, 236, 238, 240, 242, 244, 246, 248] (by decide +kernel) (by decide +kernel)
theorem q_sub5 : ∀ w ∈ wsX50, w ∈ q_tbl := q_tbs [892, 894, 896, 898, 900, 902, 904, 906, 908, 910, 912, 914, 916, 918, 920, 922, 924, 926, 928, 930, 932, 934, 936, 938, 940, 942, 944, 946, 948, 950, 952, 954, 956, 958, 960, 962, 964, 966, 968, 970, 972, 974, 976, 978] (by decide +kernel) (by decide +kernel)
def q_clok (c : Nat) (C : String) (T : u_T) (N : Nat) : Prop :=
  vwCl[c]? = some (C, T, N) ∧ (∀ w ∈ u_ws C T N, w ∈ q_tbl) ∧ (∀ k, k < N → parseFieldDescriptor (T k).2.2.1 = some (q_ty c k)) ∧ (∀ a, a < N → ∀ b, b < N → a ≠ b → (T a).2.1 ≠ (T b).2.1) ∧ (q_lay c).length = N
theorem q_c0 : q_clok 0 RX0 TX0 11 := ⟨rfl, q_sub0, tyX0_ok, nmX0, rfl⟩
theorem q_c1 : q_clok 1 RX1 TX1 5 := ⟨rfl, q_sub1, tyX1_ok, nmX1, rfl⟩
theorem q_c2 : q_clok 2 RX2 TX2 15 := ⟨rfl, q_sub2, tyX2_ok, nmX2, rfl⟩
theorem q_c3 : q_clok 3 RX3 TX3 7 := ⟨rfl, q_sub3, tyX3_ok, nmX3, rfl⟩
theorem q_c4 : q_clok 4 RX4 TX4 12 := ⟨rfl, q_sub4, tyX4_ok, nmX4, rfl⟩
theorem q_c5 : q_clok 5 RX5 TX5 44 := ⟨rfl, q_sub5, tyX5_ok, nmX5, rfl⟩
theorem q_clsok {c : Nat} (h : c < 6) : q_clok c (q_cl c).1 (q_cl c).2.1 (q_cl c).2.2 := by
  match c, h with
  | 0, _ => exact q_c0
  | 1, _ => exact q_c1
  | 2, _ => exact q_c2
  | 3, _ => exact q_c3
  | 4, _ => exact q_c4
  | 5, _ => exact q_c5
theorem q_intty : ∀ c, c < 6 → ∀ k, k < (q_lay c).length → (q_lay c)[k]? = some false → q_ty c k = .int ∨ q_ty c k = .boolean := by decide +kernel
def q_isref (t : FieldType) : Bool := match t with
  | .object _ => true
  | .array _ => true
  | _ => false
theorem q_refty : ∀ c, c < 6 → ∀ k, k < (q_lay c).length → (q_lay c)[k]? = some true → q_isref (q_ty c k) = true := by decide +kernel
/-- a field's word: own's pool entry idx is field k of class c -/
def q_fok (own : String) (x : Nat × Nat × Nat) : Prop := x.2.1 < 6 ∧ x.2.2 < (q_cl x.2.1).2.2 ∧ Cond.fieldLink own x.1 (q_cl x.2.1).1 ((q_cl x.2.1).2.1 x.2.2).2.1 ((q_cl x.2.1).2.1 x.2.2).2.2.1 ∈ q_tbl ∧ ((q_cl x.2.1).2.1 x.2.2).1 = (q_cl x.2.1).1
section QH
variable {p : Program} {l : Launch} {e : Env} {R : Room} {s : State} {m : MethodId} {args : Array Value} {below : List Frame} {meth : Method} {c : Code} {H : Heap} {locs : List Loc} {cells slots : Nat} {Q : State → Prop}
variable {cc : ByteArray} {pc : Nat} {ls : Array Slot} {rest : List Value} {D : va_G} {cy : Nat → Nat} {b0 : Nat} {σ : q_St} {h : q_Hp} {H0 : Heap} {own : String} {a : Nat}
theorem x_getf (hexec : p.tables.exec = Jvm.exec) (hb : c.code = cc) (hts : ∀ w ∈ q_tbl, w.before args s = true) (hown : s.vm.findClass own = some m.cls) (hK : va_K D vwCl (q_tys cy) s) (hW : q_HW D cy b0 σ h H) {idx ci k : Nat} (hf : q_fok own (idx, ci, k)) (ht : q_tag σ a = ci + 1) {b : Bool} (hl : (q_lay ci)[k]? = some b) (hdg : decode cc pc = .ok (.getfield idx, 3))
    (kk : W p l e R s m args below meth c H locs cells slots Q (F0 m (pc + 3) ls ((if b then q_rv (q_ref σ a k) else .int (q_int h a k)) :: rest))) : W p l e R s m args below meth c H locs cells slots Q (F0 m pc ls (.ref a :: rest)) := by
  obtain ⟨h1, h2, h3, h4⟩ := hf
  obtain ⟨k1, k2, k3, k4, k5⟩ := q_clsok h1
  obtain ⟨q0, hq⟩ := q_at hW (a := a) (by rw [ht]; omega)
  rw [q_cell_obj ht h1] at hq
  refine va_get (C := (q_cl ci).1) (T := (q_cl ci).2.1) (N := (q_cl ci).2.2) hexec hb hts k2 hown hK hW.2.1 q0 hq k1 k h2 (hts _ h3) (fun x hx => by rw [h4] at hx; exact hx) (v := if b then q_rv (q_ref σ a k) else .int (q_int h a k)) ?_ hdg kk
  have := q_fl_get (q_ref σ a) (h.1 a) (q_lay ci) 0 k b hl
  rw [Nat.zero_add] at this
  exact this
theorem x_iald (hexec : p.tables.exec = Jvm.exec) (hb : c.code = cc) (hK : va_K D vwCl (q_tys cy) s) (hW : q_HW D cy b0 σ h H) (ht : q_tag σ a = 7) {i : Int32} (hin : vp_in i (q_len σ a)) (hdg : decode cc pc = .ok (.iaload, 1))
    (kk : W p l e R s m args below meth c H locs cells slots Q (F0 m (pc + 1) ls (.int (q_int h a i.toNatClampNeg) :: rest))) : W p l e R s m args below meth c H locs cells slots Q (F0 m pc ls (.int i :: .ref a :: rest)) := by
  obtain ⟨q0, hq⟩ := q_at hW (a := a) (by rw [ht]; omega)
  rw [q_cell_ints ht] at hq
  exact va_iald hexec hb hK hW.2.1 q0 0 hq rfl hin hdg kk
theorem x_lald (hexec : p.tables.exec = Jvm.exec) (hb : c.code = cc) (hK : va_K D vwCl (q_tys cy) s) (hW : q_HW D cy b0 σ h H) (ht : q_tag σ a = 8) {i : Int32} (hin : vp_in i (q_len σ a)) (hdg : decode cc pc = .ok (.laload, 1))
    (kk : W p l e R s m args below meth c H locs cells slots Q (F0 m (pc + 1) ls (.long (q_lng h a i.toNatClampNeg) :: rest))) : W p l e R s m args below meth c H locs cells slots Q (F0 m pc ls (.int i :: .ref a :: rest)) := by
  obtain ⟨q0, hq⟩ := q_at hW (a := a) (by rw [ht]; omega)
  rw [q_cell_longs ht] at hq
  exact va_lald hexec hb hK hW.2.1 q0 1 hq rfl hin hdg kk
theorem x_aald (hexec : p.tables.exec = Jvm.exec) (hb : c.code = cc) (hK : va_K D vwCl (q_tys cy) s) (hW : q_HW D cy b0 σ h H) (ht : q_tag σ a = 9 ∨ q_tag σ a = 10) {i : Int32} (hin : vp_in i (q_len σ a)) (hdg : decode cc pc = .ok (.aaload, 1))
    (kk : W p l e R s m args below meth c H locs cells slots Q (F0 m (pc + 1) ls (q_rv (q_ref σ a i.toNatClampNeg) :: rest))) : W p l e R s m args below meth c H locs cells slots Q (F0 m pc ls (.int i :: .ref a :: rest)) := by
  obtain ⟨q0, hq⟩ := q_at hW (a := a) (by rcases ht with ht | ht <;> rw [ht] <;> omega)
  rcases ht with ht | ht
  · rw [q_cell_refs (c := 0) ht] at hq
    exact va_aldq hexec hb hK hW.2.1 q0 2 hq rfl hin hdg kk
  · rw [q_cell_refs (c := 1) ht] at hq
    exact va_aldq hexec hb hK hW.2.1 q0 3 hq rfl hin hdg kk
theorem x_alen (hexec : p.tables.exec = Jvm.exec) (hb : c.code = cc) (hK : va_K D vwCl (q_tys cy) s) (hW : q_HW D cy b0 σ h H) (ht : q_tag σ a = 7 ∨ q_tag σ a = 8 ∨ q_tag σ a = 9 ∨ q_tag σ a = 10) (hdg : decode cc pc = .ok (.arraylength, 1))
    (kk : W p l e R s m args below meth c H locs cells slots Q (F0 m (pc + 1) ls (.int (Int32.ofNat (q_len σ a)) :: rest))) : W p l e R s m args below meth c H locs cells slots Q (F0 m pc ls (.ref a :: rest)) := by
  obtain ⟨q0, hq⟩ := q_at hW (a := a) (by rcases ht with ht | ht | ht | ht <;> rw [ht] <;> omega)
  rcases ht with ht | ht | ht | ht
  · rw [q_cell_ints ht] at hq
    exact va_alen hexec hb hK hW.2.1 q0 0 hq (ty := .int) rfl rfl hdg kk
  · rw [q_cell_longs ht] at hq
    exact va_alen hexec hb hK hW.2.1 q0 1 hq (ty := .long) rfl rfl hdg kk
  · rw [q_cell_refs (c := 0) ht] at hq
    exact va_alen hexec hb hK hW.2.1 q0 2 hq (ty := .object RX1) rfl rfl hdg kk
  · rw [q_cell_refs (c := 1) ht] at hq
    exact va_alen hexec hb hK hW.2.1 q0 3 hq (ty := .object RX3) rfl rfl hdg kk
theorem q_up_ne {α : Type} (f : Nat → α) {k j : Nat} (v : α) (h : j ≠ k) : va_up f k v j = f j := va_up_ne f v h
theorem x_iast (hexec : p.tables.exec = Jvm.exec) (hb : c.code = cc) (hK : va_K D vwCl (q_tys cy) s) (hW : q_HW D cy b0 σ h H) (hS : va_S (fun q => b0 ≤ q) H0 H locs) (ht : q_tag σ a = 7) {i x : Int32} (hin : vp_in i (q_len σ a)) (hdg : decode cc pc = .ok (.iastore, 1))
    (kk : ∀ (H1 : Heap) (locs1 : List Loc), q_HW D cy b0 σ (q_si h a i.toNatClampNeg x) H1 → va_S (fun q => b0 ≤ q) H0 H1 locs1 → W p l e R s m args below meth c H1 locs1 cells slots Q (F0 m (pc + 1) ls rest)) : W p l e R s m args below meth c H locs cells slots Q (F0 m pc ls (.int x :: .int i :: .ref a :: rest)) := by
  have h0 : q_tag σ a ≠ 0 := by rw [ht]; omega
  obtain ⟨q0, hq⟩ := q_at hW h0
  have hq' := hq
  rw [q_cell_ints ht] at hq'
  refine W.iast hexec hb (hW.2.1 q0 _ hq') ((hK.2 0 _ rfl).1 (q_len σ a) (fun j => .int (h.1 a j))) (fun q => by cases q) (by show ¬ (i < 0 ∨ (arrV _ _ _).slots.size ≤ _); rw [arrV_size]; exact hin) rfl rfl hdg fun H1 e z oq => ?_
  refine kk H1 _ (q_wr hW h0 hq (hW.2.1.set (q_D hW _) hq (e := .inl (cy 0, q_len σ a, .inl (upd (h.1 a) i.toNatClampNeg x))) ?_ oq) z rfl rfl rfl (fun _ _ => rfl) (fun b hb => va_up_ne _ _ hb) (fun _ _ => rfl) ?_) (hS.put z oq (hW.2.2.2.2 a h0).1)
  · show H1[a]? = some (vp_cell _ _)
    rw [e]
    rw [vp_cell_i, vp_cell_i, arrV_store]
    congr 2
    funext q
    by_cases hq : q = i.toNatClampNeg
    · subst hq
      simp [updV, upd]
    · simp [updV, upd, hq]
  · rw [q_cell_ints ht]
    simp [q_si, va_up_self]
theorem x_last (hexec : p.tables.exec = Jvm.exec) (hb : c.code = cc) (hK : va_K D vwCl (q_tys cy) s) (hW : q_HW D cy b0 σ h H) (hS : va_S (fun q => b0 ≤ q) H0 H locs) (ht : q_tag σ a = 8) {i : Int32} {x : Int64} (hin : vp_in i (q_len σ a)) (hdg : decode cc pc = .ok (.lastore, 1))
    (kk : ∀ (H1 : Heap) (locs1 : List Loc), q_HW D cy b0 σ (q_sj h a i.toNatClampNeg x) H1 → va_S (fun q => b0 ≤ q) H0 H1 locs1 → W p l e R s m args below meth c H1 locs1 cells slots Q (F0 m (pc + 1) ls rest)) : W p l e R s m args below meth c H locs cells slots Q (F0 m pc ls (.long x :: .int i :: .ref a :: rest)) := by
  have h0 : q_tag σ a ≠ 0 := by rw [ht]; omega
  obtain ⟨q0, hq⟩ := q_at hW h0
  have hq' := hq
  rw [q_cell_longs ht] at hq'
  refine W.last hexec hb (hW.2.1 q0 _ hq') ((hK.2 1 _ rfl).1 (q_len σ a) (fun j => .long (h.2 a j))) (fun q => by cases q) (by show ¬ (i < 0 ∨ (arrV _ _ _).slots.size ≤ _); rw [arrV_size]; exact hin) rfl rfl hdg fun H1 e z oq => ?_
  refine kk H1 _ (q_wr hW h0 hq (hW.2.1.set (q_D hW _) hq (e := .inl (cy 1, q_len σ a, .inr (.inl (vp_updL (h.2 a) i.toNatClampNeg x)))) ?_ oq) z rfl rfl rfl (fun _ _ => rfl) (fun _ _ => rfl) (fun b hb => va_up_ne _ _ hb) ?_) (hS.put z oq (hW.2.2.2.2 a h0).1)
  · show H1[a]? = some (vp_cell _ _)
    rw [e]
    rw [vp_cell_l, vp_cell_l, arrV_store]
    congr 2
    funext q
    by_cases hq : q = i.toNatClampNeg
    · subst hq
      simp [updV, vp_updL]
    · simp [updV, vp_updL, hq]
  · rw [q_cell_longs ht]
    simp [q_sj, va_up_self]
end QH
end
section
/-! fields written, arrays copied, cells made -/
section QP
variable {p : Program} {l : Launch} {e : Env} {R : Room} {s : State} {m : MethodId} {args : Array Value} {below : List Frame} {meth : Method} {c : Code} {H : Heap} {locs : List Loc} {cells slots : Nat} {Q : State → Prop}
variable {cc : ByteArray} {pc : Nat} {ls : Array Slot} {rest : List Value} {D : va_G} {cy : Nat → Nat} {b0 : Nat} {σ σ' : q_St} {h h' : q_Hp} {H0 : Heap} {own : String} {a : Nat}
theorem x_putv (hexec : p.tables.exec = Jvm.exec) (hb : c.code = cc) (hts : ∀ w ∈ q_tbl, w.before args s = true) (hown : s.vm.findClass own = some m.cls) (hK : va_K D vwCl (q_tys cy) s) (hW : q_HW D cy b0 σ h H) (hS : va_S (fun q => b0 ≤ q) H0 H locs) {idx ci k : Nat} (hf : q_fok own (idx, ci, k)) (ht : q_tag σ a = ci + 1)
    (hfin : ((q_cl ci).2.1 k).2.2.2 = false ∨ (((q_cl ci).2.1 k).2.2.2 = true ∧ meth.name = "<init>" ∧ (q_cl ci).1 = own)) {v : Value} (hn : narrow (q_ty ci k) v = v) (hfit : fits (q_ty ci k) v = true) (hdg : decode cc pc = .ok (.putfield idx, 3))
    (e0 : q_sz σ' = q_sz σ) (e1 : q_tag σ' = q_tag σ) (e2 : q_len σ' = q_len σ) (e3 : ∀ b, b ≠ a → q_ref σ' b = q_ref σ b) (e4 : ∀ b, b ≠ a → h'.1 b = h.1 b) (e5 : ∀ b, b ≠ a → h'.2 b = h.2 b) (he : q_fl (q_ref σ' a) (h'.1 a) (q_lay ci) 0 = (q_fl (q_ref σ a) (h.1 a) (q_lay ci) 0).set k v)
    (kk : ∀ (H1 : Heap) (locs1 : List Loc), q_HW D cy b0 σ' h' H1 → va_S (fun q => b0 ≤ q) H0 H1 locs1 → W p l e R s m args below meth c H1 locs1 cells slots Q (F0 m (pc + 3) ls rest)) : W p l e R s m args below meth c H locs cells slots Q (F0 m pc ls (v :: .ref a :: rest)) := by
  obtain ⟨h1, h2, h3, h4⟩ := hf
  obtain ⟨k1, k2, k3, k4, k5⟩ := q_clsok h1
  have hap := va_apart (own := own) hts k2 (q_ty ci) k3 k4 hK k1
  have h0 : q_tag σ a ≠ 0 := by rw [ht]; omega
  obtain ⟨q0, hq⟩ := q_at hW h0
  have hq' := hq
  rw [q_cell_obj ht h1] at hq'
  obtain ⟨r, r1, cell, q1, q2, q3, q4⟩ := hW.2.1 q0 _ hq'
  have hr : r = ((q_cl ci).1, (q_cl ci).2.1, (q_cl ci).2.2) := Option.some.inj (r1.symm.trans k1)
  subst hr
  obtain ⟨hSl, hfc, kC, hkC, hkind⟩ := hK.1 ci _ k1
  obtain ⟨cf, kf, fi, f, hi, hsl⟩ := hSl k h2
  have hlay := hts _ (k2 _ (u_in_lay h2))
  have hst := (u_facts hfc hkC (u_lays hts k2 h2) hi).1
  have hll : k < (q_fl (q_ref σ a) (h.1 a) (q_lay ci) 0).length := by rw [q_fl_len, k5]; exact h2
  have fin : ∀ (H' : Heap), H'[a]? = some (cell.setSlot f.slot v) → H'.size = H.size → (∀ q, q ≠ a → H'[q]? = H[q]?) → W p l e R s m args below meth c H' (locs ++ [⟨a, f.slot⟩]) cells slots Q (F0 m (pc + 3) ls rest) := by
    intro H' g1 g2 g3
    rw [hsl] at g1
    refine kk H' _ (q_wr hW h0 hq (hW.2.1.set (q_D hW _) hq (e := .inr (ci, (q_fl (q_ref σ a) (h.1 a) (q_lay ci) 0).set k v)) ⟨_, k1, t_OB.to (V := updV (vp_V (q_fl (q_ref σ a) (h.1 a) (q_lay ci) 0)) k v) ⟨_, g1, q2, q3, t_set q4 hap h2 v⟩ (fun j _ => vp_updV_set hll v j)⟩ g3) g2 e0 e1 e2 e3 e4 e5 ?_) (hS.put g2 g3 (hW.2.2.2.2 a h0).1)
    rw [q_cell_obj (by rw [e1]; exact ht) h1, he]
  rcases hfin with hfin | ⟨hfin, hini, hdecl⟩
  · unfold u_lay at hlay
    rw [if_neg (by rw [hfin]; decide)] at hlay
    have h6 := u_store hfc hkC hkind hlay hi (k3 k h2) hn hfit
    exact W.putK hexec hb (f := f) ⟨hown, hts _ h3, ⟨_, _, _, (by rw [h4] at hi; exact hi)⟩, hst⟩ (by rw [q2]; exact h6) q1 q3 (by rw [hsl]; exact k2_hasslot (q4 k h2)) rfl rfl hdg fin
  · unfold u_lay at hlay
    rw [if_pos hfin] at hlay
    have hcf : m.cls = cf := by
      obtain ⟨_, _, c', _, _, _, -, -, hf', -, -, -, hown2, -⟩ := Cond.laysFinal_spec hlay
      have e1 : c' = cf := by have := hi.symm.trans hf'; simp at this; exact this.1.symm
      rw [h4, hdecl] at hown2
      rw [← e1]; exact Option.some.inj (hown.symm.trans hown2)
    have h6 := u_fits hfc hkC hkind (Or.inr hlay) hi (k3 k h2) hn hfit
    exact W.putFinK hexec hb hown (hts _ h3) (by rw [h4] at hi; exact hi) hst hcf hini (by rw [q2]; exact h6) q1 q3 (by rw [hsl]; exact k2_hasslot (q4 k h2)) rfl rfl hdg fin
theorem q_nar {ci k : Nat} (h1 : ci < 6) (hl : (q_lay ci)[k]? = some false) {x : Int32} (hx : q_isb ci k = true → x = 0 ∨ x = 1) : narrow (q_ty ci k) (.int x) = .int x ∧ fits (q_ty ci k) (.int x) = true := by
  rcases q_intty ci h1 k (List.getElem?_eq_some_iff.mp hl).1 hl with ht | ht
  · rw [ht]; exact ⟨rfl, rfl⟩
  · rcases hx (by simp [q_isb, ht]) with rfl | rfl <;> rw [ht] <;> exact ⟨rfl, rfl⟩
theorem q_nrf {t : FieldType} (ht : q_isref t = true) (n : Nat) : narrow t (q_rv n) = q_rv n ∧ fits t (q_rv n) = true := by
  by_cases hn : n = 0
  · subst hn
    cases t <;> first | exact ⟨rfl, rfl⟩ | simp [q_isref] at ht
  · rw [q_rv_n hn]
    cases t <;> first | exact ⟨rfl, rfl⟩ | simp [q_isref] at ht
theorem x_puti (hexec : p.tables.exec = Jvm.exec) (hb : c.code = cc) (hts : ∀ w ∈ q_tbl, w.before args s = true) (hown : s.vm.findClass own = some m.cls) (hK : va_K D vwCl (q_tys cy) s) (hW : q_HW D cy b0 σ h H) (hS : va_S (fun q => b0 ≤ q) H0 H locs) {idx ci k : Nat} (hf : q_fok own (idx, ci, k)) (ht : q_tag σ a = ci + 1)
    (hfin : ((q_cl ci).2.1 k).2.2.2 = false ∨ (((q_cl ci).2.1 k).2.2.2 = true ∧ meth.name = "<init>" ∧ (q_cl ci).1 = own)) (hl : (q_lay ci)[k]? = some false) {x : Int32} (hx : q_isb ci k = true → x = 0 ∨ x = 1) (hdg : decode cc pc = .ok (.putfield idx, 3))
    (kk : ∀ (H1 : Heap) (locs1 : List Loc), q_HW D cy b0 σ (q_si h a k x) H1 → va_S (fun q => b0 ≤ q) H0 H1 locs1 → W p l e R s m args below meth c H1 locs1 cells slots Q (F0 m (pc + 3) ls rest)) : W p l e R s m args below meth c H locs cells slots Q (F0 m pc ls (.int x :: .ref a :: rest)) := by
  have hn := q_nar hf.1 hl hx
  refine x_putv (σ' := σ) (h' := q_si h a k x) hexec hb hts hown hK hW hS hf ht hfin hn.1 hn.2 hdg rfl rfl rfl (fun _ _ => rfl) (fun b hb => va_up_ne _ _ hb) (fun _ _ => rfl) ?_ kk
  have := q_fl_seti (q_ref σ a) (h.1 a) x (q_lay ci) 0 k hl
  rw [Nat.zero_add] at this
  rw [← this]
  simp [q_si, va_up_self]
theorem x_putr (hexec : p.tables.exec = Jvm.exec) (hb : c.code = cc) (hts : ∀ w ∈ q_tbl, w.before args s = true) (hown : s.vm.findClass own = some m.cls) (hK : va_K D vwCl (q_tys cy) s) (hW : q_HW D cy b0 σ h H) (hS : va_S (fun q => b0 ≤ q) H0 H locs) {idx ci k : Nat} (hf : q_fok own (idx, ci, k)) (ht : q_tag σ a = ci + 1)
    (hfin : ((q_cl ci).2.1 k).2.2.2 = false ∨ (((q_cl ci).2.1 k).2.2.2 = true ∧ meth.name = "<init>" ∧ (q_cl ci).1 = own)) (hl : (q_lay ci)[k]? = some true) {n : Nat} (hdg : decode cc pc = .ok (.putfield idx, 3))
    (kk : ∀ (H1 : Heap) (locs1 : List Loc), q_HW D cy b0 (q_sr σ a k n) h H1 → va_S (fun q => b0 ≤ q) H0 H1 locs1 → W p l e R s m args below meth c H1 locs1 cells slots Q (F0 m (pc + 3) ls rest)) : W p l e R s m args below meth c H locs cells slots Q (F0 m pc ls (q_rv n :: .ref a :: rest)) := by
  have hn := q_nrf (q_refty ci hf.1 k (List.getElem?_eq_some_iff.mp hl).1 hl) n
  refine x_putv (σ' := q_sr σ a k n) (h' := h) hexec hb hts hown hK hW hS hf ht hfin hn.1 hn.2 hdg rfl rfl rfl (fun b hb => va_up_ne _ _ hb) (fun _ _ => rfl) (fun _ _ => rfl) ?_ kk
  have := q_fl_setr (q_ref σ a) (h.1 a) n (q_lay ci) 0 k hl
  rw [Nat.zero_add] at this
  rw [← this]
  simp [q_sr, q_ref, va_up_self]
theorem x_aast (hexec : p.tables.exec = Jvm.exec) (hb : c.code = cc) (hK : va_K D vwCl (q_tys cy) s) (hW : q_HW D cy b0 σ h H) (hS : va_S (fun q => b0 ≤ q) H0 H locs) {v : Nat} (ht : (q_tag σ a = 9 ∧ q_tag σ v = 2) ∨ (q_tag σ a = 10 ∧ q_tag σ v = 4)) {i : Int32} (hin : vp_in i (q_len σ a)) (hdg : decode cc pc = .ok (.aastore, 1))
    (kk : ∀ (H1 : Heap) (locs1 : List Loc), q_HW D cy b0 (q_sr σ a i.toNatClampNeg v) h H1 → va_S (fun q => b0 ≤ q) H0 H1 locs1 → W p l e R s m args below meth c H1 locs1 cells slots Q (F0 m (pc + 1) ls rest)) : W p l e R s m args below meth c H locs cells slots Q (F0 m pc ls (.ref v :: .int i :: .ref a :: rest)) := by
  have hlt : i.toNatClampNeg < q_len σ a := Nat.not_le.mp fun q => hin (Or.inr q)
  have hi0 : ¬ i < 0 := fun q => hin (Or.inl q)
  obtain ⟨n, ci, t0, ht1, ht2, hci, hty, hcl⟩ : ∃ n ci t0, q_tag σ a = n + 9 ∧ q_tag σ v = ci + 1 ∧ ci < 6 ∧ (q_tys cy)[t0]? = some (cy (n + 2), FieldType.object (q_cl ci).1) ∧ vwCl[ci]? = some (q_cl ci) := by
    rcases ht with ⟨x, y⟩ | ⟨x, y⟩
    · exact ⟨0, 1, 2, x, y, by omega, rfl, rfl⟩
    · exact ⟨1, 3, 3, x, y, by omega, rfl, rfl⟩
  have h0 : q_tag σ a ≠ 0 := by rw [ht1]; omega
  have hv0 : q_tag σ v ≠ 0 := by rw [ht2]; omega
  obtain ⟨q0, hq⟩ := q_at hW h0
  obtain ⟨q1, hv⟩ := q_at hW hv0
  have hq' := hq
  rw [q_cell_refs ht1] at hq'
  rw [q_cell_obj ht2 hci] at hv
  obtain ⟨r', hr', cellV, g1, g2, g3, -⟩ := hW.2.1 q1 _ hv
  have hcls := (hK.1 ci _ hcl).2
  obtain ⟨kA, comp, k1, k2, k3, -⟩ := (hK.2 t0 _ hty).2
  have hcomp : comp = D.1 ci := Option.some.inj (k3.symm.trans hcls.1)
  subst hcomp
  obtain ⟨kC, hkC, -⟩ := hcls.2
  refine W.aast hexec hb (hW.2.1 q0 _ hq') (fun q h => by cases h) (fun h => by cases h) k1 k2 rfl hkC ⟨hi0, by show _ < (arrV _ _ _).slots.size; rw [arrV_size]; exact hlt⟩ g1 (fun q h => by rw [g3] at h; cases h) (by rw [g2]; exact hkC) (by rw [g2]; exact va_assign hcls) rfl rfl hdg fun H1 e z oq => ?_
  refine kk H1 _ (q_wr (σ' := q_sr σ a i.toNatClampNeg v) (h' := h) hW h0 hq (hW.2.1.set (q_D hW _) hq (e := .inl (cy (n + 2), q_len σ a, .inr (.inr (.inr (.inr (va_up (fun k => q_op (q_ref σ a k)) i.toNatClampNeg (some v))))))) ?_ oq) z rfl rfl rfl (fun b hb => va_up_ne _ _ hb) (fun _ _ => rfl) (fun _ _ => rfl) ?_) (hS.put z oq (hW.2.2.2.2 a h0).1)
  · show H1[a]? = some (vp_cell _ _)
    rw [e]
    rw [vp_cell_q, vp_cell_q, arrV_store]
    congr 2
    funext q
    by_cases hq : q = i.toNatClampNeg
    · subst hq
      simp [updV, va_up, va_rf]
    · simp [updV, va_up, hq]
  · rw [q_cell_refs (c := n) (show q_tag (q_sr σ a i.toNatClampNeg v) a = n + 9 from ht1)]
    have hvn : v ≠ 0 := q_nz hW hv0
    have : (fun k => q_op (q_ref (q_sr σ a i.toNatClampNeg v) a k)) = va_up (fun k => q_op (q_ref σ a k)) i.toNatClampNeg (some v) := by
      funext k
      by_cases hk : k = i.toNatClampNeg
      · simp [q_sr, q_ref, va_up, hk, q_op, hvn]
      · simp [q_sr, q_ref, va_up, hk]
    rw [this]
    rfl
end QP
end
section
/-! straight stretches of code, run by a function -/
/-- where a method stands: place, locals, stack, numbers of the memory -/
abbrev q_Cf : Type := Nat × List (Nat × Value) × List Value × q_Hp
def V (p : Program) (l : Launch) (e : Env) (R : Room) (s : State) (m : MethodId) (args : Array Value) (below : List Frame) (meth : Method) (c : Code) (Q : State → Prop) (D : va_G) (cy : Nat → Nat) (b0 nL mc ms kc ks : Nat) (σ : q_St) (h : q_Hp) (pc : Nat) (lv : List (Nat × Value)) (st : List Value) : Prop :=
  ∀ (H : Heap) (locs : List Loc) (cells slots : Nat) (ls : Array Slot), q_HW D cy b0 σ h H → va_S (fun q => b0 ≤ q) s.heap H locs → lv_has ls nL lv → cells + kc ≤ mc → slots + ks ≤ ms → W p l e R s m args below meth c H locs cells slots Q (F0 m pc ls st)
/-- the words of nest mates' calls -/
def q_NW (U : State) : Prop := ∀ (a : String) (i : Nat) (x : MethodName) (hh : String), Cond.methodLinkNest a i x hh ∈ lw_tbl → va_Nw (.methodLinkNest a i x hh) U
theorem q_NW.warm {s U : State} (hW : s.WarmedH U.vm) (h : q_NW s) : q_NW U := fun a i x hh hm => va_Nw.warmM hW (h a i x hh hm)
theorem q_NW.same {s U : State} (hv : s.vm = U.vm) (h : q_NW s) : q_NW U := fun a i x hh hm => va_Nw.same rfl hv (h a i x hh hm)
theorem q_nst {w : Cond} (i : Nat) (h : tables_1[i]? = some w) : w ∈ lw_tbl := List.mem_append_right _ (List.mem_of_getElem? h)
/-- what a method's walk rests on -/
def VC (p : Program) (R : Room) (s : State) (m : MethodId) (args : Array Value) (meth : Method) (c : Code) (D : va_G) (cy : Nat → Nat) (b0 nL mc ms : Nat) (own : String) (cc : ByteArray) : Prop :=
  p.tables.exec = Jvm.exec ∧ c.code = cc ∧ c.maxLocals = nL ∧ s.vm.findClass own = some m.cls ∧ (∀ w ∈ q_tbl, w.before args s = true) ∧ va_K D vwCl (q_tys cy) s ∧ mc ≤ R.cells ∧ ms ≤ R.slots ∧ b0 ≤ s.heap.size ∧ q_NW s
def q_lk {α : Type} : List (Nat × α) → Nat → Option α
  | [], _ => none
  | (j, v) :: t, i => bif Nat.beq j i then some v else q_lk t i
theorem q_lk_mem {α : Type} : ∀ {l : List (Nat × α)} {i : Nat} {v : α}, q_lk l i = some v → (i, v) ∈ l
  | [], _, _, h => by simp [q_lk] at h
  | (j, w) :: t, i, v, h => by
    unfold q_lk at h
    cases hb : Nat.beq j i with
    | true =>
      rw [hb] at h
      have hj : j = i := Nat.eq_of_beq_eq_true hb
      have hw : w = v := by simpa using h
      rw [hj, hw]
      exact List.mem_cons_self
    | false =>
      rw [hb] at h
      exact List.mem_cons_of_mem _ (q_lk_mem (by simpa using h))
/-- a method's tables: its code, its class's fields and constants -/
abbrev q_Cd : Type := List (Nat × Instr)
abbrev q_Tb : Type := List (Nat × Nat × Nat) × List (Nat × Int32) × List (Nat × Int64)
/-- how long an instruction is (switches apart) -/
def q_il : Instr → Nat
  | .iload _ | .lload _ | .aload _ | .istore _ | .lstore _ | .astore _ | .bipush _ | .ldc _ | .newarray _ => 2
  | .sipush _ | .ldc_w _ | .ldc2_w _ | .iinc _ _ | .goto _ | .getfield _ | .putfield _ | .ifCond _ _ | .if_icmp _ _ | .ifnull _ | .ifnonnull _ | .invokevirtual _ | .invokestatic _ | .invokespecial _ | .new _ | .anewarray _ => 3
  | _ => 1
def q_cok (cc : ByteArray) (cd : q_Cd) : Prop := ∀ x ∈ cd, decode cc x.1 = .ok (x.2, q_il x.2)
def q_tok (own : String) (T : q_Tb) : Prop := (∀ x ∈ T.1, q_fok own x) ∧ (∀ x ∈ T.2.1, Cond.constant own x.1 x.2 ∈ q_tbl) ∧ ∀ x ∈ T.2.2, Cond.constantLong own x.1 x.2 ∈ q_tbl
def q_set1 (n : Nat) (v : Value) (lv : List (Nat × Value)) : List (Nat × Value) := (n, v) :: lv.filter (fun q => !(q.1 == n) && !(q.1 + 1 == n && q.2.category == 2))
def q_set2 (n : Nat) (v : Value) (lv : List (Nat × Value)) : List (Nat × Value) := (n, v) :: lv.filter (fun q => !(q.1 == n) && (!(q.1 == n + 1) && !(q.1 + 1 == n && q.2.category == 2)))
abbrev q_Re : Type := Option (q_Cf × Option Prop)
def q_go (pc : Nat) (lv : List (Nat × Value)) (h : q_Hp) (st : List Value) : q_Re := some ((pc, lv, st, h), none)
def q_gd (pc : Nat) (lv : List (Nat × Value)) (h : q_Hp) (st : List Value) (g : Prop) : q_Re := some ((pc, lv, st, h), some g)
def q_bi (pc : Nat) (lv : List (Nat × Value)) (h : q_Hp) (st : List Value) (f : Int32 → Int32 → Int32) : q_Re := match st with
  | .int y :: .int x :: r => q_go pc lv h (.int (f x y) :: r)
  | _ => none
def q_bl (pc : Nat) (lv : List (Nat × Value)) (h : q_Hp) (st : List Value) (f : Int64 → Int64 → Int64) : q_Re := match st with
  | .long y :: .long x :: r => q_go pc lv h (.long (f x y) :: r)
  | _ => none
def q_ui (pc : Nat) (lv : List (Nat × Value)) (h : q_Hp) (st : List Value) (f : Int32 → Value) : q_Re := match st with
  | .int x :: r => q_go pc lv h (f x :: r)
  | _ => none
def q_ld (pc : Nat) (lv : List (Nat × Value)) (h : q_Hp) (st : List Value) (i : Nat) (t : Nat) : q_Re := match q_lk lv i, t with
  | some (.int x), 0 => q_go pc lv h (.int x :: st)
  | some (.long x), 1 => q_go pc lv h (.long x :: st)
  | some (.ref x), 2 => q_go pc lv h (.ref x :: st)
  | some .null, 2 => q_go pc lv h (.null :: st)
  | _, _ => none
def q_stt (nL pc : Nat) (lv : List (Nat × Value)) (h : q_Hp) (st : List Value) (i : Nat) (t : Nat) : q_Re := match st, t with
  | .int x :: r, 0 => bif Nat.blt i nL then q_go pc (q_set1 i (.int x) lv) h r else none
  | .long x :: r, 1 => bif Nat.blt (i + 1) nL then q_go pc (q_set2 i (.long x) lv) h r else none
  | .ref x :: r, 2 => bif Nat.blt i nL then q_go pc (q_set1 i (.ref x) lv) h r else none
  | .null :: r, 2 => bif Nat.blt i nL then q_go pc (q_set1 i .null lv) h r else none
  | _, _ => none
/-- a written number -/
def q_c : Int → Int32
  | .ofNat k => @OfNat.ofNat Int32 k _
  | .negSucc k => -(@OfNat.ofNat Int32 (k + 1) _)
theorem q_c_eq (n : Int) : Int32.ofInt n = q_c n := by
  cases n with
  | ofNat k => rfl
  | negSucc k =>
    show Int32.ofInt (-((k + 1 : Nat) : Int)) = -(Int32.ofNat (k + 1))
    rw [Int32.ofInt_neg]
    rfl
theorem q_c8 {n : Int} (h : (decide (-128 ≤ n) && decide (n < 128)) = true) : (Int8.ofInt n).toInt32 = q_c n := by
  simp only [Bool.and_eq_true, decide_eq_true_eq] at h
  rw [← q_c_eq]
  apply Int32.toInt_inj.mp
  rw [Int8.toInt_toInt32, Int8.toInt_ofInt, Int32.toInt_ofInt]
  rw [Int.bmod_eq_of_le (by simp; omega) (by simp; omega), Int.bmod_eq_of_le (by simp; omega) (by simp; omega)]
theorem q_c16 {n : Int} (h : (decide (-32768 ≤ n) && decide (n < 32768)) = true) : (Int16.ofInt n).toInt32 = q_c n := by
  simp only [Bool.and_eq_true, decide_eq_true_eq] at h
  rw [← q_c_eq]
  apply Int32.toInt_inj.mp
  rw [Int16.toInt_toInt32, Int16.toInt_ofInt, Int32.toInt_ofInt]
  rw [Int.bmod_eq_of_le (by simp; omega) (by simp; omega), Int.bmod_eq_of_le (by simp; omega) (by simp; omega)]
example : q_c 5 = (5 : Int32) := rfl
example : q_c (-1) = (-1 : Int32) := rfl
/-- one instruction of a straight stretch: where it leads, what it asks -/
def q_ex (nL : Nat) (T : q_Tb) (σ : q_St) (i : Instr) (pc : Nat) (lv : List (Nat × Value)) (st : List Value) (h : q_Hp) : q_Re := match i with
  | .iload_n k => q_ld (pc + 1) lv h st k 0
  | .iload k => q_ld (pc + 2) lv h st k 0
  | .lload_n k => q_ld (pc + 1) lv h st k 1
  | .lload k => q_ld (pc + 2) lv h st k 1
  | .aload_n k => q_ld (pc + 1) lv h st k 2
  | .aload k => q_ld (pc + 2) lv h st k 2
  | .istore_n k => q_stt nL (pc + 1) lv h st k 0
  | .istore k => q_stt nL (pc + 2) lv h st k 0
  | .lstore_n k => q_stt nL (pc + 1) lv h st k 1
  | .lstore k => q_stt nL (pc + 2) lv h st k 1
  | .astore_n k => q_stt nL (pc + 1) lv h st k 2
  | .astore k => q_stt nL (pc + 2) lv h st k 2
  | .iconst n => q_go (pc + 1) lv h (.int (q_c n) :: st)
  | .bipush n => bif decide (-128 ≤ n) && decide (n < 128) then q_go (pc + 2) lv h (.int (q_c n) :: st) else none
  | .sipush n => bif decide (-32768 ≤ n) && decide (n < 32768) then q_go (pc + 3) lv h (.int (q_c n) :: st) else none
  | .lconst n => q_go (pc + 1) lv h (.long (Int64.ofNat (n : Nat)) :: st)
  | .ldc x => match q_lk T.2.1 x with
    | some v => q_go (pc + 2) lv h (.int v :: st)
    | none => none
  | .ldc_w x => match q_lk T.2.1 x with
    | some v => q_go (pc + 3) lv h (.int v :: st)
    | none => none
  | .ldc2_w x => match q_lk T.2.2 x with
    | some v => q_go (pc + 3) lv h (.long v :: st)
    | none => none
  | .iadd => q_bi (pc + 1) lv h st (fun x y => x + y)
  | .isub => q_bi (pc + 1) lv h st (fun x y => x - y)
  | .imul => q_bi (pc + 1) lv h st (fun x y => x * y)
  | .iand => q_bi (pc + 1) lv h st (fun x y => x &&& y)
  | .ior => q_bi (pc + 1) lv h st (fun x y => x ||| y)
  | .ixor => q_bi (pc + 1) lv h st (fun x y => x ^^^ y)
  | .ishl => q_bi (pc + 1) lv h st (fun x y => x <<< (y &&& 31))
  | .ishr => q_bi (pc + 1) lv h st (fun x y => x >>> (y &&& 31))
  | .iushr => q_bi (pc + 1) lv h st (fun x y => (Int32.toUInt32 x >>> (Int32.toUInt32 y &&& Int32.toUInt32 31)).toInt32)
  | .ladd => q_bl (pc + 1) lv h st (fun x y => x + y)
  | .lsub => q_bl (pc + 1) lv h st (fun x y => x - y)
  | .lmul => q_bl (pc + 1) lv h st (fun x y => x * y)
  | .idiv => match st with
    | .int y :: .int x :: r => q_gd (pc + 1) lv h (.int (x / y) :: r) (¬ y = 0)
    | _ => none
  | .irem => match st with
    | .int y :: .int x :: r => q_gd (pc + 1) lv h (.int (x - x / y * y) :: r) (¬ y = 0)
    | _ => none
  | .ldiv => match st with
    | .long y :: .long x :: r => q_gd (pc + 1) lv h (.long (x / y) :: r) (¬ y = 0)
    | _ => none
  | .lrem => match st with
    | .long y :: .long x :: r => q_gd (pc + 1) lv h (.long (x - x / y * y) :: r) (¬ y = 0)
    | _ => none
  | .i2l => q_ui (pc + 1) lv h st (fun x => .long x.toInt64)
  | .i2b => q_ui (pc + 1) lv h st (fun x => .int x.toInt8.toInt32)
  | .i2s => q_ui (pc + 1) lv h st (fun x => .int x.toInt16.toInt32)
  | .l2i => match st with
    | .long x :: r => q_go (pc + 1) lv h (.int x.toInt32 :: r)
    | _ => none
  | .lcmp => match st with
    | .long y :: .long x :: r => q_go (pc + 1) lv h (.int (lg_cmp x y) :: r)
    | _ => none
  | .iinc k n => match q_lk lv k with
    | some (.int x) => bif Nat.blt k nL then q_go (pc + 3) (q_set1 k (.int (x + q_c n)) lv) h st else none
    | _ => none
  | .goto off => match (pc : Int) + off with
    | .ofNat t => q_go t lv h st
    | _ => none
  | .ifnull off => match st with
    | .ref _ :: r => q_go (pc + 3) lv h r
    | .null :: r => match (pc : Int) + off with
      | .ofNat t => q_go t lv h r
      | _ => none
    | _ => none
  | .ifnonnull off => match st with
    | .null :: r => q_go (pc + 3) lv h r
    | .ref _ :: r => match (pc : Int) + off with
      | .ofNat t => q_go t lv h r
      | _ => none
    | _ => none
  | .dup => match st with
    | .int x :: r => q_go (pc + 1) lv h (.int x :: .int x :: r)
    | .ref x :: r => q_go (pc + 1) lv h (.ref x :: .ref x :: r)
    | _ => none
  | .dup2 => match st with
    | .int y :: .int x :: r => q_go (pc + 1) lv h (.int y :: .int x :: .int y :: .int x :: r)
    | .int y :: .ref x :: r => q_go (pc + 1) lv h (.int y :: .ref x :: .int y :: .ref x :: r)
    | _ => none
  | .pop => match st with
    | .int _ :: r => q_go (pc + 1) lv h r
    | .ref _ :: r => q_go (pc + 1) lv h r
    | _ => none
  | .getfield x => match q_lk T.1 x, st with
    | some (ci, k), .ref a :: r => match (q_lay ci)[k]? with
      | some true => q_gd (pc + 3) lv h (.ref (q_ref σ a k) :: r) (q_tag σ a = ci + 1 ∧ q_tag σ (q_ref σ a k) ≠ 0)
      | some false => q_gd (pc + 3) lv h (.int (q_int h a k) :: r) (q_tag σ a = ci + 1)
      | none => none
    | _, _ => none
  | .putfield x => match q_lk T.1 x, st with
    | some (ci, k), .int v :: .ref a :: r => match (q_lay ci)[k]?, ((q_cl ci).2.1 k).2.2.2 with
      | some false, false => bif q_isb ci k then q_gd (pc + 3) lv (q_si h a k v) r (q_tag σ a = ci + 1 ∧ (v = 0 ∨ v = 1)) else q_gd (pc + 3) lv (q_si h a k v) r (q_tag σ a = ci + 1)
      | _, _ => none
    | _, _ => none
  | .iaload => match st with
    | .int i :: .ref a :: r => q_gd (pc + 1) lv h (.int (q_int h a i.toNatClampNeg) :: r) (q_tag σ a = 7 ∧ vp_in i (q_len σ a))
    | _ => none
  | .laload => match st with
    | .int i :: .ref a :: r => q_gd (pc + 1) lv h (.long (q_lng h a i.toNatClampNeg) :: r) (q_tag σ a = 8 ∧ vp_in i (q_len σ a))
    | _ => none
  | .iastore => match st with
    | .int x :: .int i :: .ref a :: r => q_gd (pc + 1) lv (q_si h a i.toNatClampNeg x) r (q_tag σ a = 7 ∧ vp_in i (q_len σ a))
    | _ => none
  | .lastore => match st with
    | .long x :: .int i :: .ref a :: r => q_gd (pc + 1) lv (q_sj h a i.toNatClampNeg x) r (q_tag σ a = 8 ∧ vp_in i (q_len σ a))
    | _ => none
  | .arraylength => match st with
    | .ref a :: r => q_gd (pc + 1) lv h (.int (Int32.ofNat (q_len σ a)) :: r) (q_tag σ a = 7 ∨ q_tag σ a = 8 ∨ q_tag σ a = 9 ∨ q_tag σ a = 10)
    | _ => none
  | _ => none
end
section
/-! the function tells the truth -/
theorem q_lk_has {ls : Array Slot} {nL : Nat} {lv : List (Nat × Value)} (h : lv_has ls nL lv) {i : Nat} {v : Value} (hk : q_lk lv i = some v) : ls[i]? = some (.val v) := h.2.2 _ (q_lk_mem hk)
theorem q_ld_inv {pc : Nat} {lv : List (Nat × Value)} {h : q_Hp} {st : List Value} {i t : Nat} {r : q_Cf} {g : Option Prop} (hx : q_ld pc lv h st i t = some (r, g)) : ∃ v, q_lk lv i = some v ∧ r = (pc, lv, v :: st, h) ∧ g = none ∧ ((t = 0 ∧ ∃ x, v = .int x) ∨ (t = 1 ∧ ∃ x, v = .long x) ∨ (t = 2 ∧ ((∃ x, v = .ref x) ∨ v = .null))) := by
  unfold q_ld at hx
  split at hx <;> simp only [q_go, Option.some.injEq, Prod.mk.injEq, reduceCtorEq] at hx
  · next x hk => exact ⟨_, hk, hx.1.symm, hx.2.symm, Or.inl ⟨rfl, x, rfl⟩⟩
  · next x hk => exact ⟨_, hk, hx.1.symm, hx.2.symm, Or.inr (Or.inl ⟨rfl, x, rfl⟩)⟩
  · next x hk => exact ⟨_, hk, hx.1.symm, hx.2.symm, Or.inr (Or.inr ⟨rfl, Or.inl ⟨x, rfl⟩⟩)⟩
  · next hk => exact ⟨_, hk, hx.1.symm, hx.2.symm, Or.inr (Or.inr ⟨rfl, Or.inr rfl⟩)⟩
theorem q_bif_some {α : Type} {b : Bool} {x : Option α} {r : α} (h : (bif b then x else none) = some r) : b = true ∧ x = some r := by
  cases b
  · cases h
  · exact ⟨rfl, h⟩
theorem q_stt_inv {nL pc : Nat} {lv : List (Nat × Value)} {h : q_Hp} {st : List Value} {i t : Nat} {r : q_Cf} {g : Option Prop} (hx : q_stt nL pc lv h st i t = some (r, g)) : ∃ v st', st = v :: st' ∧ g = none ∧ ((t = 0 ∧ (∃ x, v = .int x) ∧ i < nL ∧ r = (pc, q_set1 i v lv, st', h)) ∨ (t = 1 ∧ (∃ x, v = .long x) ∧ i + 1 < nL ∧ r = (pc, q_set2 i v lv, st', h)) ∨ (t = 2 ∧ ((∃ x, v = .ref x) ∨ v = .null) ∧ i < nL ∧ r = (pc, q_set1 i v lv, st', h))) := by
  unfold q_stt at hx
  split at hx
  · obtain ⟨hb, hx⟩ := q_bif_some hx
    simp only [q_go, Option.some.injEq, Prod.mk.injEq] at hx
    exact ⟨_, _, rfl, hx.2.symm, Or.inl ⟨rfl, ⟨_, rfl⟩, Nat.blt_eq.mp hb, hx.1.symm⟩⟩
  · obtain ⟨hb, hx⟩ := q_bif_some hx
    simp only [q_go, Option.some.injEq, Prod.mk.injEq] at hx
    exact ⟨_, _, rfl, hx.2.symm, Or.inr (Or.inl ⟨rfl, ⟨_, rfl⟩, Nat.blt_eq.mp hb, hx.1.symm⟩)⟩
  · obtain ⟨hb, hx⟩ := q_bif_some hx
    simp only [q_go, Option.some.injEq, Prod.mk.injEq] at hx
    exact ⟨_, _, rfl, hx.2.symm, Or.inr (Or.inr ⟨rfl, Or.inl ⟨_, rfl⟩, Nat.blt_eq.mp hb, hx.1.symm⟩)⟩
  · obtain ⟨hb, hx⟩ := q_bif_some hx
    simp only [q_go, Option.some.injEq, Prod.mk.injEq] at hx
    exact ⟨_, _, rfl, hx.2.symm, Or.inr (Or.inr ⟨rfl, Or.inr rfl, Nat.blt_eq.mp hb, hx.1.symm⟩)⟩
  · cases hx
theorem q_bi_inv {pc : Nat} {lv : List (Nat × Value)} {h : q_Hp} {st : List Value} {f : Int32 → Int32 → Int32} {r : q_Cf} {g : Option Prop} (hx : q_bi pc lv h st f = some (r, g)) : ∃ y x st', st = .int y :: .int x :: st' ∧ r = (pc, lv, .int (f x y) :: st', h) ∧ g = none := by
  unfold q_bi at hx
  split at hx
  · simp only [q_go, Option.some.injEq, Prod.mk.injEq] at hx
    exact ⟨_, _, _, rfl, hx.1.symm, hx.2.symm⟩
  · cases hx
theorem q_bl_inv {pc : Nat} {lv : List (Nat × Value)} {h : q_Hp} {st : List Value} {f : Int64 → Int64 → Int64} {r : q_Cf} {g : Option Prop} (hx : q_bl pc lv h st f = some (r, g)) : ∃ y x st', st = .long y :: .long x :: st' ∧ r = (pc, lv, .long (f x y) :: st', h) ∧ g = none := by
  unfold q_bl at hx
  split at hx
  · simp only [q_go, Option.some.injEq, Prod.mk.injEq] at hx
    exact ⟨_, _, _, rfl, hx.1.symm, hx.2.symm⟩
  · cases hx
theorem q_ui_inv {pc : Nat} {lv : List (Nat × Value)} {h : q_Hp} {st : List Value} {f : Int32 → Value} {r : q_Cf} {g : Option Prop} (hx : q_ui pc lv h st f = some (r, g)) : ∃ x st', st = .int x :: st' ∧ r = (pc, lv, f x :: st', h) ∧ g = none := by
  unfold q_ui at hx
  split at hx
  · simp only [q_go, Option.some.injEq, Prod.mk.injEq] at hx
    exact ⟨_, _, rfl, hx.1.symm, hx.2.symm⟩
  · cases hx
theorem q_go_inv {pc : Nat} {lv : List (Nat × Value)} {h : q_Hp} {st : List Value} {r : q_Cf} {g : Option Prop} (hx : q_go pc lv h st = some (r, g)) : r = (pc, lv, st, h) ∧ g = none := by
  simp only [q_go, Option.some.injEq, Prod.mk.injEq] at hx
  exact ⟨hx.1.symm, hx.2.symm⟩
theorem q_gd_inv {pc : Nat} {lv : List (Nat × Value)} {h : q_Hp} {st : List Value} {r : q_Cf} {G : Prop} {g : Option Prop} (hx : q_gd pc lv h st G = some (r, g)) : r = (pc, lv, st, h) ∧ g = some G := by
  simp only [q_gd, Option.some.injEq, Prod.mk.injEq] at hx
  exact ⟨hx.1.symm, hx.2.symm⟩
section QX
variable {p : Program} {l : Launch} {e : Env} {R : Room} {s : State} {m : MethodId} {args : Array Value} {below : List Frame} {meth : Method} {c : Code} {Q : State → Prop} {D : va_G} {cy : Nat → Nat} {b0 nL mc ms kc ks : Nat} {σ : q_St} {h : q_Hp} {pc : Nat} {lv : List (Nat × Value)} {st : List Value} {own : String} {cc : ByteArray} {T : q_Tb}
def q_hold (g : Option Prop) : Prop := match g with
  | none => True
  | some G => G
theorem v_ex (C0 : VC p R s m args meth c D cy b0 nL mc ms own cc) (hT : q_tok own T) {i : Instr} (hd : decode cc pc = .ok (i, q_il i)) {r : q_Cf} {g : Option Prop} (hx : q_ex nL T σ i pc lv st h = some (r, g)) (hg : q_hold g)
    (kk : V p l e R s m args below meth c Q D cy b0 nL mc ms kc ks σ r.2.2.2 r.1 r.2.1 r.2.2.1) : V p l e R s m args below meth c Q D cy b0 nL mc ms kc ks σ h pc lv st := by
  obtain ⟨c1, c2, c3, c4, c5, c6, c7, c8, c9, c10⟩ := C0
  intro H locs cells slots ls hW hS hl h1 h2
  unfold q_ex at hx
  split at hx
  · obtain ⟨v, hk, rfl, rfl, ⟨-, x, rfl⟩ | ⟨h0, -⟩ | ⟨h0, -⟩⟩ := q_ld_inv hx
    · exact lv_iload_n c1 c2 hd rfl (q_lk_has hl hk) (kk H locs cells slots ls hW hS hl h1 h2)
    · exact absurd h0 (by decide)
    · exact absurd h0 (by decide)
  · obtain ⟨v, hk, rfl, rfl, ⟨-, x, rfl⟩ | ⟨h0, -⟩ | ⟨h0, -⟩⟩ := q_ld_inv hx
    · exact lv_iload c1 c2 hd (q_lk_has hl hk) (kk H locs cells slots ls hW hS hl h1 h2)
    · exact absurd h0 (by decide)
    · exact absurd h0 (by decide)
  · obtain ⟨v, hk, rfl, rfl, ⟨h0, -⟩ | ⟨-, x, rfl⟩ | ⟨h0, -⟩⟩ := q_ld_inv hx
    · exact absurd h0 (by decide)
    · exact lv_lload_n c1 c2 hd rfl (q_lk_has hl hk) (kk H locs cells slots ls hW hS hl h1 h2)
    · exact absurd h0 (by decide)
  · obtain ⟨v, hk, rfl, rfl, ⟨h0, -⟩ | ⟨-, x, rfl⟩ | ⟨h0, -⟩⟩ := q_ld_inv hx
    · exact absurd h0 (by decide)
    · exact lv_lload c1 c2 hd (q_lk_has hl hk) (kk H locs cells slots ls hW hS hl h1 h2)
    · exact absurd h0 (by decide)
  · obtain ⟨v, hk, rfl, rfl, ⟨h0, -⟩ | ⟨h0, -⟩ | ⟨-, ⟨x, rfl⟩ | rfl⟩⟩ := q_ld_inv hx
    · exact absurd h0 (by decide)
    · exact absurd h0 (by decide)
    · exact lv_aload_n c1 c2 hd rfl (q_lk_has hl hk) (kk H locs cells slots ls hW hS hl h1 h2)
    · exact lv_aload_nN c1 c2 hd rfl (q_lk_has hl hk) (kk H locs cells slots ls hW hS hl h1 h2)
  · obtain ⟨v, hk, rfl, rfl, ⟨h0, -⟩ | ⟨h0, -⟩ | ⟨-, ⟨x, rfl⟩ | rfl⟩⟩ := q_ld_inv hx
    · exact absurd h0 (by decide)
    · exact absurd h0 (by decide)
    · exact lv_aload c1 c2 hd (q_lk_has hl hk) (kk H locs cells slots ls hW hS hl h1 h2)
    · exact lv_aloadN c1 c2 hd (q_lk_has hl hk) (kk H locs cells slots ls hW hS hl h1 h2)
  · obtain ⟨v, st', rfl, rfl, ⟨-, ⟨x, rfl⟩, hn, rfl⟩ | ⟨h0, -⟩ | ⟨h0, -⟩⟩ := q_stt_inv hx
    · exact lv_istore_n c1 c2 hd rfl hl hn rfl (fun ls' hl' => kk H locs cells slots ls' hW hS hl' h1 h2)
    · exact absurd h0 (by decide)
    · exact absurd h0 (by decide)
  · obtain ⟨v, st', rfl, rfl, ⟨-, ⟨x, rfl⟩, hn, rfl⟩ | ⟨h0, -⟩ | ⟨h0, -⟩⟩ := q_stt_inv hx
    · exact lv_istore c1 c2 hd hl hn rfl (fun ls' hl' => kk H locs cells slots ls' hW hS hl' h1 h2)
    · exact absurd h0 (by decide)
    · exact absurd h0 (by decide)
  · obtain ⟨v, st', rfl, rfl, ⟨h0, -⟩ | ⟨-, ⟨x, rfl⟩, hn, rfl⟩ | ⟨h0, -⟩⟩ := q_stt_inv hx
    · exact absurd h0 (by decide)
    · exact lv_lstore_n c1 c2 hd rfl hl hn rfl (fun ls' hl' => kk H locs cells slots ls' hW hS hl' h1 h2)
    · exact absurd h0 (by decide)
  · obtain ⟨v, st', rfl, rfl, ⟨h0, -⟩ | ⟨-, ⟨x, rfl⟩, hn, rfl⟩ | ⟨h0, -⟩⟩ := q_stt_inv hx
    · exact absurd h0 (by decide)
    · exact lv_lstore c1 c2 hd hl hn rfl (fun ls' hl' => kk H locs cells slots ls' hW hS hl' h1 h2)
    · exact absurd h0 (by decide)
  · obtain ⟨v, st', rfl, rfl, ⟨h0, -⟩ | ⟨h0, -⟩ | ⟨-, ⟨x, rfl⟩ | rfl, hn, rfl⟩⟩ := q_stt_inv hx
    · exact absurd h0 (by decide)
    · exact absurd h0 (by decide)
    · exact lv_astore_n c1 c2 hd rfl hl hn rfl (fun ls' hl' => kk H locs cells slots ls' hW hS hl' h1 h2)
    · exact lv_astore_nN c1 c2 hd rfl hl hn rfl (fun ls' hl' => kk H locs cells slots ls' hW hS hl' h1 h2)
  · obtain ⟨v, st', rfl, rfl, ⟨h0, -⟩ | ⟨h0, -⟩ | ⟨-, ⟨x, rfl⟩ | rfl, hn, rfl⟩⟩ := q_stt_inv hx
    · exact absurd h0 (by decide)
    · exact absurd h0 (by decide)
    · exact lv_astore c1 c2 hd hl hn rfl (fun ls' hl' => kk H locs cells slots ls' hW hS hl' h1 h2)
    · exact lv_astoreN c1 c2 hd hl hn rfl (fun ls' hl' => kk H locs cells slots ls' hW hS hl' h1 h2)
  · obtain ⟨rfl, rfl⟩ := q_go_inv hx
    exact lv_iconst c1 c2 hd (q_c_eq _) (kk H locs cells slots ls hW hS hl h1 h2)
  · obtain ⟨hb, hx⟩ := q_bif_some hx
    obtain ⟨rfl, rfl⟩ := q_go_inv hx
    exact lv_bipush c1 c2 hd (q_c8 hb) (kk H locs cells slots ls hW hS hl h1 h2)
  · obtain ⟨hb, hx⟩ := q_bif_some hx
    obtain ⟨rfl, rfl⟩ := q_go_inv hx
    exact lv_sipush c1 c2 hd (q_c16 hb) (kk H locs cells slots ls hW hS hl h1 h2)
  · obtain ⟨rfl, rfl⟩ := q_go_inv hx
    exact lv_lconst c1 c2 hd rfl (kk H locs cells slots ls hW hS hl h1 h2)
  · split at hx
    · next v hv =>
      obtain ⟨rfl, rfl⟩ := q_go_inv hx
      exact lv_ldc c1 c2 c4 (c5 _ (hT.2.1 _ (q_lk_mem hv))) hd (kk H locs cells slots ls hW hS hl h1 h2)
    · cases hx
  · split at hx
    · next v hv =>
      obtain ⟨rfl, rfl⟩ := q_go_inv hx
      exact lv_ldcw c1 c2 c4 (c5 _ (hT.2.1 _ (q_lk_mem hv))) hd (kk H locs cells slots ls hW hS hl h1 h2)
    · cases hx
  · split at hx
    · next v hv =>
      obtain ⟨rfl, rfl⟩ := q_go_inv hx
      exact lv_ldc2 c1 c2 c4 (c5 _ (hT.2.2 _ (q_lk_mem hv))) hd (kk H locs cells slots ls hW hS hl h1 h2)
    · cases hx
  · obtain ⟨y, x, st', rfl, rfl, rfl⟩ := q_bi_inv hx
    exact lv_iadd c1 c2 hd (kk H locs cells slots ls hW hS hl h1 h2)
  · obtain ⟨y, x, st', rfl, rfl, rfl⟩ := q_bi_inv hx
    exact lv_isub c1 c2 hd (kk H locs cells slots ls hW hS hl h1 h2)
  · obtain ⟨y, x, st', rfl, rfl, rfl⟩ := q_bi_inv hx
    exact lv_imul c1 c2 hd (kk H locs cells slots ls hW hS hl h1 h2)
  · obtain ⟨y, x, st', rfl, rfl, rfl⟩ := q_bi_inv hx
    exact lv_iand c1 c2 hd (kk H locs cells slots ls hW hS hl h1 h2)
  · obtain ⟨y, x, st', rfl, rfl, rfl⟩ := q_bi_inv hx
    exact lv_ior c1 c2 hd (kk H locs cells slots ls hW hS hl h1 h2)
  · obtain ⟨y, x, st', rfl, rfl, rfl⟩ := q_bi_inv hx
    exact lv_ixor c1 c2 hd (kk H locs cells slots ls hW hS hl h1 h2)
  · obtain ⟨y, x, st', rfl, rfl, rfl⟩ := q_bi_inv hx
    exact lv_ishl c1 c2 hd (kk H locs cells slots ls hW hS hl h1 h2)
  · obtain ⟨y, x, st', rfl, rfl, rfl⟩ := q_bi_inv hx
    exact lv_ishr c1 c2 hd (kk H locs cells slots ls hW hS hl h1 h2)
  · obtain ⟨y, x, st', rfl, rfl, rfl⟩ := q_bi_inv hx
    exact lv_iushr c1 c2 hd rfl (kk H locs cells slots ls hW hS hl h1 h2)
  · obtain ⟨y, x, st', rfl, rfl, rfl⟩ := q_bl_inv hx
    exact lv_ladd c1 c2 hd (kk H locs cells slots ls hW hS hl h1 h2)
  · obtain ⟨y, x, st', rfl, rfl, rfl⟩ := q_bl_inv hx
    exact lv_lsub c1 c2 hd (kk H locs cells slots ls hW hS hl h1 h2)
  · obtain ⟨y, x, st', rfl, rfl, rfl⟩ := q_bl_inv hx
    exact lv_lmul c1 c2 hd (kk H locs cells slots ls hW hS hl h1 h2)
  · split at hx
    · obtain ⟨rfl, rfl⟩ := q_gd_inv hx
      exact lv_idiv c1 c2 hd hg (kk H locs cells slots ls hW hS hl h1 h2)
    · cases hx
  · split at hx
    · obtain ⟨rfl, rfl⟩ := q_gd_inv hx
      exact lv_irem c1 c2 hd hg (kk H locs cells slots ls hW hS hl h1 h2)
    · cases hx
  · split at hx
    · obtain ⟨rfl, rfl⟩ := q_gd_inv hx
      exact lv_ldiv c1 c2 hd hg (kk H locs cells slots ls hW hS hl h1 h2)
    · cases hx
  · split at hx
    · obtain ⟨rfl, rfl⟩ := q_gd_inv hx
      exact lv_lrem c1 c2 hd hg (kk H locs cells slots ls hW hS hl h1 h2)
    · cases hx
  · obtain ⟨x, st', rfl, rfl, rfl⟩ := q_ui_inv hx
    exact lv_i2l c1 c2 hd rfl (kk H locs cells slots ls hW hS hl h1 h2)
  · obtain ⟨x, st', rfl, rfl, rfl⟩ := q_ui_inv hx
    exact lv_i2b c1 c2 hd rfl (kk H locs cells slots ls hW hS hl h1 h2)
  · obtain ⟨x, st', rfl, rfl, rfl⟩ := q_ui_inv hx
    exact lv_i2s c1 c2 hd rfl (kk H locs cells slots ls hW hS hl h1 h2)
  · split at hx
    · obtain ⟨rfl, rfl⟩ := q_go_inv hx
      exact lv_l2i c1 c2 hd rfl (kk H locs cells slots ls hW hS hl h1 h2)
    · cases hx
  · split at hx
    · obtain ⟨rfl, rfl⟩ := q_go_inv hx
      exact W.lcmp c1 c2 hd (kk H locs cells slots ls hW hS hl h1 h2)
    · cases hx
  · split at hx
    · next x hk =>
      obtain ⟨hb, hx⟩ := q_bif_some hx
      obtain ⟨rfl, rfl⟩ := q_go_inv hx
      obtain ⟨k0, hk0⟩ := List.getElem?_of_mem (q_lk_mem hk)
      exact lv_iinc c1 c2 hd hl hk0 (by rw [q_c_eq]) (Nat.blt_eq.mp hb) rfl (fun ls' hl' => kk H locs cells slots ls' hW hS hl' h1 h2)
    · cases hx
  · split at hx
    · next t ht =>
      obtain ⟨rfl, rfl⟩ := q_go_inv hx
      exact lv_goto c1 c2 hd ht (kk H locs cells slots ls hW hS hl h1 h2)
    · cases hx
  · split at hx
    · obtain ⟨rfl, rfl⟩ := q_go_inv hx
      exact lv_ifnull c1 c2 hd (kk H locs cells slots ls hW hS hl h1 h2)
    · split at hx
      · next t ht =>
        obtain ⟨rfl, rfl⟩ := q_go_inv hx
        exact lv_ifnullN c1 c2 hd ht (kk H locs cells slots ls hW hS hl h1 h2)
      · cases hx
    · cases hx
  · split at hx
    · obtain ⟨rfl, rfl⟩ := q_go_inv hx
      exact lv_ifnonnullN c1 c2 hd (kk H locs cells slots ls hW hS hl h1 h2)
    · split at hx
      · next t ht =>
        obtain ⟨rfl, rfl⟩ := q_go_inv hx
        exact lv_ifnonnull c1 c2 hd ht (kk H locs cells slots ls hW hS hl h1 h2)
      · cases hx
    · cases hx
  · split at hx
    · obtain ⟨rfl, rfl⟩ := q_go_inv hx
      exact lv_dup c1 c2 hd rfl (kk H locs cells slots ls hW hS hl h1 h2)
    · obtain ⟨rfl, rfl⟩ := q_go_inv hx
      exact lv_dup c1 c2 hd rfl (kk H locs cells slots ls hW hS hl h1 h2)
    · cases hx
  · split at hx
    · obtain ⟨rfl, rfl⟩ := q_go_inv hx
      exact lv_dup2_11 c1 c2 hd rfl rfl (kk H locs cells slots ls hW hS hl h1 h2)
    · obtain ⟨rfl, rfl⟩ := q_go_inv hx
      exact lv_dup2_11 c1 c2 hd rfl rfl (kk H locs cells slots ls hW hS hl h1 h2)
    · cases hx
  · split at hx
    · obtain ⟨rfl, rfl⟩ := q_go_inv hx
      exact lv_pop c1 c2 hd rfl (kk H locs cells slots ls hW hS hl h1 h2)
    · obtain ⟨rfl, rfl⟩ := q_go_inv hx
      exact lv_pop c1 c2 hd rfl (kk H locs cells slots ls hW hS hl h1 h2)
    · cases hx
  · split at hx
    · next hk =>
      split at hx
      · next hy =>
        obtain ⟨rfl, rfl⟩ := q_gd_inv hx
        obtain ⟨g1, g2⟩ := hg
        refine x_getf c1 c2 c5 c4 c6 hW (hT.1 _ (q_lk_mem hk)) g1 hy hd ?_
        rw [if_pos rfl, q_rv_n (q_nz hW g2)]
        exact kk H locs cells slots ls hW hS hl h1 h2
      · next hy =>
        obtain ⟨rfl, rfl⟩ := q_gd_inv hx
        exact x_getf c1 c2 c5 c4 c6 hW (hT.1 _ (q_lk_mem hk)) hg hy hd (kk H locs cells slots ls hW hS hl h1 h2)
      · cases hx
    · cases hx
  · split at hx
    · next ci k v a r' hk =>
      split at hx
      · next hy hfin =>
        by_cases hq : q_isb ci k = true
        · rw [hq] at hx
          obtain ⟨rfl, rfl⟩ := q_gd_inv hx
          obtain ⟨g1, g2⟩ := hg
          exact x_puti c1 c2 c5 c4 c6 hW hS (hT.1 _ (q_lk_mem hk)) g1 (Or.inl hfin) hy (fun _ => g2) hd (fun H1 locs1 w1 w2 => kk H1 locs1 cells slots ls w1 w2 hl h1 h2)
        · have hq' : q_isb ci k = false := by simpa using hq
          rw [hq'] at hx
          obtain ⟨rfl, rfl⟩ := q_gd_inv hx
          exact x_puti c1 c2 c5 c4 c6 hW hS (hT.1 _ (q_lk_mem hk)) hg (Or.inl hfin) hy (fun z => absurd z hq) hd (fun H1 locs1 w1 w2 => kk H1 locs1 cells slots ls w1 w2 hl h1 h2)
      · cases hx
    · cases hx
  · split at hx
    · obtain ⟨rfl, rfl⟩ := q_gd_inv hx
      exact x_iald c1 c2 c6 hW hg.1 hg.2 hd (kk H locs cells slots ls hW hS hl h1 h2)
    · cases hx
  · split at hx
    · obtain ⟨rfl, rfl⟩ := q_gd_inv hx
      exact x_lald c1 c2 c6 hW hg.1 hg.2 hd (kk H locs cells slots ls hW hS hl h1 h2)
    · cases hx
  · split at hx
    · obtain ⟨rfl, rfl⟩ := q_gd_inv hx
      exact x_iast c1 c2 c6 hW hS hg.1 hg.2 hd (fun H1 locs1 w1 w2 => kk H1 locs1 cells slots ls w1 w2 hl h1 h2)
    · cases hx
  · split at hx
    · obtain ⟨rfl, rfl⟩ := q_gd_inv hx
      exact x_last c1 c2 c6 hW hS hg.1 hg.2 hd (fun H1 locs1 w1 w2 => kk H1 locs1 cells slots ls w1 w2 hl h1 h2)
    · cases hx
  · split at hx
    · obtain ⟨rfl, rfl⟩ := q_gd_inv hx
      exact x_alen c1 c2 c6 hW hg hd (kk H locs cells slots ls hW hS hl h1 h2)
    · cases hx
  · cases hx
/-- n instructions of a straight stretch: where they lead, and all that they ask -/
def q_run (nL : Nat) (T : q_Tb) (cd : q_Cd) (σ : q_St) : Nat → Nat → List (Nat × Value) → List Value → q_Hp → Option (q_Cf × Prop)
  | 0, pc, lv, st, h => some ((pc, lv, st, h), True)
  | n + 1, pc, lv, st, h => match q_lk cd pc with
    | some i => match q_ex nL T σ i pc lv st h with
      | some (r, none) => q_run nL T cd σ n r.1 r.2.1 r.2.2.1 r.2.2.2
      | some (r, some g) => match q_run nL T cd σ n r.1 r.2.1 r.2.2.1 r.2.2.2 with
        | some (z, G) => some (z, g ∧ G)
        | none => none
      | none => none
    | none => none
theorem v_run (C0 : VC p R s m args meth c D cy b0 nL mc ms own cc) (hT : q_tok own T) {cd : q_Cd} (hc : q_cok cc cd) {pc' : Nat} {lv' : List (Nat × Value)} {st' : List Value} {h' : q_Hp} : ∀ (n : Nat) {pc : Nat} {lv : List (Nat × Value)} {st : List Value} {h : q_Hp} {G : Prop}, q_run nL T cd σ n pc lv st h = some ((pc', lv', st', h'), G) → G → V p l e R s m args below meth c Q D cy b0 nL mc ms kc ks σ h' pc' lv' st' → V p l e R s m args below meth c Q D cy b0 nL mc ms kc ks σ h pc lv st
  | 0, pc, lv, st, h, G, hx, hg, kk => by
    simp only [q_run, Option.some.injEq, Prod.mk.injEq] at hx
    obtain ⟨⟨rfl, rfl, rfl, rfl⟩, -⟩ := hx
    exact kk
  | n + 1, pc, lv, st, h, G, hx, hg, kk => by
    unfold q_run at hx
    split at hx
    · next i hi =>
      have hd := hc _ (q_lk_mem hi)
      split at hx
      · next r hr => exact v_ex C0 hT hd hr trivial (v_run C0 hT hc n hx hg kk)
      · next r g hr =>
        split at hx
        · next z G1 hz =>
          simp only [Option.some.injEq, Prod.mk.injEq] at hx
          obtain ⟨rfl, rfl⟩ := hx
          exact v_ex C0 hT hd hr hg.1 (v_run C0 hT hc n hz hg.2 kk)
        · cases hx
      · cases hx
    · cases hx
end QX
end
section
/-! contracts, calls, branches, ends -/
noncomputable def q_gu {α : Type} (G : Prop) (X : Option α) : Option α := @ite _ G (Classical.propDecidable G) X none
theorem q_gu_t {α : Type} {G : Prop} {X : Option α} (h : G) : q_gu G X = X := if_pos h
theorem q_gu_o {α : Type} {G : Prop} {X : Option α} {o : α} (h : q_gu G X = some o) : G ∧ X = some o := by
  unfold q_gu at h
  split at h
  · next g => exact ⟨g, h⟩
  · cases h
theorem q_bd {α β : Type} {x : Option α} {f : α → Option β} {o : β} (h : x.bind f = some o) : ∃ r, x = some r ∧ f r = some o := by
  cases x with
  | none => cases h
  | some r => exact ⟨r, rfl, h⟩
def q_Pc (D : va_G) (cy : Nat → Nat) (b0 : Nat) (σ : q_St) (h : q_Hp) (as : List Value) : Array Value → State → Prop := va_Pc as (fun U => q_HW D cy b0 σ h U.heap ∧ va_K D vwCl (q_tys cy) U ∧ q_NW U)
def q_Qc (D : va_G) (cy : Nat → Nat) (b0 : Nat) (r : Option Value) (σ : q_St) (h : q_Hp) : Array Value → State → Outcome → State → Prop := fun _ st o t => o = .returned r ∧ q_HW D cy b0 σ h t.heap ∧ va_F (fun q => b0 ≤ q) st t
/-- a method's contract: from the memory (σ, h), with the arguments as, it answers r and leaves (σ', h') -/
def q_M (l : Launch) (y : MethodName) (bytes : ByteArray) (maxL : Nat) (ret : Option FieldType) (fr lo mc ms : Nat) (D : va_G) (cy : Nat → Nat) (b0 : Nat) (σ : q_St) (h : q_Hp) (as : List Value) (r : Option Value) (σ' : q_St) (h' : q_Hp) : Prop :=
  Met l y (Cond.code y bytes maxL ret :: q_tbl) { frames := fr, cells := mc, slots := ms, locals := lo } (q_Pc D cy b0 σ h as) (q_Qc D cy b0 r σ' h') mc ms (fun q => b0 ≤ q)
theorem q_blind (D : va_G) (cy : Nat → Nat) (b0 : Nat) (σ : q_St) (h : q_Hp) (as : List Value) : FrameBlind (q_Pc D cy b0 σ h as) := fun a U g mk q => by
  obtain ⟨q0, q1, q2, q3⟩ := q
  exact ⟨q0, q1, va_K.moved (u := U) (U := U.calling g mk a) (Vm.Alike.refl U.vm) q2, q3.same rfl⟩
theorem q_good {ws : List Cond} (h : ∀ w ∈ ws, w ∈ q_tbl) : GoodIn q_tbl ws := fun w hw => ⟨h w hw, good_of_word (List.all_eq_true.mp q_tbl_good w (h w hw))⟩
theorem q_enter {l : Launch} {y : MethodName} {bytes : ByteArray} {maxL : Nat} {ret : Option FieldType} {fr lo mc ms : Nat} {D : va_G} {cy : Nat → Nat} {b0 : Nat} {σ : q_St} {h : q_Hp} {as : List Value} {r : Option Value} {σ' : q_St} {h' : q_Hp} (hy : plainName y.cls = true) (hlen : (lg_sl as).length ≤ maxL)
    (body : ∀ (p : Program) (e : Env) (s : State) (m : MethodId) (args : Array Value) (below : List Frame) (meth : Method) (c : Code), VC p { frames := fr, cells := mc, slots := ms, locals := lo } s m args meth c D cy b0 maxL mc ms y.cls bytes → meth.sig.returnType = ret → meth.locks = false → meth.name = y.name →
      V p l e { frames := fr, cells := mc, slots := ms, locals := lo } s m args below meth c (MQ below (q_Qc D cy b0 r σ' h') args s mc ms (fun q => b0 ≤ q)) D cy b0 maxL mc ms mc ms σ h 0 (lv_args 0 as) []) : q_M l y bytes maxL ret fr lo mc ms D cy b0 σ h as r σ' h' := by
  refine Met.ofW (cc := bytes) (maxL := maxL) (ret := ret) hy rfl ?_
  intro p e s m args below meth c s₁ B hml hv
  obtain ⟨rfl, hW, hK, hN⟩ := hv
  have hts := atoms_spec (ws := Cond.code y bytes maxL ret :: q_tbl) B.pre
  have hb0 : b0 ≤ s.heap.size := by rw [hW.1]; exact hW.2.2.2.1
  rw [lg_entry_eq]
  exact body p e s m _ below meth c ⟨B.exec, B.bytes, hml, findClass_of_methodNamed B.named, fun w hw => hts w (List.mem_cons_of_mem _ hw), hK, Nat.le_refl _, Nat.le_refl _, hb0, hN⟩ B.returns B.notSynchronized (name_of_methodNamed B.named B.method).1 s.heap [] 0 0 _ hW va_S.rf (lv_entry as hlen) (by omega) (by omega)
/-- what the tables say of a callee -/
def q_cal (y : MethodName) (bytes : ByteArray) (maxL : Nat) (ret : Option FieldType) : Prop := Cond.initialized y.cls ∈ q_tbl ∧ Cond.code y bytes maxL ret ∈ q_tbl ∧ y.cls ≠ "java/lang/invoke/MethodHandle" ∧ y.cls ≠ "java/lang/invoke/VarHandle"
theorem q_dec {cc : ByteArray} {cd : q_Cd} (hc : q_cok cc cd) {pc : Nat} {i : Instr} (hi : q_lk cd pc = some i) : decode cc pc = .ok (i, q_il i) := hc (pc, i) (q_lk_mem hi)
section QR
variable {p : Program} {l : Launch} {e : Env} {R : Room} {s : State} {m : MethodId} {args : Array Value} {below : List Frame} {meth : Method} {c : Code} {Q : State → Prop} {D : va_G} {cy : Nat → Nat} {b0 nL mc ms kc ks : Nat} {σ : q_St} {h : q_Hp} {pc : Nat} {lv : List (Nat × Value)} {st : List Value} {own : String} {cc : ByteArray} {cd : q_Cd}
theorem v_sub (lv' : List (Nat × Value)) (hl : ∀ q ∈ lv', q ∈ lv) (kk : V p l e R s m args below meth c Q D cy b0 nL mc ms kc ks σ h pc lv' st) : V p l e R s m args below meth c Q D cy b0 nL mc ms kc ks σ h pc lv st := fun H locs cells slots ls hW hS hl0 h1 h2 => kk H locs cells slots ls hW hS ⟨hl0.1, hl0.2.1, fun q hq => hl0.2.2 q (hl q hq)⟩ h1 h2
theorem v_pick (is : List Nat) {lv' : List (Nat × Value)} (hl : lv_pick lv is = lv') (kk : V p l e R s m args below meth c Q D cy b0 nL mc ms kc ks σ h pc lv' st) : V p l e R s m args below meth c Q D cy b0 nL mc ms kc ks σ h pc lv st := fun H locs cells slots ls hW hS hl0 h1 h2 => kk H locs cells slots ls hW hS (lv_sub hl0 is hl) h1 h2
theorem v_less {kc' ks' : Nat} (h1 : kc' ≤ kc) (h2 : ks' ≤ ks) (kk : V p l e R s m args below meth c Q D cy b0 nL mc ms kc' ks' σ h pc lv st) : V p l e R s m args below meth c Q D cy b0 nL mc ms kc ks σ h pc lv st := fun H locs cells slots ls hW hS hl0 g1 g2 => kk H locs cells slots ls hW hS hl0 (by omega) (by omega)
theorem v_iret (C0 : VC p R s m args meth c D cy b0 nL mc ms own cc) (hc : q_cok cc cd) (hr : meth.sig.returnType = some .int) (hlk : meth.locks = false) (hi : q_lk cd pc = some .ireturn) {x : Int32} : V p l e R s m args below meth c (MQ below (q_Qc D cy b0 (some (.int x)) σ h) args s mc ms (fun q => b0 ≤ q)) D cy b0 nL mc ms kc ks σ h pc lv [.int x] := by
  intro H locs cells slots ls hW hS hl h1 h2
  refine W.widen (k := mc) (n := ms) (by omega) (by omega) ?_
  exact W.iret C0.1 C0.2.1 hr (fun t ht hWm => ⟨rfl, by rw [ht]; exact hW, hS.F ht⟩) hS.2.2 (q_dec hc hi) hlk
theorem v_zret (C0 : VC p R s m args meth c D cy b0 nL mc ms own cc) (hc : q_cok cc cd) (hr : meth.sig.returnType = some .boolean) (hlk : meth.locks = false) (hi : q_lk cd pc = some .ireturn) {x : Int32} (hx : x = 0 ∨ x = 1) : V p l e R s m args below meth c (MQ below (q_Qc D cy b0 (some (.int x)) σ h) args s mc ms (fun q => b0 ≤ q)) D cy b0 nL mc ms kc ks σ h pc lv [.int x] := by
  intro H locs cells slots ls hW hS hl h1 h2
  refine W.widen (k := mc) (n := ms) (by omega) (by omega) ?_
  exact W.zret C0.1 C0.2.1 hr (by rcases hx with rfl | rfl <;> rfl) (fun t ht hWm => ⟨rfl, by rw [ht]; exact hW, hS.F ht⟩) hS.2.2 (q_dec hc hi) hlk
theorem v_lret (C0 : VC p R s m args meth c D cy b0 nL mc ms own cc) (hc : q_cok cc cd) (hr : meth.sig.returnType = some .long) (hlk : meth.locks = false) (hi : q_lk cd pc = some .lreturn) {x : Int64} : V p l e R s m args below meth c (MQ below (q_Qc D cy b0 (some (.long x)) σ h) args s mc ms (fun q => b0 ≤ q)) D cy b0 nL mc ms kc ks σ h pc lv [.long x] := by
  intro H locs cells slots ls hW hS hl h1 h2
  refine W.widen (k := mc) (n := ms) (by omega) (by omega) ?_
  exact W.lret C0.1 C0.2.1 hr (fun t ht hWm => ⟨rfl, by rw [ht]; exact hW, hS.F ht⟩) hS.2.2 (q_dec hc hi) hlk
theorem v_vret (C0 : VC p R s m args meth c D cy b0 nL mc ms own cc) (hc : q_cok cc cd) (hr : meth.sig.returnType = none) (hlk : meth.locks = false) (hi : q_lk cd pc = some .return_) : V p l e R s m args below meth c (MQ below (q_Qc D cy b0 none σ h) args s mc ms (fun q => b0 ≤ q)) D cy b0 nL mc ms kc ks σ h pc lv [] := by
  intro H locs cells slots ls hW hS hl h1 h2
  refine W.widen (k := mc) (n := ms) (by omega) (by omega) ?_
  exact W.vret C0.1 C0.2.1 hr (fun t ht hWm => ⟨rfl, by rw [ht]; exact hW, hS.F ht⟩) hS.2.2 (q_dec hc hi) hlk
theorem v_aret (C0 : VC p R s m args meth c D cy b0 nL mc ms own cc) (hc : q_cok cc cd) {n : String} (hr : meth.sig.returnType = some (.object n)) (hlk : meth.locks = false) (hi : q_lk cd pc = some .areturn) {x : Nat} : V p l e R s m args below meth c (MQ below (q_Qc D cy b0 (some (.ref x)) σ h) args s mc ms (fun q => b0 ≤ q)) D cy b0 nL mc ms kc ks σ h pc lv [.ref x] := by
  intro H locs cells slots ls hW hS hl h1 h2
  refine W.widen (k := mc) (n := ms) (by omega) (by omega) ?_
  exact W.aret C0.1 C0.2.1 hr (Or.inl ⟨n, rfl⟩) (Or.inr ⟨x, rfl⟩) (fun t ht hWm => ⟨rfl, by rw [ht]; exact hW, hS.F ht⟩) hS.2.2 (q_dec hc hi) hlk
/-- behind a call -/
theorem v_back {y : MethodName} {r : Option Value} {σ' : q_St} {h' : q_Hp} {mc' ms' kc' ks' : Nat} {rest : List Value} {a : Array Value} (hk1 : kc' + mc' ≤ kc) (hk2 : ks' + ms' ≤ ks)
    (hr : ∀ (H : Heap) (locs : List Loc) (cells slots : Nat) (ls : Array Slot), q_HW D cy b0 σ h H → lv_has ls nL lv → cells + mc' ≤ mc → slots + ms' ≤ ms → va_Run p l e R s m args below meth c H locs cells slots mc' ms' (F0 m pc ls st) rest (q_Qc D cy b0 r σ' h' a) (fun q => b0 ≤ q))
    (kk : V p l e R s m args below meth c Q D cy b0 nL mc ms kc' ks' σ' h' (pc + 3) lv (r.toList ++ rest)) : V p l e R s m args below meth c Q D cy b0 nL mc ms kc ks σ h pc lv st := by
  intro H locs cells slots ls hW hS hl h1 h2 T hT X
  obtain ⟨v, st₀, t, T', L, h0, X', hL, e1, e2, ⟨hv, hW', hF⟩, hst⟩ := hr H locs cells slots ls hW hl (by omega) (by omega) T hT X
  cases hv
  obtain ⟨hz, hkp⟩ := hF
  rw [h0] at hz hkp
  rw [← e1] at hz hkp hW'
  obtain ⟨t2, a1, b1⟩ := kk T'.heap (locs ++ L) (cells + mc') (slots + ms') ls hW' ⟨Nat.le_trans hS.1 hz, fun q g1 g2 => by rw [hkp q (Nat.lt_of_lt_of_le g1 hS.1) g2]; exact hS.2.1 q g1 g2, fun q hq => by
      rcases List.mem_append.mp hq with g | g
      · exact hS.2.2 q g
      · exact hL q g⟩ hl (by omega) (by omega) T' rfl X'
  exact ⟨t2, hst t2 a1, b1⟩
theorem v_callV (C0 : VC p R s m args meth c D cy b0 nL mc ms own cc) (hc : q_cok cc cd) {idx : Nat} (hi : q_lk cd pc = some (.invokevirtual idx)) {y : MethodName} {bytes : ByteArray} {maxL n : Nat} {ret : Option FieldType} {fr lo mc' ms' kc' ks' : Nat} {b : Nat} {as rest : List Value} {r : Option Value} {σ' : q_St} {h' : q_Hp}
    (hM : q_M l y bytes maxL ret fr lo mc' ms' D cy b0 σ h (.ref b :: as) r σ' h') (hy : q_cal y bytes maxL ret) (hlink : Cond.methodLink own idx y ∈ q_tbl) (hin : Cond.instanceMethod y ∈ q_tbl ∧ Cond.selects y.cls y y ∈ q_tbl) (hn : (parseMethodDescriptor y.desc).map (fun d => d.parameters.length) = some n) {ci : Nat} (hci : (vwCl[ci]?).map (fun q => q.1) = some y.cls ∧ ci < 6) (hb : q_tag σ b = ci + 1) (hst : st = as.reverse ++ .ref b :: rest) (has : as.length = n) (hR : fr + 1 ≤ R.frames ∧ 8 + (maxL + 11) + lo ≤ R.locals) (hw : (rest.map fun v => v.category).sum ≤ 8) (hk1 : kc' + mc' ≤ kc) (hk2 : ks' + ms' ≤ ks)
    (kk : V p l e R s m args below meth c Q D cy b0 nL mc ms kc' ks' σ' h' (pc + 3) lv (r.toList ++ rest)) : V p l e R s m args below meth c Q D cy b0 nL mc ms kc ks σ h pc lv st := by
  obtain ⟨c1, c2, c3, c4, c5, c6, c7, c8, c9, c10⟩ := C0
  subst hst
  refine v_back (y := y) (mc' := mc') (ms' := ms') (a := (Value.ref b :: as).toArray) hk1 hk2 (fun H locs cells slots ls hW hl h1 h2 => ?_) kk
  refine va_runV (As := as) (rest := rest) (b := b) (C := y.cls) ⟨c1, c2, c3, c4, c5⟩ hM (cwV n c5 (q_good ?_) rfl rfl rfl ⟨rfl, hy.2.2.1, hy.2.2.2, hn⟩ hR) ⟨q_blind D cy b0 σ h _, ?_, fun U hU hWm => ⟨rfl, by rw [hU]; exact hW, va_K.moved hWm.alike c6, c10.warm hWm⟩⟩ rfl has hl.1 rfl (lv_room hw) (q_dec hc hi) ⟨by omega, by omega⟩
  · intro w hw
    simp only [wsV, List.mem_append, List.mem_cons, List.not_mem_nil, or_false] at hw
    rcases hw with (rfl | rfl | rfl | rfl) | rfl | hw
    · exact hlink
    · exact hin.1
    · exact hin.2
    · exact hy.1
    · exact hy.2.1
    · exact hw
  · obtain ⟨q0, hq⟩ := q_at hW (a := b) (by rw [hb]; omega)
    rw [q_cell_obj hb hci.2] at hq
    obtain ⟨x, hx1, hx2⟩ := Option.map_eq_some_iff.mp hci.1
    obtain ⟨cell, g1, g2, g3⟩ := va_recv c6 hW.2.1 (ci := ci) hx1 hq
    exact ⟨cell, g1, g2, by rw [← hx2]; exact g3⟩
theorem v_callS (C0 : VC p R s m args meth c D cy b0 nL mc ms own cc) (hc : q_cok cc cd) {idx : Nat} (hi : q_lk cd pc = some (.invokestatic idx)) {y : MethodName} {bytes : ByteArray} {maxL n : Nat} {ret : Option FieldType} {fr lo mc' ms' kc' ks' : Nat} {as rest : List Value} {r : Option Value} {σ' : q_St} {h' : q_Hp}
    (hM : q_M l y bytes maxL ret fr lo mc' ms' D cy b0 σ h as r σ' h') (hy : q_cal y bytes maxL ret) (hlink : Cond.methodLink own idx y ∈ q_tbl) (hin : Cond.static y ∈ q_tbl) (hn : (parseMethodDescriptor y.desc).map (fun d => d.parameters.length) = some n) (hst : st = as.reverse ++ rest) (has : as.length = n) (hR : fr + 1 ≤ R.frames ∧ 8 + (maxL + 11) + lo ≤ R.locals) (hw : (rest.map fun v => v.category).sum ≤ 8) (hk1 : kc' + mc' ≤ kc) (hk2 : ks' + ms' ≤ ks)
    (kk : V p l e R s m args below meth c Q D cy b0 nL mc ms kc' ks' σ' h' (pc + 3) lv (r.toList ++ rest)) : V p l e R s m args below meth c Q D cy b0 nL mc ms kc ks σ h pc lv st := by
  obtain ⟨c1, c2, c3, c4, c5, c6, c7, c8, c9, c10⟩ := C0
  subst hst
  refine v_back (y := y) (mc' := mc') (ms' := ms') (a := as.toArray) hk1 hk2 (fun H locs cells slots ls hW hl h1 h2 => ?_) kk
  refine va_runS (As := as) (rest := rest) ⟨c1, c2, c3, c4, c5⟩ hM ⟨callB_of n c5 (q_good ?_) rfl rfl rfl (c5 _ hy.1) (c5 _ hlink) ⟨hy.2.2.1, hy.2.2.2, hn⟩ hR, c5 _ hin⟩ ⟨q_blind D cy b0 σ h _, fun U hU hWm => ⟨rfl, by rw [hU]; exact hW, va_K.moved hWm.alike c6, c10.warm hWm⟩⟩ rfl has hl.1 rfl (lv_room hw) (q_dec hc hi) ⟨by omega, by omega⟩
  intro w hw
  rcases List.mem_cons.mp hw with rfl | hw
  · exact hy.2.1
  · exact hw
/-- a static method of another class of the nest -/
theorem v_callSN (C0 : VC p R s m args meth c D cy b0 nL mc ms own cc) (hc : q_cok cc cd) {idx : Nat} (hi : q_lk cd pc = some (.invokestatic idx)) {y : MethodName} {host : String} {bytes : ByteArray} {maxL n : Nat} {ret : Option FieldType} {fr lo mc' ms' kc' ks' : Nat} {as rest : List Value} {r : Option Value} {σ' : q_St} {h' : q_Hp}
    (hM : q_M l y bytes maxL ret fr lo mc' ms' D cy b0 σ h as r σ' h') (hy : q_cal y bytes maxL ret) (hlink : Cond.methodLinkNest own idx y host ∈ lw_tbl) (hin : Cond.static y ∈ q_tbl) (hn : (parseMethodDescriptor y.desc).map (fun d => d.parameters.length) = some n) (hst : st = as.reverse ++ rest) (has : as.length = n) (hR : fr + 1 ≤ R.frames ∧ 8 + (maxL + 11) + lo ≤ R.locals) (hw : (rest.map fun v => v.category).sum ≤ 8) (hk1 : kc' + mc' ≤ kc) (hk2 : ks' + ms' ≤ ks)
    (kk : V p l e R s m args below meth c Q D cy b0 nL mc ms kc' ks' σ' h' (pc + 3) lv (r.toList ++ rest)) : V p l e R s m args below meth c Q D cy b0 nL mc ms kc ks σ h pc lv st := by
  obtain ⟨c1, c2, c3, c4, c5, c6, c7, c8, c9, c10⟩ := C0
  subst hst
  refine v_back (y := y) (mc' := mc') (ms' := ms') (a := as.toArray) hk1 hk2 (fun H locs cells slots ls hW hl h1 h2 => ?_) kk
  refine va_runSN (As := as) (rest := rest) (host := host) ⟨c1, c2, c3, c4, c5⟩ hM ⟨va_cnB n c5 (q_good ?_) rfl rfl rfl (c10 _ _ _ _ hlink) (c5 _ hy.1) ⟨hy.2.2.1, hy.2.2.2, hn⟩ hR, c5 _ hin, trivial⟩ ⟨q_blind D cy b0 σ h _, fun U hU hWm => ⟨rfl, by rw [hU]; exact hW, va_K.moved hWm.alike c6, c10.warm hWm⟩⟩ rfl has hl.1 rfl (lv_room hw) (q_dec hc hi) ⟨by omega, by omega⟩
  intro w hw
  rcases List.mem_cons.mp hw with rfl | hw
  · exact hy.2.1
  · exact hw
theorem v_icmp_eq (C0 : VC p R s m args meth c D cy b0 nL mc ms own cc) (hc : q_cok cc cd) {off : Int} (hi : q_lk cd pc = some (.if_icmp .eq off)) (tgt : Nat) (ht : (pc : Int) + off = (tgt : Int)) {x y : Int32} {α : Type} {A B : Option α} {o : α} (hf : (if x = y then A else B) = some o) (kt : x = y → A = some o → V p l e R s m args below meth c Q D cy b0 nL mc ms kc ks σ h tgt lv st) (kf : ¬ x = y → B = some o → V p l e R s m args below meth c Q D cy b0 nL mc ms kc ks σ h (pc + 3) lv st) : V p l e R s m args below meth c Q D cy b0 nL mc ms kc ks σ h pc lv (.int y :: .int x :: st) := fun H locs cells slots ls hW hS hl h1 h2 => lv_icmp_eq C0.1 C0.2.1 (q_dec hc hi) ht (fun q => kt q (by rw [if_pos q] at hf; exact hf) H locs cells slots ls hW hS hl h1 h2) (fun q => kf q (by rw [if_neg q] at hf; exact hf) H locs cells slots ls hW hS hl h1 h2)
theorem v_if_eq (C0 : VC p R s m args meth c D cy b0 nL mc ms own cc) (hc : q_cok cc cd) {off : Int} (hi : q_lk cd pc = some (.ifCond .eq off)) (tgt : Nat) (ht : (pc : Int) + off = (tgt : Int)) {x : Int32} {α : Type} {A B : Option α} {o : α} (hf : (if x = 0 then A else B) = some o) (kt : x = 0 → A = some o → V p l e R s m args below meth c Q D cy b0 nL mc ms kc ks σ h tgt lv st) (kf : ¬ x = 0 → B = some o → V p l e R s m args below meth c Q D cy b0 nL mc ms kc ks σ h (pc + 3) lv st) : V p l e R s m args below meth c Q D cy b0 nL mc ms kc ks σ h pc lv (.int x :: st) := fun H locs cells slots ls hW hS hl h1 h2 => lv_if_eq C0.1 C0.2.1 (q_dec hc hi) ht (fun q => kt q (by rw [if_pos q] at hf; exact hf) H locs cells slots ls hW hS hl h1 h2) (fun q => kf q (by rw [if_neg q] at hf; exact hf) H locs cells slots ls hW hS hl h1 h2)
theorem v_icmp_ne (C0 : VC p R s m args meth c D cy b0 nL mc ms own cc) (hc : q_cok cc cd) {off : Int} (hi : q_lk cd pc = some (.if_icmp .ne off)) (tgt : Nat) (ht : (pc : Int) + off = (tgt : Int)) {x y : Int32} {α : Type} {A B : Option α} {o : α} (hf : (if x = y then A else B) = some o) (kf : x = y → A = some o → V p l e R s m args below meth c Q D cy b0 nL mc ms kc ks σ h (pc + 3) lv st) (kt : ¬ x = y → B = some o → V p l e R s m args below meth c Q D cy b0 nL mc ms kc ks σ h tgt lv st) : V p l e R s m args below meth c Q D cy b0 nL mc ms kc ks σ h pc lv (.int y :: .int x :: st) := fun H locs cells slots ls hW hS hl h1 h2 => lv_icmp_ne C0.1 C0.2.1 (q_dec hc hi) ht (fun q => kt q (by rw [if_neg q] at hf; exact hf) H locs cells slots ls hW hS hl h1 h2) (fun q => kf q (by rw [if_pos q] at hf; exact hf) H locs cells slots ls hW hS hl h1 h2)
theorem v_if_ne (C0 : VC p R s m args meth c D cy b0 nL mc ms own cc) (hc : q_cok cc cd) {off : Int} (hi : q_lk cd pc = some (.ifCond .ne off)) (tgt : Nat) (ht : (pc : Int) + off = (tgt : Int)) {x : Int32} {α : Type} {A B : Option α} {o : α} (hf : (if x = 0 then A else B) = some o) (kf : x = 0 → A = some o → V p l e R s m args below meth c Q D cy b0 nL mc ms kc ks σ h (pc + 3) lv st) (kt : ¬ x = 0 → B = some o → V p l e R s m args below meth c Q D cy b0 nL mc ms kc ks σ h tgt lv st) : V p l e R s m args below meth c Q D cy b0 nL mc ms kc ks σ h pc lv (.int x :: st) := fun H locs cells slots ls hW hS hl h1 h2 => lv_if_ne C0.1 C0.2.1 (q_dec hc hi) ht (fun q => kt q (by rw [if_neg q] at hf; exact hf) H locs cells slots ls hW hS hl h1 h2) (fun q => kf q (by rw [if_pos q] at hf; exact hf) H locs cells slots ls hW hS hl h1 h2)
theorem v_icmp_lt (C0 : VC p R s m args meth c D cy b0 nL mc ms own cc) (hc : q_cok cc cd) {off : Int} (hi : q_lk cd pc = some (.if_icmp .lt off)) (tgt : Nat) (ht : (pc : Int) + off = (tgt : Int)) {x y : Int32} {α : Type} {A B : Option α} {o : α} (hf : (if x < y then A else B) = some o) (kt : x < y → A = some o → V p l e R s m args below meth c Q D cy b0 nL mc ms kc ks σ h tgt lv st) (kf : ¬ x < y → B = some o → V p l e R s m args below meth c Q D cy b0 nL mc ms kc ks σ h (pc + 3) lv st) : V p l e R s m args below meth c Q D cy b0 nL mc ms kc ks σ h pc lv (.int y :: .int x :: st) := fun H locs cells slots ls hW hS hl h1 h2 => lv_icmp_lt C0.1 C0.2.1 (q_dec hc hi) ht (fun q => kt q (by rw [if_pos q] at hf; exact hf) H locs cells slots ls hW hS hl h1 h2) (fun q => kf q (by rw [if_neg q] at hf; exact hf) H locs cells slots ls hW hS hl h1 h2)
theorem v_if_lt (C0 : VC p R s m args meth c D cy b0 nL mc ms own cc) (hc : q_cok cc cd) {off : Int} (hi : q_lk cd pc = some (.ifCond .lt off)) (tgt : Nat) (ht : (pc : Int) + off = (tgt : Int)) {x : Int32} {α : Type} {A B : Option α} {o : α} (hf : (if x < 0 then A else B) = some o) (kt : x < 0 → A = some o → V p l e R s m args below meth c Q D cy b0 nL mc ms kc ks σ h tgt lv st) (kf : ¬ x < 0 → B = some o → V p l e R s m args below meth c Q D cy b0 nL mc ms kc ks σ h (pc + 3) lv st) : V p l e R s m args below meth c Q D cy b0 nL mc ms kc ks σ h pc lv (.int x :: st) := fun H locs cells slots ls hW hS hl h1 h2 => lv_if_lt C0.1 C0.2.1 (q_dec hc hi) ht (fun q => kt q (by rw [if_pos q] at hf; exact hf) H locs cells slots ls hW hS hl h1 h2) (fun q => kf q (by rw [if_neg q] at hf; exact hf) H locs cells slots ls hW hS hl h1 h2)
theorem v_icmp_ge (C0 : VC p R s m args meth c D cy b0 nL mc ms own cc) (hc : q_cok cc cd) {off : Int} (hi : q_lk cd pc = some (.if_icmp .ge off)) (tgt : Nat) (ht : (pc : Int) + off = (tgt : Int)) {x y : Int32} {α : Type} {A B : Option α} {o : α} (hf : (if y ≤ x then A else B) = some o) (kt : y ≤ x → A = some o → V p l e R s m args below meth c Q D cy b0 nL mc ms kc ks σ h tgt lv st) (kf : ¬ y ≤ x → B = some o → V p l e R s m args below meth c Q D cy b0 nL mc ms kc ks σ h (pc + 3) lv st) : V p l e R s m args below meth c Q D cy b0 nL mc ms kc ks σ h pc lv (.int y :: .int x :: st) := fun H locs cells slots ls hW hS hl h1 h2 => lv_icmp_ge C0.1 C0.2.1 (q_dec hc hi) ht (fun q => kt q (by rw [if_pos q] at hf; exact hf) H locs cells slots ls hW hS hl h1 h2) (fun q => kf q (by rw [if_neg q] at hf; exact hf) H locs cells slots ls hW hS hl h1 h2)
theorem v_if_ge (C0 : VC p R s m args meth c D cy b0 nL mc ms own cc) (hc : q_cok cc cd) {off : Int} (hi : q_lk cd pc = some (.ifCond .ge off)) (tgt : Nat) (ht : (pc : Int) + off = (tgt : Int)) {x : Int32} {α : Type} {A B : Option α} {o : α} (hf : (if 0 ≤ x then A else B) = some o) (kt : 0 ≤ x → A = some o → V p l e R s m args below meth c Q D cy b0 nL mc ms kc ks σ h tgt lv st) (kf : ¬ 0 ≤ x → B = some o → V p l e R s m args below meth c Q D cy b0 nL mc ms kc ks σ h (pc + 3) lv st) : V p l e R s m args below meth c Q D cy b0 nL mc ms kc ks σ h pc lv (.int x :: st) := fun H locs cells slots ls hW hS hl h1 h2 => lv_if_ge C0.1 C0.2.1 (q_dec hc hi) ht (fun q => kt q (by rw [if_pos q] at hf; exact hf) H locs cells slots ls hW hS hl h1 h2) (fun q => kf q (by rw [if_neg q] at hf; exact hf) H locs cells slots ls hW hS hl h1 h2)
theorem v_icmp_gt (C0 : VC p R s m args meth c D cy b0 nL mc ms own cc) (hc : q_cok cc cd) {off : Int} (hi : q_lk cd pc = some (.if_icmp .gt off)) (tgt : Nat) (ht : (pc : Int) + off = (tgt : Int)) {x y : Int32} {α : Type} {A B : Option α} {o : α} (hf : (if y < x then A else B) = some o) (kt : y < x → A = some o → V p l e R s m args below meth c Q D cy b0 nL mc ms kc ks σ h tgt lv st) (kf : ¬ y < x → B = some o → V p l e R s m args below meth c Q D cy b0 nL mc ms kc ks σ h (pc + 3) lv st) : V p l e R s m args below meth c Q D cy b0 nL mc ms kc ks σ h pc lv (.int y :: .int x :: st) := fun H locs cells slots ls hW hS hl h1 h2 => lv_icmp_gt C0.1 C0.2.1 (q_dec hc hi) ht (fun q => kt q (by rw [if_pos q] at hf; exact hf) H locs cells slots ls hW hS hl h1 h2) (fun q => kf q (by rw [if_neg q] at hf; exact hf) H locs cells slots ls hW hS hl h1 h2)
theorem v_if_gt (C0 : VC p R s m args meth c D cy b0 nL mc ms own cc) (hc : q_cok cc cd) {off : Int} (hi : q_lk cd pc = some (.ifCond .gt off)) (tgt : Nat) (ht : (pc : Int) + off = (tgt : Int)) {x : Int32} {α : Type} {A B : Option α} {o : α} (hf : (if 0 < x then A else B) = some o) (kt : 0 < x → A = some o → V p l e R s m args below meth c Q D cy b0 nL mc ms kc ks σ h tgt lv st) (kf : ¬ 0 < x → B = some o → V p l e R s m args below meth c Q D cy b0 nL mc ms kc ks σ h (pc + 3) lv st) : V p l e R s m args below meth c Q D cy b0 nL mc ms kc ks σ h pc lv (.int x :: st) := fun H locs cells slots ls hW hS hl h1 h2 => lv_if_gt C0.1 C0.2.1 (q_dec hc hi) ht (fun q => kt q (by rw [if_pos q] at hf; exact hf) H locs cells slots ls hW hS hl h1 h2) (fun q => kf q (by rw [if_neg q] at hf; exact hf) H locs cells slots ls hW hS hl h1 h2)
theorem v_icmp_le (C0 : VC p R s m args meth c D cy b0 nL mc ms own cc) (hc : q_cok cc cd) {off : Int} (hi : q_lk cd pc = some (.if_icmp .le off)) (tgt : Nat) (ht : (pc : Int) + off = (tgt : Int)) {x y : Int32} {α : Type} {A B : Option α} {o : α} (hf : (if x ≤ y then A else B) = some o) (kt : x ≤ y → A = some o → V p l e R s m args below meth c Q D cy b0 nL mc ms kc ks σ h tgt lv st) (kf : ¬ x ≤ y → B = some o → V p l e R s m args below meth c Q D cy b0 nL mc ms kc ks σ h (pc + 3) lv st) : V p l e R s m args below meth c Q D cy b0 nL mc ms kc ks σ h pc lv (.int y :: .int x :: st) := fun H locs cells slots ls hW hS hl h1 h2 => lv_icmp_le C0.1 C0.2.1 (q_dec hc hi) ht (fun q => kt q (by rw [if_pos q] at hf; exact hf) H locs cells slots ls hW hS hl h1 h2) (fun q => kf q (by rw [if_neg q] at hf; exact hf) H locs cells slots ls hW hS hl h1 h2)
theorem v_if_le (C0 : VC p R s m args meth c D cy b0 nL mc ms own cc) (hc : q_cok cc cd) {off : Int} (hi : q_lk cd pc = some (.ifCond .le off)) (tgt : Nat) (ht : (pc : Int) + off = (tgt : Int)) {x : Int32} {α : Type} {A B : Option α} {o : α} (hf : (if x ≤ 0 then A else B) = some o) (kt : x ≤ 0 → A = some o → V p l e R s m args below meth c Q D cy b0 nL mc ms kc ks σ h tgt lv st) (kf : ¬ x ≤ 0 → B = some o → V p l e R s m args below meth c Q D cy b0 nL mc ms kc ks σ h (pc + 3) lv st) : V p l e R s m args below meth c Q D cy b0 nL mc ms kc ks σ h pc lv (.int x :: st) := fun H locs cells slots ls hW hS hl h1 h2 => lv_if_le C0.1 C0.2.1 (q_dec hc hi) ht (fun q => kt q (by rw [if_pos q] at hf; exact hf) H locs cells slots ls hW hS hl h1 h2) (fun q => kf q (by rw [if_neg q] at hf; exact hf) H locs cells slots ls hW hS hl h1 h2)
end QR
end
section
/-! loops, choices, what may fail -/
def q_N : Nat := 1000000000
def q_loop {S R : Type} (body : S → Option (S ⊕ R)) : Nat → S → Option R
  | 0, _ => none
  | n + 1, s => match body s with
    | none => none
    | some (.inl s') => q_loop body n s'
    | some (.inr r) => some r
theorem q_loop_V {S R : Type} {body : S → Option (S ⊕ R)} {P : S → Prop} {o : R} (hb : ∀ s z, body s = some z → (∀ s', z = .inl s' → P s') → (∀ r, z = .inr r → r = o) → P s) : ∀ n s, q_loop body n s = some o → P s
  | 0, s, h => by cases h
  | n + 1, s, h => by
    unfold q_loop at h
    split at h
    · cases h
    · next s' hs => exact hb s _ hs (fun s2 e => by cases e; exact q_loop_V hb n s' h) (fun r e => by cases e)
    · next r hs =>
      cases h
      exact hb s _ hs (fun s2 e => by cases e) (fun r e => by cases e; rfl)
def q_b2 {α β γ : Type} (x : Option (α × β)) (f : α → β → Option γ) : Option γ := x.bind fun z => f z.1 z.2
theorem q_bd2 {α β γ : Type} {x : Option (α × β)} {f : α → β → Option γ} {o : γ} (h : q_b2 x f = some o) : ∃ r t, x = some (r, t) ∧ f r t = some o := by
  cases x with
  | none => cases h
  | some r => exact ⟨r.1, r.2, rfl, h⟩
def q_el {X R : Type} (o : X ⊕ R) (f : X → Option R) : Option R := match o with
  | .inl x => f x
  | .inr r => some r
theorem q_tn {x n : Nat} (h : x = n + 1) : x ≠ 0 := by omega
theorem q_ite {c : Prop} [Decidable c] {α : Type} {A B : Option α} {o : α} (h : (if c then A else B) = some o) : (c ∧ A = some o) ∨ (¬ c ∧ B = some o) := by
  by_cases hc : c
  · rw [if_pos hc] at h; exact Or.inl ⟨hc, h⟩
  · rw [if_neg hc] at h; exact Or.inr ⟨hc, h⟩
theorem q_tok_of {own : String} {T : q_Tb} (is js ks : List Nat) (h1 : T.1.all (fun x => decide (x.2.1 < 6) && decide (x.2.2 < (q_cl x.2.1).2.2) && decide (((q_cl x.2.1).2.1 x.2.2).1 = (q_cl x.2.1).1)) = true) (h2 : T.1.map (fun x => Cond.fieldLink own x.1 (q_cl x.2.1).1 ((q_cl x.2.1).2.1 x.2.2).2.1 ((q_cl x.2.1).2.1 x.2.2).2.2.1) = is.filterMap (fun i => tables_1[i]?)) (h3 : T.2.1.map (fun x => Cond.constant own x.1 x.2) = js.filterMap (fun i => tables_1[i]?)) (h4 : T.2.2.map (fun x => Cond.constantLong own x.1 x.2) = ks.filterMap (fun i => tables_1[i]?)) : q_tok own T := by
  refine ⟨fun x hx => ?_, fun x hx => ?_, fun x hx => ?_⟩
  · have g := List.all_eq_true.mp h1 x hx
    simp only [Bool.and_eq_true, decide_eq_true_eq] at g
    have hw := List.mem_map_of_mem (f := fun x : Nat × Nat × Nat => Cond.fieldLink own x.1 (q_cl x.2.1).1 ((q_cl x.2.1).2.1 x.2.2).2.1 ((q_cl x.2.1).2.1 x.2.2).2.2.1) hx
    rw [h2] at hw
    obtain ⟨i, -, hi⟩ := List.mem_filterMap.mp hw
    exact ⟨g.1.1, g.1.2, q_tb i hi rfl, g.2⟩
  · have hw := List.mem_map_of_mem (f := fun x : Nat × Int32 => Cond.constant own x.1 x.2) hx
    rw [h3] at hw
    obtain ⟨i, -, hi⟩ := List.mem_filterMap.mp hw
    exact q_tb i hi rfl
  · have hw := List.mem_map_of_mem (f := fun x : Nat × Int64 => Cond.constantLong own x.1 x.2) hx
    rw [h4] at hw
    obtain ⟨i, -, hi⟩ := List.mem_filterMap.mp hw
    exact q_tb i hi rfl
section QL
variable {p : Program} {l : Launch} {e : Env} {R : Room} {s : State} {m : MethodId} {args : Array Value} {below : List Frame} {meth : Method} {c : Code} {Q : State → Prop} {D : va_G} {cy : Nat → Nat} {b0 nL mc ms kc ks : Nat} {σ : q_St} {h : q_Hp} {pc : Nat} {lv : List (Nat × Value)} {st : List Value} {own : String} {cc : ByteArray} {cd : q_Cd}
theorem v_aald (C0 : VC p R s m args meth c D cy b0 nL mc ms own cc) (hc : q_cok cc cd) (hi : q_lk cd pc = some .aaload) {a : Nat} {i : Int32} (ht : q_tag σ a = 9 ∨ q_tag σ a = 10) (hin : vp_in i (q_len σ a)) {α : Type} {A B : Option α} {o : α} (hf : (if q_ref σ a i.toNatClampNeg = 0 then A else B) = some o)
    (k0 : q_ref σ a i.toNatClampNeg = 0 → A = some o → V p l e R s m args below meth c Q D cy b0 nL mc ms kc ks σ h (pc + 1) lv (.null :: st)) (k1 : ¬ q_ref σ a i.toNatClampNeg = 0 → B = some o → V p l e R s m args below meth c Q D cy b0 nL mc ms kc ks σ h (pc + 1) lv (.ref (q_ref σ a i.toNatClampNeg) :: st)) : V p l e R s m args below meth c Q D cy b0 nL mc ms kc ks σ h pc lv (.int i :: .ref a :: st) := by
  intro H locs cells slots ls hW hS hl h1 h2
  refine x_aald C0.1 C0.2.1 C0.2.2.2.2.2.1 hW ht hin (q_dec hc hi) ?_
  rcases q_ite hf with ⟨hz, hf⟩ | ⟨hz, hf⟩
  · rw [hz, q_rv_0]
    exact k0 hz hf H locs cells slots ls hW hS hl h1 h2
  · rw [q_rv_n hz]
    exact k1 hz hf H locs cells slots ls hW hS hl h1 h2
theorem v_tabI (C0 : VC p R s m args meth c D cy b0 nL mc ms own cc) {dflt lo hi : Int} {offs : Array Int} {len : Nat} (hd : decode cc pc = .ok (.tableswitch dflt lo hi offs, len)) {x : Int32} {k : Int32} (hx : x = k) (tgt : Nat) (h1 : ¬ k.toInt < lo ∧ ¬ hi < k.toInt) (h2 : (offs[(k.toInt - lo).toNat]?).map (fun off => (pc : Int) + off) = some (tgt : Int)) (kk : V p l e R s m args below meth c Q D cy b0 nL mc ms kc ks σ h tgt lv st) : V p l e R s m args below meth c Q D cy b0 nL mc ms kc ks σ h pc lv (.int x :: st) := by
  subst hx
  obtain ⟨off, ho, ht⟩ := Option.map_eq_some_iff.mp h2
  exact fun H locs cells slots ls hW hS hl g1 g2 => lv_tableIn C0.1 C0.2.1 hd h1.1 h1.2 ho ht (kk H locs cells slots ls hW hS hl g1 g2)
theorem v_tabO (C0 : VC p R s m args meth c D cy b0 nL mc ms own cc) {dflt lo hi : Int} {offs : Array Int} {len : Nat} (hd : decode cc pc = .ok (.tableswitch dflt lo hi offs, len)) {x : Int32} (tgt : Nat) (ht : (pc : Int) + dflt = (tgt : Int)) (hx : ∀ k : Int, lo ≤ k → k ≤ hi → x.toInt = k → False) (kk : V p l e R s m args below meth c Q D cy b0 nL mc ms kc ks σ h tgt lv st) : V p l e R s m args below meth c Q D cy b0 nL mc ms kc ks σ h pc lv (.int x :: st) := by
  have : x.toInt < lo ∨ hi < x.toInt := by
    rcases Int.lt_or_le x.toInt lo with q | q
    · exact Or.inl q
    · rcases Int.lt_or_le hi x.toInt with q2 | q2
      · exact Or.inr q2
      · exact (hx x.toInt q q2 rfl).elim
  exact fun H locs cells slots ls hW hS hl g1 g2 => lv_tableOut C0.1 C0.2.1 hd this ht (kk H locs cells slots ls hW hS hl g1 g2)
def q_asc (ps : Array (Int × Int)) : Bool := (ps.toList.zip (ps.toList.drop 1)).all (fun (a, next) => a.1 < next.1)
theorem v_lkI (C0 : VC p R s m args meth c D cy b0 nL mc ms own cc) {dflt : Int} {ps : Array (Int × Int)} {len : Nat} (hd : decode cc pc = .ok (.lookupswitch dflt ps, len)) {x : Int32} {k : Int32} (hx : x = k) (tgt : Nat) (h1 : q_asc ps = true) (h2 : (pc : Int) + Op.lookupswitch.offset ps.toList dflt k.toInt = (tgt : Int)) (kk : V p l e R s m args below meth c Q D cy b0 nL mc ms kc ks σ h tgt lv st) : V p l e R s m args below meth c Q D cy b0 nL mc ms kc ks σ h pc lv (.int x :: st) := by
  subst hx
  exact fun H locs cells slots ls hW hS hl g1 g2 => lv_lookup C0.1 C0.2.1 hd h1 rfl h2 (kk H locs cells slots ls hW hS hl g1 g2)
theorem v_min (C0 : VC p R s m args meth c D cy b0 nL mc ms own cc) (hc : q_cok cc cd) {idx : Nat} (hi : q_lk cd pc = some (.invokestatic idx)) (hw : Cond.methodLink own idx Lib.Math.min.name ∈ q_tbl ∧ Cond.static Lib.Math.min.name ∈ q_tbl ∧ Cond.initialized "java/lang/Math" ∈ q_tbl ∧ Cond.code Lib.Math.min.name Lib.Math.min.code 2 (some .int) ∈ q_tbl) (hf : 1 ≤ R.frames) (hlo : 21 ≤ R.locals) {rest : List Value} (hr : (rest.map fun v => v.category).sum ≤ 8) {x y : Int32} (kk : V p l e R s m args below meth c Q D cy b0 nL mc ms kc ks σ h (pc + 3) lv (.int (if y < x then y else x) :: rest)) : V p l e R s m args below meth c Q D cy b0 nL mc ms kc ks σ h pc lv (.int y :: .int x :: rest) := by
  obtain ⟨c1, c2, c3, c4, c5, c6, c7, c8, c9, c10⟩ := C0
  intro H locs cells slots ls hW hS hl h1 h2
  exact va_mmin c1 c2 (by rw [c3, hl.1]) c4 (c5 _ hw.1) (c5 _ hw.2.1) (c5 _ hw.2.2.1) (c5 _ hw.2.2.2) hf (by omega) (by omega) (by omega) (q_dec hc hi) (kk H locs cells slots ls hW hS hl h1 h2)
end QL
end
section
/-! tables: fields, constants, links, as the class files have them -/
def TbX0 : q_Tb := ([(9, 0, 0), (15, 0, 1), (18, 0, 2), (21, 0, 3), (24, 0, 4), (27, 0, 5), (30, 0, 6), (33, 0, 7), (36, 0, 8), (39, 0, 9), (43, 0, 10), (60, 2, 1), (78, 3, 2), (87, 2, 10), (94, 3, 0)], [], [])
set_option maxRecDepth 100000 in
theorem tbX0 : q_tok RX0 TbX0 := q_tok_of [177, 178, 179, 180, 181, 182, 183, 184, 185, 187, 189, 80, 49, 99, 45] [] [] (by decide +kernel) (by decide +kernel) (by decide +kernel) (by decide +kernel)
def TbX1 : q_Tb := ([(9, 1, 0), (15, 1, 1), (24, 1, 2), (28, 1, 3), (31, 1, 4)], [(34, (-2147483648 : Int32))], [])
set_option maxRecDepth 100000 in
theorem tbX1 : q_tok RX1 TbX1 := q_tok_of [148, 150, 152, 154, 156] [556] [] (by decide +kernel) (by decide +kernel) (by decide +kernel) (by decide +kernel)
def TbX2 : q_Tb := ([(11, 2, 0), (17, 2, 1), (21, 2, 2), (24, 2, 3), (27, 2, 4), (30, 2, 5), (33, 2, 6), (36, 2, 7), (39, 2, 8), (42, 2, 9), (48, 2, 10), (52, 2, 11), (56, 2, 12), (59, 2, 13), (62, 2, 14), (95, 3, 2), (106, 3, 4), (113, 3, 3)], [], [])
set_option maxRecDepth 100000 in
theorem tbX2 : q_tok RX2 TbX2 := q_tok_of [78, 79, 82, 84, 86, 88, 90, 92, 94, 96, 98, 100, 102, 104, 106, 51, 57, 54] [] [] (by decide +kernel) (by decide +kernel) (by decide +kernel) (by decide +kernel)
def TbX3 : q_Tb := ([(18, 3, 0), (22, 3, 1), (25, 3, 2), (28, 3, 3), (31, 3, 4), (34, 3, 5), (37, 3, 6)], [], [])
set_option maxRecDepth 100000 in
theorem tbX3 : q_tok RX3 TbX3 := q_tok_of [43, 46, 48, 52, 55, 58, 60] [] [] (by decide +kernel) (by decide +kernel) (by decide +kernel) (by decide +kernel)
def TbX4 : q_Tb := ([(12, 4, 0), (16, 4, 1), (19, 4, 2), (22, 4, 3), (28, 4, 4), (33, 4, 5), (39, 4, 6), (46, 4, 7), (53, 4, 8), (57, 4, 9), (61, 4, 10), (64, 4, 11), (75, 1, 1), (79, 1, 3), (96, 3, 0), (99, 3, 1), (102, 2, 1), (109, 2, 2), (112, 2, 3), (115, 3, 2), (118, 3, 3), (121, 3, 4), (124, 3, 5), (130, 2, 4), (133, 2, 5), (136, 2, 6), (139, 2, 7), (142, 2, 8), (145, 2, 9), (156, 1, 2), (181, 2, 12), (188, 0, 9), (191, 0, 10), (201, 0, 8), (244, 2, 11), (292, 1, 4), (295, 1, 0), (301, 2, 13), (316, 2, 14), (362, 3, 6)], [(393, (1103515245 : Int32)), (394, (2147483647 : Int32)), (395, (65536 : Int32))], [(215, (1000000001 : Int64)), (391, (10 : Int64))])
set_option maxRecDepth 100000 in
theorem tbX4 : q_tok RX4 TbX4 := q_tok_of [214, 215, 216, 217, 218, 219, 220, 221, 222, 223, 224, 225, 151, 155, 44, 47, 81, 83, 85, 50, 53, 56, 59, 87, 89, 91, 93, 95, 97, 153, 103, 188, 190, 186, 101, 157, 149, 105, 107, 61] [645, 649, 650] [492, 511] (by decide +kernel) (by decide +kernel) (by decide +kernel) (by decide +kernel)
def TbX5 : q_Tb := ([(7, 5, 1), (13, 5, 2), (16, 5, 3), (19, 5, 4), (22, 5, 5), (25, 5, 7), (28, 5, 8), (31, 5, 9), (34, 5, 10), (37, 5, 11), (40, 5, 12), (43, 5, 15), (46, 5, 16), (49, 5, 17), (52, 5, 18), (55, 5, 19), (58, 5, 20), (62, 5, 26), (65, 5, 27), (68, 5, 28), (71, 5, 29), (74, 5, 30), (77, 5, 36), (80, 5, 39), (83, 5, 40), (86, 5, 43), (89, 5, 21), (93, 5, 0), (100, 5, 6), (118, 5, 13), (127, 5, 14), (133, 5, 23), (136, 5, 22), (139, 5, 24), (154, 5, 25), (207, 5, 33), (210, 5, 34), (213, 5, 32), (223, 5, 31), (240, 5, 37), (246, 5, 38), (255, 5, 35), (312, 5, 41), (345, 5, 42)], [(348, (1103515245 : Int32)), (349, (2147483647 : Int32)), (350, (65536 : Int32))], [(147, (48 : Int64)), (149, (57 : Int64)), (229, (7 : Int64)), (231, (20 : Int64)), (236, (3 : Int64)), (238, (999 : Int64)), (270, (-1 : Int64)), (289, (1000000001 : Int64)), (294, (10 : Int64)), (300, (-128 : Int64)), (302, (-32768 : Int64)), (304, (-2147483648 : Int64)), (310, (99 : Int64)), (319, (2 : Int64)), (339, (127 : Int64)), (357, (9 : Int64))])
set_option maxRecDepth 100000 in
theorem tbX5 : q_tok RX5 TbX5 := q_tok_of [849, 850, 851, 852, 853, 855, 856, 857, 858, 859, 860, 863, 864, 865, 866, 867, 868, 874, 875, 876, 877, 878, 884, 887, 888, 891, 869, 848, 854, 861, 862, 871, 870, 872, 873, 881, 882, 880, 879, 885, 886, 883, 889, 890] [1337, 1338, 1339] [1014, 1015, 994, 1122, 1131, 1132, 1153, 1216, 1220, 1260, 1261, 1262, 1263, 1251, 1320, 1352] (by decide +kernel) (by decide +kernel) (by decide +kernel) (by decide +kernel)
def TbJ6 : q_Tb := ([], [(265, (1431655765 : Int32)), (266, (858993459 : Int32)), (267, (252645135 : Int32))], [])
set_option maxRecDepth 100000 in
theorem tbJ6 : q_tok RJ6 TbJ6 := q_tok_of [] [496, 497, 498] [] (by decide +kernel) (by decide +kernel) (by decide +kernel) (by decide +kernel)
theorem calX2_kindOf : q_cal yX2_kindOf cX2_kindOf 3 (some (.object "BackByNoonOnMonday$Suit")) := ⟨(q_tb 2 (by decide +kernel) (by decide +kernel)), (q_tb 289 (by decide +kernel) (by decide +kernel)), by decide +kernel, by decide +kernel⟩
theorem dnX2_kindOf : (parseMethodDescriptor yX2_kindOf.desc).map (fun d => d.parameters.length) = some 1 := by decide +kernel
theorem inX2_kindOf : Cond.instanceMethod yX2_kindOf ∈ q_tbl ∧ Cond.selects yX2_kindOf.cls yX2_kindOf yX2_kindOf ∈ q_tbl := ⟨(q_tb 287 (by decide +kernel) (by decide +kernel)), (q_tb 288 (by decide +kernel) (by decide +kernel))⟩
theorem calX2_openBookings : q_cal yX2_openBookings cX2_openBookings 3 (some .int) := ⟨(q_tb 2 (by decide +kernel) (by decide +kernel)), (q_tb 408 (by decide +kernel) (by decide +kernel)), by decide +kernel, by decide +kernel⟩
theorem dnX2_openBookings : (parseMethodDescriptor yX2_openBookings.desc).map (fun d => d.parameters.length) = some 0 := by decide +kernel
theorem inX2_openBookings : Cond.instanceMethod yX2_openBookings ∈ q_tbl ∧ Cond.selects yX2_openBookings.cls yX2_openBookings yX2_openBookings ∈ q_tbl := ⟨(q_tb 406 (by decide +kernel) (by decide +kernel)), (q_tb 407 (by decide +kernel) (by decide +kernel))⟩
theorem calX2_reaches : q_cal yX2_reaches cX2_reaches 4 (some .boolean) := ⟨(q_tb 2 (by decide +kernel) (by decide +kernel)), (q_tb 343 (by decide +kernel) (by decide +kernel)), by decide +kernel, by decide +kernel⟩
theorem dnX2_reaches : (parseMethodDescriptor yX2_reaches.desc).map (fun d => d.parameters.length) = some 3 := by decide +kernel
theorem inX2_reaches : Cond.instanceMethod yX2_reaches ∈ q_tbl ∧ Cond.selects yX2_reaches.cls yX2_reaches yX2_reaches ∈ q_tbl := ⟨(q_tb 341 (by decide +kernel) (by decide +kernel)), (q_tb 342 (by decide +kernel) (by decide +kernel))⟩
theorem calX2_suitsThatAre : q_cal yX2_suitsThatAre cX2_suitsThatAre 4 (some .int) := ⟨(q_tb 2 (by decide +kernel) (by decide +kernel)), (q_tb 412 (by decide +kernel) (by decide +kernel)), by decide +kernel, by decide +kernel⟩
theorem dnX2_suitsThatAre : (parseMethodDescriptor yX2_suitsThatAre.desc).map (fun d => d.parameters.length) = some 1 := by decide +kernel
theorem inX2_suitsThatAre : Cond.instanceMethod yX2_suitsThatAre ∈ q_tbl ∧ Cond.selects yX2_suitsThatAre.cls yX2_suitsThatAre yX2_suitsThatAre ∈ q_tbl := ⟨(q_tb 410 (by decide +kernel) (by decide +kernel)), (q_tb 411 (by decide +kernel) (by decide +kernel))⟩
theorem calX2_takers : q_cal yX2_takers cX2_takers 6 (some .int) := ⟨(q_tb 2 (by decide +kernel) (by decide +kernel)), (q_tb 421 (by decide +kernel) (by decide +kernel)), by decide +kernel, by decide +kernel⟩
theorem dnX2_takers : (parseMethodDescriptor yX2_takers.desc).map (fun d => d.parameters.length) = some 3 := by decide +kernel
theorem inX2_takers : Cond.instanceMethod yX2_takers ∈ q_tbl ∧ Cond.selects yX2_takers.cls yX2_takers yX2_takers ∈ q_tbl := ⟨(q_tb 419 (by decide +kernel) (by decide +kernel)), (q_tb 420 (by decide +kernel) (by decide +kernel))⟩
theorem calX4_at : q_cal yX4_at cX4_at 2 (some .int) := ⟨(q_tb 1 (by decide +kernel) (by decide +kernel)), (q_tb 274 (by decide +kernel) (by decide +kernel)), by decide +kernel, by decide +kernel⟩
theorem dnX4_at : (parseMethodDescriptor yX4_at.desc).map (fun d => d.parameters.length) = some 2 := by decide +kernel
theorem inX4_at : Cond.static yX4_at ∈ q_tbl := (q_tb 273 (by decide +kernel) (by decide +kernel))
theorem calX4_fill : q_cal yX4_fill cX4_fill 3 none := ⟨(q_tb 1 (by decide +kernel) (by decide +kernel)), (q_tb 292 (by decide +kernel) (by decide +kernel)), by decide +kernel, by decide +kernel⟩
theorem dnX4_fill : (parseMethodDescriptor yX4_fill.desc).map (fun d => d.parameters.length) = some 2 := by decide +kernel
theorem inX4_fill : Cond.static yX4_fill ∈ q_tbl := (q_tb 291 (by decide +kernel) (by decide +kernel))
theorem calX4_hasBit : q_cal yX4_hasBit cX4_hasBit 2 (some .boolean) := ⟨(q_tb 1 (by decide +kernel) (by decide +kernel)), (q_tb 417 (by decide +kernel) (by decide +kernel)), by decide +kernel, by decide +kernel⟩
theorem dnX4_hasBit : (parseMethodDescriptor yX4_hasBit.desc).map (fun d => d.parameters.length) = some 2 := by decide +kernel
theorem inX4_hasBit : Cond.static yX4_hasBit ∈ q_tbl := (q_tb 416 (by decide +kernel) (by decide +kernel))
theorem calX4_set : q_cal yX4_set cX4_set 3 none := ⟨(q_tb 1 (by decide +kernel) (by decide +kernel)), (q_tb 310 (by decide +kernel) (by decide +kernel)), by decide +kernel, by decide +kernel⟩
theorem dnX4_set : (parseMethodDescriptor yX4_set.desc).map (fun d => d.parameters.length) = some 3 := by decide +kernel
theorem inX4_set : Cond.static yX4_set ∈ q_tbl := (q_tb 309 (by decide +kernel) (by decide +kernel))
theorem lkX0_46 : Cond.methodLink RX0 46 yX2_openBookings ∈ q_tbl := (q_tb 405 (by decide +kernel) (by decide +kernel))
theorem lkX0_52 : Cond.methodLink RX0 52 yX2_suitsThatAre ∈ q_tbl := (q_tb 409 (by decide +kernel) (by decide +kernel))
theorem lkX0_56 : Cond.methodLink RX0 56 yX2_kindOf ∈ q_tbl := (q_tb 413 (by decide +kernel) (by decide +kernel))
theorem lkX0_63 : Cond.methodLinkNest RX0 63 yX4_at "BackByNoonOnMonday" ∈ lw_tbl := q_nst 414 (by decide +kernel)
theorem lkX0_67 : Cond.methodLinkNest RX0 67 yX4_hasBit "BackByNoonOnMonday" ∈ lw_tbl := q_nst 415 (by decide +kernel)
theorem lkX0_71 : Cond.methodLink RX0 71 yX2_takers ∈ q_tbl := (q_tb 418 (by decide +kernel) (by decide +kernel))
theorem lkX0_74 : Cond.methodLinkNest RX0 74 yX4_set "BackByNoonOnMonday" ∈ lw_tbl := q_nst 425 (by decide +kernel)
theorem lkX0_83 : Cond.methodLinkNest RX0 83 yX4_fill "BackByNoonOnMonday" ∈ lw_tbl := q_nst 426 (by decide +kernel)
theorem lkX2_88 : Cond.methodLinkNest RX2 88 yX4_at "BackByNoonOnMonday" ∈ lw_tbl := q_nst 331 (by decide +kernel)
theorem lkX2_109 : Cond.methodLink RX2 109 yX2_reaches ∈ q_tbl := (q_tb 340 (by decide +kernel) (by decide +kernel))
end
section
-- BackByNoonOnMonday.at([II)I
noncomputable def fX4_at (σ : q_St) (h : q_Hp) (a0 : Nat) (x1 : Int32) : Option Int32 := (if x1 < 0 then some (0 : Int32) else (if (Int32.ofNat (q_len σ a0)) ≤ x1 then some (0 : Int32) else q_gu ((vp_in x1 (q_len σ a0))) (some (q_int h a0 (Int32.toNatClampNeg x1)))))
def cdX4_at : q_Cd := [(0, .iload_n 1), (1, .ifCond .lt 15), (4, .iload_n 1), (5, .aload_n 0), (6, .arraylength), (7, .if_icmp .ge 9), (10, .aload_n 0), (11, .iload_n 1), (12, .iaload), (13, .goto 4), (16, .iconst 0), (17, .ireturn)]
set_option maxRecDepth 100000 in
theorem cokX4_at : q_cok cX4_at cdX4_at := by unfold q_cok; decide +kernel
set_option maxRecDepth 100000 in
set_option maxHeartbeats 4000000 in
theorem ctX4_at {l : Launch} {D : va_G} {cy : Nat → Nat} {b0 : Nat} {σ : q_St} {h : q_Hp} (a0 : Nat) (x1 : Int32) {r : Int32} (ta0 : q_tag σ a0 = 7) (hf : fX4_at σ h a0 x1 = some r) : q_M l yX4_at cX4_at 2 (some .int) 0 0 0 0 D cy b0 σ h [.ref a0, .int x1] (some (.int r)) σ h := by
  unfold fX4_at at hf
  refine q_enter (by decide) (Nat.le_of_ble_eq_true rfl) ?_
  intro p e s m args below meth c C0 hr hlk _
  replace C0 : VC p { frames := 0, cells := 0, slots := 0, locals := 0 } s m args meth c D cy b0 2 0 0 RX4 cX4_at := C0
  refine v_run C0 tbX4 cokX4_at (pc' := 1) (lv' := [(0, .ref a0), (1, .int x1)]) (st' := [.int x1]) (h' := h) 1 rfl trivial ?_
  refine v_if_lt C0 cokX4_at rfl 16 (by decide) hf (fun _ hf => ?_) (fun _ hf => ?_)
  · refine v_run C0 tbX4 cokX4_at (pc' := 17) (lv' := [(0, .ref a0), (1, .int x1)]) (st' := [.int (0 : Int32)]) (h' := h) 1 rfl trivial ?_
    cases hf
    exact v_iret C0 cokX4_at hr hlk rfl
  · refine v_run C0 tbX4 cokX4_at (pc' := 7) (lv' := [(0, .ref a0), (1, .int x1)]) (st' := [.int (Int32.ofNat (q_len σ a0)), .int x1]) (h' := h) 3 rfl ⟨(Or.inl ta0), trivial⟩ ?_
    refine v_icmp_ge C0 cokX4_at rfl 16 (by decide) hf (fun _ hf => ?_) (fun _ hf => ?_)
    · refine v_run C0 tbX4 cokX4_at (pc' := 17) (lv' := [(0, .ref a0), (1, .int x1)]) (st' := [.int (0 : Int32)]) (h' := h) 1 rfl trivial ?_
      cases hf
      exact v_iret C0 cokX4_at hr hlk rfl
    · obtain ⟨g1, hf⟩ := q_gu_o hf
      refine v_run C0 tbX4 cokX4_at (pc' := 17) (lv' := [(0, .ref a0), (1, .int x1)]) (st' := [.int (q_int h a0 (Int32.toNatClampNeg x1))]) (h' := h) 4 rfl ⟨⟨ta0, g1⟩, trivial⟩ ?_
      cases hf
      exact v_iret C0 cokX4_at hr hlk rfl
-- BackByNoonOnMonday$Shop.openBookings()I
noncomputable def fX2_openBookings_33 (σ : q_St) (h : q_Hp) (a0 : Nat) (x2 : Int32) (s0 : Int32) (s1 : Int32) : Option ((Int32 × Int32) ⊕ Int32) := some (Sum.inl ((s1 ||| s0), (x2 + (1 : Int32))))
noncomputable def fX2_openBookings_4 (σ : q_St) (h : q_Hp) (a0 : Nat) (x1 : Int32) (x2 : Int32) : Option ((Int32 × Int32) ⊕ Int32) := (if (q_int h a0 12) ≤ x2 then some (Sum.inr x1) else ((fX4_at σ h (q_ref σ a0 9) x2).bind fun r2 => (if r2 = (9 : Int32) then fX2_openBookings_33 σ h a0 x2 ((1 : Int32) <<< (x2 &&& 31)) x1 else fX2_openBookings_33 σ h a0 x2 (0 : Int32) x1)))
noncomputable def fX2_openBookings (σ : q_St) (h : q_Hp) (a0 : Nat) : Option Int32 := q_gu ((q_tag σ (q_ref σ a0 9) = 7)) ((q_loop (fun s => fX2_openBookings_4 σ h a0 s.1 s.2) q_N ((0 : Int32), (0 : Int32))).bind fun o1 => some o1)
def cdX2_openBookings : q_Cd := [(0, .iconst 0), (1, .istore_n 1), (2, .iconst 0), (3, .istore_n 2), (4, .iload_n 2), (5, .aload_n 0), (6, .getfield 56), (9, .if_icmp .ge 32), (12, .iload_n 1), (13, .aload_n 0), (14, .getfield 42), (17, .iload_n 2), (18, .invokestatic 88), (21, .bipush 9), (23, .if_icmp .ne 9), (26, .iconst 1), (27, .iload_n 2), (28, .ishl), (29, .goto 4), (32, .iconst 0), (33, .ior), (34, .istore_n 1), (35, .iinc 2 1), (38, .goto (-34)), (41, .iload_n 1), (42, .ireturn)]
set_option maxRecDepth 100000 in
theorem cokX2_openBookings : q_cok cX2_openBookings cdX2_openBookings := by unfold q_cok; decide +kernel
set_option maxRecDepth 100000 in
set_option maxHeartbeats 4000000 in
theorem ctX2_openBookings {l : Launch} {D : va_G} {cy : Nat → Nat} {b0 : Nat} {σ : q_St} {h : q_Hp} (a0 : Nat) {r : Int32} (ta0 : q_tag σ a0 = 3) (hf : fX2_openBookings σ h a0 = some r) : q_M l yX2_openBookings cX2_openBookings 3 (some .int) 1 21 0 0 D cy b0 σ h [.ref a0] (some (.int r)) σ h := by
  unfold fX2_openBookings at hf
  obtain ⟨k0, hf⟩ := q_gu_o hf
  refine q_enter (by decide) (Nat.le_of_ble_eq_true rfl) ?_
  intro p e s m args below meth c C0 hr hlk _
  replace C0 : VC p { frames := 1, cells := 0, slots := 0, locals := 21 } s m args meth c D cy b0 3 0 0 RX2 cX2_openBookings := C0
  have n4 : ∀ (o : Int32) (s1 : (Int32 × Int32)), q_loop (fun s => fX2_openBookings_4 σ h a0 s.1 s.2) q_N s1 = some o → V p l e { frames := 1, cells := 0, slots := 0, locals := 21 } s m args below meth c (MQ below (q_Qc D cy b0 (some (.int r)) σ h) args s 0 0 (fun q => b0 ≤ q)) D cy b0 3 0 0 0 0 σ h 41 [(1, .int o)] [] → V p l e { frames := 1, cells := 0, slots := 0, locals := 21 } s m args below meth c (MQ below (q_Qc D cy b0 (some (.int r)) σ h) args s 0 0 (fun q => b0 ≤ q)) D cy b0 3 0 0 0 0 σ h 4 [(0, .ref a0), (1, .int s1.1), (2, .int s1.2)] [] := by
    intro o s1 ho kx1
    refine q_loop_V (P := fun s0 => V p l e { frames := 1, cells := 0, slots := 0, locals := 21 } s m args below meth c (MQ below (q_Qc D cy b0 (some (.int r)) σ h) args s 0 0 (fun q => b0 ≤ q)) D cy b0 3 0 0 0 0 σ h 4 [(0, .ref a0), (1, .int s0.1), (2, .int s0.2)] []) (o := o) ?_ q_N s1 ho
    intro s2 z1 hf kb1 kr1
    obtain ⟨x1, x2⟩ := s2
    replace hf : fX2_openBookings_4 σ h a0 x1 x2 = some z1 := hf
    unfold fX2_openBookings_4 at hf
    show V p l e { frames := 1, cells := 0, slots := 0, locals := 21 } s m args below meth c (MQ below (q_Qc D cy b0 (some (.int r)) σ h) args s 0 0 (fun q => b0 ≤ q)) D cy b0 3 0 0 0 0 σ h 4 [(0, .ref a0), (1, .int x1), (2, .int x2)] []
    have n33 : ∀ (x2 : Int32) (s0 : Int32) (s1 : Int32), fX2_openBookings_33 σ h a0 x2 s0 s1 = some z1 → V p l e { frames := 1, cells := 0, slots := 0, locals := 21 } s m args below meth c (MQ below (q_Qc D cy b0 (some (.int r)) σ h) args s 0 0 (fun q => b0 ≤ q)) D cy b0 3 0 0 0 0 σ h 33 [(0, .ref a0), (2, .int x2)] [.int s0, .int s1] := by
      intro x2 s0 s1 hf
      unfold fX2_openBookings_33 at hf
      refine v_run C0 tbX2 cokX2_openBookings (pc' := 4) (lv' := [(2, .int (x2 + (1 : Int32))), (1, .int (s1 ||| s0)), (0, .ref a0)]) (st' := []) (h' := h) 4 rfl trivial ?_
      cases hf
      refine v_pick [2, 1, 0] rfl ?_
      exact kb1 _ rfl
    refine v_run C0 tbX2 cokX2_openBookings (pc' := 9) (lv' := [(0, .ref a0), (1, .int x1), (2, .int x2)]) (st' := [.int (q_int h a0 12), .int x2]) (h' := h) 3 rfl ⟨ta0, trivial⟩ ?_
    refine v_icmp_ge C0 cokX2_openBookings rfl 41 (by decide) hf (fun _ hf => ?_) (fun _ hf => ?_)
    · cases hf
      refine v_pick [1] rfl ?_
      have hx := kr1 _ rfl
      subst hx
      exact kx1
    · refine v_run C0 tbX2 cokX2_openBookings (pc' := 18) (lv' := [(0, .ref a0), (1, .int x1), (2, .int x2)]) (st' := [.int x2, .ref (q_ref σ a0 9), .int x1]) (h' := h) 4 rfl ⟨⟨ta0, q_tn k0⟩, trivial⟩ ?_
      obtain ⟨r2, e2, hf⟩ := q_bd hf
      refine v_callSN C0 cokX2_openBookings rfl (rest := [.int x1]) (ctX4_at (q_ref σ a0 9) x2 k0 e2) calX4_at lkX2_88 inX4_at dnX4_at rfl rfl ⟨by decide, by decide⟩ (Nat.le_of_ble_eq_true rfl) (Nat.le_refl _) (Nat.le_refl _) ?_
      refine v_run C0 tbX2 cokX2_openBookings (pc' := 23) (lv' := [(0, .ref a0), (1, .int x1), (2, .int x2)]) (st' := [.int (9 : Int32), .int r2, .int x1]) (h' := h) 1 rfl trivial ?_
      refine v_icmp_ne C0 cokX2_openBookings rfl 32 (by decide) hf (fun _ hf => ?_) (fun _ hf => ?_)
      · refine v_run C0 tbX2 cokX2_openBookings (pc' := 33) (lv' := [(0, .ref a0), (1, .int x1), (2, .int x2)]) (st' := [.int ((1 : Int32) <<< (x2 &&& 31)), .int x1]) (h' := h) 4 rfl trivial ?_
        refine v_pick [0, 2] rfl ?_
        exact n33 x2 ((1 : Int32) <<< (x2 &&& 31)) x1 hf
      · refine v_run C0 tbX2 cokX2_openBookings (pc' := 33) (lv' := [(0, .ref a0), (1, .int x1), (2, .int x2)]) (st' := [.int (0 : Int32), .int x1]) (h' := h) 1 rfl trivial ?_
        refine v_pick [0, 2] rfl ?_
        exact n33 x2 (0 : Int32) x1 hf
  refine v_run C0 tbX2 cokX2_openBookings (pc' := 4) (lv' := [(2, .int (0 : Int32)), (1, .int (0 : Int32)), (0, .ref a0)]) (st' := []) (h' := h) 4 rfl trivial ?_
  obtain ⟨o1, eo1, hf⟩ := q_bd hf
  refine v_pick [2, 1, 0] rfl ?_
  refine n4 o1 ((0 : Int32), (0 : Int32)) eo1 ?_
  refine v_run C0 tbX2 cokX2_openBookings (pc' := 42) (lv' := [(1, .int o1)]) (st' := [.int o1]) (h' := h) 1 rfl trivial ?_
  cases hf
  exact v_iret C0 cokX2_openBookings hr hlk rfl
-- BackByNoonOnMonday$Shop.suitsThatAre(I)I
noncomputable def fX2_suitsThatAre_32 (σ : q_St) (h : q_Hp) (a0 : Nat) (x1 : Int32) (x3 : Int32) (s0 : Int32) (s1 : Int32) : Option ((Int32 × Int32) ⊕ Int32) := some (Sum.inl ((s1 ||| s0), (x3 + (1 : Int32))))
noncomputable def fX2_suitsThatAre_4 (σ : q_St) (h : q_Hp) (a0 : Nat) (x1 : Int32) (x2 : Int32) (x3 : Int32) : Option ((Int32 × Int32) ⊕ Int32) := (if (q_int h a0 11) ≤ x3 then some (Sum.inr x2) else ((fX4_at σ h (q_ref σ a0 3) x3).bind fun r2 => (if r2 = x1 then fX2_suitsThatAre_32 σ h a0 x1 x3 ((1 : Int32) <<< (x3 &&& 31)) x2 else fX2_suitsThatAre_32 σ h a0 x1 x3 (0 : Int32) x2)))
noncomputable def fX2_suitsThatAre (σ : q_St) (h : q_Hp) (a0 : Nat) (x1 : Int32) : Option Int32 := q_gu ((q_tag σ (q_ref σ a0 3) = 7)) ((q_loop (fun s => fX2_suitsThatAre_4 σ h a0 x1 s.1 s.2) q_N ((0 : Int32), (0 : Int32))).bind fun o1 => some o1)
def cdX2_suitsThatAre : q_Cd := [(0, .iconst 0), (1, .istore_n 2), (2, .iconst 0), (3, .istore_n 3), (4, .iload_n 3), (5, .aload_n 0), (6, .getfield 52), (9, .if_icmp .ge 31), (12, .iload_n 2), (13, .aload_n 0), (14, .getfield 24), (17, .iload_n 3), (18, .invokestatic 88), (21, .iload_n 1), (22, .if_icmp .ne 9), (25, .iconst 1), (26, .iload_n 3), (27, .ishl), (28, .goto 4), (31, .iconst 0), (32, .ior), (33, .istore_n 2), (34, .iinc 3 1), (37, .goto (-33)), (40, .iload_n 2), (41, .ireturn)]
set_option maxRecDepth 100000 in
theorem cokX2_suitsThatAre : q_cok cX2_suitsThatAre cdX2_suitsThatAre := by unfold q_cok; decide +kernel
set_option maxRecDepth 100000 in
set_option maxHeartbeats 4000000 in
theorem ctX2_suitsThatAre {l : Launch} {D : va_G} {cy : Nat → Nat} {b0 : Nat} {σ : q_St} {h : q_Hp} (a0 : Nat) (x1 : Int32) {r : Int32} (ta0 : q_tag σ a0 = 3) (hf : fX2_suitsThatAre σ h a0 x1 = some r) : q_M l yX2_suitsThatAre cX2_suitsThatAre 4 (some .int) 1 21 0 0 D cy b0 σ h [.ref a0, .int x1] (some (.int r)) σ h := by
  unfold fX2_suitsThatAre at hf
  obtain ⟨k0, hf⟩ := q_gu_o hf
  refine q_enter (by decide) (Nat.le_of_ble_eq_true rfl) ?_
  intro p e s m args below meth c C0 hr hlk _
  replace C0 : VC p { frames := 1, cells := 0, slots := 0, locals := 21 } s m args meth c D cy b0 4 0 0 RX2 cX2_suitsThatAre := C0
  have n4 : ∀ (o : Int32) (s1 : (Int32 × Int32)), q_loop (fun s => fX2_suitsThatAre_4 σ h a0 x1 s.1 s.2) q_N s1 = some o → V p l e { frames := 1, cells := 0, slots := 0, locals := 21 } s m args below meth c (MQ below (q_Qc D cy b0 (some (.int r)) σ h) args s 0 0 (fun q => b0 ≤ q)) D cy b0 4 0 0 0 0 σ h 40 [(2, .int o)] [] → V p l e { frames := 1, cells := 0, slots := 0, locals := 21 } s m args below meth c (MQ below (q_Qc D cy b0 (some (.int r)) σ h) args s 0 0 (fun q => b0 ≤ q)) D cy b0 4 0 0 0 0 σ h 4 [(0, .ref a0), (1, .int x1), (2, .int s1.1), (3, .int s1.2)] [] := by
    intro o s1 ho kx1
    refine q_loop_V (P := fun s0 => V p l e { frames := 1, cells := 0, slots := 0, locals := 21 } s m args below meth c (MQ below (q_Qc D cy b0 (some (.int r)) σ h) args s 0 0 (fun q => b0 ≤ q)) D cy b0 4 0 0 0 0 σ h 4 [(0, .ref a0), (1, .int x1), (2, .int s0.1), (3, .int s0.2)] []) (o := o) ?_ q_N s1 ho
    intro s2 z1 hf kb1 kr1
    obtain ⟨x2, x3⟩ := s2
    replace hf : fX2_suitsThatAre_4 σ h a0 x1 x2 x3 = some z1 := hf
    unfold fX2_suitsThatAre_4 at hf
    show V p l e { frames := 1, cells := 0, slots := 0, locals := 21 } s m args below meth c (MQ below (q_Qc D cy b0 (some (.int r)) σ h) args s 0 0 (fun q => b0 ≤ q)) D cy b0 4 0 0 0 0 σ h 4 [(0, .ref a0), (1, .int x1), (2, .int x2), (3, .int x3)] []
    have n32 : ∀ (x3 : Int32) (s0 : Int32) (s1 : Int32), fX2_suitsThatAre_32 σ h a0 x1 x3 s0 s1 = some z1 → V p l e { frames := 1, cells := 0, slots := 0, locals := 21 } s m args below meth c (MQ below (q_Qc D cy b0 (some (.int r)) σ h) args s 0 0 (fun q => b0 ≤ q)) D cy b0 4 0 0 0 0 σ h 32 [(0, .ref a0), (1, .int x1), (3, .int x3)] [.int s0, .int s1] := by
      intro x3 s0 s1 hf
      unfold fX2_suitsThatAre_32 at hf
      refine v_run C0 tbX2 cokX2_suitsThatAre (pc' := 4) (lv' := [(3, .int (x3 + (1 : Int32))), (2, .int (s1 ||| s0)), (0, .ref a0), (1, .int x1)]) (st' := []) (h' := h) 4 rfl trivial ?_
      cases hf
      refine v_pick [2, 3, 1, 0] rfl ?_
      exact kb1 _ rfl
    refine v_run C0 tbX2 cokX2_suitsThatAre (pc' := 9) (lv' := [(0, .ref a0), (1, .int x1), (2, .int x2), (3, .int x3)]) (st' := [.int (q_int h a0 11), .int x3]) (h' := h) 3 rfl ⟨ta0, trivial⟩ ?_
    refine v_icmp_ge C0 cokX2_suitsThatAre rfl 40 (by decide) hf (fun _ hf => ?_) (fun _ hf => ?_)
    · cases hf
      refine v_pick [2] rfl ?_
      have hx := kr1 _ rfl
      subst hx
      exact kx1
    · refine v_run C0 tbX2 cokX2_suitsThatAre (pc' := 18) (lv' := [(0, .ref a0), (1, .int x1), (2, .int x2), (3, .int x3)]) (st' := [.int x3, .ref (q_ref σ a0 3), .int x2]) (h' := h) 4 rfl ⟨⟨ta0, q_tn k0⟩, trivial⟩ ?_
      obtain ⟨r2, e2, hf⟩ := q_bd hf
      refine v_callSN C0 cokX2_suitsThatAre rfl (rest := [.int x2]) (ctX4_at (q_ref σ a0 3) x3 k0 e2) calX4_at lkX2_88 inX4_at dnX4_at rfl rfl ⟨by decide, by decide⟩ (Nat.le_of_ble_eq_true rfl) (Nat.le_refl _) (Nat.le_refl _) ?_
      refine v_run C0 tbX2 cokX2_suitsThatAre (pc' := 22) (lv' := [(0, .ref a0), (1, .int x1), (2, .int x2), (3, .int x3)]) (st' := [.int x1, .int r2, .int x2]) (h' := h) 1 rfl trivial ?_
      refine v_icmp_ne C0 cokX2_suitsThatAre rfl 31 (by decide) hf (fun _ hf => ?_) (fun _ hf => ?_)
      · refine v_run C0 tbX2 cokX2_suitsThatAre (pc' := 32) (lv' := [(0, .ref a0), (1, .int x1), (2, .int x2), (3, .int x3)]) (st' := [.int ((1 : Int32) <<< (x3 &&& 31)), .int x2]) (h' := h) 4 rfl trivial ?_
        refine v_pick [0, 1, 3] rfl ?_
        exact n32 x3 ((1 : Int32) <<< (x3 &&& 31)) x2 hf
      · refine v_run C0 tbX2 cokX2_suitsThatAre (pc' := 32) (lv' := [(0, .ref a0), (1, .int x1), (2, .int x2), (3, .int x3)]) (st' := [.int (0 : Int32), .int x2]) (h' := h) 1 rfl trivial ?_
        refine v_pick [0, 1, 3] rfl ?_
        exact n32 x3 (0 : Int32) x2 hf
  refine v_run C0 tbX2 cokX2_suitsThatAre (pc' := 4) (lv' := [(3, .int (0 : Int32)), (2, .int (0 : Int32)), (0, .ref a0), (1, .int x1)]) (st' := []) (h' := h) 4 rfl trivial ?_
  obtain ⟨o1, eo1, hf⟩ := q_bd hf
  refine v_pick [2, 3, 1, 0] rfl ?_
  refine n4 o1 ((0 : Int32), (0 : Int32)) eo1 ?_
  refine v_run C0 tbX2 cokX2_suitsThatAre (pc' := 41) (lv' := [(2, .int o1)]) (st' := [.int o1]) (h' := h) 1 rfl trivial ?_
  cases hf
  exact v_iret C0 cokX2_suitsThatAre hr hlk rfl
-- BackByNoonOnMonday$Shop.kindOf(I)LBackByNoonOnMonday$Suit;
noncomputable def fX2_kindOf (σ : q_St) (h : q_Hp) (a0 : Nat) (x1 : Int32) : Option Nat := q_gu ((q_tag σ (q_ref σ a0 10) = 4) ∧ (q_tag σ (q_ref σ a0 0) = 10)) ((if x1 < 0 then some (q_ref σ a0 10) else (if x1 < (Int32.ofNat (q_len σ (q_ref σ a0 0))) then q_gu ((vp_in x1 (q_len σ (q_ref σ a0 0)))) ((if (q_ref σ (q_ref σ a0 0) (Int32.toNatClampNeg x1)) = 0 then some (q_ref σ a0 10) else some (q_ref σ (q_ref σ a0 0) (Int32.toNatClampNeg x1)))) else some (q_ref σ a0 10))))
def cdX2_kindOf : q_Cd := [(0, .iload_n 1), (1, .ifCond .lt 12), (4, .iload_n 1), (5, .aload_n 0), (6, .getfield 11), (9, .arraylength), (10, .if_icmp .lt 8), (13, .aload_n 0), (14, .getfield 48), (17, .areturn), (18, .aload_n 0), (19, .getfield 11), (22, .iload_n 1), (23, .aaload), (24, .astore_n 2), (25, .aload_n 2), (26, .ifnonnull 10), (29, .aload_n 0), (30, .getfield 48), (33, .goto 4), (36, .aload_n 2), (37, .areturn)]
set_option maxRecDepth 100000 in
theorem cokX2_kindOf : q_cok cX2_kindOf cdX2_kindOf := by unfold q_cok; decide +kernel
set_option maxRecDepth 100000 in
set_option maxHeartbeats 4000000 in
theorem ctX2_kindOf {l : Launch} {D : va_G} {cy : Nat → Nat} {b0 : Nat} {σ : q_St} {h : q_Hp} (a0 : Nat) (x1 : Int32) {r : Nat} (ta0 : q_tag σ a0 = 3) (hf : fX2_kindOf σ h a0 x1 = some r) : q_M l yX2_kindOf cX2_kindOf 3 (some (.object "BackByNoonOnMonday$Suit")) 0 0 0 0 D cy b0 σ h [.ref a0, .int x1] (some (.ref r)) σ h := by
  unfold fX2_kindOf at hf
  obtain ⟨⟨k0, k1⟩, hf⟩ := q_gu_o hf
  refine q_enter (by decide) (Nat.le_of_ble_eq_true rfl) ?_
  intro p e s m args below meth c C0 hr hlk _
  replace C0 : VC p { frames := 0, cells := 0, slots := 0, locals := 0 } s m args meth c D cy b0 3 0 0 RX2 cX2_kindOf := C0
  refine v_run C0 tbX2 cokX2_kindOf (pc' := 1) (lv' := [(0, .ref a0), (1, .int x1)]) (st' := [.int x1]) (h' := h) 1 rfl trivial ?_
  refine v_if_lt C0 cokX2_kindOf rfl 13 (by decide) hf (fun _ hf => ?_) (fun _ hf => ?_)
  · refine v_run C0 tbX2 cokX2_kindOf (pc' := 17) (lv' := [(0, .ref a0), (1, .int x1)]) (st' := [.ref (q_ref σ a0 10)]) (h' := h) 2 rfl ⟨⟨ta0, q_tn k0⟩, trivial⟩ ?_
    cases hf
    exact v_aret C0 cokX2_kindOf hr hlk rfl
  · refine v_run C0 tbX2 cokX2_kindOf (pc' := 10) (lv' := [(0, .ref a0), (1, .int x1)]) (st' := [.int (Int32.ofNat (q_len σ (q_ref σ a0 0))), .int x1]) (h' := h) 4 rfl ⟨⟨ta0, q_tn k1⟩, (Or.inr (Or.inr (Or.inr k1))), trivial⟩ ?_
    refine v_icmp_lt C0 cokX2_kindOf rfl 18 (by decide) hf (fun _ hf => ?_) (fun _ hf => ?_)
    · refine v_run C0 tbX2 cokX2_kindOf (pc' := 23) (lv' := [(0, .ref a0), (1, .int x1)]) (st' := [.int x1, .ref (q_ref σ a0 0)]) (h' := h) 3 rfl ⟨⟨ta0, q_tn k1⟩, trivial⟩ ?_
      obtain ⟨g1, hf⟩ := q_gu_o hf
      refine v_aald C0 cokX2_kindOf rfl (Or.inr k1) g1 hf (fun _ hf => ?_) (fun _ hf => ?_)
      · refine v_run C0 tbX2 cokX2_kindOf (pc' := 37) (lv' := [(2, .null), (0, .ref a0), (1, .int x1)]) (st' := [.ref (q_ref σ a0 10)]) (h' := h) 6 rfl ⟨⟨ta0, q_tn k0⟩, trivial⟩ ?_
        cases hf
        exact v_aret C0 cokX2_kindOf hr hlk rfl
      · refine v_run C0 tbX2 cokX2_kindOf (pc' := 37) (lv' := [(2, .ref (q_ref σ (q_ref σ a0 0) (Int32.toNatClampNeg x1))), (0, .ref a0), (1, .int x1)]) (st' := [.ref (q_ref σ (q_ref σ a0 0) (Int32.toNatClampNeg x1))]) (h' := h) 4 rfl trivial ?_
        cases hf
        exact v_aret C0 cokX2_kindOf hr hlk rfl
    · refine v_run C0 tbX2 cokX2_kindOf (pc' := 17) (lv' := [(0, .ref a0), (1, .int x1)]) (st' := [.ref (q_ref σ a0 10)]) (h' := h) 2 rfl ⟨⟨ta0, q_tn k0⟩, trivial⟩ ?_
      cases hf
      exact v_aret C0 cokX2_kindOf hr hlk rfl
-- BackByNoonOnMonday.hasBit(II)Z
noncomputable def fX4_hasBit (σ : q_St) (h : q_Hp) (x0 : Int32) (x1 : Int32) : Option Int32 := (if ((x0 >>> (x1 &&& 31)) &&& (1 : Int32)) = 0 then some (0 : Int32) else some (1 : Int32))
def cdX4_hasBit : q_Cd := [(0, .iload_n 0), (1, .iload_n 1), (2, .ishr), (3, .iconst 1), (4, .iand), (5, .ifCond .eq 7), (8, .iconst 1), (9, .goto 4), (12, .iconst 0), (13, .ireturn)]
set_option maxRecDepth 100000 in
theorem cokX4_hasBit : q_cok cX4_hasBit cdX4_hasBit := by unfold q_cok; decide +kernel
set_option maxRecDepth 100000 in
set_option maxHeartbeats 4000000 in
theorem ctX4_hasBit {l : Launch} {D : va_G} {cy : Nat → Nat} {b0 : Nat} {σ : q_St} {h : q_Hp} (x0 : Int32) (x1 : Int32) {r : Int32} (hf : fX4_hasBit σ h x0 x1 = some r) : q_M l yX4_hasBit cX4_hasBit 2 (some .boolean) 0 0 0 0 D cy b0 σ h [.int x0, .int x1] (some (.int r)) σ h := by
  unfold fX4_hasBit at hf
  refine q_enter (by decide) (Nat.le_of_ble_eq_true rfl) ?_
  intro p e s m args below meth c C0 hr hlk _
  replace C0 : VC p { frames := 0, cells := 0, slots := 0, locals := 0 } s m args meth c D cy b0 2 0 0 RX4 cX4_hasBit := C0
  refine v_run C0 tbX4 cokX4_hasBit (pc' := 5) (lv' := [(0, .int x0), (1, .int x1)]) (st' := [.int ((x0 >>> (x1 &&& 31)) &&& (1 : Int32))]) (h' := h) 5 rfl trivial ?_
  refine v_if_eq C0 cokX4_hasBit rfl 12 (by decide) hf (fun _ hf => ?_) (fun _ hf => ?_)
  · refine v_run C0 tbX4 cokX4_hasBit (pc' := 13) (lv' := [(0, .int x0), (1, .int x1)]) (st' := [.int (0 : Int32)]) (h' := h) 1 rfl trivial ?_
    cases hf
    exact v_zret C0 cokX4_hasBit hr hlk rfl (Or.inl rfl)
  · refine v_run C0 tbX4 cokX4_hasBit (pc' := 13) (lv' := [(0, .int x0), (1, .int x1)]) (st' := [.int (1 : Int32)]) (h' := h) 2 rfl trivial ?_
    cases hf
    exact v_zret C0 cokX4_hasBit hr hlk rfl (Or.inr rfl)
-- BackByNoonOnMonday$Shop.reaches(LBackByNoonOnMonday$Suit;II)Z
noncomputable def fX2_reaches (σ : q_St) (h : q_Hp) (a0 : Nat) (a1 : Nat) (x2 : Int32) (x3 : Int32) : Option Int32 := (if (q_int h a1 3) < (x2 - x3) then some (0 : Int32) else (if (q_int h a1 3) < (x3 - x2) then some (0 : Int32) else some (1 : Int32)))
def cdX2_reaches : q_Cd := [(0, .iload_n 2), (1, .iload_n 3), (2, .isub), (3, .aload_n 1), (4, .getfield 113), (7, .if_icmp .gt 17), (10, .iload_n 3), (11, .iload_n 2), (12, .isub), (13, .aload_n 1), (14, .getfield 113), (17, .if_icmp .gt 7), (20, .iconst 1), (21, .goto 4), (24, .iconst 0), (25, .ireturn)]
set_option maxRecDepth 100000 in
theorem cokX2_reaches : q_cok cX2_reaches cdX2_reaches := by unfold q_cok; decide +kernel
set_option maxRecDepth 100000 in
set_option maxHeartbeats 4000000 in
theorem ctX2_reaches {l : Launch} {D : va_G} {cy : Nat → Nat} {b0 : Nat} {σ : q_St} {h : q_Hp} (a0 : Nat) (a1 : Nat) (x2 : Int32) (x3 : Int32) {r : Int32} (ta0 : q_tag σ a0 = 3) (ta1 : q_tag σ a1 = 4) (hf : fX2_reaches σ h a0 a1 x2 x3 = some r) : q_M l yX2_reaches cX2_reaches 4 (some .boolean) 0 0 0 0 D cy b0 σ h [.ref a0, .ref a1, .int x2, .int x3] (some (.int r)) σ h := by
  unfold fX2_reaches at hf
  refine q_enter (by decide) (Nat.le_of_ble_eq_true rfl) ?_
  intro p e s m args below meth c C0 hr hlk _
  replace C0 : VC p { frames := 0, cells := 0, slots := 0, locals := 0 } s m args meth c D cy b0 4 0 0 RX2 cX2_reaches := C0
  refine v_run C0 tbX2 cokX2_reaches (pc' := 7) (lv' := [(0, .ref a0), (1, .ref a1), (2, .int x2), (3, .int x3)]) (st' := [.int (q_int h a1 3), .int (x2 - x3)]) (h' := h) 5 rfl ⟨ta1, trivial⟩ ?_
  refine v_icmp_gt C0 cokX2_reaches rfl 24 (by decide) hf (fun _ hf => ?_) (fun _ hf => ?_)
  · refine v_run C0 tbX2 cokX2_reaches (pc' := 25) (lv' := [(0, .ref a0), (1, .ref a1), (2, .int x2), (3, .int x3)]) (st' := [.int (0 : Int32)]) (h' := h) 1 rfl trivial ?_
    cases hf
    exact v_zret C0 cokX2_reaches hr hlk rfl (Or.inl rfl)
  · refine v_run C0 tbX2 cokX2_reaches (pc' := 17) (lv' := [(0, .ref a0), (1, .ref a1), (2, .int x2), (3, .int x3)]) (st' := [.int (q_int h a1 3), .int (x3 - x2)]) (h' := h) 5 rfl ⟨ta1, trivial⟩ ?_
    refine v_icmp_gt C0 cokX2_reaches rfl 24 (by decide) hf (fun _ hf => ?_) (fun _ hf => ?_)
    · refine v_run C0 tbX2 cokX2_reaches (pc' := 25) (lv' := [(0, .ref a0), (1, .ref a1), (2, .int x2), (3, .int x3)]) (st' := [.int (0 : Int32)]) (h' := h) 1 rfl trivial ?_
      cases hf
      exact v_zret C0 cokX2_reaches hr hlk rfl (Or.inl rfl)
    · refine v_run C0 tbX2 cokX2_reaches (pc' := 25) (lv' := [(0, .ref a0), (1, .ref a1), (2, .int x2), (3, .int x3)]) (st' := [.int (1 : Int32)]) (h' := h) 2 rfl trivial ?_
      cases hf
      exact v_zret C0 cokX2_reaches hr hlk rfl (Or.inr rfl)
-- BackByNoonOnMonday$Shop.takers(LBackByNoonOnMonday$Suit;II)I
noncomputable def fX2_takers_50 (σ : q_St) (h : q_Hp) (a0 : Nat) (a1 : Nat) (x2 : Int32) (x3 : Int32) (x5 : Int32) (s0 : Int32) (s1 : Int32) : Option ((Int32 × Int32) ⊕ Int32) := some (Sum.inl ((s1 ||| s0), (x5 + (1 : Int32))))
noncomputable def fX2_takers_6 (σ : q_St) (h : q_Hp) (a0 : Nat) (a1 : Nat) (x2 : Int32) (x3 : Int32) (x4 : Int32) (x5 : Int32) : Option ((Int32 × Int32) ⊕ Int32) := (if (q_int h a0 12) ≤ x5 then some (Sum.inr x4) else ((fX4_at σ h (q_ref σ a0 4) x5).bind fun r2 => ((fX2_reaches σ h a0 a1 x2 (if (20 : Int32) < (r2 + x3) then (20 : Int32) else (r2 + x3))).bind fun r3 => (if r3 = 0 then fX2_takers_50 σ h a0 a1 x2 x3 x5 (0 : Int32) x4 else fX2_takers_50 σ h a0 a1 x2 x3 x5 ((1 : Int32) <<< (x5 &&& 31)) x4))))
noncomputable def fX2_takers (σ : q_St) (h : q_Hp) (a0 : Nat) (a1 : Nat) (x2 : Int32) (x3 : Int32) : Option Int32 := q_gu ((q_tag σ (q_ref σ a0 4) = 7)) ((q_loop (fun s => fX2_takers_6 σ h a0 a1 x2 x3 s.1 s.2) q_N ((0 : Int32), (0 : Int32))).bind fun o1 => some o1)
def cdX2_takers : q_Cd := [(0, .iconst 0), (1, .istore 4), (3, .iconst 0), (4, .istore 5), (6, .iload 5), (8, .aload_n 0), (9, .getfield 56), (12, .if_icmp .ge 47), (15, .iload 4), (17, .aload_n 0), (18, .aload_n 1), (19, .iload_n 2), (20, .aload_n 0), (21, .getfield 27), (24, .iload 5), (26, .invokestatic 88), (29, .iload_n 3), (30, .iadd), (31, .bipush 20), (33, .invokestatic 116), (36, .invokevirtual 109), (39, .ifCond .eq 10), (42, .iconst 1), (43, .iload 5), (45, .ishl), (46, .goto 4), (49, .iconst 0), (50, .ior), (51, .istore 4), (53, .iinc 5 1), (56, .goto (-50)), (59, .iload 4), (61, .ireturn)]
set_option maxRecDepth 100000 in
theorem cokX2_takers : q_cok cX2_takers cdX2_takers := by unfold q_cok; decide +kernel
set_option maxRecDepth 100000 in
set_option maxHeartbeats 4000000 in
theorem ctX2_takers {l : Launch} {D : va_G} {cy : Nat → Nat} {b0 : Nat} {σ : q_St} {h : q_Hp} (a0 : Nat) (a1 : Nat) (x2 : Int32) (x3 : Int32) {r : Int32} (ta0 : q_tag σ a0 = 3) (ta1 : q_tag σ a1 = 4) (hf : fX2_takers σ h a0 a1 x2 x3 = some r) : q_M l yX2_takers cX2_takers 6 (some .int) 1 23 0 0 D cy b0 σ h [.ref a0, .ref a1, .int x2, .int x3] (some (.int r)) σ h := by
  unfold fX2_takers at hf
  obtain ⟨k0, hf⟩ := q_gu_o hf
  refine q_enter (by decide) (Nat.le_of_ble_eq_true rfl) ?_
  intro p e s m args below meth c C0 hr hlk _
  replace C0 : VC p { frames := 1, cells := 0, slots := 0, locals := 23 } s m args meth c D cy b0 6 0 0 RX2 cX2_takers := C0
  have n6 : ∀ (o : Int32) (s1 : (Int32 × Int32)), q_loop (fun s => fX2_takers_6 σ h a0 a1 x2 x3 s.1 s.2) q_N s1 = some o → V p l e { frames := 1, cells := 0, slots := 0, locals := 23 } s m args below meth c (MQ below (q_Qc D cy b0 (some (.int r)) σ h) args s 0 0 (fun q => b0 ≤ q)) D cy b0 6 0 0 0 0 σ h 59 [(4, .int o)] [] → V p l e { frames := 1, cells := 0, slots := 0, locals := 23 } s m args below meth c (MQ below (q_Qc D cy b0 (some (.int r)) σ h) args s 0 0 (fun q => b0 ≤ q)) D cy b0 6 0 0 0 0 σ h 6 [(0, .ref a0), (1, .ref a1), (2, .int x2), (3, .int x3), (4, .int s1.1), (5, .int s1.2)] [] := by
    intro o s1 ho kx1
    refine q_loop_V (P := fun s0 => V p l e { frames := 1, cells := 0, slots := 0, locals := 23 } s m args below meth c (MQ below (q_Qc D cy b0 (some (.int r)) σ h) args s 0 0 (fun q => b0 ≤ q)) D cy b0 6 0 0 0 0 σ h 6 [(0, .ref a0), (1, .ref a1), (2, .int x2), (3, .int x3), (4, .int s0.1), (5, .int s0.2)] []) (o := o) ?_ q_N s1 ho
    intro s2 z1 hf kb1 kr1
    obtain ⟨x4, x5⟩ := s2
    replace hf : fX2_takers_6 σ h a0 a1 x2 x3 x4 x5 = some z1 := hf
    unfold fX2_takers_6 at hf
    show V p l e { frames := 1, cells := 0, slots := 0, locals := 23 } s m args below meth c (MQ below (q_Qc D cy b0 (some (.int r)) σ h) args s 0 0 (fun q => b0 ≤ q)) D cy b0 6 0 0 0 0 σ h 6 [(0, .ref a0), (1, .ref a1), (2, .int x2), (3, .int x3), (4, .int x4), (5, .int x5)] []
    have n50 : ∀ (x5 : Int32) (s0 : Int32) (s1 : Int32), fX2_takers_50 σ h a0 a1 x2 x3 x5 s0 s1 = some z1 → V p l e { frames := 1, cells := 0, slots := 0, locals := 23 } s m args below meth c (MQ below (q_Qc D cy b0 (some (.int r)) σ h) args s 0 0 (fun q => b0 ≤ q)) D cy b0 6 0 0 0 0 σ h 50 [(0, .ref a0), (1, .ref a1), (2, .int x2), (3, .int x3), (5, .int x5)] [.int s0, .int s1] := by
      intro x5 s0 s1 hf
      unfold fX2_takers_50 at hf
      refine v_run C0 tbX2 cokX2_takers (pc' := 6) (lv' := [(5, .int (x5 + (1 : Int32))), (4, .int (s1 ||| s0)), (0, .ref a0), (1, .ref a1), (2, .int x2), (3, .int x3)]) (st' := []) (h' := h) 4 rfl trivial ?_
      cases hf
      refine v_pick [2, 3, 4, 5, 1, 0] rfl ?_
      exact kb1 _ rfl
    refine v_run C0 tbX2 cokX2_takers (pc' := 12) (lv' := [(0, .ref a0), (1, .ref a1), (2, .int x2), (3, .int x3), (4, .int x4), (5, .int x5)]) (st' := [.int (q_int h a0 12), .int x5]) (h' := h) 3 rfl ⟨ta0, trivial⟩ ?_
    refine v_icmp_ge C0 cokX2_takers rfl 59 (by decide) hf (fun _ hf => ?_) (fun _ hf => ?_)
    · cases hf
      refine v_pick [4] rfl ?_
      have hx := kr1 _ rfl
      subst hx
      exact kx1
    · refine v_run C0 tbX2 cokX2_takers (pc' := 26) (lv' := [(0, .ref a0), (1, .ref a1), (2, .int x2), (3, .int x3), (4, .int x4), (5, .int x5)]) (st' := [.int x5, .ref (q_ref σ a0 4), .int x2, .ref a1, .ref a0, .int x4]) (h' := h) 7 rfl ⟨⟨ta0, q_tn k0⟩, trivial⟩ ?_
      obtain ⟨r2, e2, hf⟩ := q_bd hf
      refine v_callSN C0 cokX2_takers rfl (rest := [.int x2, .ref a1, .ref a0, .int x4]) (ctX4_at (q_ref σ a0 4) x5 k0 e2) calX4_at lkX2_88 inX4_at dnX4_at rfl rfl ⟨by decide, by decide⟩ (Nat.le_of_ble_eq_true rfl) (Nat.le_refl _) (Nat.le_refl _) ?_
      refine v_run C0 tbX2 cokX2_takers (pc' := 33) (lv' := [(0, .ref a0), (1, .ref a1), (2, .int x2), (3, .int x3), (4, .int x4), (5, .int x5)]) (st' := [.int (20 : Int32), .int (r2 + x3), .int x2, .ref a1, .ref a0, .int x4]) (h' := h) 3 rfl trivial ?_
      refine v_min C0 cokX2_takers rfl (by decide +kernel) (by decide) (by decide) (Nat.le_of_ble_eq_true rfl) ?_
      obtain ⟨r3, e3, hf⟩ := q_bd hf
      refine v_callV C0 cokX2_takers rfl (rest := [.int x4]) (ctX2_reaches a0 a1 x2 (if (20 : Int32) < (r2 + x3) then (20 : Int32) else (r2 + x3)) ta0 ta1 e3) calX2_reaches lkX2_109 inX2_reaches dnX2_reaches (ci := 2) ⟨rfl, by decide⟩ ta0 rfl rfl ⟨by decide, by decide⟩ (Nat.le_of_ble_eq_true rfl) (Nat.le_refl _) (Nat.le_refl _) ?_
      refine v_if_eq C0 cokX2_takers rfl 49 (by decide) hf (fun _ hf => ?_) (fun _ hf => ?_)
      · refine v_run C0 tbX2 cokX2_takers (pc' := 50) (lv' := [(0, .ref a0), (1, .ref a1), (2, .int x2), (3, .int x3), (4, .int x4), (5, .int x5)]) (st' := [.int (0 : Int32), .int x4]) (h' := h) 1 rfl trivial ?_
        refine v_pick [0, 1, 2, 3, 5] rfl ?_
        exact n50 x5 (0 : Int32) x4 hf
      · refine v_run C0 tbX2 cokX2_takers (pc' := 50) (lv' := [(0, .ref a0), (1, .ref a1), (2, .int x2), (3, .int x3), (4, .int x4), (5, .int x5)]) (st' := [.int ((1 : Int32) <<< (x5 &&& 31)), .int x4]) (h' := h) 4 rfl trivial ?_
        refine v_pick [0, 1, 2, 3, 5] rfl ?_
        exact n50 x5 ((1 : Int32) <<< (x5 &&& 31)) x4 hf
  refine v_run C0 tbX2 cokX2_takers (pc' := 6) (lv' := [(5, .int (0 : Int32)), (4, .int (0 : Int32)), (0, .ref a0), (1, .ref a1), (2, .int x2), (3, .int x3)]) (st' := []) (h' := h) 4 rfl trivial ?_
  obtain ⟨o1, eo1, hf⟩ := q_bd hf
  refine v_pick [2, 3, 4, 5, 1, 0] rfl ?_
  refine n6 o1 ((0 : Int32), (0 : Int32)) eo1 ?_
  refine v_run C0 tbX2 cokX2_takers (pc' := 61) (lv' := [(4, .int o1)]) (st' := [.int o1]) (h' := h) 1 rfl trivial ?_
  cases hf
  exact v_iret C0 cokX2_takers hr hlk rfl
-- BackByNoonOnMonday.set([III)V
noncomputable def fX4_set (σ : q_St) (h : q_Hp) (a0 : Nat) (x1 : Int32) (x2 : Int32) : Option q_Hp := (if x1 < 0 then some h else (if (Int32.ofNat (q_len σ a0)) ≤ x1 then some h else q_gu ((vp_in x1 (q_len σ a0))) (some (q_si h a0 (Int32.toNatClampNeg x1) x2))))
def cdX4_set : q_Cd := [(0, .iload_n 1), (1, .ifCond .lt 13), (4, .iload_n 1), (5, .aload_n 0), (6, .arraylength), (7, .if_icmp .ge 7), (10, .aload_n 0), (11, .iload_n 1), (12, .iload_n 2), (13, .iastore), (14, .return_)]
set_option maxRecDepth 100000 in
theorem cokX4_set : q_cok cX4_set cdX4_set := by unfold q_cok; decide +kernel
set_option maxRecDepth 100000 in
set_option maxHeartbeats 4000000 in
theorem ctX4_set {l : Launch} {D : va_G} {cy : Nat → Nat} {b0 : Nat} {σ : q_St} {h : q_Hp} (a0 : Nat) (x1 : Int32) (x2 : Int32) {h' : q_Hp} (ta0 : q_tag σ a0 = 7) (hf : fX4_set σ h a0 x1 x2 = some h') : q_M l yX4_set cX4_set 3 none 0 0 0 0 D cy b0 σ h [.ref a0, .int x1, .int x2] none σ h' := by
  unfold fX4_set at hf
  refine q_enter (by decide) (Nat.le_of_ble_eq_true rfl) ?_
  intro p e s m args below meth c C0 hr hlk _
  replace C0 : VC p { frames := 0, cells := 0, slots := 0, locals := 0 } s m args meth c D cy b0 3 0 0 RX4 cX4_set := C0
  refine v_run C0 tbX4 cokX4_set (pc' := 1) (lv' := [(0, .ref a0), (1, .int x1), (2, .int x2)]) (st' := [.int x1]) (h' := h) 1 rfl trivial ?_
  refine v_if_lt C0 cokX4_set rfl 14 (by decide) hf (fun _ hf => ?_) (fun _ hf => ?_)
  · cases hf
    exact v_vret C0 cokX4_set hr hlk rfl
  · refine v_run C0 tbX4 cokX4_set (pc' := 7) (lv' := [(0, .ref a0), (1, .int x1), (2, .int x2)]) (st' := [.int (Int32.ofNat (q_len σ a0)), .int x1]) (h' := h) 3 rfl ⟨(Or.inl ta0), trivial⟩ ?_
    refine v_icmp_ge C0 cokX4_set rfl 14 (by decide) hf (fun _ hf => ?_) (fun _ hf => ?_)
    · cases hf
      exact v_vret C0 cokX4_set hr hlk rfl
    · obtain ⟨g1, hf⟩ := q_gu_o hf
      refine v_run C0 tbX4 cokX4_set (pc' := 14) (lv' := [(0, .ref a0), (1, .int x1), (2, .int x2)]) (st' := []) (h' := (q_si h a0 (Int32.toNatClampNeg x1) x2)) 4 rfl ⟨⟨ta0, g1⟩, trivial⟩ ?_
      cases hf
      exact v_vret C0 cokX4_set hr hlk rfl
-- BackByNoonOnMonday.fill([I[I)V
noncomputable def fX4_fill_2 (σ : q_St) (a0 : Nat) (a1 : Nat) (x2 : Int32) (h : q_Hp) : Option ((Int32 × q_Hp) ⊕ q_Hp) := (if (Int32.ofNat (q_len σ a0)) ≤ x2 then some (Sum.inr h) else (if (Int32.ofNat (q_len σ a1)) ≤ x2 then some (Sum.inr h) else q_gu ((vp_in x2 (q_len σ a0)) ∧ (vp_in x2 (q_len σ a1))) (some (Sum.inl ((x2 + (1 : Int32)), (q_si h a1 (Int32.toNatClampNeg x2) (q_int h a0 (Int32.toNatClampNeg x2))))))))
noncomputable def fX4_fill (σ : q_St) (h : q_Hp) (a0 : Nat) (a1 : Nat) : Option q_Hp := (q_loop (fun s => fX4_fill_2 σ a0 a1 s.1 s.2) q_N ((0 : Int32), h)).bind fun o1 => some o1
def cdX4_fill : q_Cd := [(0, .iconst 0), (1, .istore_n 2), (2, .iload_n 2), (3, .aload_n 0), (4, .arraylength), (5, .if_icmp .ge 21), (8, .iload_n 2), (9, .aload_n 1), (10, .arraylength), (11, .if_icmp .ge 15), (14, .aload_n 1), (15, .iload_n 2), (16, .aload_n 0), (17, .iload_n 2), (18, .iaload), (19, .iastore), (20, .iinc 2 1), (23, .goto (-21)), (26, .return_)]
set_option maxRecDepth 100000 in
theorem cokX4_fill : q_cok cX4_fill cdX4_fill := by unfold q_cok; decide +kernel
set_option maxRecDepth 100000 in
set_option maxHeartbeats 4000000 in
theorem ctX4_fill {l : Launch} {D : va_G} {cy : Nat → Nat} {b0 : Nat} {σ : q_St} {h : q_Hp} (a0 : Nat) (a1 : Nat) {h' : q_Hp} (ta0 : q_tag σ a0 = 7) (ta1 : q_tag σ a1 = 7) (hf : fX4_fill σ h a0 a1 = some h') : q_M l yX4_fill cX4_fill 3 none 0 0 0 0 D cy b0 σ h [.ref a0, .ref a1] none σ h' := by
  unfold fX4_fill at hf
  refine q_enter (by decide) (Nat.le_of_ble_eq_true rfl) ?_
  intro p e s m args below meth c C0 hr hlk _
  replace C0 : VC p { frames := 0, cells := 0, slots := 0, locals := 0 } s m args meth c D cy b0 3 0 0 RX4 cX4_fill := C0
  have n2 : ∀ (o : q_Hp) (s1 : (Int32 × q_Hp)), q_loop (fun s => fX4_fill_2 σ a0 a1 s.1 s.2) q_N s1 = some o → V p l e { frames := 0, cells := 0, slots := 0, locals := 0 } s m args below meth c (MQ below (q_Qc D cy b0 none σ h') args s 0 0 (fun q => b0 ≤ q)) D cy b0 3 0 0 0 0 σ o 26 [] [] → V p l e { frames := 0, cells := 0, slots := 0, locals := 0 } s m args below meth c (MQ below (q_Qc D cy b0 none σ h') args s 0 0 (fun q => b0 ≤ q)) D cy b0 3 0 0 0 0 σ s1.2 2 [(0, .ref a0), (1, .ref a1), (2, .int s1.1)] [] := by
    intro o s1 ho kx1
    refine q_loop_V (P := fun s0 => V p l e { frames := 0, cells := 0, slots := 0, locals := 0 } s m args below meth c (MQ below (q_Qc D cy b0 none σ h') args s 0 0 (fun q => b0 ≤ q)) D cy b0 3 0 0 0 0 σ s0.2 2 [(0, .ref a0), (1, .ref a1), (2, .int s0.1)] []) (o := o) ?_ q_N s1 ho
    intro s2 z1 hf kb1 kr1
    obtain ⟨x2, h⟩ := s2
    replace hf : fX4_fill_2 σ a0 a1 x2 h = some z1 := hf
    unfold fX4_fill_2 at hf
    show V p l e { frames := 0, cells := 0, slots := 0, locals := 0 } s m args below meth c (MQ below (q_Qc D cy b0 none σ h') args s 0 0 (fun q => b0 ≤ q)) D cy b0 3 0 0 0 0 σ h 2 [(0, .ref a0), (1, .ref a1), (2, .int x2)] []
    refine v_run C0 tbX4 cokX4_fill (pc' := 5) (lv' := [(0, .ref a0), (1, .ref a1), (2, .int x2)]) (st' := [.int (Int32.ofNat (q_len σ a0)), .int x2]) (h' := h) 3 rfl ⟨(Or.inl ta0), trivial⟩ ?_
    refine v_icmp_ge C0 cokX4_fill rfl 26 (by decide) hf (fun _ hf => ?_) (fun _ hf => ?_)
    · cases hf
      refine v_pick [] rfl ?_
      have hx := kr1 _ rfl
      subst hx
      exact kx1
    · refine v_run C0 tbX4 cokX4_fill (pc' := 11) (lv' := [(0, .ref a0), (1, .ref a1), (2, .int x2)]) (st' := [.int (Int32.ofNat (q_len σ a1)), .int x2]) (h' := h) 3 rfl ⟨(Or.inl ta1), trivial⟩ ?_
      refine v_icmp_ge C0 cokX4_fill rfl 26 (by decide) hf (fun _ hf => ?_) (fun _ hf => ?_)
      · cases hf
        refine v_pick [] rfl ?_
        have hx := kr1 _ rfl
        subst hx
        exact kx1
      · obtain ⟨⟨g2, g3⟩, hf⟩ := q_gu_o hf
        refine v_run C0 tbX4 cokX4_fill (pc' := 2) (lv' := [(2, .int (x2 + (1 : Int32))), (0, .ref a0), (1, .ref a1)]) (st' := []) (h' := (q_si h a1 (Int32.toNatClampNeg x2) (q_int h a0 (Int32.toNatClampNeg x2)))) 8 rfl ⟨⟨ta0, g2⟩, ⟨ta1, g3⟩, trivial⟩ ?_
        cases hf
        refine v_pick [1, 2, 0] rfl ?_
        exact kb1 _ rfl
  refine v_run C0 tbX4 cokX4_fill (pc' := 2) (lv' := [(2, .int (0 : Int32)), (0, .ref a0), (1, .ref a1)]) (st' := []) (h' := h) 2 rfl trivial ?_
  obtain ⟨o1, eo1, hf⟩ := q_bd hf
  refine v_pick [1, 2, 0] rfl ?_
  refine n2 o1 ((0 : Int32), h) eo1 ?_
  cases hf
  exact v_vret C0 cokX4_fill hr hlk rfl
-- BackByNoonOnMonday$Fitting.load(LBackByNoonOnMonday$Shop;)V
noncomputable def fX0_load_103 (σ : q_St) (h : q_Hp) (a0 : Nat) (a1 : Nat) (x2 : Int32) (a3 : Nat) (s0 : Int32) (s1 : Int32) (s2 : Nat) : Option ((Int32 × q_Hp) ⊕ q_Hp) := q_gu ((q_tag σ s2 = 7)) (((fX4_set σ h s2 s1 s0).bind fun h16 => q_gu ((q_tag σ a3 = 4)) (((fX4_set σ h16 (q_ref σ a0 3) x2 (q_int h16 a3 2)).bind fun h18 => some (Sum.inl ((x2 + (1 : Int32)), h18))))))
noncomputable def fX0_load_72 (σ : q_St) (h : q_Hp) (a0 : Nat) (a1 : Nat) (x2 : Int32) (a3 : Nat) (x4 : Int32) (s0 : Int32) (s1 : Int32) (s2 : Nat) : Option ((Int32 × q_Hp) ⊕ q_Hp) := q_gu ((q_tag σ s2 = 7)) (((fX4_set σ h s2 s1 s0).bind fun h11 => ((fX4_hasBit σ h11 (q_int h11 a0 10) x2).bind fun r12 => (if r12 = 0 then fX0_load_103 σ h11 a0 a1 x2 a3 (0 : Int32) x2 (q_ref σ a0 1) else q_gu ((q_tag σ a3 = 4)) (((fX2_takers σ h11 a1 a3 x4 (1 : Int32)).bind fun r14 => fX0_load_103 σ h11 a0 a1 x2 a3 r14 x2 (q_ref σ a0 1)))))))
noncomputable def fX0_load_19 (σ : q_St) (a0 : Nat) (a1 : Nat) (x2 : Int32) (h : q_Hp) : Option ((Int32 × q_Hp) ⊕ q_Hp) := (if (Int32.ofNat (q_len σ (q_ref σ a0 2))) ≤ x2 then some (Sum.inr h) else ((fX2_kindOf σ h a1 x2).bind fun r5 => ((fX4_at σ h (q_ref σ a1 1) x2).bind fun r6 => ((fX4_hasBit σ h (q_int h a0 10) x2).bind fun r7 => (if r7 = 0 then fX0_load_72 σ h a0 a1 x2 r5 r6 (0 : Int32) x2 (q_ref σ a0 0) else q_gu ((q_tag σ r5 = 4)) (((fX2_takers σ h a1 r5 r6 (0 : Int32)).bind fun r9 => fX0_load_72 σ h a0 a1 x2 r5 r6 r9 x2 (q_ref σ a0 0))))))))
noncomputable def fX0_load (σ : q_St) (h : q_Hp) (a0 : Nat) (a1 : Nat) : Option q_Hp := q_gu ((q_tag σ (q_ref σ a0 0) = 7) ∧ (q_tag σ (q_ref σ a0 2) = 7) ∧ (q_tag σ (q_ref σ a1 1) = 7) ∧ (q_tag σ (q_ref σ a0 1) = 7) ∧ (q_tag σ (q_ref σ a0 3) = 7)) (((fX2_openBookings σ h a1).bind fun r1 => ((fX2_suitsThatAre σ (q_si h a0 9 r1) a1 (0 : Int32)).bind fun r2 => (q_loop (fun s => fX0_load_19 σ a0 a1 s.1 s.2) q_N ((0 : Int32), (q_si (q_si h a0 9 r1) a0 10 r2))).bind fun o3 => ((fX4_fill σ o3 (q_ref σ a0 0) (q_ref σ a0 2)).bind fun h4 => some h4))))
def cdX0_load : q_Cd := [(0, .aload_n 0), (1, .aload_n 1), (2, .invokevirtual 46), (5, .putfield 39), (8, .aload_n 0), (9, .aload_n 1), (10, .iconst 0), (11, .invokevirtual 52), (14, .putfield 43), (17, .iconst 0), (18, .istore_n 2), (19, .iload_n 2), (20, .aload_n 0), (21, .getfield 18), (24, .arraylength), (25, .if_icmp .ge 99), (28, .aload_n 1), (29, .iload_n 2), (30, .invokevirtual 56), (33, .astore_n 3), (34, .aload_n 1), (35, .getfield 60), (38, .iload_n 2), (39, .invokestatic 63), (42, .istore 4), (44, .aload_n 0), (45, .getfield 9), (48, .iload_n 2), (49, .aload_n 0), (50, .getfield 43), (53, .iload_n 2), (54, .invokestatic 67), (57, .ifCond .eq 14), (60, .aload_n 1), (61, .aload_n 3), (62, .iload 4), (64, .iconst 0), (65, .invokevirtual 71), (68, .goto 4), (71, .iconst 0), (72, .invokestatic 74), (75, .aload_n 0), (76, .getfield 15), (79, .iload_n 2), (80, .aload_n 0), (81, .getfield 43), (84, .iload_n 2), (85, .invokestatic 67), (88, .ifCond .eq 14), (91, .aload_n 1), (92, .aload_n 3), (93, .iload 4), (95, .iconst 1), (96, .invokevirtual 71), (99, .goto 4), (102, .iconst 0), (103, .invokestatic 74), (106, .aload_n 0), (107, .getfield 21), (110, .iload_n 2), (111, .aload_n 3), (112, .getfield 78), (115, .invokestatic 74), (118, .iinc 2 1), (121, .goto (-102)), (124, .aload_n 0), (125, .getfield 9), (128, .aload_n 0), (129, .getfield 18), (132, .invokestatic 83), (135, .return_)]
set_option maxRecDepth 100000 in
theorem cokX0_load : q_cok cX0_load cdX0_load := by unfold q_cok; decide +kernel
set_option maxRecDepth 100000 in
set_option maxHeartbeats 4000000 in
theorem ctX0_load {l : Launch} {D : va_G} {cy : Nat → Nat} {b0 : Nat} {σ : q_St} {h : q_Hp} (a0 : Nat) (a1 : Nat) {h' : q_Hp} (ta0 : q_tag σ a0 = 1) (ta1 : q_tag σ a1 = 3) (hf : fX0_load σ h a0 a1 = some h') : q_M l yX0_load cX0_load 5 none 2 48 0 0 D cy b0 σ h [.ref a0, .ref a1] none σ h' := by
  unfold fX0_load at hf
  obtain ⟨⟨k0, k1, k2, k3, k4⟩, hf⟩ := q_gu_o hf
  refine q_enter (by decide) (Nat.le_of_ble_eq_true rfl) ?_
  intro p e s m args below meth c C0 hr hlk _
  replace C0 : VC p { frames := 2, cells := 0, slots := 0, locals := 48 } s m args meth c D cy b0 5 0 0 RX0 cX0_load := C0
  have n19 : ∀ (o : q_Hp) (s1 : (Int32 × q_Hp)), q_loop (fun s => fX0_load_19 σ a0 a1 s.1 s.2) q_N s1 = some o → V p l e { frames := 2, cells := 0, slots := 0, locals := 48 } s m args below meth c (MQ below (q_Qc D cy b0 none σ h') args s 0 0 (fun q => b0 ≤ q)) D cy b0 5 0 0 0 0 σ o 124 [(0, .ref a0)] [] → V p l e { frames := 2, cells := 0, slots := 0, locals := 48 } s m args below meth c (MQ below (q_Qc D cy b0 none σ h') args s 0 0 (fun q => b0 ≤ q)) D cy b0 5 0 0 0 0 σ s1.2 19 [(0, .ref a0), (1, .ref a1), (2, .int s1.1)] [] := by
    intro o s1 ho kx1
    refine q_loop_V (P := fun s0 => V p l e { frames := 2, cells := 0, slots := 0, locals := 48 } s m args below meth c (MQ below (q_Qc D cy b0 none σ h') args s 0 0 (fun q => b0 ≤ q)) D cy b0 5 0 0 0 0 σ s0.2 19 [(0, .ref a0), (1, .ref a1), (2, .int s0.1)] []) (o := o) ?_ q_N s1 ho
    intro s2 z1 hf kb1 kr1
    obtain ⟨x2, h⟩ := s2
    replace hf : fX0_load_19 σ a0 a1 x2 h = some z1 := hf
    unfold fX0_load_19 at hf
    show V p l e { frames := 2, cells := 0, slots := 0, locals := 48 } s m args below meth c (MQ below (q_Qc D cy b0 none σ h') args s 0 0 (fun q => b0 ≤ q)) D cy b0 5 0 0 0 0 σ h 19 [(0, .ref a0), (1, .ref a1), (2, .int x2)] []
    have n103 : ∀ (h : q_Hp) (x2 : Int32) (a3 : Nat) (s0 : Int32) (s1 : Int32) (s2 : Nat), fX0_load_103 σ h a0 a1 x2 a3 s0 s1 s2 = some z1 → V p l e { frames := 2, cells := 0, slots := 0, locals := 48 } s m args below meth c (MQ below (q_Qc D cy b0 none σ h') args s 0 0 (fun q => b0 ≤ q)) D cy b0 5 0 0 0 0 σ h 103 [(0, .ref a0), (1, .ref a1), (2, .int x2), (3, .ref a3)] [.int s0, .int s1, .ref s2] := by
      intro h x2 a3 s0 s1 s2 hf
      unfold fX0_load_103 at hf
      obtain ⟨g15, hf⟩ := q_gu_o hf
      obtain ⟨h16, e16, hf⟩ := q_bd hf
      refine v_callSN C0 cokX0_load rfl (rest := []) (ctX4_set s2 s1 s0 g15 e16) calX4_set lkX0_74 inX4_set dnX4_set rfl rfl ⟨by decide, by decide⟩ (Nat.le_of_ble_eq_true rfl) (Nat.le_refl _) (Nat.le_refl _) ?_
      obtain ⟨g17, hf⟩ := q_gu_o hf
      refine v_run C0 tbX0 cokX0_load (pc' := 115) (lv' := [(0, .ref a0), (1, .ref a1), (2, .int x2), (3, .ref a3)]) (st' := [.int (q_int h16 a3 2), .int x2, .ref (q_ref σ a0 3)]) (h' := h16) 5 rfl ⟨⟨ta0, q_tn k4⟩, g17, trivial⟩ ?_
      obtain ⟨h18, e18, hf⟩ := q_bd hf
      refine v_callSN C0 cokX0_load rfl (rest := []) (ctX4_set (q_ref σ a0 3) x2 (q_int h16 a3 2) k4 e18) calX4_set lkX0_74 inX4_set dnX4_set rfl rfl ⟨by decide, by decide⟩ (Nat.le_of_ble_eq_true rfl) (Nat.le_refl _) (Nat.le_refl _) ?_
      refine v_run C0 tbX0 cokX0_load (pc' := 19) (lv' := [(2, .int (x2 + (1 : Int32))), (0, .ref a0), (1, .ref a1), (3, .ref a3)]) (st' := []) (h' := h18) 2 rfl trivial ?_
      cases hf
      refine v_pick [1, 2, 0] rfl ?_
      exact kb1 _ rfl
    have n72 : ∀ (h : q_Hp) (x2 : Int32) (a3 : Nat) (x4 : Int32) (s0 : Int32) (s1 : Int32) (s2 : Nat), fX0_load_72 σ h a0 a1 x2 a3 x4 s0 s1 s2 = some z1 → V p l e { frames := 2, cells := 0, slots := 0, locals := 48 } s m args below meth c (MQ below (q_Qc D cy b0 none σ h') args s 0 0 (fun q => b0 ≤ q)) D cy b0 5 0 0 0 0 σ h 72 [(0, .ref a0), (1, .ref a1), (2, .int x2), (3, .ref a3), (4, .int x4)] [.int s0, .int s1, .ref s2] := by
      intro h x2 a3 x4 s0 s1 s2 hf
      unfold fX0_load_72 at hf
      obtain ⟨g10, hf⟩ := q_gu_o hf
      obtain ⟨h11, e11, hf⟩ := q_bd hf
      refine v_callSN C0 cokX0_load rfl (rest := []) (ctX4_set s2 s1 s0 g10 e11) calX4_set lkX0_74 inX4_set dnX4_set rfl rfl ⟨by decide, by decide⟩ (Nat.le_of_ble_eq_true rfl) (Nat.le_refl _) (Nat.le_refl _) ?_
      refine v_run C0 tbX0 cokX0_load (pc' := 85) (lv' := [(0, .ref a0), (1, .ref a1), (2, .int x2), (3, .ref a3), (4, .int x4)]) (st' := [.int x2, .int (q_int h11 a0 10), .int x2, .ref (q_ref σ a0 1)]) (h' := h11) 6 rfl ⟨⟨ta0, q_tn k3⟩, ta0, trivial⟩ ?_
      obtain ⟨r12, e12, hf⟩ := q_bd hf
      refine v_callSN C0 cokX0_load rfl (rest := [.int x2, .ref (q_ref σ a0 1)]) (ctX4_hasBit (q_int h11 a0 10) x2 e12) calX4_hasBit lkX0_67 inX4_hasBit dnX4_hasBit rfl rfl ⟨by decide, by decide⟩ (Nat.le_of_ble_eq_true rfl) (Nat.le_refl _) (Nat.le_refl _) ?_
      refine v_if_eq C0 cokX0_load rfl 102 (by decide) hf (fun _ hf => ?_) (fun _ hf => ?_)
      · refine v_run C0 tbX0 cokX0_load (pc' := 103) (lv' := [(0, .ref a0), (1, .ref a1), (2, .int x2), (3, .ref a3), (4, .int x4)]) (st' := [.int (0 : Int32), .int x2, .ref (q_ref σ a0 1)]) (h' := h11) 1 rfl trivial ?_
        refine v_pick [0, 1, 2, 3] rfl ?_
        exact n103 h11 x2 a3 (0 : Int32) x2 (q_ref σ a0 1) hf
      · refine v_run C0 tbX0 cokX0_load (pc' := 96) (lv' := [(0, .ref a0), (1, .ref a1), (2, .int x2), (3, .ref a3), (4, .int x4)]) (st' := [.int (1 : Int32), .int x4, .ref a3, .ref a1, .int x2, .ref (q_ref σ a0 1)]) (h' := h11) 4 rfl trivial ?_
        obtain ⟨g13, hf⟩ := q_gu_o hf
        obtain ⟨r14, e14, hf⟩ := q_bd hf
        refine v_callV C0 cokX0_load rfl (rest := [.int x2, .ref (q_ref σ a0 1)]) (ctX2_takers a1 a3 x4 (1 : Int32) ta1 g13 e14) calX2_takers lkX0_71 inX2_takers dnX2_takers (ci := 2) ⟨rfl, by decide⟩ ta1 rfl rfl ⟨by decide, by decide⟩ (Nat.le_of_ble_eq_true rfl) (Nat.le_refl _) (Nat.le_refl _) ?_
        refine v_run C0 tbX0 cokX0_load (pc' := 103) (lv' := [(0, .ref a0), (1, .ref a1), (2, .int x2), (3, .ref a3), (4, .int x4)]) (st' := [.int r14, .int x2, .ref (q_ref σ a0 1)]) (h' := h11) 1 rfl trivial ?_
        refine v_pick [0, 1, 2, 3] rfl ?_
        exact n103 h11 x2 a3 r14 x2 (q_ref σ a0 1) hf
    refine v_run C0 tbX0 cokX0_load (pc' := 25) (lv' := [(0, .ref a0), (1, .ref a1), (2, .int x2)]) (st' := [.int (Int32.ofNat (q_len σ (q_ref σ a0 2))), .int x2]) (h' := h) 4 rfl ⟨⟨ta0, q_tn k1⟩, (Or.inl k1), trivial⟩ ?_
    refine v_icmp_ge C0 cokX0_load rfl 124 (by decide) hf (fun _ hf => ?_) (fun _ hf => ?_)
    · cases hf
      refine v_pick [0] rfl ?_
      have hx := kr1 _ rfl
      subst hx
      exact kx1
    · refine v_run C0 tbX0 cokX0_load (pc' := 30) (lv' := [(0, .ref a0), (1, .ref a1), (2, .int x2)]) (st' := [.int x2, .ref a1]) (h' := h) 2 rfl trivial ?_
      obtain ⟨r5, e5, hf⟩ := q_bd hf
      refine v_callV C0 cokX0_load rfl (rest := []) (ctX2_kindOf a1 x2 ta1 e5) calX2_kindOf lkX0_56 inX2_kindOf dnX2_kindOf (ci := 2) ⟨rfl, by decide⟩ ta1 rfl rfl ⟨by decide, by decide⟩ (Nat.le_of_ble_eq_true rfl) (Nat.le_refl _) (Nat.le_refl _) ?_
      refine v_run C0 tbX0 cokX0_load (pc' := 39) (lv' := [(3, .ref r5), (0, .ref a0), (1, .ref a1), (2, .int x2)]) (st' := [.int x2, .ref (q_ref σ a1 1)]) (h' := h) 4 rfl ⟨⟨ta1, q_tn k2⟩, trivial⟩ ?_
      obtain ⟨r6, e6, hf⟩ := q_bd hf
      refine v_callSN C0 cokX0_load rfl (rest := []) (ctX4_at (q_ref σ a1 1) x2 k2 e6) calX4_at lkX0_63 inX4_at dnX4_at rfl rfl ⟨by decide, by decide⟩ (Nat.le_of_ble_eq_true rfl) (Nat.le_refl _) (Nat.le_refl _) ?_
      refine v_run C0 tbX0 cokX0_load (pc' := 54) (lv' := [(4, .int r6), (3, .ref r5), (0, .ref a0), (1, .ref a1), (2, .int x2)]) (st' := [.int x2, .int (q_int h a0 10), .int x2, .ref (q_ref σ a0 0)]) (h' := h) 7 rfl ⟨⟨ta0, q_tn k0⟩, ta0, trivial⟩ ?_
      obtain ⟨r7, e7, hf⟩ := q_bd hf
      refine v_callSN C0 cokX0_load rfl (rest := [.int x2, .ref (q_ref σ a0 0)]) (ctX4_hasBit (q_int h a0 10) x2 e7) calX4_hasBit lkX0_67 inX4_hasBit dnX4_hasBit rfl rfl ⟨by decide, by decide⟩ (Nat.le_of_ble_eq_true rfl) (Nat.le_refl _) (Nat.le_refl _) ?_
      refine v_if_eq C0 cokX0_load rfl 71 (by decide) hf (fun _ hf => ?_) (fun _ hf => ?_)
      · refine v_run C0 tbX0 cokX0_load (pc' := 72) (lv' := [(4, .int r6), (3, .ref r5), (0, .ref a0), (1, .ref a1), (2, .int x2)]) (st' := [.int (0 : Int32), .int x2, .ref (q_ref σ a0 0)]) (h' := h) 1 rfl trivial ?_
        refine v_pick [2, 3, 4, 1, 0] rfl ?_
        exact n72 h x2 r5 r6 (0 : Int32) x2 (q_ref σ a0 0) hf
      · refine v_run C0 tbX0 cokX0_load (pc' := 65) (lv' := [(4, .int r6), (3, .ref r5), (0, .ref a0), (1, .ref a1), (2, .int x2)]) (st' := [.int (0 : Int32), .int r6, .ref r5, .ref a1, .int x2, .ref (q_ref σ a0 0)]) (h' := h) 4 rfl trivial ?_
        obtain ⟨g8, hf⟩ := q_gu_o hf
        obtain ⟨r9, e9, hf⟩ := q_bd hf
        refine v_callV C0 cokX0_load rfl (rest := [.int x2, .ref (q_ref σ a0 0)]) (ctX2_takers a1 r5 r6 (0 : Int32) ta1 g8 e9) calX2_takers lkX0_71 inX2_takers dnX2_takers (ci := 2) ⟨rfl, by decide⟩ ta1 rfl rfl ⟨by decide, by decide⟩ (Nat.le_of_ble_eq_true rfl) (Nat.le_refl _) (Nat.le_refl _) ?_
        refine v_run C0 tbX0 cokX0_load (pc' := 72) (lv' := [(4, .int r6), (3, .ref r5), (0, .ref a0), (1, .ref a1), (2, .int x2)]) (st' := [.int r9, .int x2, .ref (q_ref σ a0 0)]) (h' := h) 1 rfl trivial ?_
        refine v_pick [2, 3, 4, 1, 0] rfl ?_
        exact n72 h x2 r5 r6 r9 x2 (q_ref σ a0 0) hf
  refine v_run C0 tbX0 cokX0_load (pc' := 2) (lv' := [(0, .ref a0), (1, .ref a1)]) (st' := [.ref a1, .ref a0]) (h' := h) 2 rfl trivial ?_
  obtain ⟨r1, e1, hf⟩ := q_bd hf
  refine v_callV C0 cokX0_load rfl (rest := [.ref a0]) (ctX2_openBookings a1 ta1 e1) calX2_openBookings lkX0_46 inX2_openBookings dnX2_openBookings (ci := 2) ⟨rfl, by decide⟩ ta1 rfl rfl ⟨by decide, by decide⟩ (Nat.le_of_ble_eq_true rfl) (Nat.le_refl _) (Nat.le_refl _) ?_
  refine v_run C0 tbX0 cokX0_load (pc' := 11) (lv' := [(0, .ref a0), (1, .ref a1)]) (st' := [.int (0 : Int32), .ref a1, .ref a0]) (h' := (q_si h a0 9 r1)) 4 rfl ⟨ta0, trivial⟩ ?_
  obtain ⟨r2, e2, hf⟩ := q_bd hf
  refine v_callV C0 cokX0_load rfl (rest := [.ref a0]) (ctX2_suitsThatAre a1 (0 : Int32) ta1 e2) calX2_suitsThatAre lkX0_52 inX2_suitsThatAre dnX2_suitsThatAre (ci := 2) ⟨rfl, by decide⟩ ta1 rfl rfl ⟨by decide, by decide⟩ (Nat.le_of_ble_eq_true rfl) (Nat.le_refl _) (Nat.le_refl _) ?_
  refine v_run C0 tbX0 cokX0_load (pc' := 19) (lv' := [(2, .int (0 : Int32)), (0, .ref a0), (1, .ref a1)]) (st' := []) (h' := (q_si (q_si h a0 9 r1) a0 10 r2)) 3 rfl ⟨ta0, trivial⟩ ?_
  obtain ⟨o3, eo3, hf⟩ := q_bd hf
  refine v_pick [1, 2, 0] rfl ?_
  refine n19 o3 ((0 : Int32), (q_si (q_si h a0 9 r1) a0 10 r2)) eo3 ?_
  refine v_run C0 tbX0 cokX0_load (pc' := 132) (lv' := [(0, .ref a0)]) (st' := [.ref (q_ref σ a0 2), .ref (q_ref σ a0 0)]) (h' := o3) 4 rfl ⟨⟨ta0, q_tn k0⟩, ⟨ta0, q_tn k1⟩, trivial⟩ ?_
  obtain ⟨h4, e4, hf⟩ := q_bd hf
  refine v_callSN C0 cokX0_load rfl (rest := []) (ctX4_fill (q_ref σ a0 0) (q_ref σ a0 2) k0 k1 e4) calX4_fill lkX0_83 inX4_fill dnX4_fill rfl rfl ⟨by decide, by decide⟩ (Nat.le_of_ble_eq_true rfl) (Nat.le_refl _) (Nat.le_refl _) ?_
  cases hf
  exact v_vret C0 cokX0_load hr hlk rfl
-- BackByNoonOnMonday$Fitting.lend(LBackByNoonOnMonday$Shop;LBackByNoonOnMonday$Suit;I)V
noncomputable def fX0_lend_12 (σ : q_St) (h : q_Hp) (a0 : Nat) (a1 : Nat) (a2 : Nat) (x3 : Int32) (s0 : Nat) : Option q_Hp := q_gu ((q_tag σ s0 = 4)) (((fX2_takers σ h a1 s0 x3 (0 : Int32)).bind fun r2 => ((fX4_set σ h (q_ref σ a0 2) (7 : Int32) r2).bind fun h3 => ((fX4_set σ h3 (q_ref σ a0 3) (7 : Int32) (q_int h3 s0 2)).bind fun h4 => some h4))))
noncomputable def fX0_lend (σ : q_St) (h : q_Hp) (a0 : Nat) (a1 : Nat) (a2 : Nat) (x3 : Int32) : Option q_Hp := q_gu ((q_tag σ (q_ref σ a0 2) = 7) ∧ (q_tag σ (q_ref σ a0 3) = 7)) (fX0_lend_12 σ h a0 a1 a2 x3 a2)
def cdX0_lend : q_Cd := [(0, .aload_n 2), (1, .ifnonnull 10), (4, .aload_n 1), (5, .getfield 87), (8, .goto 4), (11, .aload_n 2), (12, .astore 4), (14, .aload_n 0), (15, .getfield 18), (18, .bipush 7), (20, .aload_n 1), (21, .aload 4), (23, .iload_n 3), (24, .iconst 0), (25, .invokevirtual 71), (28, .invokestatic 74), (31, .aload_n 0), (32, .getfield 21), (35, .bipush 7), (37, .aload 4), (39, .getfield 78), (42, .invokestatic 74), (45, .return_)]
set_option maxRecDepth 100000 in
theorem cokX0_lend : q_cok cX0_lend cdX0_lend := by unfold q_cok; decide +kernel
set_option maxRecDepth 100000 in
set_option maxHeartbeats 4000000 in
theorem ctX0_lend {l : Launch} {D : va_G} {cy : Nat → Nat} {b0 : Nat} {σ : q_St} {h : q_Hp} (a0 : Nat) (a1 : Nat) (a2 : Nat) (x3 : Int32) {h' : q_Hp} (ta0 : q_tag σ a0 = 1) (ta1 : q_tag σ a1 = 3) (hf : fX0_lend σ h a0 a1 a2 x3 = some h') : q_M l yX0_lend cX0_lend 5 none 2 48 0 0 D cy b0 σ h [.ref a0, .ref a1, .ref a2, .int x3] none σ h' := by
  unfold fX0_lend at hf
  obtain ⟨⟨k0, k1⟩, hf⟩ := q_gu_o hf
  refine q_enter (by decide) (Nat.le_of_ble_eq_true rfl) ?_
  intro p e s m args below meth c C0 hr hlk _
  replace C0 : VC p { frames := 2, cells := 0, slots := 0, locals := 48 } s m args meth c D cy b0 5 0 0 RX0 cX0_lend := C0
  have n12 : ∀ (h : q_Hp) (s0 : Nat), fX0_lend_12 σ h a0 a1 a2 x3 s0 = some h' → V p l e { frames := 2, cells := 0, slots := 0, locals := 48 } s m args below meth c (MQ below (q_Qc D cy b0 none σ h') args s 0 0 (fun q => b0 ≤ q)) D cy b0 5 0 0 0 0 σ h 12 [(0, .ref a0), (1, .ref a1), (3, .int x3)] [.ref s0] := by
    intro h s0 hf
    unfold fX0_lend_12 at hf
    refine v_run C0 tbX0 cokX0_lend (pc' := 25) (lv' := [(4, .ref s0), (0, .ref a0), (1, .ref a1), (3, .int x3)]) (st' := [.int (0 : Int32), .int x3, .ref s0, .ref a1, .int (7 : Int32), .ref (q_ref σ a0 2)]) (h' := h) 8 rfl ⟨⟨ta0, q_tn k0⟩, trivial⟩ ?_
    obtain ⟨g1, hf⟩ := q_gu_o hf
    obtain ⟨r2, e2, hf⟩ := q_bd hf
    refine v_callV C0 cokX0_lend rfl (rest := [.int (7 : Int32), .ref (q_ref σ a0 2)]) (ctX2_takers a1 s0 x3 (0 : Int32) ta1 g1 e2) calX2_takers lkX0_71 inX2_takers dnX2_takers (ci := 2) ⟨rfl, by decide⟩ ta1 rfl rfl ⟨by decide, by decide⟩ (Nat.le_of_ble_eq_true rfl) (Nat.le_refl _) (Nat.le_refl _) ?_
    obtain ⟨h3, e3, hf⟩ := q_bd hf
    refine v_callSN C0 cokX0_lend rfl (rest := []) (ctX4_set (q_ref σ a0 2) (7 : Int32) r2 k0 e3) calX4_set lkX0_74 inX4_set dnX4_set rfl rfl ⟨by decide, by decide⟩ (Nat.le_of_ble_eq_true rfl) (Nat.le_refl _) (Nat.le_refl _) ?_
    refine v_run C0 tbX0 cokX0_lend (pc' := 42) (lv' := [(4, .ref s0), (0, .ref a0), (1, .ref a1), (3, .int x3)]) (st' := [.int (q_int h3 s0 2), .int (7 : Int32), .ref (q_ref σ a0 3)]) (h' := h3) 5 rfl ⟨⟨ta0, q_tn k1⟩, g1, trivial⟩ ?_
    obtain ⟨h4, e4, hf⟩ := q_bd hf
    refine v_callSN C0 cokX0_lend rfl (rest := []) (ctX4_set (q_ref σ a0 3) (7 : Int32) (q_int h3 s0 2) k1 e4) calX4_set lkX0_74 inX4_set dnX4_set rfl rfl ⟨by decide, by decide⟩ (Nat.le_of_ble_eq_true rfl) (Nat.le_refl _) (Nat.le_refl _) ?_
    cases hf
    exact v_vret C0 cokX0_lend hr hlk rfl
  refine v_run C0 tbX0 cokX0_lend (pc' := 12) (lv' := [(0, .ref a0), (1, .ref a1), (2, .ref a2), (3, .int x3)]) (st' := [.ref a2]) (h' := h) 3 rfl trivial ?_
  refine v_pick [0, 1, 3] rfl ?_
  exact n12 h a2 hf
-- BackByNoonOnMonday$Fitting.grow(I)V
noncomputable def fX0_grow_2 (σ : q_St) (a0 : Nat) (x1 : Int32) (x2 : Int32) (h : q_Hp) : Option ((Int32 × q_Hp) ⊕ q_Hp) := (if (Int32.ofNat (q_len σ (q_ref σ a0 2))) ≤ x2 then some (Sum.inr h) else ((fX4_at σ h (q_ref σ a0 0) x2).bind fun r2 => ((fX4_at σ h (q_ref σ a0 1) x2).bind fun r3 => q_gu ((vp_in x2 (q_len σ (q_ref σ a0 2)))) (some (Sum.inl ((x2 + (1 : Int32)), (q_si h (q_ref σ a0 2) (Int32.toNatClampNeg x2) ((r2 &&& (x1 ^^^ (-1 : Int32))) ||| (r3 &&& x1)))))))))
noncomputable def fX0_grow (σ : q_St) (h : q_Hp) (a0 : Nat) (x1 : Int32) : Option q_Hp := q_gu ((q_tag σ (q_ref σ a0 2) = 7) ∧ (q_tag σ (q_ref σ a0 0) = 7) ∧ (q_tag σ (q_ref σ a0 1) = 7)) ((q_loop (fun s => fX0_grow_2 σ a0 x1 s.1 s.2) q_N ((0 : Int32), h)).bind fun o1 => some o1)
def cdX0_grow : q_Cd := [(0, .iconst 0), (1, .istore_n 2), (2, .iload_n 2), (3, .aload_n 0), (4, .getfield 18), (7, .arraylength), (8, .if_icmp .ge 38), (11, .aload_n 0), (12, .getfield 18), (15, .iload_n 2), (16, .aload_n 0), (17, .getfield 9), (20, .iload_n 2), (21, .invokestatic 63), (24, .iload_n 1), (25, .iconst (-1)), (26, .ixor), (27, .iand), (28, .aload_n 0), (29, .getfield 15), (32, .iload_n 2), (33, .invokestatic 63), (36, .iload_n 1), (37, .iand), (38, .ior), (39, .iastore), (40, .iinc 2 1), (43, .goto (-41)), (46, .return_)]
set_option maxRecDepth 100000 in
theorem cokX0_grow : q_cok cX0_grow cdX0_grow := by unfold q_cok; decide +kernel
set_option maxRecDepth 100000 in
set_option maxHeartbeats 4000000 in
theorem ctX0_grow {l : Launch} {D : va_G} {cy : Nat → Nat} {b0 : Nat} {σ : q_St} {h : q_Hp} (a0 : Nat) (x1 : Int32) {h' : q_Hp} (ta0 : q_tag σ a0 = 1) (hf : fX0_grow σ h a0 x1 = some h') : q_M l yX0_grow cX0_grow 3 none 1 21 0 0 D cy b0 σ h [.ref a0, .int x1] none σ h' := by
  unfold fX0_grow at hf
  obtain ⟨⟨k0, k1, k2⟩, hf⟩ := q_gu_o hf
  refine q_enter (by decide) (Nat.le_of_ble_eq_true rfl) ?_
  intro p e s m args below meth c C0 hr hlk _
  replace C0 : VC p { frames := 1, cells := 0, slots := 0, locals := 21 } s m args meth c D cy b0 3 0 0 RX0 cX0_grow := C0
  have n2 : ∀ (o : q_Hp) (s1 : (Int32 × q_Hp)), q_loop (fun s => fX0_grow_2 σ a0 x1 s.1 s.2) q_N s1 = some o → V p l e { frames := 1, cells := 0, slots := 0, locals := 21 } s m args below meth c (MQ below (q_Qc D cy b0 none σ h') args s 0 0 (fun q => b0 ≤ q)) D cy b0 3 0 0 0 0 σ o 46 [] [] → V p l e { frames := 1, cells := 0, slots := 0, locals := 21 } s m args below meth c (MQ below (q_Qc D cy b0 none σ h') args s 0 0 (fun q => b0 ≤ q)) D cy b0 3 0 0 0 0 σ s1.2 2 [(0, .ref a0), (1, .int x1), (2, .int s1.1)] [] := by
    intro o s1 ho kx1
    refine q_loop_V (P := fun s0 => V p l e { frames := 1, cells := 0, slots := 0, locals := 21 } s m args below meth c (MQ below (q_Qc D cy b0 none σ h') args s 0 0 (fun q => b0 ≤ q)) D cy b0 3 0 0 0 0 σ s0.2 2 [(0, .ref a0), (1, .int x1), (2, .int s0.1)] []) (o := o) ?_ q_N s1 ho
    intro s2 z1 hf kb1 kr1
    obtain ⟨x2, h⟩ := s2
    replace hf : fX0_grow_2 σ a0 x1 x2 h = some z1 := hf
    unfold fX0_grow_2 at hf
    show V p l e { frames := 1, cells := 0, slots := 0, locals := 21 } s m args below meth c (MQ below (q_Qc D cy b0 none σ h') args s 0 0 (fun q => b0 ≤ q)) D cy b0 3 0 0 0 0 σ h 2 [(0, .ref a0), (1, .int x1), (2, .int x2)] []
    refine v_run C0 tbX0 cokX0_grow (pc' := 8) (lv' := [(0, .ref a0), (1, .int x1), (2, .int x2)]) (st' := [.int (Int32.ofNat (q_len σ (q_ref σ a0 2))), .int x2]) (h' := h) 4 rfl ⟨⟨ta0, q_tn k0⟩, (Or.inl k0), trivial⟩ ?_
    refine v_icmp_ge C0 cokX0_grow rfl 46 (by decide) hf (fun _ hf => ?_) (fun _ hf => ?_)
    · cases hf
      refine v_pick [] rfl ?_
      have hx := kr1 _ rfl
      subst hx
      exact kx1
    · refine v_run C0 tbX0 cokX0_grow (pc' := 21) (lv' := [(0, .ref a0), (1, .int x1), (2, .int x2)]) (st' := [.int x2, .ref (q_ref σ a0 0), .int x2, .ref (q_ref σ a0 2)]) (h' := h) 6 rfl ⟨⟨ta0, q_tn k0⟩, ⟨ta0, q_tn k1⟩, trivial⟩ ?_
      obtain ⟨r2, e2, hf⟩ := q_bd hf
      refine v_callSN C0 cokX0_grow rfl (rest := [.int x2, .ref (q_ref σ a0 2)]) (ctX4_at (q_ref σ a0 0) x2 k1 e2) calX4_at lkX0_63 inX4_at dnX4_at rfl rfl ⟨by decide, by decide⟩ (Nat.le_of_ble_eq_true rfl) (Nat.le_refl _) (Nat.le_refl _) ?_
      refine v_run C0 tbX0 cokX0_grow (pc' := 33) (lv' := [(0, .ref a0), (1, .int x1), (2, .int x2)]) (st' := [.int x2, .ref (q_ref σ a0 1), .int (r2 &&& (x1 ^^^ (-1 : Int32))), .int x2, .ref (q_ref σ a0 2)]) (h' := h) 7 rfl ⟨⟨ta0, q_tn k2⟩, trivial⟩ ?_
      obtain ⟨r3, e3, hf⟩ := q_bd hf
      refine v_callSN C0 cokX0_grow rfl (rest := [.int (r2 &&& (x1 ^^^ (-1 : Int32))), .int x2, .ref (q_ref σ a0 2)]) (ctX4_at (q_ref σ a0 1) x2 k2 e3) calX4_at lkX0_63 inX4_at dnX4_at rfl rfl ⟨by decide, by decide⟩ (Nat.le_of_ble_eq_true rfl) (Nat.le_refl _) (Nat.le_refl _) ?_
      obtain ⟨g4, hf⟩ := q_gu_o hf
      refine v_run C0 tbX0 cokX0_grow (pc' := 2) (lv' := [(2, .int (x2 + (1 : Int32))), (0, .ref a0), (1, .int x1)]) (st' := []) (h' := (q_si h (q_ref σ a0 2) (Int32.toNatClampNeg x2) ((r2 &&& (x1 ^^^ (-1 : Int32))) ||| (r3 &&& x1)))) 6 rfl ⟨⟨k0, g4⟩, trivial⟩ ?_
      cases hf
      refine v_pick [1, 2, 0] rfl ?_
      exact kb1 _ rfl
  refine v_run C0 tbX0 cokX0_grow (pc' := 2) (lv' := [(2, .int (0 : Int32)), (0, .ref a0), (1, .int x1)]) (st' := []) (h' := h) 2 rfl trivial ?_
  obtain ⟨o1, eo1, hf⟩ := q_bd hf
  refine v_pick [1, 2, 0] rfl ?_
  refine n2 o1 ((0 : Int32), h) eo1 ?_
  cases hf
  exact v_vret C0 cokX0_grow hr hlk rfl
end
