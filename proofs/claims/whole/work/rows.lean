section
-- ===== PART A: goes FIRST, ahead of the names: the tables' words, and 'selects' of the private methods out of them =====
/-- a private method of a class that the tables say can be made, by its rows of tables_1 -/
def lw_okq (q : MethodName × Nat) : Prop := (q.1.cls ≠ "java/lang/invoke/MethodHandle" ∧ q.1.cls ≠ "java/lang/invoke/VarHandle") ∧ Cond.instantiable q.1.cls q.2 ∈ tables_1 ∧ Cond.privateMethod q.1 ∈ tables_1 ∧ Cond.instanceMethod q.1 ∈ tables_1
theorem lw_p0 : lw_okq (⟨"BackByNoonOnMonday", "shelfAt", "(I)LBackByNoonOnMonday$Shelf;"⟩, 12) := ⟨⟨by decide +kernel, by decide +kernel⟩, List.mem_of_getElem? (i := 17) (by decide +kernel), List.mem_of_getElem? (i := 262) (by decide +kernel), List.mem_of_getElem? (i := 263) (by decide +kernel)⟩
theorem lw_p1 : lw_okq (⟨"BackByNoonOnMonday", "tellShop", "(LBackByNoonOnMonday$Shelf;)I"⟩, 12) := ⟨⟨by decide +kernel, by decide +kernel⟩, List.mem_of_getElem? (i := 17) (by decide +kernel), List.mem_of_getElem? (i := 279) (by decide +kernel), List.mem_of_getElem? (i := 280) (by decide +kernel)⟩
theorem lw_p2 : lw_okq (⟨"BackByNoonOnMonday$Fitting", "clear", "()V"⟩, 11) := ⟨⟨by decide +kernel, by decide +kernel⟩, List.mem_of_getElem? (i := 172) (by decide +kernel), List.mem_of_getElem? (i := 432) (by decide +kernel), List.mem_of_getElem? (i := 433) (by decide +kernel)⟩
theorem lw_p3 : lw_okq (⟨"BackByNoonOnMonday$Fitting", "seat", "(II)Z"⟩, 11) := ⟨⟨by decide +kernel, by decide +kernel⟩, List.mem_of_getElem? (i := 172) (by decide +kernel), List.mem_of_getElem? (i := 436) (by decide +kernel), List.mem_of_getElem? (i := 437) (by decide +kernel)⟩
theorem lw_p4 : lw_okq (⟨"BackByNoonOnMonday$Fitting", "moveOn", "(I)V"⟩, 11) := ⟨⟨by decide +kernel, by decide +kernel⟩, List.mem_of_getElem? (i := 172) (by decide +kernel), List.mem_of_getElem? (i := 440) (by decide +kernel), List.mem_of_getElem? (i := 441) (by decide +kernel)⟩
theorem lw_p5 : lw_okq (⟨"BackByNoonOnMonday$Fitting", "leastKeeping", "(IIII)I"⟩, 11) := ⟨⟨by decide +kernel, by decide +kernel⟩, List.mem_of_getElem? (i := 172) (by decide +kernel), List.mem_of_getElem? (i := 449) (by decide +kernel), List.mem_of_getElem? (i := 450) (by decide +kernel)⟩
theorem lw_p6 : lw_okq (⟨"BackByNoonOnMonday$Fitting", "dearest", "(I)I"⟩, 11) := ⟨⟨by decide +kernel, by decide +kernel⟩, List.mem_of_getElem? (i := 172) (by decide +kernel), List.mem_of_getElem? (i := 465) (by decide +kernel), List.mem_of_getElem? (i := 466) (by decide +kernel)⟩
theorem lw_p7 : lw_okq (⟨"BackByNoonOnMonday", "fillWays", "()V"⟩, 12) := ⟨⟨by decide +kernel, by decide +kernel⟩, List.mem_of_getElem? (i := 17) (by decide +kernel), List.mem_of_getElem? (i := 523) (by decide +kernel), List.mem_of_getElem? (i := 524) (by decide +kernel)⟩
theorem lw_p8 : lw_okq (⟨"BackByNoonOnMonday", "readHours", "(LBackByNoonOnMonday$Shelf;)Z"⟩, 12) := ⟨⟨by decide +kernel, by decide +kernel⟩, List.mem_of_getElem? (i := 17) (by decide +kernel), List.mem_of_getElem? (i := 549) (by decide +kernel), List.mem_of_getElem? (i := 550) (by decide +kernel)⟩
theorem lw_p9 : lw_okq (⟨"BackByNoonOnMonday", "orderCleaning", "()I"⟩, 12) := ⟨⟨by decide +kernel, by decide +kernel⟩, List.mem_of_getElem? (i := 17) (by decide +kernel), List.mem_of_getElem? (i := 563) (by decide +kernel), List.mem_of_getElem? (i := 564) (by decide +kernel)⟩
theorem lw_p10 : lw_okq (⟨"BackByNoonOnMonday", "mostReady", "(I)I"⟩, 12) := ⟨⟨by decide +kernel, by decide +kernel⟩, List.mem_of_getElem? (i := 17) (by decide +kernel), List.mem_of_getElem? (i := 567) (by decide +kernel), List.mem_of_getElem? (i := 568) (by decide +kernel)⟩
theorem lw_p11 : lw_okq (⟨"BackByNoonOnMonday", "inTime", "(II)Z"⟩, 12) := ⟨⟨by decide +kernel, by decide +kernel⟩, List.mem_of_getElem? (i := 17) (by decide +kernel), List.mem_of_getElem? (i := 571) (by decide +kernel), List.mem_of_getElem? (i := 572) (by decide +kernel)⟩
theorem lw_p12 : lw_okq (⟨"BackByNoonOnMonday", "firstCleaned", "(II)I"⟩, 12) := ⟨⟨by decide +kernel, by decide +kernel⟩, List.mem_of_getElem? (i := 17) (by decide +kernel), List.mem_of_getElem? (i := 575) (by decide +kernel), List.mem_of_getElem? (i := 576) (by decide +kernel)⟩
theorem lw_p13 : lw_okq (⟨"BackByNoonOnMonday", "feeTenths", "(I)I"⟩, 12) := ⟨⟨by decide +kernel, by decide +kernel⟩, List.mem_of_getElem? (i := 17) (by decide +kernel), List.mem_of_getElem? (i := 583) (by decide +kernel), List.mem_of_getElem? (i := 584) (by decide +kernel)⟩
theorem lw_p14 : lw_okq (⟨"BackByNoonOnMonday", "comersFor", "(I)I"⟩, 12) := ⟨⟨by decide +kernel, by decide +kernel⟩, List.mem_of_getElem? (i := 17) (by decide +kernel), List.mem_of_getElem? (i := 587) (by decide +kernel), List.mem_of_getElem? (i := 588) (by decide +kernel)⟩
theorem lw_p15 : lw_okq (⟨"BackByNoonOnMonday", "firstForged", "(LBackByNoonOnMonday$Shelf;)I"⟩, 12) := ⟨⟨by decide +kernel, by decide +kernel⟩, List.mem_of_getElem? (i := 17) (by decide +kernel), List.mem_of_getElem? (i := 624) (by decide +kernel), List.mem_of_getElem? (i := 625) (by decide +kernel)⟩
def lw_privs_1 : List (MethodName × Nat) := [(⟨"BackByNoonOnMonday", "shelfAt", "(I)LBackByNoonOnMonday$Shelf;"⟩, 12), (⟨"BackByNoonOnMonday", "tellShop", "(LBackByNoonOnMonday$Shelf;)I"⟩, 12), (⟨"BackByNoonOnMonday$Fitting", "clear", "()V"⟩, 11), (⟨"BackByNoonOnMonday$Fitting", "seat", "(II)Z"⟩, 11), (⟨"BackByNoonOnMonday$Fitting", "moveOn", "(I)V"⟩, 11), (⟨"BackByNoonOnMonday$Fitting", "leastKeeping", "(IIII)I"⟩, 11), (⟨"BackByNoonOnMonday$Fitting", "dearest", "(I)I"⟩, 11), (⟨"BackByNoonOnMonday", "fillWays", "()V"⟩, 12), (⟨"BackByNoonOnMonday", "readHours", "(LBackByNoonOnMonday$Shelf;)Z"⟩, 12), (⟨"BackByNoonOnMonday", "orderCleaning", "()I"⟩, 12), (⟨"BackByNoonOnMonday", "mostReady", "(I)I"⟩, 12), (⟨"BackByNoonOnMonday", "inTime", "(II)Z"⟩, 12), (⟨"BackByNoonOnMonday", "firstCleaned", "(II)I"⟩, 12), (⟨"BackByNoonOnMonday", "feeTenths", "(I)I"⟩, 12), (⟨"BackByNoonOnMonday", "comersFor", "(I)I"⟩, 12), (⟨"BackByNoonOnMonday", "firstForged", "(LBackByNoonOnMonday$Shelf;)I"⟩, 12)]
theorem lw_r1 : ∀ q ∈ lw_privs_1, lw_okq q := List.forall_mem_cons.mpr ⟨lw_p0, List.forall_mem_cons.mpr ⟨lw_p1, List.forall_mem_cons.mpr ⟨lw_p2, List.forall_mem_cons.mpr ⟨lw_p3, List.forall_mem_cons.mpr ⟨lw_p4, List.forall_mem_cons.mpr ⟨lw_p5, List.forall_mem_cons.mpr ⟨lw_p6, List.forall_mem_cons.mpr ⟨lw_p7, List.forall_mem_cons.mpr ⟨lw_p8, List.forall_mem_cons.mpr ⟨lw_p9, List.forall_mem_cons.mpr ⟨lw_p10, List.forall_mem_cons.mpr ⟨lw_p11, List.forall_mem_cons.mpr ⟨lw_p12, List.forall_mem_cons.mpr ⟨lw_p13, List.forall_mem_cons.mpr ⟨lw_p14, List.forall_mem_cons.mpr ⟨lw_p15, fun _ h => absurd h List.not_mem_nil⟩⟩⟩⟩⟩⟩⟩⟩⟩⟩⟩⟩⟩⟩⟩⟩
theorem lw_p16 : lw_okq (⟨"java/lang/Throwable", "fillInStackTrace", "(I)Ljava/lang/Throwable;"⟩, 6) := ⟨⟨by decide +kernel, by decide +kernel⟩, List.mem_of_getElem? (i := 767) (by decide +kernel), List.mem_of_getElem? (i := 765) (by decide +kernel), List.mem_of_getElem? (i := 766) (by decide +kernel)⟩
theorem lw_p17 : lw_okq (⟨"BackByNoonOnMondayModel", "wrongRow", "(I)I"⟩, 44) := ⟨⟨by decide +kernel, by decide +kernel⟩, List.mem_of_getElem? (i := 843) (by decide +kernel), List.mem_of_getElem? (i := 991) (by decide +kernel), List.mem_of_getElem? (i := 992) (by decide +kernel)⟩
theorem lw_p18 : lw_okq (⟨"BackByNoonOnMondayModel", "readStatement", "()V"⟩, 44) := ⟨⟨by decide +kernel, by decide +kernel⟩, List.mem_of_getElem? (i := 843) (by decide +kernel), List.mem_of_getElem? (i := 999) (by decide +kernel), List.mem_of_getElem? (i := 1000) (by decide +kernel)⟩
theorem lw_p19 : lw_okq (⟨"BackByNoonOnMondayModel", "here", "()I"⟩, 44) := ⟨⟨by decide +kernel, by decide +kernel⟩, List.mem_of_getElem? (i := 843) (by decide +kernel), List.mem_of_getElem? (i := 1003) (by decide +kernel), List.mem_of_getElem? (i := 1004) (by decide +kernel)⟩
theorem lw_p20 : lw_okq (⟨"BackByNoonOnMondayModel", "readNumbers", "(II)V"⟩, 44) := ⟨⟨by decide +kernel, by decide +kernel⟩, List.mem_of_getElem? (i := 843) (by decide +kernel), List.mem_of_getElem? (i := 1007) (by decide +kernel), List.mem_of_getElem? (i := 1008) (by decide +kernel)⟩
theorem lw_p21 : lw_okq (⟨"BackByNoonOnMondayModel", "readDigits", "(I)I"⟩, 44) := ⟨⟨by decide +kernel, by decide +kernel⟩, List.mem_of_getElem? (i := 843) (by decide +kernel), List.mem_of_getElem? (i := 1011) (by decide +kernel), List.mem_of_getElem? (i := 1012) (by decide +kernel)⟩
theorem lw_p22 : lw_okq (⟨"BackByNoonOnMondayModel", "open", "()V"⟩, 44) := ⟨⟨by decide +kernel, by decide +kernel⟩, List.mem_of_getElem? (i := 843) (by decide +kernel), List.mem_of_getElem? (i := 1017) (by decide +kernel), List.mem_of_getElem? (i := 1018) (by decide +kernel)⟩
theorem lw_p23 : lw_okq (⟨"BackByNoonOnMondayModel", "carryAll", "([IZ)V"⟩, 44) := ⟨⟨by decide +kernel, by decide +kernel⟩, List.mem_of_getElem? (i := 843) (by decide +kernel), List.mem_of_getElem? (i := 1021) (by decide +kernel), List.mem_of_getElem? (i := 1022) (by decide +kernel)⟩
theorem lw_p24 : lw_okq (⟨"BackByNoonOnMondayModel", "carry", "(I)I"⟩, 44) := ⟨⟨by decide +kernel, by decide +kernel⟩, List.mem_of_getElem? (i := 843) (by decide +kernel), List.mem_of_getElem? (i := 1025) (by decide +kernel), List.mem_of_getElem? (i := 1026) (by decide +kernel)⟩
theorem lw_p25 : lw_okq (⟨"BackByNoonOnMondayModel", "comesTold", "(I)Z"⟩, 44) := ⟨⟨by decide +kernel, by decide +kernel⟩, List.mem_of_getElem? (i := 843) (by decide +kernel), List.mem_of_getElem? (i := 1029) (by decide +kernel), List.mem_of_getElem? (i := 1030) (by decide +kernel)⟩
theorem lw_p26 : lw_okq (⟨"BackByNoonOnMondayModel", "suitComes", "(IIII)Z"⟩, 44) := ⟨⟨by decide +kernel, by decide +kernel⟩, List.mem_of_getElem? (i := 843) (by decide +kernel), List.mem_of_getElem? (i := 1033) (by decide +kernel), List.mem_of_getElem? (i := 1034) (by decide +kernel)⟩
theorem lw_p27 : lw_okq (⟨"BackByNoonOnMondayModel", "bookingComes", "(IIIII)Z"⟩, 44) := ⟨⟨by decide +kernel, by decide +kernel⟩, List.mem_of_getElem? (i := 843) (by decide +kernel), List.mem_of_getElem? (i := 1037) (by decide +kernel), List.mem_of_getElem? (i := 1038) (by decide +kernel)⟩
theorem lw_p28 : lw_okq (⟨"BackByNoonOnMondayModel", "isSuit", "(I)Z"⟩, 44) := ⟨⟨by decide +kernel, by decide +kernel⟩, List.mem_of_getElem? (i := 843) (by decide +kernel), List.mem_of_getElem? (i := 1041) (by decide +kernel), List.mem_of_getElem? (i := 1042) (by decide +kernel)⟩
theorem lw_p29 : lw_okq (⟨"BackByNoonOnMondayModel", "isBooking", "(I)Z"⟩, 44) := ⟨⟨by decide +kernel, by decide +kernel⟩, List.mem_of_getElem? (i := 843) (by decide +kernel), List.mem_of_getElem? (i := 1045) (by decide +kernel), List.mem_of_getElem? (i := 1046) (by decide +kernel)⟩
theorem lw_p30 : lw_okq (⟨"BackByNoonOnMondayModel", "canHire", "(II)Z"⟩, 44) := ⟨⟨by decide +kernel, by decide +kernel⟩, List.mem_of_getElem? (i := 843) (by decide +kernel), List.mem_of_getElem? (i := 1049) (by decide +kernel), List.mem_of_getElem? (i := 1050) (by decide +kernel)⟩
theorem lw_p31 : lw_okq (⟨"BackByNoonOnMondayModel", "fitsIn", "(II)Z"⟩, 44) := ⟨⟨by decide +kernel, by decide +kernel⟩, List.mem_of_getElem? (i := 843) (by decide +kernel), List.mem_of_getElem? (i := 1053) (by decide +kernel), List.mem_of_getElem? (i := 1054) (by decide +kernel)⟩
def lw_privs_2 : List (MethodName × Nat) := [(⟨"java/lang/Throwable", "fillInStackTrace", "(I)Ljava/lang/Throwable;"⟩, 6), (⟨"BackByNoonOnMondayModel", "wrongRow", "(I)I"⟩, 44), (⟨"BackByNoonOnMondayModel", "readStatement", "()V"⟩, 44), (⟨"BackByNoonOnMondayModel", "here", "()I"⟩, 44), (⟨"BackByNoonOnMondayModel", "readNumbers", "(II)V"⟩, 44), (⟨"BackByNoonOnMondayModel", "readDigits", "(I)I"⟩, 44), (⟨"BackByNoonOnMondayModel", "open", "()V"⟩, 44), (⟨"BackByNoonOnMondayModel", "carryAll", "([IZ)V"⟩, 44), (⟨"BackByNoonOnMondayModel", "carry", "(I)I"⟩, 44), (⟨"BackByNoonOnMondayModel", "comesTold", "(I)Z"⟩, 44), (⟨"BackByNoonOnMondayModel", "suitComes", "(IIII)Z"⟩, 44), (⟨"BackByNoonOnMondayModel", "bookingComes", "(IIIII)Z"⟩, 44), (⟨"BackByNoonOnMondayModel", "isSuit", "(I)Z"⟩, 44), (⟨"BackByNoonOnMondayModel", "isBooking", "(I)Z"⟩, 44), (⟨"BackByNoonOnMondayModel", "canHire", "(II)Z"⟩, 44), (⟨"BackByNoonOnMondayModel", "fitsIn", "(II)Z"⟩, 44)]
theorem lw_r2 : ∀ q ∈ lw_privs_2, lw_okq q := List.forall_mem_cons.mpr ⟨lw_p16, List.forall_mem_cons.mpr ⟨lw_p17, List.forall_mem_cons.mpr ⟨lw_p18, List.forall_mem_cons.mpr ⟨lw_p19, List.forall_mem_cons.mpr ⟨lw_p20, List.forall_mem_cons.mpr ⟨lw_p21, List.forall_mem_cons.mpr ⟨lw_p22, List.forall_mem_cons.mpr ⟨lw_p23, List.forall_mem_cons.mpr ⟨lw_p24, List.forall_mem_cons.mpr ⟨lw_p25, List.forall_mem_cons.mpr ⟨lw_p26, List.forall_mem_cons.mpr ⟨lw_p27, List.forall_mem_cons.mpr ⟨lw_p28, List.forall_mem_cons.mpr ⟨lw_p29, List.forall_mem_cons.mpr ⟨lw_p30, List.forall_mem_cons.mpr ⟨lw_p31, fun _ h => absurd h List.not_mem_nil⟩⟩⟩⟩⟩⟩⟩⟩⟩⟩⟩⟩⟩⟩⟩⟩
theorem lw_p32 : lw_okq (⟨"BackByNoonOnMondayModel", "givesOf", "(I)I"⟩, 44) := ⟨⟨by decide +kernel, by decide +kernel⟩, List.mem_of_getElem? (i := 843) (by decide +kernel), List.mem_of_getElem? (i := 1060) (by decide +kernel), List.mem_of_getElem? (i := 1061) (by decide +kernel)⟩
theorem lw_p33 : lw_okq (⟨"BackByNoonOnMondayModel", "priceOf", "(I)I"⟩, 44) := ⟨⟨by decide +kernel, by decide +kernel⟩, List.mem_of_getElem? (i := 843) (by decide +kernel), List.mem_of_getElem? (i := 1064) (by decide +kernel), List.mem_of_getElem? (i := 1065) (by decide +kernel)⟩
theorem lw_p34 : lw_okq (⟨"BackByNoonOnMondayModel", "hire", "(II)V"⟩, 44) := ⟨⟨by decide +kernel, by decide +kernel⟩, List.mem_of_getElem? (i := 843) (by decide +kernel), List.mem_of_getElem? (i := 1071) (by decide +kernel), List.mem_of_getElem? (i := 1072) (by decide +kernel)⟩
theorem lw_p35 : lw_okq (⟨"BackByNoonOnMondayModel", "comeBack", "(I)V"⟩, 44) := ⟨⟨by decide +kernel, by decide +kernel⟩, List.mem_of_getElem? (i := 843) (by decide +kernel), List.mem_of_getElem? (i := 1075) (by decide +kernel), List.mem_of_getElem? (i := 1076) (by decide +kernel)⟩
theorem lw_p36 : lw_okq (⟨"BackByNoonOnMondayModel", "bookingOf", "(I)I"⟩, 44) := ⟨⟨by decide +kernel, by decide +kernel⟩, List.mem_of_getElem? (i := 843) (by decide +kernel), List.mem_of_getElem? (i := 1079) (by decide +kernel), List.mem_of_getElem? (i := 1080) (by decide +kernel)⟩
theorem lw_p37 : lw_okq (⟨"BackByNoonOnMondayModel", "canClean", "(I)Z"⟩, 44) := ⟨⟨by decide +kernel, by decide +kernel⟩, List.mem_of_getElem? (i := 843) (by decide +kernel), List.mem_of_getElem? (i := 1083) (by decide +kernel), List.mem_of_getElem? (i := 1084) (by decide +kernel)⟩
theorem lw_p38 : lw_okq (⟨"BackByNoonOnMondayModel", "cleansOf", "(I)I"⟩, 44) := ⟨⟨by decide +kernel, by decide +kernel⟩, List.mem_of_getElem? (i := 843) (by decide +kernel), List.mem_of_getElem? (i := 1087) (by decide +kernel), List.mem_of_getElem? (i := 1088) (by decide +kernel)⟩
theorem lw_p39 : lw_okq (⟨"BackByNoonOnMondayModel", "clean", "(I)V"⟩, 44) := ⟨⟨by decide +kernel, by decide +kernel⟩, List.mem_of_getElem? (i := 843) (by decide +kernel), List.mem_of_getElem? (i := 1091) (by decide +kernel), List.mem_of_getElem? (i := 1092) (by decide +kernel)⟩
theorem lw_p40 : lw_okq (⟨"BackByNoonOnMondayModel", "close", "()V"⟩, 44) := ⟨⟨by decide +kernel, by decide +kernel⟩, List.mem_of_getElem? (i := 843) (by decide +kernel), List.mem_of_getElem? (i := 1095) (by decide +kernel), List.mem_of_getElem? (i := 1096) (by decide +kernel)⟩
theorem lw_p41 : lw_okq (⟨"BackByNoonOnMondayModel", "lastsOf", "(I)I"⟩, 44) := ⟨⟨by decide +kernel, by decide +kernel⟩, List.mem_of_getElem? (i := 843) (by decide +kernel), List.mem_of_getElem? (i := 1111) (by decide +kernel), List.mem_of_getElem? (i := 1112) (by decide +kernel)⟩
theorem lw_p42 : lw_okq (⟨"BackByNoonOnMondayModel", "wrongKept", "(I)I"⟩, 44) := ⟨⟨by decide +kernel, by decide +kernel⟩, List.mem_of_getElem? (i := 843) (by decide +kernel), List.mem_of_getElem? (i := 1124) (by decide +kernel), List.mem_of_getElem? (i := 1125) (by decide +kernel)⟩
theorem lw_p43 : lw_okq (⟨"BackByNoonOnMondayModel", "servedNow", "()I"⟩, 44) := ⟨⟨by decide +kernel, by decide +kernel⟩, List.mem_of_getElem? (i := 843) (by decide +kernel), List.mem_of_getElem? (i := 1155) (by decide +kernel), List.mem_of_getElem? (i := 1156) (by decide +kernel)⟩
theorem lw_p44 : lw_okq (⟨"BackByNoonOnMondayModel", "layMost", "()I"⟩, 44) := ⟨⟨by decide +kernel, by decide +kernel⟩, List.mem_of_getElem? (i := 843) (by decide +kernel), List.mem_of_getElem? (i := 1159) (by decide +kernel), List.mem_of_getElem? (i := 1160) (by decide +kernel)⟩
theorem lw_p45 : lw_okq (⟨"BackByNoonOnMondayModel", "mostBy", "(II)I"⟩, 44) := ⟨⟨by decide +kernel, by decide +kernel⟩, List.mem_of_getElem? (i := 843) (by decide +kernel), List.mem_of_getElem? (i := 1163) (by decide +kernel), List.mem_of_getElem? (i := 1164) (by decide +kernel)⟩
theorem lw_p46 : lw_okq (⟨"BackByNoonOnMondayModel", "isOpen", "(I)Z"⟩, 44) := ⟨⟨by decide +kernel, by decide +kernel⟩, List.mem_of_getElem? (i := 843) (by decide +kernel), List.mem_of_getElem? (i := 1167) (by decide +kernel), List.mem_of_getElem? (i := 1168) (by decide +kernel)⟩
theorem lw_p47 : lw_okq (⟨"BackByNoonOnMondayModel", "mayHave", "(II)Z"⟩, 44) := ⟨⟨by decide +kernel, by decide +kernel⟩, List.mem_of_getElem? (i := 843) (by decide +kernel), List.mem_of_getElem? (i := 1174) (by decide +kernel), List.mem_of_getElem? (i := 1175) (by decide +kernel)⟩
def lw_privs_3 : List (MethodName × Nat) := [(⟨"BackByNoonOnMondayModel", "givesOf", "(I)I"⟩, 44), (⟨"BackByNoonOnMondayModel", "priceOf", "(I)I"⟩, 44), (⟨"BackByNoonOnMondayModel", "hire", "(II)V"⟩, 44), (⟨"BackByNoonOnMondayModel", "comeBack", "(I)V"⟩, 44), (⟨"BackByNoonOnMondayModel", "bookingOf", "(I)I"⟩, 44), (⟨"BackByNoonOnMondayModel", "canClean", "(I)Z"⟩, 44), (⟨"BackByNoonOnMondayModel", "cleansOf", "(I)I"⟩, 44), (⟨"BackByNoonOnMondayModel", "clean", "(I)V"⟩, 44), (⟨"BackByNoonOnMondayModel", "close", "()V"⟩, 44), (⟨"BackByNoonOnMondayModel", "lastsOf", "(I)I"⟩, 44), (⟨"BackByNoonOnMondayModel", "wrongKept", "(I)I"⟩, 44), (⟨"BackByNoonOnMondayModel", "servedNow", "()I"⟩, 44), (⟨"BackByNoonOnMondayModel", "layMost", "()I"⟩, 44), (⟨"BackByNoonOnMondayModel", "mostBy", "(II)I"⟩, 44), (⟨"BackByNoonOnMondayModel", "isOpen", "(I)Z"⟩, 44), (⟨"BackByNoonOnMondayModel", "mayHave", "(II)Z"⟩, 44)]
theorem lw_r3 : ∀ q ∈ lw_privs_3, lw_okq q := List.forall_mem_cons.mpr ⟨lw_p32, List.forall_mem_cons.mpr ⟨lw_p33, List.forall_mem_cons.mpr ⟨lw_p34, List.forall_mem_cons.mpr ⟨lw_p35, List.forall_mem_cons.mpr ⟨lw_p36, List.forall_mem_cons.mpr ⟨lw_p37, List.forall_mem_cons.mpr ⟨lw_p38, List.forall_mem_cons.mpr ⟨lw_p39, List.forall_mem_cons.mpr ⟨lw_p40, List.forall_mem_cons.mpr ⟨lw_p41, List.forall_mem_cons.mpr ⟨lw_p42, List.forall_mem_cons.mpr ⟨lw_p43, List.forall_mem_cons.mpr ⟨lw_p44, List.forall_mem_cons.mpr ⟨lw_p45, List.forall_mem_cons.mpr ⟨lw_p46, List.forall_mem_cons.mpr ⟨lw_p47, fun _ h => absurd h List.not_mem_nil⟩⟩⟩⟩⟩⟩⟩⟩⟩⟩⟩⟩⟩⟩⟩⟩
theorem lw_p48 : lw_okq (⟨"BackByNoonOnMondayModel", "layFirst", "()I"⟩, 44) := ⟨⟨by decide +kernel, by decide +kernel⟩, List.mem_of_getElem? (i := 843) (by decide +kernel), List.mem_of_getElem? (i := 1181) (by decide +kernel), List.mem_of_getElem? (i := 1182) (by decide +kernel)⟩
theorem lw_p49 : lw_okq (⟨"BackByNoonOnMondayModel", "inState", "(I)I"⟩, 44) := ⟨⟨by decide +kernel, by decide +kernel⟩, List.mem_of_getElem? (i := 843) (by decide +kernel), List.mem_of_getElem? (i := 1189) (by decide +kernel), List.mem_of_getElem? (i := 1190) (by decide +kernel)⟩
theorem lw_p50 : lw_okq (⟨"BackByNoonOnMondayModel", "earnedNow", "()I"⟩, 44) := ⟨⟨by decide +kernel, by decide +kernel⟩, List.mem_of_getElem? (i := 843) (by decide +kernel), List.mem_of_getElem? (i := 1197) (by decide +kernel), List.mem_of_getElem? (i := 1198) (by decide +kernel)⟩
theorem lw_p51 : lw_okq (⟨"BackByNoonOnMondayModel", "add", "(III)V"⟩, 44) := ⟨⟨by decide +kernel, by decide +kernel⟩, List.mem_of_getElem? (i := 843) (by decide +kernel), List.mem_of_getElem? (i := 1209) (by decide +kernel), List.mem_of_getElem? (i := 1210) (by decide +kernel)⟩
theorem lw_p52 : lw_okq (⟨"BackByNoonOnMondayModel", "wrongHours", "(I)I"⟩, 44) := ⟨⟨by decide +kernel, by decide +kernel⟩, List.mem_of_getElem? (i := 843) (by decide +kernel), List.mem_of_getElem? (i := 1253) (by decide +kernel), List.mem_of_getElem? (i := 1254) (by decide +kernel)⟩
theorem lw_p53 : lw_okq (⟨"BackByNoonOnMondayModel", "skipped", "(I)J"⟩, 44) := ⟨⟨by decide +kernel, by decide +kernel⟩, List.mem_of_getElem? (i := 843) (by decide +kernel), List.mem_of_getElem? (i := 1257) (by decide +kernel), List.mem_of_getElem? (i := 1258) (by decide +kernel)⟩
theorem lw_p54 : lw_okq (⟨"BackByNoonOnMondayModel", "toldHour", "(II)J"⟩, 44) := ⟨⟨by decide +kernel, by decide +kernel⟩, List.mem_of_getElem? (i := 843) (by decide +kernel), List.mem_of_getElem? (i := 1265) (by decide +kernel), List.mem_of_getElem? (i := 1266) (by decide +kernel)⟩
theorem lw_p55 : lw_okq (⟨"BackByNoonOnMondayModel", "isReady", "(II)Z"⟩, 44) := ⟨⟨by decide +kernel, by decide +kernel⟩, List.mem_of_getElem? (i := 843) (by decide +kernel), List.mem_of_getElem? (i := 1269) (by decide +kernel), List.mem_of_getElem? (i := 1270) (by decide +kernel)⟩
theorem lw_p56 : lw_okq (⟨"BackByNoonOnMondayModel", "paidBy", "(I)I"⟩, 44) := ⟨⟨by decide +kernel, by decide +kernel⟩, List.mem_of_getElem? (i := 843) (by decide +kernel), List.mem_of_getElem? (i := 1277) (by decide +kernel), List.mem_of_getElem? (i := 1278) (by decide +kernel)⟩
theorem lw_p57 : lw_okq (⟨"BackByNoonOnMondayModel", "comesBy", "(I)I"⟩, 44) := ⟨⟨by decide +kernel, by decide +kernel⟩, List.mem_of_getElem? (i := 843) (by decide +kernel), List.mem_of_getElem? (i := 1281) (by decide +kernel), List.mem_of_getElem? (i := 1282) (by decide +kernel)⟩
theorem lw_p58 : lw_okq (⟨"BackByNoonOnMondayModel", "wrongPairs", "(I)I"⟩, 44) := ⟨⟨by decide +kernel, by decide +kernel⟩, List.mem_of_getElem? (i := 843) (by decide +kernel), List.mem_of_getElem? (i := 1309) (by decide +kernel), List.mem_of_getElem? (i := 1310) (by decide +kernel)⟩
theorem lw_p59 : lw_okq (⟨"BackByNoonOnMondayModel", "forgedIn", "(I)I"⟩, 44) := ⟨⟨by decide +kernel, by decide +kernel⟩, List.mem_of_getElem? (i := 843) (by decide +kernel), List.mem_of_getElem? (i := 1313) (by decide +kernel), List.mem_of_getElem? (i := 1314) (by decide +kernel)⟩
theorem lw_p60 : lw_okq (⟨"BackByNoonOnMondayModel", "hadAll", "(III)Z"⟩, 44) := ⟨⟨by decide +kernel, by decide +kernel⟩, List.mem_of_getElem? (i := 843) (by decide +kernel), List.mem_of_getElem? (i := 1322) (by decide +kernel), List.mem_of_getElem? (i := 1323) (by decide +kernel)⟩
theorem lw_p61 : lw_okq (⟨"BackByNoonOnMondayModel", "drawBelow", "(I)I"⟩, 44) := ⟨⟨by decide +kernel, by decide +kernel⟩, List.mem_of_getElem? (i := 843) (by decide +kernel), List.mem_of_getElem? (i := 1334) (by decide +kernel), List.mem_of_getElem? (i := 1335) (by decide +kernel)⟩
theorem lw_p62 : lw_okq (⟨"BackByNoonOnMondayModel", "hiresLeast", "(I)Z"⟩, 44) := ⟨⟨by decide +kernel, by decide +kernel⟩, List.mem_of_getElem? (i := 843) (by decide +kernel), List.mem_of_getElem? (i := 1341) (by decide +kernel), List.mem_of_getElem? (i := 1342) (by decide +kernel)⟩
def lw_privs_4 : List (MethodName × Nat) := [(⟨"BackByNoonOnMondayModel", "layFirst", "()I"⟩, 44), (⟨"BackByNoonOnMondayModel", "inState", "(I)I"⟩, 44), (⟨"BackByNoonOnMondayModel", "earnedNow", "()I"⟩, 44), (⟨"BackByNoonOnMondayModel", "add", "(III)V"⟩, 44), (⟨"BackByNoonOnMondayModel", "wrongHours", "(I)I"⟩, 44), (⟨"BackByNoonOnMondayModel", "skipped", "(I)J"⟩, 44), (⟨"BackByNoonOnMondayModel", "toldHour", "(II)J"⟩, 44), (⟨"BackByNoonOnMondayModel", "isReady", "(II)Z"⟩, 44), (⟨"BackByNoonOnMondayModel", "paidBy", "(I)I"⟩, 44), (⟨"BackByNoonOnMondayModel", "comesBy", "(I)I"⟩, 44), (⟨"BackByNoonOnMondayModel", "wrongPairs", "(I)I"⟩, 44), (⟨"BackByNoonOnMondayModel", "forgedIn", "(I)I"⟩, 44), (⟨"BackByNoonOnMondayModel", "hadAll", "(III)Z"⟩, 44), (⟨"BackByNoonOnMondayModel", "drawBelow", "(I)I"⟩, 44), (⟨"BackByNoonOnMondayModel", "hiresLeast", "(I)Z"⟩, 44)]
theorem lw_r4 : ∀ q ∈ lw_privs_4, lw_okq q := List.forall_mem_cons.mpr ⟨lw_p48, List.forall_mem_cons.mpr ⟨lw_p49, List.forall_mem_cons.mpr ⟨lw_p50, List.forall_mem_cons.mpr ⟨lw_p51, List.forall_mem_cons.mpr ⟨lw_p52, List.forall_mem_cons.mpr ⟨lw_p53, List.forall_mem_cons.mpr ⟨lw_p54, List.forall_mem_cons.mpr ⟨lw_p55, List.forall_mem_cons.mpr ⟨lw_p56, List.forall_mem_cons.mpr ⟨lw_p57, List.forall_mem_cons.mpr ⟨lw_p58, List.forall_mem_cons.mpr ⟨lw_p59, List.forall_mem_cons.mpr ⟨lw_p60, List.forall_mem_cons.mpr ⟨lw_p61, List.forall_mem_cons.mpr ⟨lw_p62, fun _ h => absurd h List.not_mem_nil⟩⟩⟩⟩⟩⟩⟩⟩⟩⟩⟩⟩⟩⟩⟩
def lw_privs : List (MethodName × Nat) := lw_privs_1 ++ (lw_privs_2 ++ (lw_privs_3 ++ (lw_privs_4)))
def lw_tbl : List Cond := k2_sels lw_privs ++ tables_1
theorem lw_privs_ok : ∀ q ∈ lw_privs, lw_okq q := by
  show ∀ q ∈ lw_privs_1 ++ (lw_privs_2 ++ (lw_privs_3 ++ (lw_privs_4))), lw_okq q
  exact List.forall_mem_append.mpr ⟨lw_r1, List.forall_mem_append.mpr ⟨lw_r2, List.forall_mem_append.mpr ⟨lw_r3, lw_r4⟩⟩⟩
-- ===== end of PART A; then your names; then what follows =====
end
section
/-! ===== BEGIN printed: names, fields, word lists, decode rows ===== -/
def RX0 : String := "BackByNoonOnMonday$Fitting"
def TX0 : u_T := fun k => match k with
  | 0 => ("BackByNoonOnMonday$Fitting", "usual", "[I", true)
  | 1 => ("BackByNoonOnMonday$Fitting", "grown", "[I", true)
  | 2 => ("BackByNoonOnMonday$Fitting", "takers", "[I", true)
  | 3 => ("BackByNoonOnMonday$Fitting", "prices", "[I", true)
  | 4 => ("BackByNoonOnMonday$Fitting", "bookingOf", "[I", true)
  | 5 => ("BackByNoonOnMonday$Fitting", "queue", "[I", true)
  | 6 => ("BackByNoonOnMonday$Fitting", "suitOf", "[I", true)
  | 7 => ("BackByNoonOnMonday$Fitting", "reachedBy", "[I", true)
  | 8 => ("BackByNoonOnMonday$Fitting", "chosen", "[I", true)
  | 9 => ("BackByNoonOnMonday$Fitting", "open", "I", false)
  | _ => ("BackByNoonOnMonday$Fitting", "in", "I", false)
def tyX0 : Nat → FieldType := fun k => match k with
  | 0 => .array .int
  | 1 => .array .int
  | 2 => .array .int
  | 3 => .array .int
  | 4 => .array .int
  | 5 => .array .int
  | 6 => .array .int
  | 7 => .array .int
  | 8 => .array .int
  | 9 => .int
  | _ => .int
abbrev wsX00 : List Cond := u_ws RX0 TX0 11
theorem nmX0 : ∀ a, a < 11 → ∀ b, b < 11 → a ≠ b → (TX0 a).2.1 ≠ (TX0 b).2.1 := by decide +kernel
theorem tyX0_ok : ∀ k, k < 11 → parseFieldDescriptor (TX0 k).2.2.1 = some (tyX0 k) := by decide +kernel
abbrev cX0_init : ByteArray := prog_2_method_1_code
def yX0_init : MethodName := ⟨RX0, "<init>", "()V"⟩
abbrev cX0_load : ByteArray := prog_2_method_2_code
def yX0_load : MethodName := ⟨RX0, "load", "(LBackByNoonOnMonday$Shop;)V"⟩
abbrev cX0_lend : ByteArray := prog_2_method_3_code
def yX0_lend : MethodName := ⟨RX0, "lend", "(LBackByNoonOnMonday$Shop;LBackByNoonOnMonday$Suit;I)V"⟩
abbrev cX0_grow : ByteArray := prog_2_method_4_code
def yX0_grow : MethodName := ⟨RX0, "grow", "(I)V"⟩
abbrev cX0_dress : ByteArray := prog_2_method_5_code
def yX0_dress : MethodName := ⟨RX0, "dress", "(LBackByNoonOnMonday$Shop;I)Z"⟩
abbrev cX0_most : ByteArray := prog_2_method_6_code
def yX0_most : MethodName := ⟨RX0, "most", "(II)I"⟩
abbrev cX0_richest : ByteArray := prog_2_method_7_code
def yX0_richest : MethodName := ⟨RX0, "richest", "(II)I"⟩
abbrev cX0_dearest : ByteArray := prog_2_method_8_code
def yX0_dearest : MethodName := ⟨RX0, "dearest", "(I)I"⟩
abbrev cX0_chooseFirst : ByteArray := prog_2_method_9_code
def yX0_chooseFirst : MethodName := ⟨RX0, "chooseFirst", "()I"⟩
abbrev cX0_leastKeeping : ByteArray := prog_2_method_10_code
def yX0_leastKeeping : MethodName := ⟨RX0, "leastKeeping", "(IIII)I"⟩
abbrev cX0_clear : ByteArray := prog_2_method_11_code
def yX0_clear : MethodName := ⟨RX0, "clear", "()V"⟩
abbrev cX0_seat : ByteArray := prog_2_method_12_code
def yX0_seat : MethodName := ⟨RX0, "seat", "(II)Z"⟩
abbrev cX0_moveOn : ByteArray := prog_2_method_13_code
def yX0_moveOn : MethodName := ⟨RX0, "moveOn", "(I)V"⟩
def RX1 : String := "BackByNoonOnMonday$Shelf"
def TX1 : u_T := fun k => match k with
  | 0 => ("BackByNoonOnMonday$Shelf", "cells", "[I", true)
  | 1 => ("BackByNoonOnMonday$Shelf", "holds", "I", false)
  | 2 => ("BackByNoonOnMonday$Shelf", "kind", "LBackByNoonOnMonday$Suit;", false)
  | 3 => ("BackByNoonOnMonday$Shelf", "sort", "I", false)
  | _ => ("BackByNoonOnMonday$Shelf", "length", "I", false)
def tyX1 : Nat → FieldType := fun k => match k with
  | 0 => .array .int
  | 1 => .int
  | 2 => .object "BackByNoonOnMonday$Suit"
  | 3 => .int
  | _ => .int
abbrev wsX10 : List Cond := u_ws RX1 TX1 5
theorem nmX1 : ∀ a, a < 5 → ∀ b, b < 5 → a ≠ b → (TX1 a).2.1 ≠ (TX1 b).2.1 := by decide +kernel
theorem tyX1_ok : ∀ k, k < 5 → parseFieldDescriptor (TX1 k).2.2.1 = some (tyX1 k) := by decide +kernel
abbrev cX1_init : ByteArray := prog_3_method_1_code
def yX1_init : MethodName := ⟨RX1, "<init>", "()V"⟩
abbrev cX1_clear : ByteArray := prog_3_method_2_code
def yX1_clear : MethodName := ⟨RX1, "clear", "()V"⟩
abbrev cX1_hang : ByteArray := prog_3_method_3_code
def yX1_hang : MethodName := ⟨RX1, "hang", "(LBackByNoonOnMonday$Suit;)V"⟩
abbrev cX1_lay : ByteArray := prog_3_method_4_code
def yX1_lay : MethodName := ⟨RX1, "lay", "(II)V"⟩
abbrev cX1_refusal : ByteArray := prog_3_method_5_code
def yX1_refusal : MethodName := ⟨RX1, "refusal", "(I)I"⟩
abbrev cX1_narrowed : ByteArray := prog_3_method_6_code
def yX1_narrowed : MethodName := ⟨RX1, "narrowed", "(I)I"⟩
abbrev cX1_least : ByteArray := prog_3_method_7_code
def yX1_least : MethodName := ⟨RX1, "least", "()I"⟩
abbrev cX1_hasStretch : ByteArray := prog_3_method_8_code
def yX1_hasStretch : MethodName := ⟨RX1, "hasStretch", "(II)Z"⟩
abbrev cX1_byteAt : ByteArray := prog_3_method_9_code
def yX1_byteAt : MethodName := ⟨RX1, "byteAt", "(I)I"⟩
abbrev cX1_number : ByteArray := prog_3_method_10_code
def yX1_number : MethodName := ⟨RX1, "number", "(II)I"⟩
def RX2 : String := "BackByNoonOnMonday$Shop"
def TX2 : u_T := fun k => match k with
  | 0 => ("BackByNoonOnMonday$Shop", "kinds", "[LBackByNoonOnMonday$Suit;", true)
  | 1 => ("BackByNoonOnMonday$Shop", "suitSize", "[I", true)
  | 2 => ("BackByNoonOnMonday$Shop", "worn", "[I", true)
  | 3 => ("BackByNoonOnMonday$Shop", "state", "[I", true)
  | 4 => ("BackByNoonOnMonday$Shop", "size", "[I", true)
  | 5 => ("BackByNoonOnMonday$Shop", "group", "[I", true)
  | 6 => ("BackByNoonOnMonday$Shop", "grows", "[I", true)
  | 7 => ("BackByNoonOnMonday$Shop", "late", "[I", true)
  | 8 => ("BackByNoonOnMonday$Shop", "absent", "[I", true)
  | 9 => ("BackByNoonOnMonday$Shop", "has", "[I", true)
  | 10 => ("BackByNoonOnMonday$Shop", "anyKind", "LBackByNoonOnMonday$Suit;", true)
  | 11 => ("BackByNoonOnMonday$Shop", "suits", "I", false)
  | 12 => ("BackByNoonOnMonday$Shop", "bookings", "I", false)
  | 13 => ("BackByNoonOnMonday$Shop", "pence", "I", false)
  | _ => ("BackByNoonOnMonday$Shop", "hour", "I", false)
def tyX2 : Nat → FieldType := fun k => match k with
  | 0 => .array (.object "BackByNoonOnMonday$Suit")
  | 1 => .array .int
  | 2 => .array .int
  | 3 => .array .int
  | 4 => .array .int
  | 5 => .array .int
  | 6 => .array .int
  | 7 => .array .int
  | 8 => .array .int
  | 9 => .array .int
  | 10 => .object "BackByNoonOnMonday$Suit"
  | 11 => .int
  | 12 => .int
  | 13 => .int
  | _ => .int
abbrev wsX20 : List Cond := u_ws RX2 TX2 15
theorem nmX2 : ∀ a, a < 15 → ∀ b, b < 15 → a ≠ b → (TX2 a).2.1 ≠ (TX2 b).2.1 := by decide +kernel
theorem tyX2_ok : ∀ k, k < 15 → parseFieldDescriptor (TX2 k).2.2.1 = some (tyX2 k) := by decide +kernel
abbrev cX2_init : ByteArray := prog_4_method_1_code
def yX2_init : MethodName := ⟨RX2, "<init>", "()V"⟩
abbrev cX2_become : ByteArray := prog_4_method_2_code
def yX2_become : MethodName := ⟨RX2, "become", "(LBackByNoonOnMonday$Shop;)V"⟩
abbrev cX2_isSuit : ByteArray := prog_4_method_3_code
def yX2_isSuit : MethodName := ⟨RX2, "isSuit", "(I)Z"⟩
abbrev cX2_isBooking : ByteArray := prog_4_method_4_code
def yX2_isBooking : MethodName := ⟨RX2, "isBooking", "(I)Z"⟩
abbrev cX2_kindOf : ByteArray := prog_4_method_5_code
def yX2_kindOf : MethodName := ⟨RX2, "kindOf", "(I)LBackByNoonOnMonday$Suit;"⟩
abbrev cX2_addSuit : ByteArray := prog_4_method_6_code
def yX2_addSuit : MethodName := ⟨RX2, "addSuit", "(LBackByNoonOnMonday$Suit;II)I"⟩
abbrev cX2_addBooking : ByteArray := prog_4_method_7_code
def yX2_addBooking : MethodName := ⟨RX2, "addBooking", "(III)I"⟩
abbrev cX2_hire : ByteArray := prog_4_method_8_code
def yX2_hire : MethodName := ⟨RX2, "hire", "(II)I"⟩
abbrev cX2_canHire : ByteArray := prog_4_method_9_code
def yX2_canHire : MethodName := ⟨RX2, "canHire", "(III)Z"⟩
abbrev cX2_giveBack : ByteArray := prog_4_method_10_code
def yX2_giveBack : MethodName := ⟨RX2, "giveBack", "(I)I"⟩
abbrev cX2_clean : ByteArray := prog_4_method_11_code
def yX2_clean : MethodName := ⟨RX2, "clean", "(I)I"⟩
abbrev cX2_holderOf : ByteArray := prog_4_method_12_code
def yX2_holderOf : MethodName := ⟨RX2, "holderOf", "(I)I"⟩
abbrev cX2_isRightFor : ByteArray := prog_4_method_13_code
def yX2_isRightFor : MethodName := ⟨RX2, "isRightFor", "(II)Z"⟩
abbrev cX2_reaches : ByteArray := prog_4_method_14_code
def yX2_reaches : MethodName := ⟨RX2, "reaches", "(LBackByNoonOnMonday$Suit;II)Z"⟩
abbrev cX2_suitsThatAre : ByteArray := prog_4_method_15_code
def yX2_suitsThatAre : MethodName := ⟨RX2, "suitsThatAre", "(I)I"⟩
abbrev cX2_openBookings : ByteArray := prog_4_method_16_code
def yX2_openBookings : MethodName := ⟨RX2, "openBookings", "()I"⟩
abbrev cX2_groupBits : ByteArray := prog_4_method_17_code
def yX2_groupBits : MethodName := ⟨RX2, "groupBits", "(I)I"⟩
abbrev cX2_takers : ByteArray := prog_4_method_18_code
def yX2_takers : MethodName := ⟨RX2, "takers", "(LBackByNoonOnMonday$Suit;II)I"⟩
abbrev cX2_growthWeight : ByteArray := prog_4_method_19_code
def yX2_growthWeight : MethodName := ⟨RX2, "growthWeight", "(II)J"⟩
abbrev cX2_leastFor : ByteArray := prog_4_method_20_code
def yX2_leastFor : MethodName := ⟨RX2, "leastFor", "(III)I"⟩
abbrev cX2_couldChange : ByteArray := prog_4_method_21_code
def yX2_couldChange : MethodName := ⟨RX2, "couldChange", "(II)Z"⟩
abbrev cX2_hoursOf : ByteArray := prog_4_method_22_code
def yX2_hoursOf : MethodName := ⟨RX2, "hoursOf", "(I)I"⟩
abbrev cX2_allWorn : ByteArray := prog_4_method_23_code
def yX2_allWorn : MethodName := ⟨RX2, "allWorn", "()I"⟩
def RX3 : String := "BackByNoonOnMonday$Suit"
def TX3 : u_T := fun k => match k with
  | 0 => ("BackByNoonOnMonday$Suit", "number", "I", true)
  | 1 => ("BackByNoonOnMonday$Suit", "figure", "I", true)
  | 2 => ("BackByNoonOnMonday$Suit", "price", "I", true)
  | 3 => ("BackByNoonOnMonday$Suit", "reach", "I", true)
  | 4 => ("BackByNoonOnMonday$Suit", "hours", "I", true)
  | 5 => ("BackByNoonOnMonday$Suit", "lasting", "I", true)
  | _ => ("BackByNoonOnMonday$Suit", "worth", "I", true)
def tyX3 : Nat → FieldType := fun k => match k with
  | 0 => .int
  | 1 => .int
  | 2 => .int
  | 3 => .int
  | 4 => .int
  | 5 => .int
  | _ => .int
abbrev wsX30 : List Cond := u_ws RX3 TX3 7
theorem nmX3 : ∀ a, a < 7 → ∀ b, b < 7 → a ≠ b → (TX3 a).2.1 ≠ (TX3 b).2.1 := by decide +kernel
theorem tyX3_ok : ∀ k, k < 7 → parseFieldDescriptor (TX3 k).2.2.1 = some (tyX3 k) := by decide +kernel
abbrev cX3_init : ByteArray := prog_5_method_1_code
def yX3_init : MethodName := ⟨RX3, "<init>", "(II)V"⟩
abbrev cX3_isBlack : ByteArray := prog_5_method_2_code
def yX3_isBlack : MethodName := ⟨RX3, "isBlack", "(I)Z"⟩
abbrev cX3_isMixed : ByteArray := prog_5_method_3_code
def yX3_isMixed : MethodName := ⟨RX3, "isMixed", "(I)Z"⟩
abbrev cX3_fail : ByteArray := prog_5_method_4_code
def yX3_fail : MethodName := ⟨RX3, "fail", "()V"⟩
def RX4 : String := "BackByNoonOnMonday"
def TX4 : u_T := fun k => match k with
  | 0 => ("BackByNoonOnMonday", "shop", "LBackByNoonOnMonday$Shop;", false)
  | 1 => ("BackByNoonOnMonday", "trial", "LBackByNoonOnMonday$Shop;", false)
  | 2 => ("BackByNoonOnMonday", "picture", "LBackByNoonOnMonday$Shop;", true)
  | 3 => ("BackByNoonOnMonday", "pictured", "Z", false)
  | 4 => ("BackByNoonOnMonday", "shelves", "[LBackByNoonOnMonday$Shelf;", true)
  | 5 => ("BackByNoonOnMonday", "noShelf", "LBackByNoonOnMonday$Shelf;", true)
  | 6 => ("BackByNoonOnMonday", "bought", "[LBackByNoonOnMonday$Suit;", true)
  | 7 => ("BackByNoonOnMonday", "plainest", "LBackByNoonOnMonday$Suit;", true)
  | 8 => ("BackByNoonOnMonday", "fitting", "LBackByNoonOnMonday$Fitting;", true)
  | 9 => ("BackByNoonOnMonday", "ways", "[I", true)
  | 10 => ("BackByNoonOnMonday", "toldHours", "[I", true)
  | _ => ("BackByNoonOnMonday", "cleaningOrder", "[I", true)
def tyX4 : Nat → FieldType := fun k => match k with
  | 0 => .object "BackByNoonOnMonday$Shop"
  | 1 => .object "BackByNoonOnMonday$Shop"
  | 2 => .object "BackByNoonOnMonday$Shop"
  | 3 => .boolean
  | 4 => .array (.object "BackByNoonOnMonday$Shelf")
  | 5 => .object "BackByNoonOnMonday$Shelf"
  | 6 => .array (.object "BackByNoonOnMonday$Suit")
  | 7 => .object "BackByNoonOnMonday$Suit"
  | 8 => .object "BackByNoonOnMonday$Fitting"
  | 9 => .array .int
  | 10 => .array .int
  | _ => .array .int
abbrev wsX40 : List Cond := u_ws RX4 TX4 12
theorem nmX4 : ∀ a, a < 12 → ∀ b, b < 12 → a ≠ b → (TX4 a).2.1 ≠ (TX4 b).2.1 := by decide +kernel
theorem tyX4_ok : ∀ k, k < 12 → parseFieldDescriptor (TX4 k).2.2.1 = some (tyX4 k) := by decide +kernel
abbrev cX4_init : ByteArray := prog_1_method_1_code
def yX4_init : MethodName := ⟨RX4, "<init>", "()V"⟩
abbrev cX4_shop : ByteArray := prog_1_method_2_code
def yX4_shop : MethodName := ⟨RX4, "shop", "(I)I"⟩
abbrev cX4_suit : ByteArray := prog_1_method_3_code
def yX4_suit : MethodName := ⟨RX4, "suit", "(II)I"⟩
abbrev cX4_booking : ByteArray := prog_1_method_4_code
def yX4_booking : MethodName := ⟨RX4, "booking", "(II)I"⟩
abbrev cX4_buys : ByteArray := prog_1_method_5_code
def yX4_buys : MethodName := ⟨RX4, "buys", "(II)I"⟩
abbrev cX4_books : ByteArray := prog_1_method_6_code
def yX4_books : MethodName := ⟨RX4, "books", "(III)I"⟩
abbrev cX4_hires : ByteArray := prog_1_method_7_code
def yX4_hires : MethodName := ⟨RX4, "hires", "(II)I"⟩
abbrev cX4_returns : ByteArray := prog_1_method_8_code
def yX4_returns : MethodName := ⟨RX4, "returns", "(I)I"⟩
abbrev cX4_cleans : ByteArray := prog_1_method_9_code
def yX4_cleans : MethodName := ⟨RX4, "cleans", "(I)I"⟩
abbrev cX4_fits : ByteArray := prog_1_method_10_code
def yX4_fits : MethodName := ⟨RX4, "fits", "(II)I"⟩
abbrev cX4_served : ByteArray := prog_1_method_11_code
def yX4_served : MethodName := ⟨RX4, "served", "(I)I"⟩
abbrev cX4_leftOver : ByteArray := prog_1_method_12_code
def yX4_leftOver : MethodName := ⟨RX4, "leftOver", "()I"⟩
abbrev cX4_earned : ByteArray := prog_1_method_13_code
def yX4_earned : MethodName := ⟨RX4, "earned", "()I"⟩
abbrev cX4_alike : ByteArray := prog_1_method_14_code
def yX4_alike : MethodName := ⟨RX4, "alike", "()I"⟩
abbrev cX4_oneMore : ByteArray := prog_1_method_15_code
def yX4_oneMore : MethodName := ⟨RX4, "oneMore", "()I"⟩
abbrev cX4_grown : ByteArray := prog_1_method_16_code
def yX4_grown : MethodName := ⟨RX4, "grown", "(I)J"⟩
abbrev cX4_come : ByteArray := prog_1_method_17_code
def yX4_come : MethodName := ⟨RX4, "come", "(II)J"⟩
abbrev cX4_refuse : ByteArray := prog_1_method_18_code
def yX4_refuse : MethodName := ⟨RX4, "refuse", "()I"⟩
abbrev cX4_buy : ByteArray := prog_1_method_19_code
def yX4_buy : MethodName := ⟨RX4, "buy", "(II)I"⟩
abbrev cX4_sell : ByteArray := prog_1_method_20_code
def yX4_sell : MethodName := ⟨RX4, "sell", "()I"⟩
abbrev cX4_shines : ByteArray := prog_1_method_21_code
def yX4_shines : MethodName := ⟨RX4, "shines", "()I"⟩
abbrev cX4_ready : ByteArray := prog_1_method_22_code
def yX4_ready : MethodName := ⟨RX4, "ready", "(II)I"⟩
abbrev cX4_fee : ByteArray := prog_1_method_23_code
def yX4_fee : MethodName := ⟨RX4, "fee", "(II)I"⟩
abbrev cX4_bestFee : ByteArray := prog_1_method_24_code
def yX4_bestFee : MethodName := ⟨RX4, "bestFee", "()I"⟩
abbrev cX4_atFive : ByteArray := prog_1_method_25_code
def yX4_atFive : MethodName := ⟨RX4, "atFive", "(III)I"⟩
abbrev cX4_taxi : ByteArray := prog_1_method_26_code
def yX4_taxi : MethodName := ⟨RX4, "taxi", "(III)I"⟩
abbrev cX4_friday : ByteArray := prog_1_method_27_code
def yX4_friday : MethodName := ⟨RX4, "friday", "(I)I"⟩
abbrev cX4_tight : ByteArray := prog_1_method_28_code
def yX4_tight : MethodName := ⟨RX4, "tight", "()I"⟩
abbrev cX4_stained : ByteArray := prog_1_method_29_code
def yX4_stained : MethodName := ⟨RX4, "stained", "(III)I"⟩
abbrev cX4_forged : ByteArray := prog_1_method_30_code
def yX4_forged : MethodName := ⟨RX4, "forged", "(I)I"⟩
abbrev cX4_judge : ByteArray := prog_1_method_31_code
def yX4_judge : MethodName := ⟨RX4, "judge", "(I)I"⟩
abbrev cX4_weeks : ByteArray := prog_1_method_32_code
def yX4_weeks : MethodName := ⟨RX4, "weeks", "(III)I"⟩
abbrev cX4_image : ByteArray := prog_1_method_33_code
def yX4_image : MethodName := ⟨RX4, "image", "()I"⟩
abbrev cX4_restore : ByteArray := prog_1_method_34_code
def yX4_restore : MethodName := ⟨RX4, "restore", "()I"⟩
abbrev cX4_count : ByteArray := prog_1_method_35_code
def yX4_count : MethodName := ⟨RX4, "count", "(I)I"⟩
abbrev cX4_keep : ByteArray := prog_1_method_36_code
def yX4_keep : MethodName := ⟨RX4, "keep", "(IIII)I"⟩
abbrev cX4_row : ByteArray := prog_1_method_37_code
def yX4_row : MethodName := ⟨RX4, "row", "(III)I"⟩
abbrev cX4_put : ByteArray := prog_1_method_38_code
def yX4_put : MethodName := ⟨RX4, "put", "(III)I"⟩
abbrev cX4_element : ByteArray := prog_1_method_39_code
def yX4_element : MethodName := ⟨RX4, "element", "(II)J"⟩
abbrev cX4_copy : ByteArray := prog_1_method_40_code
def yX4_copy : MethodName := ⟨RX4, "copy", "(IIIII)I"⟩
abbrev cX4_cost : ByteArray := prog_1_method_41_code
def yX4_cost : MethodName := ⟨RX4, "cost", "(I)I"⟩
abbrev cX4_toss : ByteArray := prog_1_method_42_code
def yX4_toss : MethodName := ⟨RX4, "toss", "(I)I"⟩
abbrev cX4_firstBadByte : ByteArray := prog_1_method_43_code
def yX4_firstBadByte : MethodName := ⟨RX4, "firstBadByte", "(LBackByNoonOnMonday$Shelf;)I"⟩
abbrev cX4_digitsBehind : ByteArray := prog_1_method_44_code
def yX4_digitsBehind : MethodName := ⟨RX4, "digitsBehind", "(I)I"⟩
abbrev cX4_tellShop : ByteArray := prog_1_method_45_code
def yX4_tellShop : MethodName := ⟨RX4, "tellShop", "(LBackByNoonOnMonday$Shelf;)I"⟩
abbrev cX4_tellStatement : ByteArray := prog_1_method_46_code
def yX4_tellStatement : MethodName := ⟨RX4, "tellStatement", "(LBackByNoonOnMonday$Shop;LBackByNoonOnMonday$Shelf;I)I"⟩
abbrev cX4_tellSuit : ByteArray := prog_1_method_47_code
def yX4_tellSuit : MethodName := ⟨RX4, "tellSuit", "(LBackByNoonOnMonday$Shop;LBackByNoonOnMonday$Shelf;I)I"⟩
abbrev cX4_tellBooking : ByteArray := prog_1_method_48_code
def yX4_tellBooking : MethodName := ⟨RX4, "tellBooking", "(LBackByNoonOnMonday$Shop;LBackByNoonOnMonday$Shelf;I)I"⟩
abbrev cX4_fillWays : ByteArray := prog_1_method_49_code
def yX4_fillWays : MethodName := ⟨RX4, "fillWays", "()V"⟩
abbrev cX4_partOf : ByteArray := prog_1_method_50_code
def yX4_partOf : MethodName := ⟨RX4, "partOf", "(JJI)J"⟩
abbrev cX4_commonDivisor : ByteArray := prog_1_method_51_code
def yX4_commonDivisor : MethodName := ⟨RX4, "commonDivisor", "(JJ)J"⟩
abbrev cX4_tenTo : ByteArray := prog_1_method_52_code
def yX4_tenTo : MethodName := ⟨RX4, "tenTo", "(I)J"⟩
abbrev cX4_nextSeed : ByteArray := prog_1_method_53_code
def yX4_nextSeed : MethodName := ⟨RX4, "nextSeed", "(I)I"⟩
abbrev cX4_drawBelow : ByteArray := prog_1_method_54_code
def yX4_drawBelow : MethodName := ⟨RX4, "drawBelow", "(II)I"⟩
abbrev cX4_readHours : ByteArray := prog_1_method_55_code
def yX4_readHours : MethodName := ⟨RX4, "readHours", "(LBackByNoonOnMonday$Shelf;)Z"⟩
abbrev cX4_orderCleaning : ByteArray := prog_1_method_56_code
def yX4_orderCleaning : MethodName := ⟨RX4, "orderCleaning", "()I"⟩
abbrev cX4_mostReady : ByteArray := prog_1_method_57_code
def yX4_mostReady : MethodName := ⟨RX4, "mostReady", "(I)I"⟩
abbrev cX4_inTime : ByteArray := prog_1_method_58_code
def yX4_inTime : MethodName := ⟨RX4, "inTime", "(II)Z"⟩
abbrev cX4_firstCleaned : ByteArray := prog_1_method_59_code
def yX4_firstCleaned : MethodName := ⟨RX4, "firstCleaned", "(II)I"⟩
abbrev cX4_feeTenths : ByteArray := prog_1_method_60_code
def yX4_feeTenths : MethodName := ⟨RX4, "feeTenths", "(I)I"⟩
abbrev cX4_comersFor : ByteArray := prog_1_method_61_code
def yX4_comersFor : MethodName := ⟨RX4, "comersFor", "(I)I"⟩
abbrev cX4_pairRefusal : ByteArray := prog_1_method_62_code
def yX4_pairRefusal : MethodName := ⟨RX4, "pairRefusal", "(LBackByNoonOnMonday$Shelf;)I"⟩
abbrev cX4_firstForged : ByteArray := prog_1_method_63_code
def yX4_firstForged : MethodName := ⟨RX4, "firstForged", "(LBackByNoonOnMonday$Shelf;)I"⟩
abbrev cX4_suitsHad : ByteArray := prog_1_method_64_code
def yX4_suitsHad : MethodName := ⟨RX4, "suitsHad", "(LBackByNoonOnMonday$Shelf;I)I"⟩
abbrev cX4_isShelf : ByteArray := prog_1_method_65_code
def yX4_isShelf : MethodName := ⟨RX4, "isShelf", "(I)Z"⟩
abbrev cX4_shelfAt : ByteArray := prog_1_method_66_code
def yX4_shelfAt : MethodName := ⟨RX4, "shelfAt", "(I)LBackByNoonOnMonday$Shelf;"⟩
abbrev cX4_isIn : ByteArray := prog_1_method_67_code
def yX4_isIn : MethodName := ⟨RX4, "isIn", "(III)Z"⟩
abbrev cX4_hasBit : ByteArray := prog_1_method_68_code
def yX4_hasBit : MethodName := ⟨RX4, "hasBit", "(II)Z"⟩
abbrev cX4_at : ByteArray := prog_1_method_69_code
def yX4_at : MethodName := ⟨RX4, "at", "([II)I"⟩
abbrev cX4_set : ByteArray := prog_1_method_70_code
def yX4_set : MethodName := ⟨RX4, "set", "([III)V"⟩
abbrev cX4_fill : ByteArray := prog_1_method_71_code
def yX4_fill : MethodName := ⟨RX4, "fill", "([I[I)V"⟩
abbrev cX4_caught : ByteArray := prog_1_method_72_code
def yX4_caught : MethodName := ⟨RX4, "caught", "(LBackByNoonOnMonday$Suit;)I"⟩
def RX5 : String := "BackByNoonOnMondayModel"
def TX5 : u_T := fun k => match k with
  | 0 => ("BackByNoonOnMondayModel", "suits", "I", false)
  | 1 => ("BackByNoonOnMondayModel", "kinds", "[I", true)
  | 2 => ("BackByNoonOnMondayModel", "figures", "[I", true)
  | 3 => ("BackByNoonOnMondayModel", "sizes", "[I", true)
  | 4 => ("BackByNoonOnMondayModel", "worns", "[I", true)
  | 5 => ("BackByNoonOnMondayModel", "states", "[I", true)
  | 6 => ("BackByNoonOnMondayModel", "bookings", "I", false)
  | 7 => ("BackByNoonOnMondayModel", "wants", "[I", true)
  | 8 => ("BackByNoonOnMondayModel", "groups", "[I", true)
  | 9 => ("BackByNoonOnMondayModel", "grows", "[I", true)
  | 10 => ("BackByNoonOnMondayModel", "lates", "[I", true)
  | 11 => ("BackByNoonOnMondayModel", "absents", "[I", true)
  | 12 => ("BackByNoonOnMondayModel", "having", "[I", true)
  | 13 => ("BackByNoonOnMondayModel", "pence", "I", false)
  | 14 => ("BackByNoonOnMondayModel", "hour", "I", false)
  | 15 => ("BackByNoonOnMondayModel", "holdsWhat", "[I", true)
  | 16 => ("BackByNoonOnMondayModel", "keptKind", "[I", true)
  | 17 => ("BackByNoonOnMondayModel", "keptFigure", "[I", true)
  | 18 => ("BackByNoonOnMondayModel", "rowSort", "[I", true)
  | 19 => ("BackByNoonOnMondayModel", "rowMany", "[I", true)
  | 20 => ("BackByNoonOnMondayModel", "rows", "[J", true)
  | 21 => ("BackByNoonOnMondayModel", "thrown", "I", false)
  | 22 => ("BackByNoonOnMondayModel", "reading", "I", false)
  | 23 => ("BackByNoonOnMondayModel", "at", "I", false)
  | 24 => ("BackByNoonOnMondayModel", "isBad", "Z", false)
  | 25 => ("BackByNoonOnMondayModel", "statements", "I", false)
  | 26 => ("BackByNoonOnMondayModel", "placeIn", "[I", true)
  | 27 => ("BackByNoonOnMondayModel", "letterOf", "[I", true)
  | 28 => ("BackByNoonOnMondayModel", "told", "[I", true)
  | 29 => ("BackByNoonOnMondayModel", "kept", "[I", true)
  | 30 => ("BackByNoonOnMondayModel", "imaged", "[I", true)
  | 31 => ("BackByNoonOnMondayModel", "hasImage", "Z", false)
  | 32 => ("BackByNoonOnMondayModel", "place0", "I", false)
  | 33 => ("BackByNoonOnMondayModel", "isTaking", "Z", false)
  | 34 => ("BackByNoonOnMondayModel", "keptIn", "[I", false)
  | 35 => ("BackByNoonOnMondayModel", "isPrice", "Z", false)
  | 36 => ("BackByNoonOnMondayModel", "kindFor", "[I", true)
  | 37 => ("BackByNoonOnMondayModel", "suitsOff", "I", false)
  | 38 => ("BackByNoonOnMondayModel", "bookingsOff", "I", false)
  | 39 => ("BackByNoonOnMondayModel", "mostFrom", "[I", true)
  | 40 => ("BackByNoonOnMondayModel", "first", "[I", true)
  | 41 => ("BackByNoonOnMondayModel", "firstCleaned", "I", false)
  | 42 => ("BackByNoonOnMondayModel", "seed", "I", false)
  | _ => ("BackByNoonOnMondayModel", "between", "[J", true)
def tyX5 : Nat → FieldType := fun k => match k with
  | 0 => .int
  | 1 => .array .int
  | 2 => .array .int
  | 3 => .array .int
  | 4 => .array .int
  | 5 => .array .int
  | 6 => .int
  | 7 => .array .int
  | 8 => .array .int
  | 9 => .array .int
  | 10 => .array .int
  | 11 => .array .int
  | 12 => .array .int
  | 13 => .int
  | 14 => .int
  | 15 => .array .int
  | 16 => .array .int
  | 17 => .array .int
  | 18 => .array .int
  | 19 => .array .int
  | 20 => .array .long
  | 21 => .int
  | 22 => .int
  | 23 => .int
  | 24 => .boolean
  | 25 => .int
  | 26 => .array .int
  | 27 => .array .int
  | 28 => .array .int
  | 29 => .array .int
  | 30 => .array .int
  | 31 => .boolean
  | 32 => .int
  | 33 => .boolean
  | 34 => .array .int
  | 35 => .boolean
  | 36 => .array .int
  | 37 => .int
  | 38 => .int
  | 39 => .array .int
  | 40 => .array .int
  | 41 => .int
  | 42 => .int
  | _ => .array .long
abbrev wsX50 : List Cond := u_ws RX5 TX5 44
theorem nmX5 : ∀ a, a < 44 → ∀ b, b < 44 → a ≠ b → (TX5 a).2.1 ≠ (TX5 b).2.1 := by decide +kernel
theorem tyX5_ok : ∀ k, k < 44 → parseFieldDescriptor (TX5 k).2.2.1 = some (tyX5 k) := by decide +kernel
abbrev cX5_init : ByteArray := prog_7_method_1_code
def yX5_init : MethodName := ⟨RX5, "<init>", "()V"⟩
abbrev cX5_thrown : ByteArray := prog_7_method_2_code
def yX5_thrown : MethodName := ⟨RX5, "thrown", "()I"⟩
abbrev cX5_in : ByteArray := prog_7_method_3_code
def yX5_in : MethodName := ⟨RX5, "in", "(JJJ)Z"⟩
abbrev cX5_hasBit : ByteArray := prog_7_method_4_code
def yX5_hasBit : MethodName := ⟨RX5, "hasBit", "(II)Z"⟩
abbrev cX5_onesOf : ByteArray := prog_7_method_5_code
def yX5_onesOf : MethodName := ⟨RX5, "onesOf", "(I)I"⟩
abbrev cX5_greater : ByteArray := prog_7_method_6_code
def yX5_greater : MethodName := ⟨RX5, "greater", "(II)I"⟩
abbrev cX5_apart : ByteArray := prog_7_method_7_code
def yX5_apart : MethodName := ⟨RX5, "apart", "(II)I"⟩
abbrev cX5_isSuit : ByteArray := prog_7_method_8_code
def yX5_isSuit : MethodName := ⟨RX5, "isSuit", "(I)Z"⟩
abbrev cX5_isBooking : ByteArray := prog_7_method_9_code
def yX5_isBooking : MethodName := ⟨RX5, "isBooking", "(I)Z"⟩
abbrev cX5_priceBy : ByteArray := prog_7_method_10_code
def yX5_priceBy : MethodName := ⟨RX5, "priceBy", "(II)I"⟩
abbrev cX5_givesOf : ByteArray := prog_7_method_11_code
def yX5_givesOf : MethodName := ⟨RX5, "givesOf", "(I)I"⟩
abbrev cX5_cleansOf : ByteArray := prog_7_method_12_code
def yX5_cleansOf : MethodName := ⟨RX5, "cleansOf", "(I)I"⟩
abbrev cX5_lastsOf : ByteArray := prog_7_method_13_code
def yX5_lastsOf : MethodName := ⟨RX5, "lastsOf", "(I)I"⟩
abbrev cX5_priceOf : ByteArray := prog_7_method_14_code
def yX5_priceOf : MethodName := ⟨RX5, "priceOf", "(I)I"⟩
abbrev cX5_fitsIn : ByteArray := prog_7_method_15_code
def yX5_fitsIn : MethodName := ⟨RX5, "fitsIn", "(II)Z"⟩
abbrev cX5_canHire : ByteArray := prog_7_method_16_code
def yX5_canHire : MethodName := ⟨RX5, "canHire", "(II)Z"⟩
abbrev cX5_hire : ByteArray := prog_7_method_17_code
def yX5_hire : MethodName := ⟨RX5, "hire", "(II)V"⟩
abbrev cX5_bookingOf : ByteArray := prog_7_method_18_code
def yX5_bookingOf : MethodName := ⟨RX5, "bookingOf", "(I)I"⟩
abbrev cX5_comeBack : ByteArray := prog_7_method_19_code
def yX5_comeBack : MethodName := ⟨RX5, "comeBack", "(I)V"⟩
abbrev cX5_canClean : ByteArray := prog_7_method_20_code
def yX5_canClean : MethodName := ⟨RX5, "canClean", "(I)Z"⟩
abbrev cX5_clean : ByteArray := prog_7_method_21_code
def yX5_clean : MethodName := ⟨RX5, "clean", "(I)V"⟩
abbrev cX5_here : ByteArray := prog_7_method_22_code
def yX5_here : MethodName := ⟨RX5, "here", "()I"⟩
abbrev cX5_readDigits : ByteArray := prog_7_method_23_code
def yX5_readDigits : MethodName := ⟨RX5, "readDigits", "(I)I"⟩
abbrev cX5_readNumbers : ByteArray := prog_7_method_24_code
def yX5_readNumbers : MethodName := ⟨RX5, "readNumbers", "(II)V"⟩
abbrev cX5_readStatement : ByteArray := prog_7_method_25_code
def yX5_readStatement : MethodName := ⟨RX5, "readStatement", "()V"⟩
abbrev cX5_suitComes : ByteArray := prog_7_method_26_code
def yX5_suitComes : MethodName := ⟨RX5, "suitComes", "(IIII)Z"⟩
abbrev cX5_bookingComes : ByteArray := prog_7_method_27_code
def yX5_bookingComes : MethodName := ⟨RX5, "bookingComes", "(IIIII)Z"⟩
abbrev cX5_comesTold : ByteArray := prog_7_method_28_code
def yX5_comesTold : MethodName := ⟨RX5, "comesTold", "(I)Z"⟩
abbrev cX5_shop : ByteArray := prog_7_method_29_code
def yX5_shop : MethodName := ⟨RX5, "shop", "(I)I"⟩
abbrev cX5_carry : ByteArray := prog_7_method_30_code
def yX5_carry : MethodName := ⟨RX5, "carry", "(I)I"⟩
abbrev cX5_carryAll : ByteArray := prog_7_method_31_code
def yX5_carryAll : MethodName := ⟨RX5, "carryAll", "([IZ)V"⟩
abbrev cX5_open : ByteArray := prog_7_method_32_code
def yX5_open : MethodName := ⟨RX5, "open", "()V"⟩
abbrev cX5_close : ByteArray := prog_7_method_33_code
def yX5_close : MethodName := ⟨RX5, "close", "()V"⟩
abbrev cX5_image : ByteArray := prog_7_method_34_code
def yX5_image : MethodName := ⟨RX5, "image", "()I"⟩
abbrev cX5_restore : ByteArray := prog_7_method_35_code
def yX5_restore : MethodName := ⟨RX5, "restore", "()I"⟩
abbrev cX5_suit : ByteArray := prog_7_method_36_code
def yX5_suit : MethodName := ⟨RX5, "suit", "(II)I"⟩
abbrev cX5_booking : ByteArray := prog_7_method_37_code
def yX5_booking : MethodName := ⟨RX5, "booking", "(II)I"⟩
abbrev cX5_wrongKept : ByteArray := prog_7_method_38_code
def yX5_wrongKept : MethodName := ⟨RX5, "wrongKept", "(I)I"⟩
abbrev cX5_buys : ByteArray := prog_7_method_39_code
def yX5_buys : MethodName := ⟨RX5, "buys", "(II)I"⟩
abbrev cX5_books : ByteArray := prog_7_method_40_code
def yX5_books : MethodName := ⟨RX5, "books", "(III)I"⟩
abbrev cX5_hires : ByteArray := prog_7_method_41_code
def yX5_hires : MethodName := ⟨RX5, "hires", "(II)I"⟩
abbrev cX5_returns : ByteArray := prog_7_method_42_code
def yX5_returns : MethodName := ⟨RX5, "returns", "(I)I"⟩
abbrev cX5_cleans : ByteArray := prog_7_method_43_code
def yX5_cleans : MethodName := ⟨RX5, "cleans", "(I)I"⟩
abbrev cX5_fits : ByteArray := prog_7_method_44_code
def yX5_fits : MethodName := ⟨RX5, "fits", "(II)I"⟩
abbrev cX5_mayHave : ByteArray := prog_7_method_45_code
def yX5_mayHave : MethodName := ⟨RX5, "mayHave", "(II)Z"⟩
abbrev cX5_isOpen : ByteArray := prog_7_method_46_code
def yX5_isOpen : MethodName := ⟨RX5, "isOpen", "(I)Z"⟩
abbrev cX5_mostBy : ByteArray := prog_7_method_47_code
def yX5_mostBy : MethodName := ⟨RX5, "mostBy", "(II)I"⟩
abbrev cX5_layMost : ByteArray := prog_7_method_48_code
def yX5_layMost : MethodName := ⟨RX5, "layMost", "()I"⟩
abbrev cX5_servedNow : ByteArray := prog_7_method_49_code
def yX5_servedNow : MethodName := ⟨RX5, "servedNow", "()I"⟩
abbrev cX5_earnedNow : ByteArray := prog_7_method_50_code
def yX5_earnedNow : MethodName := ⟨RX5, "earnedNow", "()I"⟩
abbrev cX5_layFirst : ByteArray := prog_7_method_51_code
def yX5_layFirst : MethodName := ⟨RX5, "layFirst", "()I"⟩
abbrev cX5_served : ByteArray := prog_7_method_52_code
def yX5_served : MethodName := ⟨RX5, "served", "(I)I"⟩
abbrev cX5_inState : ByteArray := prog_7_method_53_code
def yX5_inState : MethodName := ⟨RX5, "inState", "(I)I"⟩
abbrev cX5_leftOver : ByteArray := prog_7_method_54_code
def yX5_leftOver : MethodName := ⟨RX5, "leftOver", "()I"⟩
abbrev cX5_earned : ByteArray := prog_7_method_55_code
def yX5_earned : MethodName := ⟨RX5, "earned", "()I"⟩
abbrev cX5_alike : ByteArray := prog_7_method_56_code
def yX5_alike : MethodName := ⟨RX5, "alike", "()I"⟩
abbrev cX5_add : ByteArray := prog_7_method_57_code
def yX5_add : MethodName := ⟨RX5, "add", "(III)V"⟩
abbrev cX5_oneMore : ByteArray := prog_7_method_58_code
def yX5_oneMore : MethodName := ⟨RX5, "oneMore", "()I"⟩
abbrev cX5_divisor : ByteArray := prog_7_method_59_code
def yX5_divisor : MethodName := ⟨RX5, "divisor", "(JJ)J"⟩
abbrev cX5_partOf : ByteArray := prog_7_method_60_code
def yX5_partOf : MethodName := ⟨RX5, "partOf", "(JJI)J"⟩
abbrev cX5_grown : ByteArray := prog_7_method_61_code
def yX5_grown : MethodName := ⟨RX5, "grown", "(I)J"⟩
abbrev cX5_come : ByteArray := prog_7_method_62_code
def yX5_come : MethodName := ⟨RX5, "come", "(II)J"⟩
abbrev cX5_refuse : ByteArray := prog_7_method_63_code
def yX5_refuse : MethodName := ⟨RX5, "refuse", "()I"⟩
abbrev cX5_buy : ByteArray := prog_7_method_64_code
def yX5_buy : MethodName := ⟨RX5, "buy", "(II)I"⟩
abbrev cX5_sell : ByteArray := prog_7_method_65_code
def yX5_sell : MethodName := ⟨RX5, "sell", "()I"⟩
abbrev cX5_shines : ByteArray := prog_7_method_66_code
def yX5_shines : MethodName := ⟨RX5, "shines", "()I"⟩
abbrev cX5_skipped : ByteArray := prog_7_method_67_code
def yX5_skipped : MethodName := ⟨RX5, "skipped", "(I)J"⟩
abbrev cX5_toldHour : ByteArray := prog_7_method_68_code
def yX5_toldHour : MethodName := ⟨RX5, "toldHour", "(II)J"⟩
abbrev cX5_wrongHours : ByteArray := prog_7_method_69_code
def yX5_wrongHours : MethodName := ⟨RX5, "wrongHours", "(I)I"⟩
abbrev cX5_isReady : ByteArray := prog_7_method_70_code
def yX5_isReady : MethodName := ⟨RX5, "isReady", "(II)Z"⟩
abbrev cX5_ready : ByteArray := prog_7_method_71_code
def yX5_ready : MethodName := ⟨RX5, "ready", "(II)I"⟩
abbrev cX5_comesBy : ByteArray := prog_7_method_72_code
def yX5_comesBy : MethodName := ⟨RX5, "comesBy", "(I)I"⟩
abbrev cX5_paidBy : ByteArray := prog_7_method_73_code
def yX5_paidBy : MethodName := ⟨RX5, "paidBy", "(I)I"⟩
abbrev cX5_fee : ByteArray := prog_7_method_74_code
def yX5_fee : MethodName := ⟨RX5, "fee", "(II)I"⟩
abbrev cX5_bestFee : ByteArray := prog_7_method_75_code
def yX5_bestFee : MethodName := ⟨RX5, "bestFee", "()I"⟩
abbrev cX5_atFive : ByteArray := prog_7_method_76_code
def yX5_atFive : MethodName := ⟨RX5, "atFive", "(III)I"⟩
abbrev cX5_taxi : ByteArray := prog_7_method_77_code
def yX5_taxi : MethodName := ⟨RX5, "taxi", "(III)I"⟩
abbrev cX5_friday : ByteArray := prog_7_method_78_code
def yX5_friday : MethodName := ⟨RX5, "friday", "(I)I"⟩
abbrev cX5_tight : ByteArray := prog_7_method_79_code
def yX5_tight : MethodName := ⟨RX5, "tight", "()I"⟩
abbrev cX5_wrongPairs : ByteArray := prog_7_method_80_code
def yX5_wrongPairs : MethodName := ⟨RX5, "wrongPairs", "(I)I"⟩
abbrev cX5_forgedIn : ByteArray := prog_7_method_81_code
def yX5_forgedIn : MethodName := ⟨RX5, "forgedIn", "(I)I"⟩
abbrev cX5_forged : ByteArray := prog_7_method_82_code
def yX5_forged : MethodName := ⟨RX5, "forged", "(I)I"⟩
abbrev cX5_hadAll : ByteArray := prog_7_method_83_code
def yX5_hadAll : MethodName := ⟨RX5, "hadAll", "(III)Z"⟩
abbrev cX5_stained : ByteArray := prog_7_method_84_code
def yX5_stained : MethodName := ⟨RX5, "stained", "(III)I"⟩
abbrev cX5_judge : ByteArray := prog_7_method_85_code
def yX5_judge : MethodName := ⟨RX5, "judge", "(I)I"⟩
abbrev cX5_drawBelow : ByteArray := prog_7_method_86_code
def yX5_drawBelow : MethodName := ⟨RX5, "drawBelow", "(I)I"⟩
abbrev cX5_hiresLeast : ByteArray := prog_7_method_87_code
def yX5_hiresLeast : MethodName := ⟨RX5, "hiresLeast", "(I)Z"⟩
abbrev cX5_weeks : ByteArray := prog_7_method_88_code
def yX5_weeks : MethodName := ⟨RX5, "weeks", "(III)I"⟩
abbrev cX5_count : ByteArray := prog_7_method_89_code
def yX5_count : MethodName := ⟨RX5, "count", "(I)I"⟩
abbrev cX5_keep : ByteArray := prog_7_method_90_code
def yX5_keep : MethodName := ⟨RX5, "keep", "(IIII)I"⟩
abbrev cX5_wrongRow : ByteArray := prog_7_method_91_code
def yX5_wrongRow : MethodName := ⟨RX5, "wrongRow", "(I)I"⟩
abbrev cX5_narrowed : ByteArray := prog_7_method_92_code
def yX5_narrowed : MethodName := ⟨RX5, "narrowed", "(II)J"⟩
abbrev cX5_row : ByteArray := prog_7_method_93_code
def yX5_row : MethodName := ⟨RX5, "row", "(III)I"⟩
abbrev cX5_put : ByteArray := prog_7_method_94_code
def yX5_put : MethodName := ⟨RX5, "put", "(III)I"⟩
abbrev cX5_element : ByteArray := prog_7_method_95_code
def yX5_element : MethodName := ⟨RX5, "element", "(II)J"⟩
abbrev cX5_copy : ByteArray := prog_7_method_96_code
def yX5_copy : MethodName := ⟨RX5, "copy", "(IIIII)I"⟩
abbrev cX5_costOf : ByteArray := prog_7_method_97_code
def yX5_costOf : MethodName := ⟨RX5, "costOf", "(II)I"⟩
abbrev cX5_cost : ByteArray := prog_7_method_98_code
def yX5_cost : MethodName := ⟨RX5, "cost", "(I)I"⟩
abbrev cX5_toss : ByteArray := prog_7_method_99_code
def yX5_toss : MethodName := ⟨RX5, "toss", "(I)I"⟩
def RJ6 : String := "java/lang/Integer"
def TJ6 : u_T := fun k => match k with
  | _ => ("", "", "", false)
def tyJ6 : Nat → FieldType := fun k => match k with
  | _ => .int
abbrev wsJ60 : List Cond := u_ws RJ6 TJ6 0
theorem nmJ6 : ∀ a, a < 0 → ∀ b, b < 0 → a ≠ b → (TJ6 a).2.1 ≠ (TJ6 b).2.1 := by decide +kernel
theorem tyJ6_ok : ∀ k, k < 0 → parseFieldDescriptor (TJ6 k).2.2.1 = some (tyJ6 k) := by decide +kernel
abbrev cJ6_bitCount_0f7a4 : ByteArray := prog_11_method_49_code
def yJ6_bitCount_0f7a4 : MethodName := ⟨RJ6, "bitCount", "(I)I"⟩
def RJ9 : String := "java/lang/Math"
def TJ9 : u_T := fun k => match k with
  | _ => ("", "", "", false)
def tyJ9 : Nat → FieldType := fun k => match k with
  | _ => .int
abbrev wsJ90 : List Cond := u_ws RJ9 TJ9 0
theorem nmJ9 : ∀ a, a < 0 → ∀ b, b < 0 → a ≠ b → (TJ9 a).2.1 ≠ (TJ9 b).2.1 := by decide +kernel
theorem tyJ9_ok : ∀ k, k < 0 → parseFieldDescriptor (TJ9 k).2.2.1 = some (tyJ9 k) := by decide +kernel
abbrev cJ9_min_7cf53 : ByteArray := prog_12_method_69_code
def yJ9_min_7cf53 : MethodName := ⟨RJ9, "min", "(II)I"⟩
def RJ0 : String := "java/lang/String"
def TJ0 : u_T := fun k => match k with
  | _ => ("", "", "", false)
def tyJ0 : Nat → FieldType := fun k => match k with
  | _ => .int
abbrev wsJ00 : List Cond := u_ws RJ0 TJ0 0
theorem nmJ0 : ∀ a, a < 0 → ∀ b, b < 0 → a ≠ b → (TJ0 a).2.1 ≠ (TJ0 b).2.1 := by decide +kernel
theorem tyJ0_ok : ∀ k, k < 0 → parseFieldDescriptor (TJ0 k).2.2.1 = some (tyJ0 k) := by decide +kernel
def RJ10 : String := "java/lang/System"
def TJ10 : u_T := fun k => match k with
  | _ => ("", "", "", false)
def tyJ10 : Nat → FieldType := fun k => match k with
  | _ => .int
abbrev wsJ100 : List Cond := u_ws RJ10 TJ10 0
theorem nmJ10 : ∀ a, a < 0 → ∀ b, b < 0 → a ≠ b → (TJ10 a).2.1 ≠ (TJ10 b).2.1 := by decide +kernel
theorem tyJ10_ok : ∀ k, k < 0 → parseFieldDescriptor (TJ10 k).2.2.1 = some (tyJ10 k) := by decide +kernel
def RL : String := "BackByNoonOnMondayLaw"
abbrev cL_element : ByteArray := method_3_code
def yL_element : MethodName := ⟨RL, "element", "(LBackByNoonOnMonday;II[J)I"⟩
abbrev cL_law : ByteArray := code
def yL_law : MethodName := ⟨RL, "law", "([I)Z"⟩
abbrev vwCl : List vw_C := [(RX0, TX0, 11), (RX1, TX1, 5), (RX2, TX2, 15), (RX3, TX3, 7), (RX4, TX4, 12), (RX5, TX5, 44)]
end
section
/-! MY WORDS. A system's memory as numbers: which cell is of which kind and length, what references and numbers stand in it. -/
abbrev q_St : Type := Nat × (Nat → Nat) × (Nat → Nat) × (Nat → Nat → Nat)
abbrev q_Hp : Type := (Nat → Nat → Int32) × (Nat → Nat → Int64)
/-- the first address that is free -/
def q_sz (σ : q_St) : Nat := σ.1
/-- a cell's kind: 0 none of ours, 1 .. 6 an object of class 0 .. 5 of vwCl, 7 ints, 8 longs, 9 shelves, 10 suits -/
def q_tag (σ : q_St) : Nat → Nat := σ.2.1
def q_len (σ : q_St) : Nat → Nat := σ.2.2.1
/-- references; 0 is null -/
def q_ref (σ : q_St) : Nat → Nat → Nat := σ.2.2.2
def q_int (h : q_Hp) : Nat → Nat → Int32 := h.1
def q_lng (h : q_Hp) : Nat → Nat → Int64 := h.2
def q_si (h : q_Hp) (a k : Nat) (v : Int32) : q_Hp := (va_up h.1 a (upd (h.1 a) k v), h.2)
def q_sj (h : q_Hp) (a k : Nat) (v : Int64) : q_Hp := (h.1, va_up h.2 a (vp_updL (h.2 a) k v))
def q_sr (σ : q_St) (a k v : Nat) : q_St := (σ.1, σ.2.1, σ.2.2.1, va_up σ.2.2.2 a (va_up (σ.2.2.2 a) k v))
/-- a new cell of kind t, length n -/
def q_nw (σ : q_St) (t n : Nat) : q_St := (σ.1 + 1, va_up σ.2.1 σ.1 t, va_up σ.2.2.1 σ.1 n, va_up σ.2.2.2 σ.1 (fun _ => 0))
def q_nh (h : q_Hp) (a : Nat) : q_Hp := (va_up h.1 a (fun _ => 0), va_up h.2 a (fun _ => 0))
def q_op (n : Nat) : Option Nat := if n = 0 then none else some n
/-- a reference's value -/
def q_rv (n : Nat) : Value := va_rf (q_op n)
theorem q_rv_0 : q_rv 0 = .null := rfl
theorem q_rv_n {n : Nat} (h : n ≠ 0) : q_rv n = .ref n := by simp [q_rv, q_op, h, va_rf]
/-- which fields of a class are references -/
def q_lay : Nat → List Bool
  | 0 => [true, true, true, true, true, true, true, true, true, false, false]
  | 1 => [true, false, true, false, false]
  | 2 => [true, true, true, true, true, true, true, true, true, true, true, false, false, false, false]
  | 3 => [false, false, false, false, false, false, false]
  | 4 => [true, true, true, false, true, true, true, true, true, true, true, true]
  | _ => [false, true, true, true, true, true, false, true, true, true, true, true, true, false, false, true, true, true, true, true, true, false, false, false, false, false, true, true, true, true, true, false, false, false, true, false, true, false, false, true, true, false, false, true]
def q_fl (r : Nat → Nat) (f : Nat → Int32) : List Bool → Nat → List Value
  | [], _ => []
  | b :: l, k => (if b then q_rv (r k) else .int (f k)) :: q_fl r f l (k + 1)
theorem q_fl_len (r : Nat → Nat) (f : Nat → Int32) : ∀ (l : List Bool) (k : Nat), (q_fl r f l k).length = l.length
  | [], _ => rfl
  | _ :: l, k => by simp [q_fl, q_fl_len r f l (k + 1)]
theorem q_fl_get (r : Nat → Nat) (f : Nat → Int32) : ∀ (l : List Bool) (k j : Nat) (b : Bool), l[j]? = some b → (q_fl r f l k)[j]? = some (if b then q_rv (r (k + j)) else .int (f (k + j)))
  | [], _, j, b, h => by simp at h
  | c :: l, k, 0, b, h => by
    have : c = b := by simpa using h
    subst this
    simp [q_fl]
  | c :: l, k, j + 1, b, h => by
    have h' : l[j]? = some b := by simpa using h
    have := q_fl_get r f l (k + 1) j b h'
    rw [show k + 1 + j = k + (j + 1) by omega] at this
    simpa [q_fl] using this
theorem q_fl_cong {r r' : Nat → Nat} {f f' : Nat → Int32} : ∀ (l : List Bool) (k : Nat), (∀ i, k ≤ i → r i = r' i ∧ f i = f' i) → q_fl r f l k = q_fl r' f' l k
  | [], _, _ => rfl
  | b :: l, k, h => by
    simp only [q_fl, (h k (Nat.le_refl k)).1, (h k (Nat.le_refl k)).2, q_fl_cong l (k + 1) (fun i hi => h i (by omega))]
theorem q_fl_seti (r : Nat → Nat) (f : Nat → Int32) (v : Int32) : ∀ (l : List Bool) (k j : Nat), l[j]? = some false → q_fl r (upd f (k + j) v) l k = (q_fl r f l k).set j (.int v)
  | [], _, j, h => by simp at h
  | c :: l, k, 0, h => by
    have : c = false := by simpa using h
    subst this
    have e := q_fl_cong (r := r) (r' := r) (f := upd f k v) (f' := f) l (k + 1) (fun i hi => ⟨rfl, by simp [upd, show i ≠ k by omega]⟩)
    simp [q_fl, upd]
    exact e
  | c :: l, k, j + 1, h => by
    have h' : l[j]? = some false := by simpa using h
    have e := q_fl_seti r f v l (k + 1) j h'
    rw [show k + 1 + j = k + (j + 1) by omega] at e
    simp [q_fl, upd, show k ≠ k + (j + 1) by omega]
    exact e
theorem q_fl_setr (r : Nat → Nat) (f : Nat → Int32) (v : Nat) : ∀ (l : List Bool) (k j : Nat), l[j]? = some true → q_fl (va_up r (k + j) v) f l k = (q_fl r f l k).set j (q_rv v)
  | [], _, j, h => by simp at h
  | c :: l, k, 0, h => by
    have : c = true := by simpa using h
    subst this
    have e := q_fl_cong (r := va_up r k v) (r' := r) (f := f) (f' := f) l (k + 1) (fun i hi => ⟨by simp [va_up, show i ≠ k by omega], rfl⟩)
    simp [q_fl, va_up]
    exact e
  | c :: l, k, j + 1, h => by
    have h' : l[j]? = some true := by simpa using h
    have e := q_fl_setr r f v l (k + 1) j h'
    rw [show k + 1 + j = k + (j + 1) by omega] at e
    simp [q_fl, va_up, show k ≠ k + (j + 1) by omega]
    exact e
/-- what a cell holds -/
def q_cell (cy : Nat → Nat) (σ : q_St) (h : q_Hp) (a : Nat) : va_E :=
  if q_tag σ a ≤ 6 then .inr (q_tag σ a - 1, q_fl (q_ref σ a) (h.1 a) (q_lay (q_tag σ a - 1)) 0)
  else if q_tag σ a = 7 then .inl (cy 0, q_len σ a, .inl (h.1 a))
  else if q_tag σ a = 8 then .inl (cy 1, q_len σ a, .inr (.inl (h.2 a)))
  else .inl (cy (q_tag σ a - 7), q_len σ a, .inr (.inr (.inr (.inr (fun k => q_op (q_ref σ a k))))))
def q_L (σ : q_St) : List Nat := (List.range σ.1).filter (fun a => !(σ.2.1 a == 0))
theorem q_L_mem {σ : q_St} {a : Nat} : a ∈ q_L σ ↔ a < q_sz σ ∧ q_tag σ a ≠ 0 := by
  simp [q_L, q_sz, q_tag, List.mem_filter]
theorem q_L_nodup (σ : q_St) : (q_L σ).Nodup := List.Pairwise.filter _ (List.nodup_range (n := σ.1))
def q_tys (cy : Nat → Nat) : List (ClassId × FieldType) := [(cy 0, .int), (cy 1, .long), (cy 2, .object RX1), (cy 3, .object RX3)]
/-- the world in a heap -/
def q_HW (D : va_G) (cy : Nat → Nat) (b0 : Nat) (σ : q_St) (h : q_Hp) (H : Heap) : Prop :=
  H.size = q_sz σ ∧ va_P D vwCl ([] ++ va_pl (q_L σ) (q_cell cy σ h)) H ∧ 0 < b0 ∧ b0 ≤ q_sz σ ∧ ∀ a, q_tag σ a ≠ 0 → b0 ≤ a ∧ a < q_sz σ
theorem q_D {D : va_G} {cy : Nat → Nat} {b0 : Nat} {σ : q_St} {h : q_Hp} {H : Heap} (hW : q_HW D cy b0 σ h H) (f : Nat → va_E) : va_D (fun q => b0 ≤ q) ([] ++ va_pl (q_L σ) f) := by
  refine ⟨fun i j p q hi hj hpq => ?_, fun k q hk => ?_⟩
  · simp only [List.nil_append, va_pl, List.getElem?_map] at hi hj
    cases hx : (q_L σ)[i]? with
    | none => rw [hx] at hi; cases hi
    | some x =>
      cases hy : (q_L σ)[j]? with
      | none => rw [hy] at hj; cases hj
      | some y =>
        rw [hx] at hi; rw [hy] at hj
        cases hi; cases hj
        have hxy : x = y := hpq
        subst hxy
        have hli := (List.getElem?_eq_some_iff.mp hx).1
        exact (List.getElem?_inj hli (q_L_nodup σ)).mp (hx.trans hy.symm)
  · simp only [List.nil_append, va_pl, List.getElem?_map] at hk
    cases hx : (q_L σ)[k]? with
    | none => rw [hx] at hk; cases hk
    | some x =>
      rw [hx] at hk
      cases hk
      exact (hW.2.2.2.2 x (q_L_mem.mp (List.mem_of_getElem? hx)).2).1
theorem q_in {D : va_G} {cy : Nat → Nat} {b0 : Nat} {σ : q_St} {h : q_Hp} {H : Heap} (hW : q_HW D cy b0 σ h H) {a : Nat} (ha : q_tag σ a ≠ 0) : a ∈ q_L σ := q_L_mem.mpr ⟨(hW.2.2.2.2 a ha).2, ha⟩
theorem q_at {D : va_G} {cy : Nat → Nat} {b0 : Nat} {σ : q_St} {h : q_Hp} {H : Heap} (hW : q_HW D cy b0 σ h H) {a : Nat} (ha : q_tag σ a ≠ 0) : ∃ k : Nat, ([] ++ va_pl (q_L σ) (q_cell cy σ h))[k]? = some (a, q_cell cy σ h a) := va_pl_get (q_in hW ha)
theorem q_nz {D : va_G} {cy : Nat → Nat} {b0 : Nat} {σ : q_St} {h : q_Hp} {H : Heap} (hW : q_HW D cy b0 σ h H) {a : Nat} (ha : q_tag σ a ≠ 0) : a ≠ 0 := fun q => by
  have := (hW.2.2.2.2 a ha).1
  have := hW.2.2.1
  omega
theorem q_cell_obj {cy : Nat → Nat} {σ : q_St} {h : q_Hp} {a c : Nat} (ht : q_tag σ a = c + 1) (hc : c < 6) : q_cell cy σ h a = .inr (c, q_fl (q_ref σ a) (h.1 a) (q_lay c) 0) := by
  simp [q_cell, ht, show c + 1 ≤ 6 by omega]
theorem q_cell_ints {cy : Nat → Nat} {σ : q_St} {h : q_Hp} {a : Nat} (ht : q_tag σ a = 7) : q_cell cy σ h a = .inl (cy 0, q_len σ a, .inl (h.1 a)) := by
  simp [q_cell, ht]
theorem q_cell_longs {cy : Nat → Nat} {σ : q_St} {h : q_Hp} {a : Nat} (ht : q_tag σ a = 8) : q_cell cy σ h a = .inl (cy 1, q_len σ a, .inr (.inl (h.2 a))) := by
  simp [q_cell, ht]
theorem q_cell_refs {cy : Nat → Nat} {σ : q_St} {h : q_Hp} {a c : Nat} (ht : q_tag σ a = c + 9) : q_cell cy σ h a = .inl (cy (c + 2), q_len σ a, .inr (.inr (.inr (.inr (fun k => q_op (q_ref σ a k)))))) := by
  simp [q_cell, ht]
theorem q_cell_cong {cy : Nat → Nat} {σ σ' : q_St} {h h' : q_Hp} {a : Nat} (e1 : q_tag σ a = q_tag σ' a) (e2 : q_len σ a = q_len σ' a) (e3 : q_ref σ a = q_ref σ' a) (e4 : h.1 a = h'.1 a) (e5 : h.2 a = h'.2 a) : q_cell cy σ h a = q_cell cy σ' h' a := by
  simp only [q_cell, e1, e2, e3, e4, e5]
/-- one cell of the world is written -/
theorem q_wr {D : va_G} {cy : Nat → Nat} {b0 : Nat} {σ σ' : q_St} {h h' : q_Hp} {H H1 : Heap} (hW : q_HW D cy b0 σ h H) {a k : Nat} (ha : q_tag σ a ≠ 0) (hk : ([] ++ va_pl (q_L σ) (q_cell cy σ h))[k]? = some (a, q_cell cy σ h a)) {e : va_E}
    (hP : va_P D vwCl (([] ++ va_pl (q_L σ) (q_cell cy σ h)).set k (a, e)) H1) (hz : H1.size = H.size) (e0 : q_sz σ' = q_sz σ) (e1 : q_tag σ' = q_tag σ) (e2 : q_len σ' = q_len σ) (e3 : ∀ b, b ≠ a → q_ref σ' b = q_ref σ b) (e4 : ∀ b, b ≠ a → h'.1 b = h.1 b) (e5 : ∀ b, b ≠ a → h'.2 b = h.2 b) (he : e = q_cell cy σ' h' a) : q_HW D cy b0 σ' h' H1 := by
  have hL : q_L σ' = q_L σ := by
    unfold q_L
    rw [show σ'.1 = σ.1 from e0, show σ'.2.1 = σ.2.1 from e1]
  refine ⟨by rw [hz, e0]; exact hW.1, ?_, hW.2.2.1, by rw [e0]; exact hW.2.2.2.1, fun b hb => by rw [e0]; rw [e1] at hb; exact hW.2.2.2.2 b hb⟩
  rw [va_pl_set (q_D hW _) (q_in hW ha) hk] at hP
  rw [hL]
  refine (va_pl_congr (f := va_up (q_cell cy σ h) a e) (g := q_cell cy σ' h') (L := q_L σ) (fun b => ?_)) ▸ hP
  by_cases hb : b = a
  · subst hb
    rw [va_up_self, he]
  · rw [va_up_ne _ _ hb]
    exact q_cell_cong (by rw [e1]) (by rw [e2]) (e3 b hb).symm (e4 b hb).symm (e5 b hb).symm
end
section
/-! the heap's instructions, over the memory's words -/
def q_tbl : List Cond := lw_tbl.filter goodWord
theorem q_tbl_of {w : Cond} (h : w ∈ lw_tbl) (g : goodWord w = true) : w ∈ q_tbl := List.mem_filter.mpr ⟨h, g⟩
theorem q_tbl_good : q_tbl.all goodWord = true := List.all_eq_true.mpr fun _ h => (List.mem_filter.mp h).2
def q_dc : vw_C := (RX0, TX0, 11)
def q_cl (c : Nat) : vw_C := vwCl.getD c q_dc
def q_ty (c k : Nat) : FieldType := match c with
  | 0 => tyX0 k
  | 1 => tyX1 k
  | 2 => tyX2 k
  | 3 => tyX3 k
  | 4 => tyX4 k
  | _ => tyX5 k
/-- boolean fields -/
def q_isb (c k : Nat) : Bool := match q_ty c k with
  | .boolean => true
  | _ => false
theorem q_in1 {w : Cond} (i : Nat) (h : tables_1_1[i]? = some w) : w ∈ lw_tbl := List.mem_append_right _ (List.mem_append_left _ (List.mem_of_getElem? h))
theorem q_tb1 {w : Cond} (i : Nat) (h : tables_1_1[i]? = some w) (g : goodWord w = true) : w ∈ q_tbl := q_tbl_of (q_in1 i h) g
theorem q_in2 {w : Cond} (i : Nat) (h : tables_1_2[i]? = some w) : w ∈ lw_tbl := List.mem_append_right _ (List.mem_append_right _ (List.mem_append_left _ (List.mem_of_getElem? h)))
theorem q_tb2 {w : Cond} (i : Nat) (h : tables_1_2[i]? = some w) (g : goodWord w = true) : w ∈ q_tbl := q_tbl_of (q_in2 i h) g
theorem q_in3 {w : Cond} (i : Nat) (h : tables_1_3[i]? = some w) : w ∈ lw_tbl := List.mem_append_right _ (List.mem_append_right _ (List.mem_append_right _ (List.mem_append_left _ (List.mem_of_getElem? h))))
theorem q_tb3 {w : Cond} (i : Nat) (h : tables_1_3[i]? = some w) (g : goodWord w = true) : w ∈ q_tbl := q_tbl_of (q_in3 i h) g
theorem q_in4 {w : Cond} (i : Nat) (h : tables_1_4[i]? = some w) : w ∈ lw_tbl := List.mem_append_right _ (List.mem_append_right _ (List.mem_append_right _ (List.mem_append_right _ (List.mem_append_left _ (List.mem_of_getElem? h)))))
theorem q_tb4 {w : Cond} (i : Nat) (h : tables_1_4[i]? = some w) (g : goodWord w = true) : w ∈ q_tbl := q_tbl_of (q_in4 i h) g
theorem q_in5 {w : Cond} (i : Nat) (h : tables_1_5[i]? = some w) : w ∈ lw_tbl := List.mem_append_right _ (List.mem_append_right _ (List.mem_append_right _ (List.mem_append_right _ (List.mem_append_right _ (List.mem_append_left _ (List.mem_of_getElem? h))))))
theorem q_tb5 {w : Cond} (i : Nat) (h : tables_1_5[i]? = some w) (g : goodWord w = true) : w ∈ q_tbl := q_tbl_of (q_in5 i h) g
theorem q_in6 {w : Cond} (i : Nat) (h : tables_1_6[i]? = some w) : w ∈ lw_tbl := List.mem_append_right _ (List.mem_append_right _ (List.mem_append_right _ (List.mem_append_right _ (List.mem_append_right _ (List.mem_append_right _ (List.mem_of_getElem? h))))))
theorem q_tb6 {w : Cond} (i : Nat) (h : tables_1_6[i]? = some w) (g : goodWord w = true) : w ∈ q_tbl := q_tbl_of (q_in6 i h) g
theorem q_sl {w : Cond} (i : Nat) (h : (k2_sels lw_privs)[i]? = some w) (g : goodWord w = true) : w ∈ q_tbl := q_tbl_of (List.mem_append_left _ (List.mem_of_getElem? h)) g
def q_tat (x : Nat × Nat) : Option Cond := match x.1 with
  | 1 => tables_1_1[x.2]?
  | 2 => tables_1_2[x.2]?
  | 3 => tables_1_3[x.2]?
  | 4 => tables_1_4[x.2]?
  | 5 => tables_1_5[x.2]?
  | 6 => tables_1_6[x.2]?
  | _ => none
theorem q_tat_in {w : Cond} : ∀ {x : Nat × Nat}, q_tat x = some w → w ∈ lw_tbl
  | (1, i), h => q_in1 i h
  | (2, i), h => q_in2 i h
  | (3, i), h => q_in3 i h
  | (4, i), h => q_in4 i h
  | (5, i), h => q_in5 i h
  | (6, i), h => q_in6 i h
  | (0, i), h => by cases h
  | (n + 7, i), h => by cases h
theorem q_tbs {ws : List Cond} (ps : List (Nat × Nat)) (h : ws = ps.filterMap q_tat) (g : ws.all goodWord = true) : ∀ w ∈ ws, w ∈ q_tbl := by
  intro w hw
  have hg := List.all_eq_true.mp g w hw
  rw [h] at hw
  obtain ⟨i, -, hi⟩ := List.mem_filterMap.mp hw
  exact q_tbl_of (q_tat_in hi) hg
theorem q_sub0 : ∀ w ∈ wsX00, w ∈ q_tbl := q_tbs [(1, 191), (1, 193), (1, 195), (1, 197), (1, 199), (1, 201), (1, 203), (1, 205), (1, 207), (1, 209), (1, 211)] (by decide +kernel) (by decide +kernel)
theorem q_sub1 : ∀ w ∈ wsX10, w ∈ q_tbl := q_tbs [(1, 158), (1, 160), (1, 162), (1, 164), (1, 166)] (by decide +kernel) (by decide +kernel)
theorem q_sub2 : ∀ w ∈ wsX20, w ∈ q_tbl := q_tbs [(1, 108), (1, 110), (1, 112), (1, 114), (1, 116), (1, 118), (1, 120), (1, 122), (1, 124), (1, 126), (1, 128), (1, 130), (1, 132), (1, 134), (1, 136)] (by decide +kernel) (by decide +kernel)
theorem q_sub3 : ∀ w ∈ wsX30, w ∈ q_tbl := q_tbs [(1, 62), (1, 64), (1, 66), (1, 68), (1, 70), (1, 72), (1, 74)] (by decide +kernel) (by decide +kernel)
theorem q_sub4 : ∀ w ∈ wsX40, w ∈ q_tbl := q_tbs [(1, 226), (1, 228), (1, 230), (1, 232), (1, 234), (1, 236), (1, 238), (2, 0), (2, 2), (2, 4), (2, 6), (2, 8)] (by decide +kernel) (by decide +kernel)
theorem q_sub5 : ∀ w ∈ wsX50, w ∈ q_tbl := q_tbs [(4, 172), (4, 174), (4, 176), (4, 178), (4, 180), (4, 182), (4, 184), (4, 186), (4, 188), (4, 190), (4, 192), (4, 194), (4, 196), (4, 198), (4, 200), (4, 202), (4, 204), (4, 206), (4, 208), (4, 210), (4, 212), (4, 214), (4, 216), (4, 218), (4, 220), (4, 222), (4, 224), (4, 226), (4, 228), (4, 230), (4, 232), (4, 234), (4, 236), (4, 238), (5, 0), (5, 2), (5, 4), (5, 6), (5, 8), (5, 10), (5, 12), (5, 14), (5, 16), (5, 18)] (by decide +kernel) (by decide +kernel)
def q_clok (c : Nat) (C : String) (T : u_T) (N : Nat) : Prop :=
  vwCl[c]? = some (C, T, N) ∧ (∀ w ∈ u_ws C T N, w ∈ q_tbl) ∧ (∀ k, k < N → parseFieldDescriptor (T k).2.2.1 = some (q_ty c k)) ∧ (∀ a, a < N → ∀ b, b < N → a ≠ b → (T a).2.1 ≠ (T b).2.1) ∧ (q_lay c).length = N
theorem q_c0 : q_clok 0 RX0 TX0 11 := ⟨rfl, q_sub0, tyX0_ok, nmX0, rfl⟩
theorem q_c1 : q_clok 1 RX1 TX1 5 := ⟨rfl, q_sub1, tyX1_ok, nmX1, rfl⟩
theorem q_c2 : q_clok 2 RX2 TX2 15 := ⟨rfl, q_sub2, tyX2_ok, nmX2, rfl⟩
theorem q_c3 : q_clok 3 RX3 TX3 7 := ⟨rfl, q_sub3, tyX3_ok, nmX3, rfl⟩
theorem q_c4 : q_clok 4 RX4 TX4 12 := ⟨rfl, q_sub4, tyX4_ok, nmX4, rfl⟩
theorem q_c5 : q_clok 5 RX5 TX5 44 := ⟨rfl, q_sub5, tyX5_ok, nmX5, rfl⟩
theorem q_clsok {c : Nat} (h : c < 6) : q_clok c (q_cl c).1 (q_cl c).2.1 (q_cl c).2.2 := by
  match c, h with
  | 0, _ => exact q_c0
  | 1, _ => exact q_c1
  | 2, _ => exact q_c2
  | 3, _ => exact q_c3
  | 4, _ => exact q_c4
  | 5, _ => exact q_c5
theorem q_intty : ∀ c, c < 6 → ∀ k, k < (q_lay c).length → (q_lay c)[k]? = some false → q_ty c k = .int ∨ q_ty c k = .boolean := by decide +kernel
def q_isref (t : FieldType) : Bool := match t with
  | .object _ => true
  | .array _ => true
  | _ => false
theorem q_refty : ∀ c, c < 6 → ∀ k, k < (q_lay c).length → (q_lay c)[k]? = some true → q_isref (q_ty c k) = true := by decide +kernel
/-- a field's word: own's pool entry idx is field k of class c -/
def q_fok (own : String) (x : Nat × Nat × Nat) : Prop := x.2.1 < 6 ∧ x.2.2 < (q_cl x.2.1).2.2 ∧ Cond.fieldLink own x.1 (q_cl x.2.1).1 ((q_cl x.2.1).2.1 x.2.2).2.1 ((q_cl x.2.1).2.1 x.2.2).2.2.1 ∈ q_tbl ∧ ((q_cl x.2.1).2.1 x.2.2).1 = (q_cl x.2.1).1
section QH
variable {p : Program} {l : Launch} {e : Env} {R : Room} {s : State} {m : MethodId} {args : Array Value} {below : List Frame} {meth : Method} {c : Code} {H : Heap} {locs : List Loc} {cells slots : Nat} {Q : State → Prop}
variable {cc : ByteArray} {pc : Nat} {ls : Array Slot} {rest : List Value} {D : va_G} {cy : Nat → Nat} {b0 : Nat} {σ : q_St} {h : q_Hp} {H0 : Heap} {own : String} {a : Nat}
theorem x_getf (hexec : p.tables.exec = Jvm.exec) (hb : c.code = cc) (hts : ∀ w ∈ q_tbl, w.before args s = true) (hown : s.vm.findClass own = some m.cls) (hK : va_K D vwCl (q_tys cy) s) (hW : q_HW D cy b0 σ h H) {idx ci k : Nat} (hf : q_fok own (idx, ci, k)) (ht : q_tag σ a = ci + 1) {b : Bool} (hl : (q_lay ci)[k]? = some b) (hdg : decode cc pc = .ok (.getfield idx, 3))
    (kk : W p l e R s m args below meth c H locs cells slots Q (F0 m (pc + 3) ls ((if b then q_rv (q_ref σ a k) else .int (q_int h a k)) :: rest))) : W p l e R s m args below meth c H locs cells slots Q (F0 m pc ls (.ref a :: rest)) := by
  obtain ⟨h1, h2, h3, h4⟩ := hf
  obtain ⟨k1, k2, k3, k4, k5⟩ := q_clsok h1
  obtain ⟨q0, hq⟩ := q_at hW (a := a) (by rw [ht]; omega)
  rw [q_cell_obj ht h1] at hq
  refine va_get (C := (q_cl ci).1) (T := (q_cl ci).2.1) (N := (q_cl ci).2.2) hexec hb hts k2 hown hK hW.2.1 q0 hq k1 k h2 (hts _ h3) (fun x hx => by rw [h4] at hx; exact hx) (v := if b then q_rv (q_ref σ a k) else .int (q_int h a k)) ?_ hdg kk
  have := q_fl_get (q_ref σ a) (h.1 a) (q_lay ci) 0 k b hl
  rw [Nat.zero_add] at this
  exact this
theorem x_iald (hexec : p.tables.exec = Jvm.exec) (hb : c.code = cc) (hK : va_K D vwCl (q_tys cy) s) (hW : q_HW D cy b0 σ h H) (ht : q_tag σ a = 7) {i : Int32} (hin : vp_in i (q_len σ a)) (hdg : decode cc pc = .ok (.iaload, 1))
    (kk : W p l e R s m args below meth c H locs cells slots Q (F0 m (pc + 1) ls (.int (q_int h a i.toNatClampNeg) :: rest))) : W p l e R s m args below meth c H locs cells slots Q (F0 m pc ls (.int i :: .ref a :: rest)) := by
  obtain ⟨q0, hq⟩ := q_at hW (a := a) (by rw [ht]; omega)
  rw [q_cell_ints ht] at hq
  exact va_iald hexec hb hK hW.2.1 q0 0 hq rfl hin hdg kk
theorem x_lald (hexec : p.tables.exec = Jvm.exec) (hb : c.code = cc) (hK : va_K D vwCl (q_tys cy) s) (hW : q_HW D cy b0 σ h H) (ht : q_tag σ a = 8) {i : Int32} (hin : vp_in i (q_len σ a)) (hdg : decode cc pc = .ok (.laload, 1))
    (kk : W p l e R s m args below meth c H locs cells slots Q (F0 m (pc + 1) ls (.long (q_lng h a i.toNatClampNeg) :: rest))) : W p l e R s m args below meth c H locs cells slots Q (F0 m pc ls (.int i :: .ref a :: rest)) := by
  obtain ⟨q0, hq⟩ := q_at hW (a := a) (by rw [ht]; omega)
  rw [q_cell_longs ht] at hq
  exact va_lald hexec hb hK hW.2.1 q0 1 hq rfl hin hdg kk
theorem x_aald (hexec : p.tables.exec = Jvm.exec) (hb : c.code = cc) (hK : va_K D vwCl (q_tys cy) s) (hW : q_HW D cy b0 σ h H) (ht : q_tag σ a = 9 ∨ q_tag σ a = 10) {i : Int32} (hin : vp_in i (q_len σ a)) (hdg : decode cc pc = .ok (.aaload, 1))
    (kk : W p l e R s m args below meth c H locs cells slots Q (F0 m (pc + 1) ls (q_rv (q_ref σ a i.toNatClampNeg) :: rest))) : W p l e R s m args below meth c H locs cells slots Q (F0 m pc ls (.int i :: .ref a :: rest)) := by
  obtain ⟨q0, hq⟩ := q_at hW (a := a) (by rcases ht with ht | ht <;> rw [ht] <;> omega)
  rcases ht with ht | ht
  · rw [q_cell_refs (c := 0) ht] at hq
    exact va_aldq hexec hb hK hW.2.1 q0 2 hq rfl hin hdg kk
  · rw [q_cell_refs (c := 1) ht] at hq
    exact va_aldq hexec hb hK hW.2.1 q0 3 hq rfl hin hdg kk
theorem x_alen (hexec : p.tables.exec = Jvm.exec) (hb : c.code = cc) (hK : va_K D vwCl (q_tys cy) s) (hW : q_HW D cy b0 σ h H) (ht : q_tag σ a = 7 ∨ q_tag σ a = 8 ∨ q_tag σ a = 9 ∨ q_tag σ a = 10) (hdg : decode cc pc = .ok (.arraylength, 1))
    (kk : W p l e R s m args below meth c H locs cells slots Q (F0 m (pc + 1) ls (.int (Int32.ofNat (q_len σ a)) :: rest))) : W p l e R s m args below meth c H locs cells slots Q (F0 m pc ls (.ref a :: rest)) := by
  obtain ⟨q0, hq⟩ := q_at hW (a := a) (by rcases ht with ht | ht | ht | ht <;> rw [ht] <;> omega)
  rcases ht with ht | ht | ht | ht
  · rw [q_cell_ints ht] at hq
    exact va_alen hexec hb hK hW.2.1 q0 0 hq (ty := .int) rfl rfl hdg kk
  · rw [q_cell_longs ht] at hq
    exact va_alen hexec hb hK hW.2.1 q0 1 hq (ty := .long) rfl rfl hdg kk
  · rw [q_cell_refs (c := 0) ht] at hq
    exact va_alen hexec hb hK hW.2.1 q0 2 hq (ty := .object RX1) rfl rfl hdg kk
  · rw [q_cell_refs (c := 1) ht] at hq
    exact va_alen hexec hb hK hW.2.1 q0 3 hq (ty := .object RX3) rfl rfl hdg kk
theorem q_up_ne {α : Type} (f : Nat → α) {k j : Nat} (v : α) (h : j ≠ k) : va_up f k v j = f j := va_up_ne f v h
theorem x_iast (hexec : p.tables.exec = Jvm.exec) (hb : c.code = cc) (hK : va_K D vwCl (q_tys cy) s) (hW : q_HW D cy b0 σ h H) (hS : va_S (fun q => b0 ≤ q) H0 H locs) (ht : q_tag σ a = 7) {i x : Int32} (hin : vp_in i (q_len σ a)) (hdg : decode cc pc = .ok (.iastore, 1))
    (kk : ∀ (H1 : Heap) (locs1 : List Loc), q_HW D cy b0 σ (q_si h a i.toNatClampNeg x) H1 → va_S (fun q => b0 ≤ q) H0 H1 locs1 → W p l e R s m args below meth c H1 locs1 cells slots Q (F0 m (pc + 1) ls rest)) : W p l e R s m args below meth c H locs cells slots Q (F0 m pc ls (.int x :: .int i :: .ref a :: rest)) := by
  have h0 : q_tag σ a ≠ 0 := by rw [ht]; omega
  obtain ⟨q0, hq⟩ := q_at hW h0
  have hq' := hq
  rw [q_cell_ints ht] at hq'
  refine W.iast hexec hb (hW.2.1 q0 _ hq') ((hK.2 0 _ rfl).1 (q_len σ a) (fun j => .int (h.1 a j))) (fun q => by cases q) (by show ¬ (i < 0 ∨ (arrV _ _ _).slots.size ≤ _); rw [arrV_size]; exact hin) rfl rfl hdg fun H1 e z oq => ?_
  refine kk H1 _ (q_wr hW h0 hq (hW.2.1.set (q_D hW _) hq (e := .inl (cy 0, q_len σ a, .inl (upd (h.1 a) i.toNatClampNeg x))) ?_ oq) z rfl rfl rfl (fun _ _ => rfl) (fun b hb => va_up_ne _ _ hb) (fun _ _ => rfl) ?_) (hS.put z oq (hW.2.2.2.2 a h0).1)
  · show H1[a]? = some (vp_cell _ _)
    rw [e]
    rw [vp_cell_i, vp_cell_i, arrV_store]
    congr 2
    funext q
    by_cases hq : q = i.toNatClampNeg
    · subst hq
      simp [updV, upd]
    · simp [updV, upd, hq]
  · rw [q_cell_ints ht]
    simp [q_si, va_up_self]
theorem x_last (hexec : p.tables.exec = Jvm.exec) (hb : c.code = cc) (hK : va_K D vwCl (q_tys cy) s) (hW : q_HW D cy b0 σ h H) (hS : va_S (fun q => b0 ≤ q) H0 H locs) (ht : q_tag σ a = 8) {i : Int32} {x : Int64} (hin : vp_in i (q_len σ a)) (hdg : decode cc pc = .ok (.lastore, 1))
    (kk : ∀ (H1 : Heap) (locs1 : List Loc), q_HW D cy b0 σ (q_sj h a i.toNatClampNeg x) H1 → va_S (fun q => b0 ≤ q) H0 H1 locs1 → W p l e R s m args below meth c H1 locs1 cells slots Q (F0 m (pc + 1) ls rest)) : W p l e R s m args below meth c H locs cells slots Q (F0 m pc ls (.long x :: .int i :: .ref a :: rest)) := by
  have h0 : q_tag σ a ≠ 0 := by rw [ht]; omega
  obtain ⟨q0, hq⟩ := q_at hW h0
  have hq' := hq
  rw [q_cell_longs ht] at hq'
  refine W.last hexec hb (hW.2.1 q0 _ hq') ((hK.2 1 _ rfl).1 (q_len σ a) (fun j => .long (h.2 a j))) (fun q => by cases q) (by show ¬ (i < 0 ∨ (arrV _ _ _).slots.size ≤ _); rw [arrV_size]; exact hin) rfl rfl hdg fun H1 e z oq => ?_
  refine kk H1 _ (q_wr hW h0 hq (hW.2.1.set (q_D hW _) hq (e := .inl (cy 1, q_len σ a, .inr (.inl (vp_updL (h.2 a) i.toNatClampNeg x)))) ?_ oq) z rfl rfl rfl (fun _ _ => rfl) (fun _ _ => rfl) (fun b hb => va_up_ne _ _ hb) ?_) (hS.put z oq (hW.2.2.2.2 a h0).1)
  · show H1[a]? = some (vp_cell _ _)
    rw [e]
    rw [vp_cell_l, vp_cell_l, arrV_store]
    congr 2
    funext q
    by_cases hq : q = i.toNatClampNeg
    · subst hq
      simp [updV, vp_updL]
    · simp [updV, vp_updL, hq]
  · rw [q_cell_longs ht]
    simp [q_sj, va_up_self]
end QH
end
section
/-! fields written, arrays copied, cells made -/
section QP
variable {p : Program} {l : Launch} {e : Env} {R : Room} {s : State} {m : MethodId} {args : Array Value} {below : List Frame} {meth : Method} {c : Code} {H : Heap} {locs : List Loc} {cells slots : Nat} {Q : State → Prop}
variable {cc : ByteArray} {pc : Nat} {ls : Array Slot} {rest : List Value} {D : va_G} {cy : Nat → Nat} {b0 : Nat} {σ σ' : q_St} {h h' : q_Hp} {H0 : Heap} {own : String} {a : Nat}
theorem x_putv (hexec : p.tables.exec = Jvm.exec) (hb : c.code = cc) (hts : ∀ w ∈ q_tbl, w.before args s = true) (hown : s.vm.findClass own = some m.cls) (hK : va_K D vwCl (q_tys cy) s) (hW : q_HW D cy b0 σ h H) (hS : va_S (fun q => b0 ≤ q) H0 H locs) {idx ci k : Nat} (hf : q_fok own (idx, ci, k)) (ht : q_tag σ a = ci + 1)
    (hfin : ((q_cl ci).2.1 k).2.2.2 = false ∨ (((q_cl ci).2.1 k).2.2.2 = true ∧ meth.name = "<init>" ∧ (q_cl ci).1 = own)) {v : Value} (hn : narrow (q_ty ci k) v = v) (hfit : fits (q_ty ci k) v = true) (hdg : decode cc pc = .ok (.putfield idx, 3))
    (e0 : q_sz σ' = q_sz σ) (e1 : q_tag σ' = q_tag σ) (e2 : q_len σ' = q_len σ) (e3 : ∀ b, b ≠ a → q_ref σ' b = q_ref σ b) (e4 : ∀ b, b ≠ a → h'.1 b = h.1 b) (e5 : ∀ b, b ≠ a → h'.2 b = h.2 b) (he : q_fl (q_ref σ' a) (h'.1 a) (q_lay ci) 0 = (q_fl (q_ref σ a) (h.1 a) (q_lay ci) 0).set k v)
    (kk : ∀ (H1 : Heap) (locs1 : List Loc), q_HW D cy b0 σ' h' H1 → va_S (fun q => b0 ≤ q) H0 H1 locs1 → W p l e R s m args below meth c H1 locs1 cells slots Q (F0 m (pc + 3) ls rest)) : W p l e R s m args below meth c H locs cells slots Q (F0 m pc ls (v :: .ref a :: rest)) := by
  obtain ⟨h1, h2, h3, h4⟩ := hf
  obtain ⟨k1, k2, k3, k4, k5⟩ := q_clsok h1
  have hap := va_apart (own := own) hts k2 (q_ty ci) k3 k4 hK k1
  have h0 : q_tag σ a ≠ 0 := by rw [ht]; omega
  obtain ⟨q0, hq⟩ := q_at hW h0
  have hq' := hq
  rw [q_cell_obj ht h1] at hq'
  obtain ⟨r, r1, cell, q1, q2, q3, q4⟩ := hW.2.1 q0 _ hq'
  have hr : r = ((q_cl ci).1, (q_cl ci).2.1, (q_cl ci).2.2) := Option.some.inj (r1.symm.trans k1)
  subst hr
  obtain ⟨hSl, hfc, kC, hkC, hkind⟩ := hK.1 ci _ k1
  obtain ⟨cf, kf, fi, f, hi, hsl⟩ := hSl k h2
  have hlay := hts _ (k2 _ (u_in_lay h2))
  have hst := (u_facts hfc hkC (u_lays hts k2 h2) hi).1
  have hll : k < (q_fl (q_ref σ a) (h.1 a) (q_lay ci) 0).length := by rw [q_fl_len, k5]; exact h2
  have fin : ∀ (H' : Heap), H'[a]? = some (cell.setSlot f.slot v) → H'.size = H.size → (∀ q, q ≠ a → H'[q]? = H[q]?) → W p l e R s m args below meth c H' (locs ++ [⟨a, f.slot⟩]) cells slots Q (F0 m (pc + 3) ls rest) := by
    intro H' g1 g2 g3
    rw [hsl] at g1
    refine kk H' _ (q_wr hW h0 hq (hW.2.1.set (q_D hW _) hq (e := .inr (ci, (q_fl (q_ref σ a) (h.1 a) (q_lay ci) 0).set k v)) ⟨_, k1, t_OB.to (V := updV (vp_V (q_fl (q_ref σ a) (h.1 a) (q_lay ci) 0)) k v) ⟨_, g1, q2, q3, t_set q4 hap h2 v⟩ (fun j _ => vp_updV_set hll v j)⟩ g3) g2 e0 e1 e2 e3 e4 e5 ?_) (hS.put g2 g3 (hW.2.2.2.2 a h0).1)
    rw [q_cell_obj (by rw [e1]; exact ht) h1, he]
  rcases hfin with hfin | ⟨hfin, hini, hdecl⟩
  · unfold u_lay at hlay
    rw [if_neg (by rw [hfin]; decide)] at hlay
    have h6 := u_store hfc hkC hkind hlay hi (k3 k h2) hn hfit
    exact W.putK hexec hb (f := f) ⟨hown, hts _ h3, ⟨_, _, _, (by rw [h4] at hi; exact hi)⟩, hst⟩ (by rw [q2]; exact h6) q1 q3 (by rw [hsl]; exact k2_hasslot (q4 k h2)) rfl rfl hdg fin
  · unfold u_lay at hlay
    rw [if_pos hfin] at hlay
    have hcf : m.cls = cf := by
      obtain ⟨_, _, c', _, _, _, -, -, hf', -, -, -, hown2, -⟩ := Cond.laysFinal_spec hlay
      have e1 : c' = cf := by have := hi.symm.trans hf'; simp at this; exact this.1.symm
      rw [h4, hdecl] at hown2
      rw [← e1]; exact Option.some.inj (hown.symm.trans hown2)
    have h6 := u_fits hfc hkC hkind (Or.inr hlay) hi (k3 k h2) hn hfit
    exact W.putFinK hexec hb hown (hts _ h3) (by rw [h4] at hi; exact hi) hst hcf hini (by rw [q2]; exact h6) q1 q3 (by rw [hsl]; exact k2_hasslot (q4 k h2)) rfl rfl hdg fin
theorem q_nar {ci k : Nat} (h1 : ci < 6) (hl : (q_lay ci)[k]? = some false) {x : Int32} (hx : q_isb ci k = true → x = 0 ∨ x = 1) : narrow (q_ty ci k) (.int x) = .int x ∧ fits (q_ty ci k) (.int x) = true := by
  rcases q_intty ci h1 k (List.getElem?_eq_some_iff.mp hl).1 hl with ht | ht
  · rw [ht]; exact ⟨rfl, rfl⟩
  · rcases hx (by simp [q_isb, ht]) with rfl | rfl <;> rw [ht] <;> exact ⟨rfl, rfl⟩
theorem q_nrf {t : FieldType} (ht : q_isref t = true) (n : Nat) : narrow t (q_rv n) = q_rv n ∧ fits t (q_rv n) = true := by
  by_cases hn : n = 0
  · subst hn
    cases t <;> first | exact ⟨rfl, rfl⟩ | simp [q_isref] at ht
  · rw [q_rv_n hn]
    cases t <;> first | exact ⟨rfl, rfl⟩ | simp [q_isref] at ht
theorem x_puti (hexec : p.tables.exec = Jvm.exec) (hb : c.code = cc) (hts : ∀ w ∈ q_tbl, w.before args s = true) (hown : s.vm.findClass own = some m.cls) (hK : va_K D vwCl (q_tys cy) s) (hW : q_HW D cy b0 σ h H) (hS : va_S (fun q => b0 ≤ q) H0 H locs) {idx ci k : Nat} (hf : q_fok own (idx, ci, k)) (ht : q_tag σ a = ci + 1)
    (hfin : ((q_cl ci).2.1 k).2.2.2 = false ∨ (((q_cl ci).2.1 k).2.2.2 = true ∧ meth.name = "<init>" ∧ (q_cl ci).1 = own)) (hl : (q_lay ci)[k]? = some false) {x : Int32} (hx : q_isb ci k = true → x = 0 ∨ x = 1) (hdg : decode cc pc = .ok (.putfield idx, 3))
    (kk : ∀ (H1 : Heap) (locs1 : List Loc), q_HW D cy b0 σ (q_si h a k x) H1 → va_S (fun q => b0 ≤ q) H0 H1 locs1 → W p l e R s m args below meth c H1 locs1 cells slots Q (F0 m (pc + 3) ls rest)) : W p l e R s m args below meth c H locs cells slots Q (F0 m pc ls (.int x :: .ref a :: rest)) := by
  have hn := q_nar hf.1 hl hx
  refine x_putv (σ' := σ) (h' := q_si h a k x) hexec hb hts hown hK hW hS hf ht hfin hn.1 hn.2 hdg rfl rfl rfl (fun _ _ => rfl) (fun b hb => va_up_ne _ _ hb) (fun _ _ => rfl) ?_ kk
  have := q_fl_seti (q_ref σ a) (h.1 a) x (q_lay ci) 0 k hl
  rw [Nat.zero_add] at this
  rw [← this]
  simp [q_si, va_up_self]
theorem x_putr (hexec : p.tables.exec = Jvm.exec) (hb : c.code = cc) (hts : ∀ w ∈ q_tbl, w.before args s = true) (hown : s.vm.findClass own = some m.cls) (hK : va_K D vwCl (q_tys cy) s) (hW : q_HW D cy b0 σ h H) (hS : va_S (fun q => b0 ≤ q) H0 H locs) {idx ci k : Nat} (hf : q_fok own (idx, ci, k)) (ht : q_tag σ a = ci + 1)
    (hfin : ((q_cl ci).2.1 k).2.2.2 = false ∨ (((q_cl ci).2.1 k).2.2.2 = true ∧ meth.name = "<init>" ∧ (q_cl ci).1 = own)) (hl : (q_lay ci)[k]? = some true) {n : Nat} (hdg : decode cc pc = .ok (.putfield idx, 3))
    (kk : ∀ (H1 : Heap) (locs1 : List Loc), q_HW D cy b0 (q_sr σ a k n) h H1 → va_S (fun q => b0 ≤ q) H0 H1 locs1 → W p l e R s m args below meth c H1 locs1 cells slots Q (F0 m (pc + 3) ls rest)) : W p l e R s m args below meth c H locs cells slots Q (F0 m pc ls (q_rv n :: .ref a :: rest)) := by
  have hn := q_nrf (q_refty ci hf.1 k (List.getElem?_eq_some_iff.mp hl).1 hl) n
  refine x_putv (σ' := q_sr σ a k n) (h' := h) hexec hb hts hown hK hW hS hf ht hfin hn.1 hn.2 hdg rfl rfl rfl (fun b hb => va_up_ne _ _ hb) (fun _ _ => rfl) (fun _ _ => rfl) ?_ kk
  have := q_fl_setr (q_ref σ a) (h.1 a) n (q_lay ci) 0 k hl
  rw [Nat.zero_add] at this
  rw [← this]
  simp [q_sr, q_ref, va_up_self]
theorem x_aast (hexec : p.tables.exec = Jvm.exec) (hb : c.code = cc) (hK : va_K D vwCl (q_tys cy) s) (hW : q_HW D cy b0 σ h H) (hS : va_S (fun q => b0 ≤ q) H0 H locs) {v : Nat} (ht : (q_tag σ a = 9 ∧ q_tag σ v = 2) ∨ (q_tag σ a = 10 ∧ q_tag σ v = 4)) {i : Int32} (hin : vp_in i (q_len σ a)) (hdg : decode cc pc = .ok (.aastore, 1))
    (kk : ∀ (H1 : Heap) (locs1 : List Loc), q_HW D cy b0 (q_sr σ a i.toNatClampNeg v) h H1 → va_S (fun q => b0 ≤ q) H0 H1 locs1 → W p l e R s m args below meth c H1 locs1 cells slots Q (F0 m (pc + 1) ls rest)) : W p l e R s m args below meth c H locs cells slots Q (F0 m pc ls (.ref v :: .int i :: .ref a :: rest)) := by
  have hlt : i.toNatClampNeg < q_len σ a := Nat.not_le.mp fun q => hin (Or.inr q)
  have hi0 : ¬ i < 0 := fun q => hin (Or.inl q)
  obtain ⟨n, ci, t0, ht1, ht2, hci, hty, hcl⟩ : ∃ n ci t0, q_tag σ a = n + 9 ∧ q_tag σ v = ci + 1 ∧ ci < 6 ∧ (q_tys cy)[t0]? = some (cy (n + 2), FieldType.object (q_cl ci).1) ∧ vwCl[ci]? = some (q_cl ci) := by
    rcases ht with ⟨x, y⟩ | ⟨x, y⟩
    · exact ⟨0, 1, 2, x, y, by omega, rfl, rfl⟩
    · exact ⟨1, 3, 3, x, y, by omega, rfl, rfl⟩
  have h0 : q_tag σ a ≠ 0 := by rw [ht1]; omega
  have hv0 : q_tag σ v ≠ 0 := by rw [ht2]; omega
  obtain ⟨q0, hq⟩ := q_at hW h0
  obtain ⟨q1, hv⟩ := q_at hW hv0
  have hq' := hq
  rw [q_cell_refs ht1] at hq'
  rw [q_cell_obj ht2 hci] at hv
  obtain ⟨r', hr', cellV, g1, g2, g3, -⟩ := hW.2.1 q1 _ hv
  have hcls := (hK.1 ci _ hcl).2
  obtain ⟨kA, comp, k1, k2, k3, -⟩ := (hK.2 t0 _ hty).2
  have hcomp : comp = D.1 ci := Option.some.inj (k3.symm.trans hcls.1)
  subst hcomp
  obtain ⟨kC, hkC, -⟩ := hcls.2
  refine W.aast hexec hb (hW.2.1 q0 _ hq') (fun q h => by cases h) (fun h => by cases h) k1 k2 rfl hkC ⟨hi0, by show _ < (arrV _ _ _).slots.size; rw [arrV_size]; exact hlt⟩ g1 (fun q h => by rw [g3] at h; cases h) (by rw [g2]; exact hkC) (by rw [g2]; exact va_assign hcls) rfl rfl hdg fun H1 e z oq => ?_
  refine kk H1 _ (q_wr (σ' := q_sr σ a i.toNatClampNeg v) (h' := h) hW h0 hq (hW.2.1.set (q_D hW _) hq (e := .inl (cy (n + 2), q_len σ a, .inr (.inr (.inr (.inr (va_up (fun k => q_op (q_ref σ a k)) i.toNatClampNeg (some v))))))) ?_ oq) z rfl rfl rfl (fun b hb => va_up_ne _ _ hb) (fun _ _ => rfl) (fun _ _ => rfl) ?_) (hS.put z oq (hW.2.2.2.2 a h0).1)
  · show H1[a]? = some (vp_cell _ _)
    rw [e]
    rw [vp_cell_q, vp_cell_q, arrV_store]
    congr 2
    funext q
    by_cases hq : q = i.toNatClampNeg
    · subst hq
      simp [updV, va_up, va_rf]
    · simp [updV, va_up, hq]
  · rw [q_cell_refs (c := n) (show q_tag (q_sr σ a i.toNatClampNeg v) a = n + 9 from ht1)]
    have hvn : v ≠ 0 := q_nz hW hv0
    have : (fun k => q_op (q_ref (q_sr σ a i.toNatClampNeg v) a k)) = va_up (fun k => q_op (q_ref σ a k)) i.toNatClampNeg (some v) := by
      funext k
      by_cases hk : k = i.toNatClampNeg
      · simp [q_sr, q_ref, va_up, hk, q_op, hvn]
      · simp [q_sr, q_ref, va_up, hk]
    rw [this]
    rfl
end QP
end
section
/-! straight stretches of code, run by a function -/
/-- where a method stands: place, locals, stack, numbers of the memory -/
abbrev q_Cf : Type := Nat × List (Nat × Value) × List Value × q_Hp
def V (p : Program) (l : Launch) (e : Env) (R : Room) (s : State) (m : MethodId) (args : Array Value) (below : List Frame) (meth : Method) (c : Code) (Q : State → Prop) (D : va_G) (cy : Nat → Nat) (b0 nL mc ms kc ks : Nat) (σ : q_St) (h : q_Hp) (pc : Nat) (lv : List (Nat × Value)) (st : List Value) : Prop :=
  ∀ (H : Heap) (locs : List Loc) (cells slots : Nat) (ls : Array Slot), q_HW D cy b0 σ h H → va_S (fun q => b0 ≤ q) s.heap H locs → lv_has ls nL lv → cells + kc ≤ mc → slots + ks ≤ ms → W p l e R s m args below meth c H locs cells slots Q (F0 m pc ls st)
/-- the words of nest mates' calls -/
def q_NW (U : State) : Prop := ∀ (a : String) (i : Nat) (x : MethodName) (hh : String), Cond.methodLinkNest a i x hh ∈ lw_tbl → va_Nw (.methodLinkNest a i x hh) U
theorem q_NW.warm {s U : State} (hW : s.WarmedH U.vm) (h : q_NW s) : q_NW U := fun a i x hh hm => va_Nw.warmM hW (h a i x hh hm)
theorem q_NW.same {s U : State} (hv : s.vm = U.vm) (h : q_NW s) : q_NW U := fun a i x hh hm => va_Nw.same rfl hv (h a i x hh hm)
/-- what a method's walk rests on -/
def VC (p : Program) (R : Room) (s : State) (m : MethodId) (args : Array Value) (meth : Method) (c : Code) (D : va_G) (cy : Nat → Nat) (b0 nL mc ms : Nat) (own : String) (cc : ByteArray) : Prop :=
  p.tables.exec = Jvm.exec ∧ c.code = cc ∧ c.maxLocals = nL ∧ s.vm.findClass own = some m.cls ∧ (∀ w ∈ q_tbl, w.before args s = true) ∧ va_K D vwCl (q_tys cy) s ∧ mc ≤ R.cells ∧ ms ≤ R.slots ∧ b0 ≤ s.heap.size ∧ q_NW s
def q_lk {α : Type} : List (Nat × α) → Nat → Option α
  | [], _ => none
  | (j, v) :: t, i => bif Nat.beq j i then some v else q_lk t i
theorem q_lk_mem {α : Type} : ∀ {l : List (Nat × α)} {i : Nat} {v : α}, q_lk l i = some v → (i, v) ∈ l
  | [], _, _, h => by simp [q_lk] at h
  | (j, w) :: t, i, v, h => by
    unfold q_lk at h
    cases hb : Nat.beq j i with
    | true =>
      rw [hb] at h
      have hj : j = i := Nat.eq_of_beq_eq_true hb
      have hw : w = v := by simpa using h
      rw [hj, hw]
      exact List.mem_cons_self
    | false =>
      rw [hb] at h
      exact List.mem_cons_of_mem _ (q_lk_mem (by simpa using h))
/-- a method's tables: its code, its class's fields and constants -/
abbrev q_Cd : Type := List (Nat × Instr)
abbrev q_Tb : Type := List (Nat × Nat × Nat) × List (Nat × Int32) × List (Nat × Int64)
/-- how long an instruction is (switches apart) -/
def q_il : Instr → Nat
  | .iload _ | .lload _ | .aload _ | .istore _ | .lstore _ | .astore _ | .bipush _ | .ldc _ | .newarray _ => 2
  | .sipush _ | .ldc_w _ | .ldc2_w _ | .iinc _ _ | .goto _ | .getfield _ | .putfield _ | .ifCond _ _ | .if_icmp _ _ | .ifnull _ | .ifnonnull _ | .invokevirtual _ | .invokestatic _ | .invokespecial _ | .new _ | .anewarray _ => 3
  | _ => 1
def q_cok (cc : ByteArray) (cd : q_Cd) : Prop := ∀ x ∈ cd, decode cc x.1 = .ok (x.2, q_il x.2)
def q_tok (own : String) (T : q_Tb) : Prop := (∀ x ∈ T.1, q_fok own x) ∧ (∀ x ∈ T.2.1, Cond.constant own x.1 x.2 ∈ q_tbl) ∧ ∀ x ∈ T.2.2, Cond.constantLong own x.1 x.2 ∈ q_tbl
def q_set1 (n : Nat) (v : Value) (lv : List (Nat × Value)) : List (Nat × Value) := (n, v) :: lv.filter (fun q => !(q.1 == n) && !(q.1 + 1 == n && q.2.category == 2))
def q_set2 (n : Nat) (v : Value) (lv : List (Nat × Value)) : List (Nat × Value) := (n, v) :: lv.filter (fun q => !(q.1 == n) && (!(q.1 == n + 1) && !(q.1 + 1 == n && q.2.category == 2)))
abbrev q_Re : Type := Option (q_Cf × Option Prop)
def q_go (pc : Nat) (lv : List (Nat × Value)) (h : q_Hp) (st : List Value) : q_Re := some ((pc, lv, st, h), none)
def q_gd (pc : Nat) (lv : List (Nat × Value)) (h : q_Hp) (st : List Value) (g : Prop) : q_Re := some ((pc, lv, st, h), some g)
def q_bi (pc : Nat) (lv : List (Nat × Value)) (h : q_Hp) (st : List Value) (f : Int32 → Int32 → Int32) : q_Re := match st with
  | .int y :: .int x :: r => q_go pc lv h (.int (f x y) :: r)
  | _ => none
def q_bl (pc : Nat) (lv : List (Nat × Value)) (h : q_Hp) (st : List Value) (f : Int64 → Int64 → Int64) : q_Re := match st with
  | .long y :: .long x :: r => q_go pc lv h (.long (f x y) :: r)
  | _ => none
def q_ui (pc : Nat) (lv : List (Nat × Value)) (h : q_Hp) (st : List Value) (f : Int32 → Value) : q_Re := match st with
  | .int x :: r => q_go pc lv h (f x :: r)
  | _ => none
def q_ld (pc : Nat) (lv : List (Nat × Value)) (h : q_Hp) (st : List Value) (i : Nat) (t : Nat) : q_Re := match q_lk lv i, t with
  | some (.int x), 0 => q_go pc lv h (.int x :: st)
  | some (.long x), 1 => q_go pc lv h (.long x :: st)
  | some (.ref x), 2 => q_go pc lv h (.ref x :: st)
  | some .null, 2 => q_go pc lv h (.null :: st)
  | _, _ => none
def q_stt (nL pc : Nat) (lv : List (Nat × Value)) (h : q_Hp) (st : List Value) (i : Nat) (t : Nat) : q_Re := match st, t with
  | .int x :: r, 0 => bif Nat.blt i nL then q_go pc (q_set1 i (.int x) lv) h r else none
  | .long x :: r, 1 => bif Nat.blt (i + 1) nL then q_go pc (q_set2 i (.long x) lv) h r else none
  | .ref x :: r, 2 => bif Nat.blt i nL then q_go pc (q_set1 i (.ref x) lv) h r else none
  | .null :: r, 2 => bif Nat.blt i nL then q_go pc (q_set1 i .null lv) h r else none
  | _, _ => none
/-- a written number -/
def q_c : Int → Int32
  | .ofNat k => @OfNat.ofNat Int32 k _
  | .negSucc k => -(@OfNat.ofNat Int32 (k + 1) _)
theorem q_c_eq (n : Int) : Int32.ofInt n = q_c n := by
  cases n with
  | ofNat k => rfl
  | negSucc k =>
    show Int32.ofInt (-((k + 1 : Nat) : Int)) = -(Int32.ofNat (k + 1))
    rw [Int32.ofInt_neg]
    rfl
theorem q_c8 {n : Int} (h : (decide (-128 ≤ n) && decide (n < 128)) = true) : (Int8.ofInt n).toInt32 = q_c n := by
  simp only [Bool.and_eq_true, decide_eq_true_eq] at h
  rw [← q_c_eq]
  apply Int32.toInt_inj.mp
  rw [Int8.toInt_toInt32, Int8.toInt_ofInt, Int32.toInt_ofInt]
  rw [Int.bmod_eq_of_le (by simp; omega) (by simp; omega), Int.bmod_eq_of_le (by simp; omega) (by simp; omega)]
theorem q_c16 {n : Int} (h : (decide (-32768 ≤ n) && decide (n < 32768)) = true) : (Int16.ofInt n).toInt32 = q_c n := by
  simp only [Bool.and_eq_true, decide_eq_true_eq] at h
  rw [← q_c_eq]
  apply Int32.toInt_inj.mp
  rw [Int16.toInt_toInt32, Int16.toInt_ofInt, Int32.toInt_ofInt]
  rw [Int.bmod_eq_of_le (by simp; omega) (by simp; omega), Int.bmod_eq_of_le (by simp; omega) (by simp; omega)]
example : q_c 5 = (5 : Int32) := rfl
example : q_c (-1) = (-1 : Int32) := rfl
/-- one instruction of a straight stretch: where it leads, what it asks -/
def q_ex (nL : Nat) (T : q_Tb) (σ : q_St) (i : Instr) (pc : Nat) (lv : List (Nat × Value)) (st : List Value) (h : q_Hp) : q_Re := match i with
  | .iload_n k => q_ld (pc + 1) lv h st k 0
  | .iload k => q_ld (pc + 2) lv h st k 0
  | .lload_n k => q_ld (pc + 1) lv h st k 1
  | .lload k => q_ld (pc + 2) lv h st k 1
  | .aload_n k => q_ld (pc + 1) lv h st k 2
  | .aload k => q_ld (pc + 2) lv h st k 2
  | .istore_n k => q_stt nL (pc + 1) lv h st k 0
  | .istore k => q_stt nL (pc + 2) lv h st k 0
  | .lstore_n k => q_stt nL (pc + 1) lv h st k 1
  | .lstore k => q_stt nL (pc + 2) lv h st k 1
  | .astore_n k => q_stt nL (pc + 1) lv h st k 2
  | .astore k => q_stt nL (pc + 2) lv h st k 2
  | .iconst n => q_go (pc + 1) lv h (.int (q_c n) :: st)
  | .bipush n => bif decide (-128 ≤ n) && decide (n < 128) then q_go (pc + 2) lv h (.int (q_c n) :: st) else none
  | .sipush n => bif decide (-32768 ≤ n) && decide (n < 32768) then q_go (pc + 3) lv h (.int (q_c n) :: st) else none
  | .lconst n => q_go (pc + 1) lv h (.long (Int64.ofNat (n : Nat)) :: st)
  | .ldc x => match q_lk T.2.1 x with
    | some v => q_go (pc + 2) lv h (.int v :: st)
    | none => none
  | .ldc_w x => match q_lk T.2.1 x with
    | some v => q_go (pc + 3) lv h (.int v :: st)
    | none => none
  | .ldc2_w x => match q_lk T.2.2 x with
    | some v => q_go (pc + 3) lv h (.long v :: st)
    | none => none
  | .iadd => q_bi (pc + 1) lv h st (fun x y => x + y)
  | .isub => q_bi (pc + 1) lv h st (fun x y => x - y)
  | .imul => q_bi (pc + 1) lv h st (fun x y => x * y)
  | .iand => q_bi (pc + 1) lv h st (fun x y => x &&& y)
  | .ior => q_bi (pc + 1) lv h st (fun x y => x ||| y)
  | .ixor => q_bi (pc + 1) lv h st (fun x y => x ^^^ y)
  | .ishl => q_bi (pc + 1) lv h st (fun x y => x <<< (y &&& 31))
  | .ishr => q_bi (pc + 1) lv h st (fun x y => x >>> (y &&& 31))
  | .iushr => q_bi (pc + 1) lv h st (fun x y => (Int32.toUInt32 x >>> (Int32.toUInt32 y &&& Int32.toUInt32 31)).toInt32)
  | .ladd => q_bl (pc + 1) lv h st (fun x y => x + y)
  | .lsub => q_bl (pc + 1) lv h st (fun x y => x - y)
  | .lmul => q_bl (pc + 1) lv h st (fun x y => x * y)
  | .idiv => match st with
    | .int y :: .int x :: r => q_gd (pc + 1) lv h (.int (x / y) :: r) (¬ y = 0)
    | _ => none
  | .irem => match st with
    | .int y :: .int x :: r => q_gd (pc + 1) lv h (.int (x - x / y * y) :: r) (¬ y = 0)
    | _ => none
  | .ldiv => match st with
    | .long y :: .long x :: r => q_gd (pc + 1) lv h (.long (x / y) :: r) (¬ y = 0)
    | _ => none
  | .lrem => match st with
    | .long y :: .long x :: r => q_gd (pc + 1) lv h (.long (x - x / y * y) :: r) (¬ y = 0)
    | _ => none
  | .i2l => q_ui (pc + 1) lv h st (fun x => .long x.toInt64)
  | .i2b => q_ui (pc + 1) lv h st (fun x => .int x.toInt8.toInt32)
  | .i2s => q_ui (pc + 1) lv h st (fun x => .int x.toInt16.toInt32)
  | .l2i => match st with
    | .long x :: r => q_go (pc + 1) lv h (.int x.toInt32 :: r)
    | _ => none
  | .lcmp => match st with
    | .long y :: .long x :: r => q_go (pc + 1) lv h (.int (lg_cmp x y) :: r)
    | _ => none
  | .iinc k n => match q_lk lv k with
    | some (.int x) => bif Nat.blt k nL then q_go (pc + 3) (q_set1 k (.int (x + q_c n)) lv) h st else none
    | _ => none
  | .goto off => match (pc : Int) + off with
    | .ofNat t => q_go t lv h st
    | _ => none
  | .ifnull off => match st with
    | .ref _ :: r => q_go (pc + 3) lv h r
    | .null :: r => match (pc : Int) + off with
      | .ofNat t => q_go t lv h r
      | _ => none
    | _ => none
  | .ifnonnull off => match st with
    | .null :: r => q_go (pc + 3) lv h r
    | .ref _ :: r => match (pc : Int) + off with
      | .ofNat t => q_go t lv h r
      | _ => none
    | _ => none
  | .dup => match st with
    | .int x :: r => q_go (pc + 1) lv h (.int x :: .int x :: r)
    | .ref x :: r => q_go (pc + 1) lv h (.ref x :: .ref x :: r)
    | _ => none
  | .dup2 => match st with
    | .int y :: .int x :: r => q_go (pc + 1) lv h (.int y :: .int x :: .int y :: .int x :: r)
    | .int y :: .ref x :: r => q_go (pc + 1) lv h (.int y :: .ref x :: .int y :: .ref x :: r)
    | _ => none
  | .pop => match st with
    | .int _ :: r => q_go (pc + 1) lv h r
    | .ref _ :: r => q_go (pc + 1) lv h r
    | _ => none
  | .getfield x => match q_lk T.1 x, st with
    | some (ci, k), .ref a :: r => match (q_lay ci)[k]? with
      | some true => q_gd (pc + 3) lv h (.ref (q_ref σ a k) :: r) (q_tag σ a = ci + 1 ∧ q_tag σ (q_ref σ a k) ≠ 0)
      | some false => q_gd (pc + 3) lv h (.int (q_int h a k) :: r) (q_tag σ a = ci + 1)
      | none => none
    | _, _ => none
  | .putfield x => match q_lk T.1 x, st with
    | some (ci, k), .int v :: .ref a :: r => match (q_lay ci)[k]?, ((q_cl ci).2.1 k).2.2.2 with
      | some false, false => bif q_isb ci k then q_gd (pc + 3) lv (q_si h a k v) r (q_tag σ a = ci + 1 ∧ (v = 0 ∨ v = 1)) else q_gd (pc + 3) lv (q_si h a k v) r (q_tag σ a = ci + 1)
      | _, _ => none
    | _, _ => none
  | .iaload => match st with
    | .int i :: .ref a :: r => q_gd (pc + 1) lv h (.int (q_int h a i.toNatClampNeg) :: r) (q_tag σ a = 7 ∧ vp_in i (q_len σ a))
    | _ => none
  | .laload => match st with
    | .int i :: .ref a :: r => q_gd (pc + 1) lv h (.long (q_lng h a i.toNatClampNeg) :: r) (q_tag σ a = 8 ∧ vp_in i (q_len σ a))
    | _ => none
  | .iastore => match st with
    | .int x :: .int i :: .ref a :: r => q_gd (pc + 1) lv (q_si h a i.toNatClampNeg x) r (q_tag σ a = 7 ∧ vp_in i (q_len σ a))
    | _ => none
  | .lastore => match st with
    | .long x :: .int i :: .ref a :: r => q_gd (pc + 1) lv (q_sj h a i.toNatClampNeg x) r (q_tag σ a = 8 ∧ vp_in i (q_len σ a))
    | _ => none
  | .arraylength => match st with
    | .ref a :: r => q_gd (pc + 1) lv h (.int (Int32.ofNat (q_len σ a)) :: r) (q_tag σ a = 7 ∨ q_tag σ a = 8 ∨ q_tag σ a = 9 ∨ q_tag σ a = 10)
    | _ => none
  | _ => none
end
section
/-! the function tells the truth -/
theorem q_lk_has {ls : Array Slot} {nL : Nat} {lv : List (Nat × Value)} (h : lv_has ls nL lv) {i : Nat} {v : Value} (hk : q_lk lv i = some v) : ls[i]? = some (.val v) := h.2.2 _ (q_lk_mem hk)
theorem q_ld_inv {pc : Nat} {lv : List (Nat × Value)} {h : q_Hp} {st : List Value} {i t : Nat} {r : q_Cf} {g : Option Prop} (hx : q_ld pc lv h st i t = some (r, g)) : ∃ v, q_lk lv i = some v ∧ r = (pc, lv, v :: st, h) ∧ g = none ∧ ((t = 0 ∧ ∃ x, v = .int x) ∨ (t = 1 ∧ ∃ x, v = .long x) ∨ (t = 2 ∧ ((∃ x, v = .ref x) ∨ v = .null))) := by
  unfold q_ld at hx
  split at hx <;> simp only [q_go, Option.some.injEq, Prod.mk.injEq, reduceCtorEq] at hx
  · next x hk => exact ⟨_, hk, hx.1.symm, hx.2.symm, Or.inl ⟨rfl, x, rfl⟩⟩
  · next x hk => exact ⟨_, hk, hx.1.symm, hx.2.symm, Or.inr (Or.inl ⟨rfl, x, rfl⟩)⟩
  · next x hk => exact ⟨_, hk, hx.1.symm, hx.2.symm, Or.inr (Or.inr ⟨rfl, Or.inl ⟨x, rfl⟩⟩)⟩
  · next hk => exact ⟨_, hk, hx.1.symm, hx.2.symm, Or.inr (Or.inr ⟨rfl, Or.inr rfl⟩)⟩
theorem q_bif_some {α : Type} {b : Bool} {x : Option α} {r : α} (h : (bif b then x else none) = some r) : b = true ∧ x = some r := by
  cases b
  · cases h
  · exact ⟨rfl, h⟩
theorem q_stt_inv {nL pc : Nat} {lv : List (Nat × Value)} {h : q_Hp} {st : List Value} {i t : Nat} {r : q_Cf} {g : Option Prop} (hx : q_stt nL pc lv h st i t = some (r, g)) : ∃ v st', st = v :: st' ∧ g = none ∧ ((t = 0 ∧ (∃ x, v = .int x) ∧ i < nL ∧ r = (pc, q_set1 i v lv, st', h)) ∨ (t = 1 ∧ (∃ x, v = .long x) ∧ i + 1 < nL ∧ r = (pc, q_set2 i v lv, st', h)) ∨ (t = 2 ∧ ((∃ x, v = .ref x) ∨ v = .null) ∧ i < nL ∧ r = (pc, q_set1 i v lv, st', h))) := by
  unfold q_stt at hx
  split at hx
  · obtain ⟨hb, hx⟩ := q_bif_some hx
    simp only [q_go, Option.some.injEq, Prod.mk.injEq] at hx
    exact ⟨_, _, rfl, hx.2.symm, Or.inl ⟨rfl, ⟨_, rfl⟩, Nat.blt_eq.mp hb, hx.1.symm⟩⟩
  · obtain ⟨hb, hx⟩ := q_bif_some hx
    simp only [q_go, Option.some.injEq, Prod.mk.injEq] at hx
    exact ⟨_, _, rfl, hx.2.symm, Or.inr (Or.inl ⟨rfl, ⟨_, rfl⟩, Nat.blt_eq.mp hb, hx.1.symm⟩)⟩
  · obtain ⟨hb, hx⟩ := q_bif_some hx
    simp only [q_go, Option.some.injEq, Prod.mk.injEq] at hx
    exact ⟨_, _, rfl, hx.2.symm, Or.inr (Or.inr ⟨rfl, Or.inl ⟨_, rfl⟩, Nat.blt_eq.mp hb, hx.1.symm⟩)⟩
  · obtain ⟨hb, hx⟩ := q_bif_some hx
    simp only [q_go, Option.some.injEq, Prod.mk.injEq] at hx
    exact ⟨_, _, rfl, hx.2.symm, Or.inr (Or.inr ⟨rfl, Or.inr rfl, Nat.blt_eq.mp hb, hx.1.symm⟩)⟩
  · cases hx
theorem q_bi_inv {pc : Nat} {lv : List (Nat × Value)} {h : q_Hp} {st : List Value} {f : Int32 → Int32 → Int32} {r : q_Cf} {g : Option Prop} (hx : q_bi pc lv h st f = some (r, g)) : ∃ y x st', st = .int y :: .int x :: st' ∧ r = (pc, lv, .int (f x y) :: st', h) ∧ g = none := by
  unfold q_bi at hx
  split at hx
  · simp only [q_go, Option.some.injEq, Prod.mk.injEq] at hx
    exact ⟨_, _, _, rfl, hx.1.symm, hx.2.symm⟩
  · cases hx
theorem q_bl_inv {pc : Nat} {lv : List (Nat × Value)} {h : q_Hp} {st : List Value} {f : Int64 → Int64 → Int64} {r : q_Cf} {g : Option Prop} (hx : q_bl pc lv h st f = some (r, g)) : ∃ y x st', st = .long y :: .long x :: st' ∧ r = (pc, lv, .long (f x y) :: st', h) ∧ g = none := by
  unfold q_bl at hx
  split at hx
  · simp only [q_go, Option.some.injEq, Prod.mk.injEq] at hx
    exact ⟨_, _, _, rfl, hx.1.symm, hx.2.symm⟩
  · cases hx
theorem q_ui_inv {pc : Nat} {lv : List (Nat × Value)} {h : q_Hp} {st : List Value} {f : Int32 → Value} {r : q_Cf} {g : Option Prop} (hx : q_ui pc lv h st f = some (r, g)) : ∃ x st', st = .int x :: st' ∧ r = (pc, lv, f x :: st', h) ∧ g = none := by
  unfold q_ui at hx
  split at hx
  · simp only [q_go, Option.some.injEq, Prod.mk.injEq] at hx
    exact ⟨_, _, rfl, hx.1.symm, hx.2.symm⟩
  · cases hx
theorem q_go_inv {pc : Nat} {lv : List (Nat × Value)} {h : q_Hp} {st : List Value} {r : q_Cf} {g : Option Prop} (hx : q_go pc lv h st = some (r, g)) : r = (pc, lv, st, h) ∧ g = none := by
  simp only [q_go, Option.some.injEq, Prod.mk.injEq] at hx
  exact ⟨hx.1.symm, hx.2.symm⟩
theorem q_gd_inv {pc : Nat} {lv : List (Nat × Value)} {h : q_Hp} {st : List Value} {r : q_Cf} {G : Prop} {g : Option Prop} (hx : q_gd pc lv h st G = some (r, g)) : r = (pc, lv, st, h) ∧ g = some G := by
  simp only [q_gd, Option.some.injEq, Prod.mk.injEq] at hx
  exact ⟨hx.1.symm, hx.2.symm⟩
section QX
variable {p : Program} {l : Launch} {e : Env} {R : Room} {s : State} {m : MethodId} {args : Array Value} {below : List Frame} {meth : Method} {c : Code} {Q : State → Prop} {D : va_G} {cy : Nat → Nat} {b0 nL mc ms kc ks : Nat} {σ : q_St} {h : q_Hp} {pc : Nat} {lv : List (Nat × Value)} {st : List Value} {own : String} {cc : ByteArray} {T : q_Tb}
def q_hold (g : Option Prop) : Prop := match g with
  | none => True
  | some G => G
theorem v_ex (C0 : VC p R s m args meth c D cy b0 nL mc ms own cc) (hT : q_tok own T) {i : Instr} (hd : decode cc pc = .ok (i, q_il i)) {r : q_Cf} {g : Option Prop} (hx : q_ex nL T σ i pc lv st h = some (r, g)) (hg : q_hold g)
    (kk : V p l e R s m args below meth c Q D cy b0 nL mc ms kc ks σ r.2.2.2 r.1 r.2.1 r.2.2.1) : V p l e R s m args below meth c Q D cy b0 nL mc ms kc ks σ h pc lv st := by
  obtain ⟨c1, c2, c3, c4, c5, c6, c7, c8, c9, c10⟩ := C0
  intro H locs cells slots ls hW hS hl h1 h2
  unfold q_ex at hx
  split at hx
  · obtain ⟨v, hk, rfl, rfl, ⟨-, x, rfl⟩ | ⟨h0, -⟩ | ⟨h0, -⟩⟩ := q_ld_inv hx
    · exact lv_iload_n c1 c2 hd rfl (q_lk_has hl hk) (kk H locs cells slots ls hW hS hl h1 h2)
    · exact absurd h0 (by decide)
    · exact absurd h0 (by decide)
  · obtain ⟨v, hk, rfl, rfl, ⟨-, x, rfl⟩ | ⟨h0, -⟩ | ⟨h0, -⟩⟩ := q_ld_inv hx
    · exact lv_iload c1 c2 hd (q_lk_has hl hk) (kk H locs cells slots ls hW hS hl h1 h2)
    · exact absurd h0 (by decide)
    · exact absurd h0 (by decide)
  · obtain ⟨v, hk, rfl, rfl, ⟨h0, -⟩ | ⟨-, x, rfl⟩ | ⟨h0, -⟩⟩ := q_ld_inv hx
    · exact absurd h0 (by decide)
    · exact lv_lload_n c1 c2 hd rfl (q_lk_has hl hk) (kk H locs cells slots ls hW hS hl h1 h2)
    · exact absurd h0 (by decide)
  · obtain ⟨v, hk, rfl, rfl, ⟨h0, -⟩ | ⟨-, x, rfl⟩ | ⟨h0, -⟩⟩ := q_ld_inv hx
    · exact absurd h0 (by decide)
    · exact lv_lload c1 c2 hd (q_lk_has hl hk) (kk H locs cells slots ls hW hS hl h1 h2)
    · exact absurd h0 (by decide)
  · obtain ⟨v, hk, rfl, rfl, ⟨h0, -⟩ | ⟨h0, -⟩ | ⟨-, ⟨x, rfl⟩ | rfl⟩⟩ := q_ld_inv hx
    · exact absurd h0 (by decide)
    · exact absurd h0 (by decide)
    · exact lv_aload_n c1 c2 hd rfl (q_lk_has hl hk) (kk H locs cells slots ls hW hS hl h1 h2)
    · exact lv_aload_nN c1 c2 hd rfl (q_lk_has hl hk) (kk H locs cells slots ls hW hS hl h1 h2)
  · obtain ⟨v, hk, rfl, rfl, ⟨h0, -⟩ | ⟨h0, -⟩ | ⟨-, ⟨x, rfl⟩ | rfl⟩⟩ := q_ld_inv hx
    · exact absurd h0 (by decide)
    · exact absurd h0 (by decide)
    · exact lv_aload c1 c2 hd (q_lk_has hl hk) (kk H locs cells slots ls hW hS hl h1 h2)
    · exact lv_aloadN c1 c2 hd (q_lk_has hl hk) (kk H locs cells slots ls hW hS hl h1 h2)
  · obtain ⟨v, st', rfl, rfl, ⟨-, ⟨x, rfl⟩, hn, rfl⟩ | ⟨h0, -⟩ | ⟨h0, -⟩⟩ := q_stt_inv hx
    · exact lv_istore_n c1 c2 hd rfl hl hn rfl (fun ls' hl' => kk H locs cells slots ls' hW hS hl' h1 h2)
    · exact absurd h0 (by decide)
    · exact absurd h0 (by decide)
  · obtain ⟨v, st', rfl, rfl, ⟨-, ⟨x, rfl⟩, hn, rfl⟩ | ⟨h0, -⟩ | ⟨h0, -⟩⟩ := q_stt_inv hx
    · exact lv_istore c1 c2 hd hl hn rfl (fun ls' hl' => kk H locs cells slots ls' hW hS hl' h1 h2)
    · exact absurd h0 (by decide)
    · exact absurd h0 (by decide)
  · obtain ⟨v, st', rfl, rfl, ⟨h0, -⟩ | ⟨-, ⟨x, rfl⟩, hn, rfl⟩ | ⟨h0, -⟩⟩ := q_stt_inv hx
    · exact absurd h0 (by decide)
    · exact lv_lstore_n c1 c2 hd rfl hl hn rfl (fun ls' hl' => kk H locs cells slots ls' hW hS hl' h1 h2)
    · exact absurd h0 (by decide)
  · obtain ⟨v, st', rfl, rfl, ⟨h0, -⟩ | ⟨-, ⟨x, rfl⟩, hn, rfl⟩ | ⟨h0, -⟩⟩ := q_stt_inv hx
    · exact absurd h0 (by decide)
    · exact lv_lstore c1 c2 hd hl hn rfl (fun ls' hl' => kk H locs cells slots ls' hW hS hl' h1 h2)
    · exact absurd h0 (by decide)
  · obtain ⟨v, st', rfl, rfl, ⟨h0, -⟩ | ⟨h0, -⟩ | ⟨-, ⟨x, rfl⟩ | rfl, hn, rfl⟩⟩ := q_stt_inv hx
    · exact absurd h0 (by decide)
    · exact absurd h0 (by decide)
    · exact lv_astore_n c1 c2 hd rfl hl hn rfl (fun ls' hl' => kk H locs cells slots ls' hW hS hl' h1 h2)
    · exact lv_astore_nN c1 c2 hd rfl hl hn rfl (fun ls' hl' => kk H locs cells slots ls' hW hS hl' h1 h2)
  · obtain ⟨v, st', rfl, rfl, ⟨h0, -⟩ | ⟨h0, -⟩ | ⟨-, ⟨x, rfl⟩ | rfl, hn, rfl⟩⟩ := q_stt_inv hx
    · exact absurd h0 (by decide)
    · exact absurd h0 (by decide)
    · exact lv_astore c1 c2 hd hl hn rfl (fun ls' hl' => kk H locs cells slots ls' hW hS hl' h1 h2)
    · exact lv_astoreN c1 c2 hd hl hn rfl (fun ls' hl' => kk H locs cells slots ls' hW hS hl' h1 h2)
  · obtain ⟨rfl, rfl⟩ := q_go_inv hx
    exact lv_iconst c1 c2 hd (q_c_eq _) (kk H locs cells slots ls hW hS hl h1 h2)
  · obtain ⟨hb, hx⟩ := q_bif_some hx
    obtain ⟨rfl, rfl⟩ := q_go_inv hx
    exact lv_bipush c1 c2 hd (q_c8 hb) (kk H locs cells slots ls hW hS hl h1 h2)
  · obtain ⟨hb, hx⟩ := q_bif_some hx
    obtain ⟨rfl, rfl⟩ := q_go_inv hx
    exact lv_sipush c1 c2 hd (q_c16 hb) (kk H locs cells slots ls hW hS hl h1 h2)
  · obtain ⟨rfl, rfl⟩ := q_go_inv hx
    exact lv_lconst c1 c2 hd rfl (kk H locs cells slots ls hW hS hl h1 h2)
  · split at hx
    · next v hv =>
      obtain ⟨rfl, rfl⟩ := q_go_inv hx
      exact lv_ldc c1 c2 c4 (c5 _ (hT.2.1 _ (q_lk_mem hv))) hd (kk H locs cells slots ls hW hS hl h1 h2)
    · cases hx
  · split at hx
    · next v hv =>
      obtain ⟨rfl, rfl⟩ := q_go_inv hx
      exact lv_ldcw c1 c2 c4 (c5 _ (hT.2.1 _ (q_lk_mem hv))) hd (kk H locs cells slots ls hW hS hl h1 h2)
    · cases hx
  · split at hx
    · next v hv =>
      obtain ⟨rfl, rfl⟩ := q_go_inv hx
      exact lv_ldc2 c1 c2 c4 (c5 _ (hT.2.2 _ (q_lk_mem hv))) hd (kk H locs cells slots ls hW hS hl h1 h2)
    · cases hx
  · obtain ⟨y, x, st', rfl, rfl, rfl⟩ := q_bi_inv hx
    exact lv_iadd c1 c2 hd (kk H locs cells slots ls hW hS hl h1 h2)
  · obtain ⟨y, x, st', rfl, rfl, rfl⟩ := q_bi_inv hx
    exact lv_isub c1 c2 hd (kk H locs cells slots ls hW hS hl h1 h2)
  · obtain ⟨y, x, st', rfl, rfl, rfl⟩ := q_bi_inv hx
    exact lv_imul c1 c2 hd (kk H locs cells slots ls hW hS hl h1 h2)
  · obtain ⟨y, x, st', rfl, rfl, rfl⟩ := q_bi_inv hx
    exact lv_iand c1 c2 hd (kk H locs cells slots ls hW hS hl h1 h2)
  · obtain ⟨y, x, st', rfl, rfl, rfl⟩ := q_bi_inv hx
    exact lv_ior c1 c2 hd (kk H locs cells slots ls hW hS hl h1 h2)
  · obtain ⟨y, x, st', rfl, rfl, rfl⟩ := q_bi_inv hx
    exact lv_ixor c1 c2 hd (kk H locs cells slots ls hW hS hl h1 h2)
  · obtain ⟨y, x, st', rfl, rfl, rfl⟩ := q_bi_inv hx
    exact lv_ishl c1 c2 hd (kk H locs cells slots ls hW hS hl h1 h2)
  · obtain ⟨y, x, st', rfl, rfl, rfl⟩ := q_bi_inv hx
    exact lv_ishr c1 c2 hd (kk H locs cells slots ls hW hS hl h1 h2)
  · obtain ⟨y, x, st', rfl, rfl, rfl⟩ := q_bi_inv hx
    exact lv_iushr c1 c2 hd rfl (kk H locs cells slots ls hW hS hl h1 h2)
  · obtain ⟨y, x, st', rfl, rfl, rfl⟩ := q_bl_inv hx
    exact lv_ladd c1 c2 hd (kk H locs cells slots ls hW hS hl h1 h2)
  · obtain ⟨y, x, st', rfl, rfl, rfl⟩ := q_bl_inv hx
    exact lv_lsub c1 c2 hd (kk H locs cells slots ls hW hS hl h1 h2)
  · obtain ⟨y, x, st', rfl, rfl, rfl⟩ := q_bl_inv hx
    exact lv_lmul c1 c2 hd (kk H locs cells slots ls hW hS hl h1 h2)
  · split at hx
    · obtain ⟨rfl, rfl⟩ := q_gd_inv hx
      exact lv_idiv c1 c2 hd hg (kk H locs cells slots ls hW hS hl h1 h2)
    · cases hx
  · split at hx
    · obtain ⟨rfl, rfl⟩ := q_gd_inv hx
      exact lv_irem c1 c2 hd hg (kk H locs cells slots ls hW hS hl h1 h2)
    · cases hx
  · split at hx
    · obtain ⟨rfl, rfl⟩ := q_gd_inv hx
      exact lv_ldiv c1 c2 hd hg (kk H locs cells slots ls hW hS hl h1 h2)
    · cases hx
  · split at hx
    · obtain ⟨rfl, rfl⟩ := q_gd_inv hx
      exact lv_lrem c1 c2 hd hg (kk H locs cells slots ls hW hS hl h1 h2)
    · cases hx
  · obtain ⟨x, st', rfl, rfl, rfl⟩ := q_ui_inv hx
    exact lv_i2l c1 c2 hd rfl (kk H locs cells slots ls hW hS hl h1 h2)
  · obtain ⟨x, st', rfl, rfl, rfl⟩ := q_ui_inv hx
    exact lv_i2b c1 c2 hd rfl (kk H locs cells slots ls hW hS hl h1 h2)
  · obtain ⟨x, st', rfl, rfl, rfl⟩ := q_ui_inv hx
    exact lv_i2s c1 c2 hd rfl (kk H locs cells slots ls hW hS hl h1 h2)
  · split at hx
    · obtain ⟨rfl, rfl⟩ := q_go_inv hx
      exact lv_l2i c1 c2 hd rfl (kk H locs cells slots ls hW hS hl h1 h2)
    · cases hx
  · split at hx
    · obtain ⟨rfl, rfl⟩ := q_go_inv hx
      exact W.lcmp c1 c2 hd (kk H locs cells slots ls hW hS hl h1 h2)
    · cases hx
  · split at hx
    · next x hk =>
      obtain ⟨hb, hx⟩ := q_bif_some hx
      obtain ⟨rfl, rfl⟩ := q_go_inv hx
      obtain ⟨k0, hk0⟩ := List.getElem?_of_mem (q_lk_mem hk)
      exact lv_iinc c1 c2 hd hl hk0 (by rw [q_c_eq]) (Nat.blt_eq.mp hb) rfl (fun ls' hl' => kk H locs cells slots ls' hW hS hl' h1 h2)
    · cases hx
  · split at hx
    · next t ht =>
      obtain ⟨rfl, rfl⟩ := q_go_inv hx
      exact lv_goto c1 c2 hd ht (kk H locs cells slots ls hW hS hl h1 h2)
    · cases hx
  · split at hx
    · obtain ⟨rfl, rfl⟩ := q_go_inv hx
      exact lv_ifnull c1 c2 hd (kk H locs cells slots ls hW hS hl h1 h2)
    · split at hx
      · next t ht =>
        obtain ⟨rfl, rfl⟩ := q_go_inv hx
        exact lv_ifnullN c1 c2 hd ht (kk H locs cells slots ls hW hS hl h1 h2)
      · cases hx
    · cases hx
  · split at hx
    · obtain ⟨rfl, rfl⟩ := q_go_inv hx
      exact lv_ifnonnullN c1 c2 hd (kk H locs cells slots ls hW hS hl h1 h2)
    · split at hx
      · next t ht =>
        obtain ⟨rfl, rfl⟩ := q_go_inv hx
        exact lv_ifnonnull c1 c2 hd ht (kk H locs cells slots ls hW hS hl h1 h2)
      · cases hx
    · cases hx
  · split at hx
    · obtain ⟨rfl, rfl⟩ := q_go_inv hx
      exact lv_dup c1 c2 hd rfl (kk H locs cells slots ls hW hS hl h1 h2)
    · obtain ⟨rfl, rfl⟩ := q_go_inv hx
      exact lv_dup c1 c2 hd rfl (kk H locs cells slots ls hW hS hl h1 h2)
    · cases hx
  · split at hx
    · obtain ⟨rfl, rfl⟩ := q_go_inv hx
      exact lv_dup2_11 c1 c2 hd rfl rfl (kk H locs cells slots ls hW hS hl h1 h2)
    · obtain ⟨rfl, rfl⟩ := q_go_inv hx
      exact lv_dup2_11 c1 c2 hd rfl rfl (kk H locs cells slots ls hW hS hl h1 h2)
    · cases hx
  · split at hx
    · obtain ⟨rfl, rfl⟩ := q_go_inv hx
      exact lv_pop c1 c2 hd rfl (kk H locs cells slots ls hW hS hl h1 h2)
    · obtain ⟨rfl, rfl⟩ := q_go_inv hx
      exact lv_pop c1 c2 hd rfl (kk H locs cells slots ls hW hS hl h1 h2)
    · cases hx
  · split at hx
    · next hk =>
      split at hx
      · next hy =>
        obtain ⟨rfl, rfl⟩ := q_gd_inv hx
        obtain ⟨g1, g2⟩ := hg
        refine x_getf c1 c2 c5 c4 c6 hW (hT.1 _ (q_lk_mem hk)) g1 hy hd ?_
        rw [if_pos rfl, q_rv_n (q_nz hW g2)]
        exact kk H locs cells slots ls hW hS hl h1 h2
      · next hy =>
        obtain ⟨rfl, rfl⟩ := q_gd_inv hx
        exact x_getf c1 c2 c5 c4 c6 hW (hT.1 _ (q_lk_mem hk)) hg hy hd (kk H locs cells slots ls hW hS hl h1 h2)
      · cases hx
    · cases hx
  · split at hx
    · next ci k v a r' hk =>
      split at hx
      · next hy hfin =>
        by_cases hq : q_isb ci k = true
        · rw [hq] at hx
          obtain ⟨rfl, rfl⟩ := q_gd_inv hx
          obtain ⟨g1, g2⟩ := hg
          exact x_puti c1 c2 c5 c4 c6 hW hS (hT.1 _ (q_lk_mem hk)) g1 (Or.inl hfin) hy (fun _ => g2) hd (fun H1 locs1 w1 w2 => kk H1 locs1 cells slots ls w1 w2 hl h1 h2)
        · have hq' : q_isb ci k = false := by simpa using hq
          rw [hq'] at hx
          obtain ⟨rfl, rfl⟩ := q_gd_inv hx
          exact x_puti c1 c2 c5 c4 c6 hW hS (hT.1 _ (q_lk_mem hk)) hg (Or.inl hfin) hy (fun z => absurd z hq) hd (fun H1 locs1 w1 w2 => kk H1 locs1 cells slots ls w1 w2 hl h1 h2)
      · cases hx
    · cases hx
  · split at hx
    · obtain ⟨rfl, rfl⟩ := q_gd_inv hx
      exact x_iald c1 c2 c6 hW hg.1 hg.2 hd (kk H locs cells slots ls hW hS hl h1 h2)
    · cases hx
  · split at hx
    · obtain ⟨rfl, rfl⟩ := q_gd_inv hx
      exact x_lald c1 c2 c6 hW hg.1 hg.2 hd (kk H locs cells slots ls hW hS hl h1 h2)
    · cases hx
  · split at hx
    · obtain ⟨rfl, rfl⟩ := q_gd_inv hx
      exact x_iast c1 c2 c6 hW hS hg.1 hg.2 hd (fun H1 locs1 w1 w2 => kk H1 locs1 cells slots ls w1 w2 hl h1 h2)
    · cases hx
  · split at hx
    · obtain ⟨rfl, rfl⟩ := q_gd_inv hx
      exact x_last c1 c2 c6 hW hS hg.1 hg.2 hd (fun H1 locs1 w1 w2 => kk H1 locs1 cells slots ls w1 w2 hl h1 h2)
    · cases hx
  · split at hx
    · obtain ⟨rfl, rfl⟩ := q_gd_inv hx
      exact x_alen c1 c2 c6 hW hg hd (kk H locs cells slots ls hW hS hl h1 h2)
    · cases hx
  · cases hx
/-- n instructions of a straight stretch: where they lead, and all that they ask -/
def q_run (nL : Nat) (T : q_Tb) (cd : q_Cd) (σ : q_St) : Nat → Nat → List (Nat × Value) → List Value → q_Hp → Option (q_Cf × Prop)
  | 0, pc, lv, st, h => some ((pc, lv, st, h), True)
  | n + 1, pc, lv, st, h => match q_lk cd pc with
    | some i => match q_ex nL T σ i pc lv st h with
      | some (r, none) => q_run nL T cd σ n r.1 r.2.1 r.2.2.1 r.2.2.2
      | some (r, some g) => match q_run nL T cd σ n r.1 r.2.1 r.2.2.1 r.2.2.2 with
        | some (z, G) => some (z, g ∧ G)
        | none => none
      | none => none
    | none => none
theorem v_run (C0 : VC p R s m args meth c D cy b0 nL mc ms own cc) (hT : q_tok own T) {cd : q_Cd} (hc : q_cok cc cd) {pc' : Nat} {lv' : List (Nat × Value)} {st' : List Value} {h' : q_Hp} : ∀ (n : Nat) {pc : Nat} {lv : List (Nat × Value)} {st : List Value} {h : q_Hp} {G : Prop}, q_run nL T cd σ n pc lv st h = some ((pc', lv', st', h'), G) → G → V p l e R s m args below meth c Q D cy b0 nL mc ms kc ks σ h' pc' lv' st' → V p l e R s m args below meth c Q D cy b0 nL mc ms kc ks σ h pc lv st
  | 0, pc, lv, st, h, G, hx, hg, kk => by
    simp only [q_run, Option.some.injEq, Prod.mk.injEq] at hx
    obtain ⟨⟨rfl, rfl, rfl, rfl⟩, -⟩ := hx
    exact kk
  | n + 1, pc, lv, st, h, G, hx, hg, kk => by
    unfold q_run at hx
    split at hx
    · next i hi =>
      have hd := hc _ (q_lk_mem hi)
      split at hx
      · next r hr => exact v_ex C0 hT hd hr trivial (v_run C0 hT hc n hx hg kk)
      · next r g hr =>
        split at hx
        · next z G1 hz =>
          simp only [Option.some.injEq, Prod.mk.injEq] at hx
          obtain ⟨rfl, rfl⟩ := hx
          exact v_ex C0 hT hd hr hg.1 (v_run C0 hT hc n hz hg.2 kk)
        · cases hx
      · cases hx
    · cases hx
end QX
end
section
/-! contracts, calls, branches, ends -/
noncomputable def q_gu {α : Type} (G : Prop) (X : Option α) : Option α := @ite _ G (Classical.propDecidable G) X none
theorem q_gu_t {α : Type} {G : Prop} {X : Option α} (h : G) : q_gu G X = X := if_pos h
theorem q_gu_o {α : Type} {G : Prop} {X : Option α} {o : α} (h : q_gu G X = some o) : G ∧ X = some o := by
  unfold q_gu at h
  split at h
  · next g => exact ⟨g, h⟩
  · cases h
theorem q_bd {α β : Type} {x : Option α} {f : α → Option β} {o : β} (h : x.bind f = some o) : ∃ r, x = some r ∧ f r = some o := by
  cases x with
  | none => cases h
  | some r => exact ⟨r, rfl, h⟩
def q_Pc (D : va_G) (cy : Nat → Nat) (b0 : Nat) (σ : q_St) (h : q_Hp) (as : List Value) : Array Value → State → Prop := va_Pc as (fun U => q_HW D cy b0 σ h U.heap ∧ va_K D vwCl (q_tys cy) U ∧ q_NW U)
def q_Qc (D : va_G) (cy : Nat → Nat) (b0 : Nat) (r : Option Value) (σ : q_St) (h : q_Hp) : Array Value → State → Outcome → State → Prop := fun _ st o t => o = .returned r ∧ q_HW D cy b0 σ h t.heap ∧ va_F (fun q => b0 ≤ q) st t
/-- a method's contract: from the memory (σ, h), with the arguments as, it answers r and leaves (σ', h') -/
def q_M (l : Launch) (y : MethodName) (bytes : ByteArray) (maxL : Nat) (ret : Option FieldType) (fr lo mc ms : Nat) (D : va_G) (cy : Nat → Nat) (b0 : Nat) (σ : q_St) (h : q_Hp) (as : List Value) (r : Option Value) (σ' : q_St) (h' : q_Hp) : Prop :=
  Met l y (Cond.code y bytes maxL ret :: q_tbl) { frames := fr, cells := mc, slots := ms, locals := lo } (q_Pc D cy b0 σ h as) (q_Qc D cy b0 r σ' h') mc ms (fun q => b0 ≤ q)
theorem q_blind (D : va_G) (cy : Nat → Nat) (b0 : Nat) (σ : q_St) (h : q_Hp) (as : List Value) : FrameBlind (q_Pc D cy b0 σ h as) := fun a U g mk q => by
  obtain ⟨q0, q1, q2, q3⟩ := q
  exact ⟨q0, q1, va_K.moved (u := U) (U := U.calling g mk a) (Vm.Alike.refl U.vm) q2, q3.same rfl⟩
theorem q_good {ws : List Cond} (h : ∀ w ∈ ws, w ∈ q_tbl) : GoodIn q_tbl ws := fun w hw => ⟨h w hw, good_of_word (List.all_eq_true.mp q_tbl_good w (h w hw))⟩
theorem q_enter {l : Launch} {y : MethodName} {bytes : ByteArray} {maxL : Nat} {ret : Option FieldType} {fr lo mc ms : Nat} {D : va_G} {cy : Nat → Nat} {b0 : Nat} {σ : q_St} {h : q_Hp} {as : List Value} {r : Option Value} {σ' : q_St} {h' : q_Hp} (hy : plainName y.cls = true) (hlen : (lg_sl as).length ≤ maxL)
    (body : ∀ (p : Program) (e : Env) (s : State) (m : MethodId) (args : Array Value) (below : List Frame) (meth : Method) (c : Code), VC p { frames := fr, cells := mc, slots := ms, locals := lo } s m args meth c D cy b0 maxL mc ms y.cls bytes → meth.sig.returnType = ret → meth.locks = false → meth.name = y.name →
      V p l e { frames := fr, cells := mc, slots := ms, locals := lo } s m args below meth c (MQ below (q_Qc D cy b0 r σ' h') args s mc ms (fun q => b0 ≤ q)) D cy b0 maxL mc ms mc ms σ h 0 (lv_args 0 as) []) : q_M l y bytes maxL ret fr lo mc ms D cy b0 σ h as r σ' h' := by
  refine Met.ofW (cc := bytes) (maxL := maxL) (ret := ret) hy rfl ?_
  intro p e s m args below meth c s₁ B hml hv
  obtain ⟨rfl, hW, hK, hN⟩ := hv
  have hts := atoms_spec (ws := Cond.code y bytes maxL ret :: q_tbl) B.pre
  have hb0 : b0 ≤ s.heap.size := by rw [hW.1]; exact hW.2.2.2.1
  rw [lg_entry_eq]
  exact body p e s m _ below meth c ⟨B.exec, B.bytes, hml, findClass_of_methodNamed B.named, fun w hw => hts w (List.mem_cons_of_mem _ hw), hK, Nat.le_refl _, Nat.le_refl _, hb0, hN⟩ B.returns B.notSynchronized (name_of_methodNamed B.named B.method).1 s.heap [] 0 0 _ hW va_S.rf (lv_entry as hlen) (by omega) (by omega)
/-- what the tables say of a callee -/
def q_cal (y : MethodName) (bytes : ByteArray) (maxL : Nat) (ret : Option FieldType) : Prop := Cond.initialized y.cls ∈ q_tbl ∧ Cond.code y bytes maxL ret ∈ q_tbl ∧ y.cls ≠ "java/lang/invoke/MethodHandle" ∧ y.cls ≠ "java/lang/invoke/VarHandle"
theorem q_dec {cc : ByteArray} {cd : q_Cd} (hc : q_cok cc cd) {pc : Nat} {i : Instr} (hi : q_lk cd pc = some i) : decode cc pc = .ok (i, q_il i) := hc (pc, i) (q_lk_mem hi)
section QR
variable {p : Program} {l : Launch} {e : Env} {R : Room} {s : State} {m : MethodId} {args : Array Value} {below : List Frame} {meth : Method} {c : Code} {Q : State → Prop} {D : va_G} {cy : Nat → Nat} {b0 nL mc ms kc ks : Nat} {σ : q_St} {h : q_Hp} {pc : Nat} {lv : List (Nat × Value)} {st : List Value} {own : String} {cc : ByteArray} {cd : q_Cd}
theorem v_sub (lv' : List (Nat × Value)) (hl : ∀ q ∈ lv', q ∈ lv) (kk : V p l e R s m args below meth c Q D cy b0 nL mc ms kc ks σ h pc lv' st) : V p l e R s m args below meth c Q D cy b0 nL mc ms kc ks σ h pc lv st := fun H locs cells slots ls hW hS hl0 h1 h2 => kk H locs cells slots ls hW hS ⟨hl0.1, hl0.2.1, fun q hq => hl0.2.2 q (hl q hq)⟩ h1 h2
theorem v_pick (is : List Nat) {lv' : List (Nat × Value)} (hl : lv_pick lv is = lv') (kk : V p l e R s m args below meth c Q D cy b0 nL mc ms kc ks σ h pc lv' st) : V p l e R s m args below meth c Q D cy b0 nL mc ms kc ks σ h pc lv st := fun H locs cells slots ls hW hS hl0 h1 h2 => kk H locs cells slots ls hW hS (lv_sub hl0 is hl) h1 h2
theorem v_less {kc' ks' : Nat} (h1 : kc' ≤ kc) (h2 : ks' ≤ ks) (kk : V p l e R s m args below meth c Q D cy b0 nL mc ms kc' ks' σ h pc lv st) : V p l e R s m args below meth c Q D cy b0 nL mc ms kc ks σ h pc lv st := fun H locs cells slots ls hW hS hl0 g1 g2 => kk H locs cells slots ls hW hS hl0 (by omega) (by omega)
theorem v_iret (C0 : VC p R s m args meth c D cy b0 nL mc ms own cc) (hc : q_cok cc cd) (hr : meth.sig.returnType = some .int) (hlk : meth.locks = false) (hi : q_lk cd pc = some .ireturn) {x : Int32} : V p l e R s m args below meth c (MQ below (q_Qc D cy b0 (some (.int x)) σ h) args s mc ms (fun q => b0 ≤ q)) D cy b0 nL mc ms kc ks σ h pc lv [.int x] := by
  intro H locs cells slots ls hW hS hl h1 h2
  refine W.widen (k := mc) (n := ms) (by omega) (by omega) ?_
  exact W.iret C0.1 C0.2.1 hr (fun t ht hWm => ⟨rfl, by rw [ht]; exact hW, hS.F ht⟩) hS.2.2 (q_dec hc hi) hlk
theorem v_zret (C0 : VC p R s m args meth c D cy b0 nL mc ms own cc) (hc : q_cok cc cd) (hr : meth.sig.returnType = some .boolean) (hlk : meth.locks = false) (hi : q_lk cd pc = some .ireturn) {x : Int32} (hx : x = 0 ∨ x = 1) : V p l e R s m args below meth c (MQ below (q_Qc D cy b0 (some (.int x)) σ h) args s mc ms (fun q => b0 ≤ q)) D cy b0 nL mc ms kc ks σ h pc lv [.int x] := by
  intro H locs cells slots ls hW hS hl h1 h2
  refine W.widen (k := mc) (n := ms) (by omega) (by omega) ?_
  exact W.zret C0.1 C0.2.1 hr (by rcases hx with rfl | rfl <;> rfl) (fun t ht hWm => ⟨rfl, by rw [ht]; exact hW, hS.F ht⟩) hS.2.2 (q_dec hc hi) hlk
theorem v_lret (C0 : VC p R s m args meth c D cy b0 nL mc ms own cc) (hc : q_cok cc cd) (hr : meth.sig.returnType = some .long) (hlk : meth.locks = false) (hi : q_lk cd pc = some .lreturn) {x : Int64} : V p l e R s m args below meth c (MQ below (q_Qc D cy b0 (some (.long x)) σ h) args s mc ms (fun q => b0 ≤ q)) D cy b0 nL mc ms kc ks σ h pc lv [.long x] := by
  intro H locs cells slots ls hW hS hl h1 h2
  refine W.widen (k := mc) (n := ms) (by omega) (by omega) ?_
  exact W.lret C0.1 C0.2.1 hr (fun t ht hWm => ⟨rfl, by rw [ht]; exact hW, hS.F ht⟩) hS.2.2 (q_dec hc hi) hlk
theorem v_vret (C0 : VC p R s m args meth c D cy b0 nL mc ms own cc) (hc : q_cok cc cd) (hr : meth.sig.returnType = none) (hlk : meth.locks = false) (hi : q_lk cd pc = some .return_) : V p l e R s m args below meth c (MQ below (q_Qc D cy b0 none σ h) args s mc ms (fun q => b0 ≤ q)) D cy b0 nL mc ms kc ks σ h pc lv [] := by
  intro H locs cells slots ls hW hS hl h1 h2
  refine W.widen (k := mc) (n := ms) (by omega) (by omega) ?_
  exact W.vret C0.1 C0.2.1 hr (fun t ht hWm => ⟨rfl, by rw [ht]; exact hW, hS.F ht⟩) hS.2.2 (q_dec hc hi) hlk
theorem v_aret (C0 : VC p R s m args meth c D cy b0 nL mc ms own cc) (hc : q_cok cc cd) {n : String} (hr : meth.sig.returnType = some (.object n)) (hlk : meth.locks = false) (hi : q_lk cd pc = some .areturn) {x : Nat} : V p l e R s m args below meth c (MQ below (q_Qc D cy b0 (some (.ref x)) σ h) args s mc ms (fun q => b0 ≤ q)) D cy b0 nL mc ms kc ks σ h pc lv [.ref x] := by
  intro H locs cells slots ls hW hS hl h1 h2
  refine W.widen (k := mc) (n := ms) (by omega) (by omega) ?_
  exact W.aret C0.1 C0.2.1 hr (Or.inl ⟨n, rfl⟩) (Or.inr ⟨x, rfl⟩) (fun t ht hWm => ⟨rfl, by rw [ht]; exact hW, hS.F ht⟩) hS.2.2 (q_dec hc hi) hlk
/-- behind a call -/
theorem v_back {y : MethodName} {r : Option Value} {σ' : q_St} {h' : q_Hp} {mc' ms' kc' ks' : Nat} {rest : List Value} {a : Array Value} (hk1 : kc' + mc' ≤ kc) (hk2 : ks' + ms' ≤ ks)
    (hr : ∀ (H : Heap) (locs : List Loc) (cells slots : Nat) (ls : Array Slot), q_HW D cy b0 σ h H → lv_has ls nL lv → cells + mc' ≤ mc → slots + ms' ≤ ms → va_Run p l e R s m args below meth c H locs cells slots mc' ms' (F0 m pc ls st) rest (q_Qc D cy b0 r σ' h' a) (fun q => b0 ≤ q))
    (kk : V p l e R s m args below meth c Q D cy b0 nL mc ms kc' ks' σ' h' (pc + 3) lv (r.toList ++ rest)) : V p l e R s m args below meth c Q D cy b0 nL mc ms kc ks σ h pc lv st := by
  intro H locs cells slots ls hW hS hl h1 h2 T hT X
  obtain ⟨v, st₀, t, T', L, h0, X', hL, e1, e2, ⟨hv, hW', hF⟩, hst⟩ := hr H locs cells slots ls hW hl (by omega) (by omega) T hT X
  cases hv
  obtain ⟨hz, hkp⟩ := hF
  rw [h0] at hz hkp
  rw [← e1] at hz hkp hW'
  obtain ⟨t2, a1, b1⟩ := kk T'.heap (locs ++ L) (cells + mc') (slots + ms') ls hW' ⟨Nat.le_trans hS.1 hz, fun q g1 g2 => by rw [hkp q (Nat.lt_of_lt_of_le g1 hS.1) g2]; exact hS.2.1 q g1 g2, fun q hq => by
      rcases List.mem_append.mp hq with g | g
      · exact hS.2.2 q g
      · exact hL q g⟩ hl (by omega) (by omega) T' rfl X'
  exact ⟨t2, hst t2 a1, b1⟩
theorem v_callV (C0 : VC p R s m args meth c D cy b0 nL mc ms own cc) (hc : q_cok cc cd) {idx : Nat} (hi : q_lk cd pc = some (.invokevirtual idx)) {y : MethodName} {bytes : ByteArray} {maxL n : Nat} {ret : Option FieldType} {fr lo mc' ms' kc' ks' : Nat} {b : Nat} {as rest : List Value} {r : Option Value} {σ' : q_St} {h' : q_Hp}
    (hM : q_M l y bytes maxL ret fr lo mc' ms' D cy b0 σ h (.ref b :: as) r σ' h') (hy : q_cal y bytes maxL ret) (hlink : Cond.methodLink own idx y ∈ q_tbl) (hin : Cond.instanceMethod y ∈ q_tbl ∧ Cond.selects y.cls y y ∈ q_tbl) (hn : (parseMethodDescriptor y.desc).map (fun d => d.parameters.length) = some n) {ci : Nat} (hci : (vwCl[ci]?).map (fun q => q.1) = some y.cls ∧ ci < 6) (hb : q_tag σ b = ci + 1) (hst : st = as.reverse ++ .ref b :: rest) (has : as.length = n) (hR : fr + 1 ≤ R.frames ∧ 8 + (maxL + 11) + lo ≤ R.locals) (hw : (rest.map fun v => v.category).sum ≤ 8) (hk1 : kc' + mc' ≤ kc) (hk2 : ks' + ms' ≤ ks)
    (kk : V p l e R s m args below meth c Q D cy b0 nL mc ms kc' ks' σ' h' (pc + 3) lv (r.toList ++ rest)) : V p l e R s m args below meth c Q D cy b0 nL mc ms kc ks σ h pc lv st := by
  obtain ⟨c1, c2, c3, c4, c5, c6, c7, c8, c9, c10⟩ := C0
  subst hst
  refine v_back (y := y) (mc' := mc') (ms' := ms') (a := (Value.ref b :: as).toArray) hk1 hk2 (fun H locs cells slots ls hW hl h1 h2 => ?_) kk
  refine va_runV (As := as) (rest := rest) (b := b) (C := y.cls) ⟨c1, c2, c3, c4, c5⟩ hM (cwV n c5 (q_good ?_) rfl rfl rfl ⟨rfl, hy.2.2.1, hy.2.2.2, hn⟩ hR) ⟨q_blind D cy b0 σ h _, ?_, fun U hU hWm => ⟨rfl, by rw [hU]; exact hW, va_K.moved hWm.alike c6, c10.warm hWm⟩⟩ rfl has hl.1 rfl (lv_room hw) (q_dec hc hi) ⟨by omega, by omega⟩
  · intro w hw
    simp only [wsV, List.mem_append, List.mem_cons, List.not_mem_nil, or_false] at hw
    rcases hw with (rfl | rfl | rfl | rfl) | rfl | hw
    · exact hlink
    · exact hin.1
    · exact hin.2
    · exact hy.1
    · exact hy.2.1
    · exact hw
  · obtain ⟨q0, hq⟩ := q_at hW (a := b) (by rw [hb]; omega)
    rw [q_cell_obj hb hci.2] at hq
    obtain ⟨x, hx1, hx2⟩ := Option.map_eq_some_iff.mp hci.1
    obtain ⟨cell, g1, g2, g3⟩ := va_recv c6 hW.2.1 (ci := ci) hx1 hq
    exact ⟨cell, g1, g2, by rw [← hx2]; exact g3⟩
theorem v_callS (C0 : VC p R s m args meth c D cy b0 nL mc ms own cc) (hc : q_cok cc cd) {idx : Nat} (hi : q_lk cd pc = some (.invokestatic idx)) {y : MethodName} {bytes : ByteArray} {maxL n : Nat} {ret : Option FieldType} {fr lo mc' ms' kc' ks' : Nat} {as rest : List Value} {r : Option Value} {σ' : q_St} {h' : q_Hp}
    (hM : q_M l y bytes maxL ret fr lo mc' ms' D cy b0 σ h as r σ' h') (hy : q_cal y bytes maxL ret) (hlink : Cond.methodLink own idx y ∈ q_tbl) (hin : Cond.static y ∈ q_tbl) (hn : (parseMethodDescriptor y.desc).map (fun d => d.parameters.length) = some n) (hst : st = as.reverse ++ rest) (has : as.length = n) (hR : fr + 1 ≤ R.frames ∧ 8 + (maxL + 11) + lo ≤ R.locals) (hw : (rest.map fun v => v.category).sum ≤ 8) (hk1 : kc' + mc' ≤ kc) (hk2 : ks' + ms' ≤ ks)
    (kk : V p l e R s m args below meth c Q D cy b0 nL mc ms kc' ks' σ' h' (pc + 3) lv (r.toList ++ rest)) : V p l e R s m args below meth c Q D cy b0 nL mc ms kc ks σ h pc lv st := by
  obtain ⟨c1, c2, c3, c4, c5, c6, c7, c8, c9, c10⟩ := C0
  subst hst
  refine v_back (y := y) (mc' := mc') (ms' := ms') (a := as.toArray) hk1 hk2 (fun H locs cells slots ls hW hl h1 h2 => ?_) kk
  refine va_runS (As := as) (rest := rest) ⟨c1, c2, c3, c4, c5⟩ hM ⟨callB_of n c5 (q_good ?_) rfl rfl rfl (c5 _ hy.1) (c5 _ hlink) ⟨hy.2.2.1, hy.2.2.2, hn⟩ hR, c5 _ hin⟩ ⟨q_blind D cy b0 σ h _, fun U hU hWm => ⟨rfl, by rw [hU]; exact hW, va_K.moved hWm.alike c6, c10.warm hWm⟩⟩ rfl has hl.1 rfl (lv_room hw) (q_dec hc hi) ⟨by omega, by omega⟩
  intro w hw
  rcases List.mem_cons.mp hw with rfl | hw
  · exact hy.2.1
  · exact hw
/-- a static method of another class of the nest -/
theorem v_callSN (C0 : VC p R s m args meth c D cy b0 nL mc ms own cc) (hc : q_cok cc cd) {idx : Nat} (hi : q_lk cd pc = some (.invokestatic idx)) {y : MethodName} {host : String} {bytes : ByteArray} {maxL n : Nat} {ret : Option FieldType} {fr lo mc' ms' kc' ks' : Nat} {as rest : List Value} {r : Option Value} {σ' : q_St} {h' : q_Hp}
    (hM : q_M l y bytes maxL ret fr lo mc' ms' D cy b0 σ h as r σ' h') (hy : q_cal y bytes maxL ret) (hlink : Cond.methodLinkNest own idx y host ∈ lw_tbl) (hin : Cond.static y ∈ q_tbl) (hn : (parseMethodDescriptor y.desc).map (fun d => d.parameters.length) = some n) (hst : st = as.reverse ++ rest) (has : as.length = n) (hR : fr + 1 ≤ R.frames ∧ 8 + (maxL + 11) + lo ≤ R.locals) (hw : (rest.map fun v => v.category).sum ≤ 8) (hk1 : kc' + mc' ≤ kc) (hk2 : ks' + ms' ≤ ks)
    (kk : V p l e R s m args below meth c Q D cy b0 nL mc ms kc' ks' σ' h' (pc + 3) lv (r.toList ++ rest)) : V p l e R s m args below meth c Q D cy b0 nL mc ms kc ks σ h pc lv st := by
  obtain ⟨c1, c2, c3, c4, c5, c6, c7, c8, c9, c10⟩ := C0
  subst hst
  refine v_back (y := y) (mc' := mc') (ms' := ms') (a := as.toArray) hk1 hk2 (fun H locs cells slots ls hW hl h1 h2 => ?_) kk
  refine va_runSN (As := as) (rest := rest) (host := host) ⟨c1, c2, c3, c4, c5⟩ hM ⟨va_cnB n c5 (q_good ?_) rfl rfl rfl (c10 _ _ _ _ hlink) (c5 _ hy.1) ⟨hy.2.2.1, hy.2.2.2, hn⟩ hR, c5 _ hin, trivial⟩ ⟨q_blind D cy b0 σ h _, fun U hU hWm => ⟨rfl, by rw [hU]; exact hW, va_K.moved hWm.alike c6, c10.warm hWm⟩⟩ rfl has hl.1 rfl (lv_room hw) (q_dec hc hi) ⟨by omega, by omega⟩
  intro w hw
  rcases List.mem_cons.mp hw with rfl | hw
  · exact hy.2.1
  · exact hw
theorem v_icmp_eq (C0 : VC p R s m args meth c D cy b0 nL mc ms own cc) (hc : q_cok cc cd) {off : Int} (hi : q_lk cd pc = some (.if_icmp .eq off)) (tgt : Nat) (ht : (pc : Int) + off = (tgt : Int)) {x y : Int32} {α : Type} {A B : Option α} {o : α} (hf : (if x = y then A else B) = some o) (kt : x = y → A = some o → V p l e R s m args below meth c Q D cy b0 nL mc ms kc ks σ h tgt lv st) (kf : ¬ x = y → B = some o → V p l e R s m args below meth c Q D cy b0 nL mc ms kc ks σ h (pc + 3) lv st) : V p l e R s m args below meth c Q D cy b0 nL mc ms kc ks σ h pc lv (.int y :: .int x :: st) := fun H locs cells slots ls hW hS hl h1 h2 => lv_icmp_eq C0.1 C0.2.1 (q_dec hc hi) ht (fun q => kt q (by rw [if_pos q] at hf; exact hf) H locs cells slots ls hW hS hl h1 h2) (fun q => kf q (by rw [if_neg q] at hf; exact hf) H locs cells slots ls hW hS hl h1 h2)
theorem v_if_eq (C0 : VC p R s m args meth c D cy b0 nL mc ms own cc) (hc : q_cok cc cd) {off : Int} (hi : q_lk cd pc = some (.ifCond .eq off)) (tgt : Nat) (ht : (pc : Int) + off = (tgt : Int)) {x : Int32} {α : Type} {A B : Option α} {o : α} (hf : (if x = 0 then A else B) = some o) (kt : x = 0 → A = some o → V p l e R s m args below meth c Q D cy b0 nL mc ms kc ks σ h tgt lv st) (kf : ¬ x = 0 → B = some o → V p l e R s m args below meth c Q D cy b0 nL mc ms kc ks σ h (pc + 3) lv st) : V p l e R s m args below meth c Q D cy b0 nL mc ms kc ks σ h pc lv (.int x :: st) := fun H locs cells slots ls hW hS hl h1 h2 => lv_if_eq C0.1 C0.2.1 (q_dec hc hi) ht (fun q => kt q (by rw [if_pos q] at hf; exact hf) H locs cells slots ls hW hS hl h1 h2) (fun q => kf q (by rw [if_neg q] at hf; exact hf) H locs cells slots ls hW hS hl h1 h2)
theorem v_icmp_ne (C0 : VC p R s m args meth c D cy b0 nL mc ms own cc) (hc : q_cok cc cd) {off : Int} (hi : q_lk cd pc = some (.if_icmp .ne off)) (tgt : Nat) (ht : (pc : Int) + off = (tgt : Int)) {x y : Int32} {α : Type} {A B : Option α} {o : α} (hf : (if x = y then A else B) = some o) (kf : x = y → A = some o → V p l e R s m args below meth c Q D cy b0 nL mc ms kc ks σ h (pc + 3) lv st) (kt : ¬ x = y → B = some o → V p l e R s m args below meth c Q D cy b0 nL mc ms kc ks σ h tgt lv st) : V p l e R s m args below meth c Q D cy b0 nL mc ms kc ks σ h pc lv (.int y :: .int x :: st) := fun H locs cells slots ls hW hS hl h1 h2 => lv_icmp_ne C0.1 C0.2.1 (q_dec hc hi) ht (fun q => kt q (by rw [if_neg q] at hf; exact hf) H locs cells slots ls hW hS hl h1 h2) (fun q => kf q (by rw [if_pos q] at hf; exact hf) H locs cells slots ls hW hS hl h1 h2)
theorem v_if_ne (C0 : VC p R s m args meth c D cy b0 nL mc ms own cc) (hc : q_cok cc cd) {off : Int} (hi : q_lk cd pc = some (.ifCond .ne off)) (tgt : Nat) (ht : (pc : Int) + off = (tgt : Int)) {x : Int32} {α : Type} {A B : Option α} {o : α} (hf : (if x = 0 then A else B) = some o) (kf : x = 0 → A = some o → V p l e R s m args below meth c Q D cy b0 nL mc ms kc ks σ h (pc + 3) lv st) (kt : ¬ x = 0 → B = some o → V p l e R s m args below meth c Q D cy b0 nL mc ms kc ks σ h tgt lv st) : V p l e R s m args below meth c Q D cy b0 nL mc ms kc ks σ h pc lv (.int x :: st) := fun H locs cells slots ls hW hS hl h1 h2 => lv_if_ne C0.1 C0.2.1 (q_dec hc hi) ht (fun q => kt q (by rw [if_neg q] at hf; exact hf) H locs cells slots ls hW hS hl h1 h2) (fun q => kf q (by rw [if_pos q] at hf; exact hf) H locs cells slots ls hW hS hl h1 h2)
theorem v_icmp_lt (C0 : VC p R s m args meth c D cy b0 nL mc ms own cc) (hc : q_cok cc cd) {off : Int} (hi : q_lk cd pc = some (.if_icmp .lt off)) (tgt : Nat) (ht : (pc : Int) + off = (tgt : Int)) {x y : Int32} {α : Type} {A B : Option α} {o : α} (hf : (if x < y then A else B) = some o) (kt : x < y → A = some o → V p l e R s m args below meth c Q D cy b0 nL mc ms kc ks σ h tgt lv st) (kf : ¬ x < y → B = some o → V p l e R s m args below meth c Q D cy b0 nL mc ms kc ks σ h (pc + 3) lv st) : V p l e R s m args below meth c Q D cy b0 nL mc ms kc ks σ h pc lv (.int y :: .int x :: st) := fun H locs cells slots ls hW hS hl h1 h2 => lv_icmp_lt C0.1 C0.2.1 (q_dec hc hi) ht (fun q => kt q (by rw [if_pos q] at hf; exact hf) H locs cells slots ls hW hS hl h1 h2) (fun q => kf q (by rw [if_neg q] at hf; exact hf) H locs cells slots ls hW hS hl h1 h2)
theorem v_if_lt (C0 : VC p R s m args meth c D cy b0 nL mc ms own cc) (hc : q_cok cc cd) {off : Int} (hi : q_lk cd pc = some (.ifCond .lt off)) (tgt : Nat) (ht : (pc : Int) + off = (tgt : Int)) {x : Int32} {α : Type} {A B : Option α} {o : α} (hf : (if x < 0 then A else B) = some o) (kt : x < 0 → A = some o → V p l e R s m args below meth c Q D cy b0 nL mc ms kc ks σ h tgt lv st) (kf : ¬ x < 0 → B = some o → V p l e R s m args below meth c Q D cy b0 nL mc ms kc ks σ h (pc + 3) lv st) : V p l e R s m args below meth c Q D cy b0 nL mc ms kc ks σ h pc lv (.int x :: st) := fun H locs cells slots ls hW hS hl h1 h2 => lv_if_lt C0.1 C0.2.1 (q_dec hc hi) ht (fun q => kt q (by rw [if_pos q] at hf; exact hf) H locs cells slots ls hW hS hl h1 h2) (fun q => kf q (by rw [if_neg q] at hf; exact hf) H locs cells slots ls hW hS hl h1 h2)
theorem v_icmp_ge (C0 : VC p R s m args meth c D cy b0 nL mc ms own cc) (hc : q_cok cc cd) {off : Int} (hi : q_lk cd pc = some (.if_icmp .ge off)) (tgt : Nat) (ht : (pc : Int) + off = (tgt : Int)) {x y : Int32} {α : Type} {A B : Option α} {o : α} (hf : (if y ≤ x then A else B) = some o) (kt : y ≤ x → A = some o → V p l e R s m args below meth c Q D cy b0 nL mc ms kc ks σ h tgt lv st) (kf : ¬ y ≤ x → B = some o → V p l e R s m args below meth c Q D cy b0 nL mc ms kc ks σ h (pc + 3) lv st) : V p l e R s m args below meth c Q D cy b0 nL mc ms kc ks σ h pc lv (.int y :: .int x :: st) := fun H locs cells slots ls hW hS hl h1 h2 => lv_icmp_ge C0.1 C0.2.1 (q_dec hc hi) ht (fun q => kt q (by rw [if_pos q] at hf; exact hf) H locs cells slots ls hW hS hl h1 h2) (fun q => kf q (by rw [if_neg q] at hf; exact hf) H locs cells slots ls hW hS hl h1 h2)
theorem v_if_ge (C0 : VC p R s m args meth c D cy b0 nL mc ms own cc) (hc : q_cok cc cd) {off : Int} (hi : q_lk cd pc = some (.ifCond .ge off)) (tgt : Nat) (ht : (pc : Int) + off = (tgt : Int)) {x : Int32} {α : Type} {A B : Option α} {o : α} (hf : (if 0 ≤ x then A else B) = some o) (kt : 0 ≤ x → A = some o → V p l e R s m args below meth c Q D cy b0 nL mc ms kc ks σ h tgt lv st) (kf : ¬ 0 ≤ x → B = some o → V p l e R s m args below meth c Q D cy b0 nL mc ms kc ks σ h (pc + 3) lv st) : V p l e R s m args below meth c Q D cy b0 nL mc ms kc ks σ h pc lv (.int x :: st) := fun H locs cells slots ls hW hS hl h1 h2 => lv_if_ge C0.1 C0.2.1 (q_dec hc hi) ht (fun q => kt q (by rw [if_pos q] at hf; exact hf) H locs cells slots ls hW hS hl h1 h2) (fun q => kf q (by rw [if_neg q] at hf; exact hf) H locs cells slots ls hW hS hl h1 h2)
theorem v_icmp_gt (C0 : VC p R s m args meth c D cy b0 nL mc ms own cc) (hc : q_cok cc cd) {off : Int} (hi : q_lk cd pc = some (.if_icmp .gt off)) (tgt : Nat) (ht : (pc : Int) + off = (tgt : Int)) {x y : Int32} {α : Type} {A B : Option α} {o : α} (hf : (if y < x then A else B) = some o) (kt : y < x → A = some o → V p l e R s m args below meth c Q D cy b0 nL mc ms kc ks σ h tgt lv st) (kf : ¬ y < x → B = some o → V p l e R s m args below meth c Q D cy b0 nL mc ms kc ks σ h (pc + 3) lv st) : V p l e R s m args below meth c Q D cy b0 nL mc ms kc ks σ h pc lv (.int y :: .int x :: st) := fun H locs cells slots ls hW hS hl h1 h2 => lv_icmp_gt C0.1 C0.2.1 (q_dec hc hi) ht (fun q => kt q (by rw [if_pos q] at hf; exact hf) H locs cells slots ls hW hS hl h1 h2) (fun q => kf q (by rw [if_neg q] at hf; exact hf) H locs cells slots ls hW hS hl h1 h2)
theorem v_if_gt (C0 : VC p R s m args meth c D cy b0 nL mc ms own cc) (hc : q_cok cc cd) {off : Int} (hi : q_lk cd pc = some (.ifCond .gt off)) (tgt : Nat) (ht : (pc : Int) + off = (tgt : Int)) {x : Int32} {α : Type} {A B : Option α} {o : α} (hf : (if 0 < x then A else B) = some o) (kt : 0 < x → A = some o → V p l e R s m args below meth c Q D cy b0 nL mc ms kc ks σ h tgt lv st) (kf : ¬ 0 < x → B = some o → V p l e R s m args below meth c Q D cy b0 nL mc ms kc ks σ h (pc + 3) lv st) : V p l e R s m args below meth c Q D cy b0 nL mc ms kc ks σ h pc lv (.int x :: st) := fun H locs cells slots ls hW hS hl h1 h2 => lv_if_gt C0.1 C0.2.1 (q_dec hc hi) ht (fun q => kt q (by rw [if_pos q] at hf; exact hf) H locs cells slots ls hW hS hl h1 h2) (fun q => kf q (by rw [if_neg q] at hf; exact hf) H locs cells slots ls hW hS hl h1 h2)
theorem v_icmp_le (C0 : VC p R s m args meth c D cy b0 nL mc ms own cc) (hc : q_cok cc cd) {off : Int} (hi : q_lk cd pc = some (.if_icmp .le off)) (tgt : Nat) (ht : (pc : Int) + off = (tgt : Int)) {x y : Int32} {α : Type} {A B : Option α} {o : α} (hf : (if x ≤ y then A else B) = some o) (kt : x ≤ y → A = some o → V p l e R s m args below meth c Q D cy b0 nL mc ms kc ks σ h tgt lv st) (kf : ¬ x ≤ y → B = some o → V p l e R s m args below meth c Q D cy b0 nL mc ms kc ks σ h (pc + 3) lv st) : V p l e R s m args below meth c Q D cy b0 nL mc ms kc ks σ h pc lv (.int y :: .int x :: st) := fun H locs cells slots ls hW hS hl h1 h2 => lv_icmp_le C0.1 C0.2.1 (q_dec hc hi) ht (fun q => kt q (by rw [if_pos q] at hf; exact hf) H locs cells slots ls hW hS hl h1 h2) (fun q => kf q (by rw [if_neg q] at hf; exact hf) H locs cells slots ls hW hS hl h1 h2)
theorem v_if_le (C0 : VC p R s m args meth c D cy b0 nL mc ms own cc) (hc : q_cok cc cd) {off : Int} (hi : q_lk cd pc = some (.ifCond .le off)) (tgt : Nat) (ht : (pc : Int) + off = (tgt : Int)) {x : Int32} {α : Type} {A B : Option α} {o : α} (hf : (if x ≤ 0 then A else B) = some o) (kt : x ≤ 0 → A = some o → V p l e R s m args below meth c Q D cy b0 nL mc ms kc ks σ h tgt lv st) (kf : ¬ x ≤ 0 → B = some o → V p l e R s m args below meth c Q D cy b0 nL mc ms kc ks σ h (pc + 3) lv st) : V p l e R s m args below meth c Q D cy b0 nL mc ms kc ks σ h pc lv (.int x :: st) := fun H locs cells slots ls hW hS hl h1 h2 => lv_if_le C0.1 C0.2.1 (q_dec hc hi) ht (fun q => kt q (by rw [if_pos q] at hf; exact hf) H locs cells slots ls hW hS hl h1 h2) (fun q => kf q (by rw [if_neg q] at hf; exact hf) H locs cells slots ls hW hS hl h1 h2)
end QR
end
section
/-! loops, choices, what may fail -/
def q_N : Nat := 1000000000
def q_loop {S R : Type} (body : S → Option (S ⊕ R)) : Nat → S → Option R
  | 0, _ => none
  | n + 1, s => match body s with
    | none => none
    | some (.inl s') => q_loop body n s'
    | some (.inr r) => some r
theorem q_loop_V {S R : Type} {body : S → Option (S ⊕ R)} {P : S → Prop} {o : R} (hb : ∀ s z, body s = some z → (∀ s', z = .inl s' → P s') → (∀ r, z = .inr r → r = o) → P s) : ∀ n s, q_loop body n s = some o → P s
  | 0, s, h => by cases h
  | n + 1, s, h => by
    unfold q_loop at h
    split at h
    · cases h
    · next s' hs => exact hb s _ hs (fun s2 e => by cases e; exact q_loop_V hb n s' h) (fun r e => by cases e)
    · next r hs =>
      cases h
      exact hb s _ hs (fun s2 e => by cases e) (fun r e => by cases e; rfl)
def q_b2 {α β γ : Type} (x : Option (α × β)) (f : α → β → Option γ) : Option γ := x.bind fun z => f z.1 z.2
theorem q_bd2 {α β γ : Type} {x : Option (α × β)} {f : α → β → Option γ} {o : γ} (h : q_b2 x f = some o) : ∃ r t, x = some (r, t) ∧ f r t = some o := by
  cases x with
  | none => cases h
  | some r => exact ⟨r.1, r.2, rfl, h⟩
def q_el {X R : Type} (o : X ⊕ R) (f : X → Option R) : Option R := match o with
  | .inl x => f x
  | .inr r => some r
theorem q_tn {x n : Nat} (h : x = n + 1) : x ≠ 0 := by omega
theorem q_ite {c : Prop} [Decidable c] {α : Type} {A B : Option α} {o : α} (h : (if c then A else B) = some o) : (c ∧ A = some o) ∨ (¬ c ∧ B = some o) := by
  by_cases hc : c
  · rw [if_pos hc] at h; exact Or.inl ⟨hc, h⟩
  · rw [if_neg hc] at h; exact Or.inr ⟨hc, h⟩
theorem q_tok_of {own : String} {T : q_Tb} (is js ks : List (Nat × Nat)) (h1 : T.1.all (fun x => decide (x.2.1 < 6) && decide (x.2.2 < (q_cl x.2.1).2.2) && decide (((q_cl x.2.1).2.1 x.2.2).1 = (q_cl x.2.1).1)) = true) (h2 : T.1.map (fun x => Cond.fieldLink own x.1 (q_cl x.2.1).1 ((q_cl x.2.1).2.1 x.2.2).2.1 ((q_cl x.2.1).2.1 x.2.2).2.2.1) = is.filterMap q_tat) (h3 : T.2.1.map (fun x => Cond.constant own x.1 x.2) = js.filterMap q_tat) (h4 : T.2.2.map (fun x => Cond.constantLong own x.1 x.2) = ks.filterMap q_tat) : q_tok own T := by
  refine ⟨fun x hx => ?_, fun x hx => ?_, fun x hx => ?_⟩
  · have g := List.all_eq_true.mp h1 x hx
    simp only [Bool.and_eq_true, decide_eq_true_eq] at g
    have hw := List.mem_map_of_mem (f := fun x : Nat × Nat × Nat => Cond.fieldLink own x.1 (q_cl x.2.1).1 ((q_cl x.2.1).2.1 x.2.2).2.1 ((q_cl x.2.1).2.1 x.2.2).2.2.1) hx
    rw [h2] at hw
    obtain ⟨i, -, hi⟩ := List.mem_filterMap.mp hw
    exact ⟨g.1.1, g.1.2, q_tbl_of (q_tat_in hi) rfl, g.2⟩
  · have hw := List.mem_map_of_mem (f := fun x : Nat × Int32 => Cond.constant own x.1 x.2) hx
    rw [h3] at hw
    obtain ⟨i, -, hi⟩ := List.mem_filterMap.mp hw
    exact q_tbl_of (q_tat_in hi) rfl
  · have hw := List.mem_map_of_mem (f := fun x : Nat × Int64 => Cond.constantLong own x.1 x.2) hx
    rw [h4] at hw
    obtain ⟨i, -, hi⟩ := List.mem_filterMap.mp hw
    exact q_tbl_of (q_tat_in hi) rfl
section QL
variable {p : Program} {l : Launch} {e : Env} {R : Room} {s : State} {m : MethodId} {args : Array Value} {below : List Frame} {meth : Method} {c : Code} {Q : State → Prop} {D : va_G} {cy : Nat → Nat} {b0 nL mc ms kc ks : Nat} {σ : q_St} {h : q_Hp} {pc : Nat} {lv : List (Nat × Value)} {st : List Value} {own : String} {cc : ByteArray} {cd : q_Cd}
theorem v_aald (C0 : VC p R s m args meth c D cy b0 nL mc ms own cc) (hc : q_cok cc cd) (hi : q_lk cd pc = some .aaload) {a : Nat} {i : Int32} (ht : q_tag σ a = 9 ∨ q_tag σ a = 10) (hin : vp_in i (q_len σ a)) {α : Type} {A B : Option α} {o : α} (hf : (if q_ref σ a i.toNatClampNeg = 0 then A else B) = some o)
    (k0 : q_ref σ a i.toNatClampNeg = 0 → A = some o → V p l e R s m args below meth c Q D cy b0 nL mc ms kc ks σ h (pc + 1) lv (.null :: st)) (k1 : ¬ q_ref σ a i.toNatClampNeg = 0 → B = some o → V p l e R s m args below meth c Q D cy b0 nL mc ms kc ks σ h (pc + 1) lv (.ref (q_ref σ a i.toNatClampNeg) :: st)) : V p l e R s m args below meth c Q D cy b0 nL mc ms kc ks σ h pc lv (.int i :: .ref a :: st) := by
  intro H locs cells slots ls hW hS hl h1 h2
  refine x_aald C0.1 C0.2.1 C0.2.2.2.2.2.1 hW ht hin (q_dec hc hi) ?_
  rcases q_ite hf with ⟨hz, hf⟩ | ⟨hz, hf⟩
  · rw [hz, q_rv_0]
    exact k0 hz hf H locs cells slots ls hW hS hl h1 h2
  · rw [q_rv_n hz]
    exact k1 hz hf H locs cells slots ls hW hS hl h1 h2
theorem v_tabI (C0 : VC p R s m args meth c D cy b0 nL mc ms own cc) {dflt lo hi : Int} {offs : Array Int} {len : Nat} (hd : decode cc pc = .ok (.tableswitch dflt lo hi offs, len)) {x : Int32} {k : Int32} (hx : x = k) (tgt : Nat) (h1 : ¬ k.toInt < lo ∧ ¬ hi < k.toInt) (h2 : (offs[(k.toInt - lo).toNat]?).map (fun off => (pc : Int) + off) = some (tgt : Int)) (kk : V p l e R s m args below meth c Q D cy b0 nL mc ms kc ks σ h tgt lv st) : V p l e R s m args below meth c Q D cy b0 nL mc ms kc ks σ h pc lv (.int x :: st) := by
  subst hx
  obtain ⟨off, ho, ht⟩ := Option.map_eq_some_iff.mp h2
  exact fun H locs cells slots ls hW hS hl g1 g2 => lv_tableIn C0.1 C0.2.1 hd h1.1 h1.2 ho ht (kk H locs cells slots ls hW hS hl g1 g2)
theorem v_tabO (C0 : VC p R s m args meth c D cy b0 nL mc ms own cc) {dflt lo hi : Int} {offs : Array Int} {len : Nat} (hd : decode cc pc = .ok (.tableswitch dflt lo hi offs, len)) {x : Int32} (tgt : Nat) (ht : (pc : Int) + dflt = (tgt : Int)) (hx : ∀ k : Int, lo ≤ k → k ≤ hi → x.toInt = k → False) (kk : V p l e R s m args below meth c Q D cy b0 nL mc ms kc ks σ h tgt lv st) : V p l e R s m args below meth c Q D cy b0 nL mc ms kc ks σ h pc lv (.int x :: st) := by
  have : x.toInt < lo ∨ hi < x.toInt := by
    rcases Int.lt_or_le x.toInt lo with q | q
    · exact Or.inl q
    · rcases Int.lt_or_le hi x.toInt with q2 | q2
      · exact Or.inr q2
      · exact (hx x.toInt q q2 rfl).elim
  exact fun H locs cells slots ls hW hS hl g1 g2 => lv_tableOut C0.1 C0.2.1 hd this ht (kk H locs cells slots ls hW hS hl g1 g2)
def q_asc (ps : Array (Int × Int)) : Bool := (ps.toList.zip (ps.toList.drop 1)).all (fun (a, next) => a.1 < next.1)
theorem v_lkI (C0 : VC p R s m args meth c D cy b0 nL mc ms own cc) {dflt : Int} {ps : Array (Int × Int)} {len : Nat} (hd : decode cc pc = .ok (.lookupswitch dflt ps, len)) {x : Int32} {k : Int32} (hx : x = k) (tgt : Nat) (h1 : q_asc ps = true) (h2 : (pc : Int) + Op.lookupswitch.offset ps.toList dflt k.toInt = (tgt : Int)) (kk : V p l e R s m args below meth c Q D cy b0 nL mc ms kc ks σ h tgt lv st) : V p l e R s m args below meth c Q D cy b0 nL mc ms kc ks σ h pc lv (.int x :: st) := by
  subst hx
  exact fun H locs cells slots ls hW hS hl g1 g2 => lv_lookup C0.1 C0.2.1 hd h1 rfl h2 (kk H locs cells slots ls hW hS hl g1 g2)
theorem v_min (C0 : VC p R s m args meth c D cy b0 nL mc ms own cc) (hc : q_cok cc cd) {idx : Nat} (hi : q_lk cd pc = some (.invokestatic idx)) (hw : Cond.methodLink own idx Lib.Math.min.name ∈ q_tbl ∧ Cond.static Lib.Math.min.name ∈ q_tbl ∧ Cond.initialized "java/lang/Math" ∈ q_tbl ∧ Cond.code Lib.Math.min.name Lib.Math.min.code 2 (some .int) ∈ q_tbl) (hf : 1 ≤ R.frames) (hlo : 21 ≤ R.locals) {rest : List Value} (hr : (rest.map fun v => v.category).sum ≤ 8) {x y : Int32} (kk : V p l e R s m args below meth c Q D cy b0 nL mc ms kc ks σ h (pc + 3) lv (.int (if y < x then y else x) :: rest)) : V p l e R s m args below meth c Q D cy b0 nL mc ms kc ks σ h pc lv (.int y :: .int x :: rest) := by
  obtain ⟨c1, c2, c3, c4, c5, c6, c7, c8, c9, c10⟩ := C0
  intro H locs cells slots ls hW hS hl h1 h2
  exact va_mmin c1 c2 (by rw [c3, hl.1]) c4 (c5 _ hw.1) (c5 _ hw.2.1) (c5 _ hw.2.2.1) (c5 _ hw.2.2.2) hf (by omega) (by omega) (by omega) (q_dec hc hi) (kk H locs cells slots ls hW hS hl h1 h2)
end QL
end
section
/-! tables: fields, constants, links, as the class files have them -/
def TbX0 : q_Tb := ([(9, 0, 0), (15, 0, 1), (18, 0, 2), (21, 0, 3), (24, 0, 4), (27, 0, 5), (30, 0, 6), (33, 0, 7), (36, 0, 8), (39, 0, 9), (43, 0, 10), (60, 2, 1), (78, 3, 2), (87, 2, 10), (94, 3, 0)], [], [])
set_option maxRecDepth 100000 in
theorem tbX0 : q_tok RX0 TbX0 := q_tok_of [(1, 177), (1, 178), (1, 179), (1, 180), (1, 181), (1, 182), (1, 183), (1, 184), (1, 185), (1, 187), (1, 189), (1, 80), (1, 49), (1, 99), (1, 45)] [] [] (by decide +kernel) (by decide +kernel) (by decide +kernel) (by decide +kernel)
def TbX1 : q_Tb := ([(9, 1, 0), (15, 1, 1), (24, 1, 2), (28, 1, 3), (31, 1, 4)], [(34, (-2147483648 : Int32))], [])
set_option maxRecDepth 100000 in
theorem tbX1 : q_tok RX1 TbX1 := q_tok_of [(1, 148), (1, 150), (1, 152), (1, 154), (1, 156)] [(3, 76)] [] (by decide +kernel) (by decide +kernel) (by decide +kernel) (by decide +kernel)
def TbX2 : q_Tb := ([(11, 2, 0), (17, 2, 1), (21, 2, 2), (24, 2, 3), (27, 2, 4), (30, 2, 5), (33, 2, 6), (36, 2, 7), (39, 2, 8), (42, 2, 9), (48, 2, 10), (52, 2, 11), (56, 2, 12), (59, 2, 13), (62, 2, 14), (95, 3, 2), (106, 3, 4), (113, 3, 3)], [], [])
set_option maxRecDepth 100000 in
theorem tbX2 : q_tok RX2 TbX2 := q_tok_of [(1, 78), (1, 79), (1, 82), (1, 84), (1, 86), (1, 88), (1, 90), (1, 92), (1, 94), (1, 96), (1, 98), (1, 100), (1, 102), (1, 104), (1, 106), (1, 51), (1, 57), (1, 54)] [] [] (by decide +kernel) (by decide +kernel) (by decide +kernel) (by decide +kernel)
def TbX3 : q_Tb := ([(18, 3, 0), (22, 3, 1), (25, 3, 2), (28, 3, 3), (31, 3, 4), (34, 3, 5), (37, 3, 6)], [], [])
set_option maxRecDepth 100000 in
theorem tbX3 : q_tok RX3 TbX3 := q_tok_of [(1, 43), (1, 46), (1, 48), (1, 52), (1, 55), (1, 58), (1, 60)] [] [] (by decide +kernel) (by decide +kernel) (by decide +kernel) (by decide +kernel)
def TbX4 : q_Tb := ([(12, 4, 0), (16, 4, 1), (19, 4, 2), (22, 4, 3), (28, 4, 4), (33, 4, 5), (39, 4, 6), (46, 4, 7), (53, 4, 8), (57, 4, 9), (61, 4, 10), (64, 4, 11), (75, 1, 1), (79, 1, 3), (96, 3, 0), (99, 3, 1), (102, 2, 1), (109, 2, 2), (112, 2, 3), (115, 3, 2), (118, 3, 3), (121, 3, 4), (124, 3, 5), (130, 2, 4), (133, 2, 5), (136, 2, 6), (139, 2, 7), (142, 2, 8), (145, 2, 9), (156, 1, 2), (181, 2, 12), (188, 0, 9), (191, 0, 10), (201, 0, 8), (244, 2, 11), (292, 1, 4), (295, 1, 0), (301, 2, 13), (316, 2, 14), (362, 3, 6)], [(393, (1103515245 : Int32)), (394, (2147483647 : Int32)), (395, (65536 : Int32))], [(215, (1000000001 : Int64)), (391, (10 : Int64))])
set_option maxRecDepth 100000 in
theorem tbX4 : q_tok RX4 TbX4 := q_tok_of [(1, 214), (1, 215), (1, 216), (1, 217), (1, 218), (1, 219), (1, 220), (1, 221), (1, 222), (1, 223), (1, 224), (1, 225), (1, 151), (1, 155), (1, 44), (1, 47), (1, 81), (1, 83), (1, 85), (1, 50), (1, 53), (1, 56), (1, 59), (1, 87), (1, 89), (1, 91), (1, 93), (1, 95), (1, 97), (1, 153), (1, 103), (1, 188), (1, 190), (1, 186), (1, 101), (1, 157), (1, 149), (1, 105), (1, 107), (1, 61)] [(3, 165), (3, 169), (3, 170)] [(3, 12), (3, 31)] (by decide +kernel) (by decide +kernel) (by decide +kernel) (by decide +kernel)
def TbX5 : q_Tb := ([(7, 5, 1), (13, 5, 2), (16, 5, 3), (19, 5, 4), (22, 5, 5), (25, 5, 7), (28, 5, 8), (31, 5, 9), (34, 5, 10), (37, 5, 11), (40, 5, 12), (43, 5, 15), (46, 5, 16), (49, 5, 17), (52, 5, 18), (55, 5, 19), (58, 5, 20), (62, 5, 26), (65, 5, 27), (68, 5, 28), (71, 5, 29), (74, 5, 30), (77, 5, 36), (80, 5, 39), (83, 5, 40), (86, 5, 43), (89, 5, 21), (93, 5, 0), (100, 5, 6), (118, 5, 13), (127, 5, 14), (133, 5, 23), (136, 5, 22), (139, 5, 24), (154, 5, 25), (207, 5, 33), (210, 5, 34), (213, 5, 32), (223, 5, 31), (240, 5, 37), (246, 5, 38), (255, 5, 35), (312, 5, 41), (345, 5, 42)], [(348, (1103515245 : Int32)), (349, (2147483647 : Int32)), (350, (65536 : Int32))], [(147, (48 : Int64)), (149, (57 : Int64)), (229, (7 : Int64)), (231, (20 : Int64)), (236, (3 : Int64)), (238, (999 : Int64)), (270, (-1 : Int64)), (289, (1000000001 : Int64)), (294, (10 : Int64)), (300, (-128 : Int64)), (302, (-32768 : Int64)), (304, (-2147483648 : Int64)), (310, (99 : Int64)), (319, (2 : Int64)), (339, (127 : Int64)), (357, (9 : Int64))])
set_option maxRecDepth 100000 in
theorem tbX5 : q_tok RX5 TbX5 := q_tok_of [(4, 129), (4, 130), (4, 131), (4, 132), (4, 133), (4, 135), (4, 136), (4, 137), (4, 138), (4, 139), (4, 140), (4, 143), (4, 144), (4, 145), (4, 146), (4, 147), (4, 148), (4, 154), (4, 155), (4, 156), (4, 157), (4, 158), (4, 164), (4, 167), (4, 168), (4, 171), (4, 149), (4, 128), (4, 134), (4, 141), (4, 142), (4, 151), (4, 150), (4, 152), (4, 153), (4, 161), (4, 162), (4, 160), (4, 159), (4, 165), (4, 166), (4, 163), (4, 169), (4, 170)] [(6, 137), (6, 138), (6, 139)] [(5, 54), (5, 55), (5, 34), (5, 162), (5, 171), (5, 172), (5, 193), (6, 16), (6, 20), (6, 60), (6, 61), (6, 62), (6, 63), (6, 51), (6, 120), (6, 152)] (by decide +kernel) (by decide +kernel) (by decide +kernel) (by decide +kernel)
def TbJ6 : q_Tb := ([], [(265, (1431655765 : Int32)), (266, (858993459 : Int32)), (267, (252645135 : Int32))], [])
set_option maxRecDepth 100000 in
theorem tbJ6 : q_tok RJ6 TbJ6 := q_tok_of [] [(3, 16), (3, 17), (3, 18)] [] (by decide +kernel) (by decide +kernel) (by decide +kernel) (by decide +kernel)
theorem calJ6_bitCount_0f7a4 : q_cal yJ6_bitCount_0f7a4 cJ6_bitCount_0f7a4 1 (some .int) := ⟨(q_tb1 8 rfl rfl), (q_tb3 15 rfl rfl), by decide +kernel, by decide +kernel⟩
theorem dnJ6_bitCount_0f7a4 : (parseMethodDescriptor yJ6_bitCount_0f7a4.desc).map (fun d => d.parameters.length) = some 1 := by decide +kernel
theorem inJ6_bitCount_0f7a4 : Cond.static yJ6_bitCount_0f7a4 ∈ q_tbl := (q_tb3 14 rfl rfl)
theorem calX0_chooseFirst : q_cal yX0_chooseFirst cX0_chooseFirst 6 (some .int) := ⟨(q_tb1 5 rfl rfl), (q_tb2 206 rfl rfl), by decide +kernel, by decide +kernel⟩
theorem dnX0_chooseFirst : (parseMethodDescriptor yX0_chooseFirst.desc).map (fun d => d.parameters.length) = some 0 := by decide +kernel
theorem inX0_chooseFirst : Cond.instanceMethod yX0_chooseFirst ∈ q_tbl ∧ Cond.selects yX0_chooseFirst.cls yX0_chooseFirst yX0_chooseFirst ∈ q_tbl := ⟨(q_tb2 204 rfl rfl), (q_tb2 205 rfl rfl)⟩
theorem calX0_clear : q_cal yX0_clear cX0_clear 2 none := ⟨(q_tb1 5 rfl rfl), (q_tb2 194 rfl rfl), by decide +kernel, by decide +kernel⟩
theorem dnX0_clear : (parseMethodDescriptor yX0_clear.desc).map (fun d => d.parameters.length) = some 0 := by decide +kernel
theorem inX0_clear : Cond.instanceMethod yX0_clear ∈ q_tbl ∧ Cond.selects yX0_clear.cls yX0_clear yX0_clear ∈ q_tbl := ⟨(q_tb2 193 rfl rfl), (q_sl 2 rfl rfl)⟩
theorem calX0_dearest : q_cal yX0_dearest cX0_dearest 5 (some .int) := ⟨(q_tb1 5 rfl rfl), (q_tb2 227 rfl rfl), by decide +kernel, by decide +kernel⟩
theorem dnX0_dearest : (parseMethodDescriptor yX0_dearest.desc).map (fun d => d.parameters.length) = some 1 := by decide +kernel
theorem inX0_dearest : Cond.instanceMethod yX0_dearest ∈ q_tbl ∧ Cond.selects yX0_dearest.cls yX0_dearest yX0_dearest ∈ q_tbl := ⟨(q_tb2 226 rfl rfl), (q_sl 6 rfl rfl)⟩
theorem calX0_dress : q_cal yX0_dress cX0_dress 8 (some .boolean) := ⟨(q_tb1 5 rfl rfl), (q_tb2 235 rfl rfl), by decide +kernel, by decide +kernel⟩
theorem dnX0_dress : (parseMethodDescriptor yX0_dress.desc).map (fun d => d.parameters.length) = some 2 := by decide +kernel
theorem inX0_dress : Cond.instanceMethod yX0_dress ∈ q_tbl ∧ Cond.selects yX0_dress.cls yX0_dress yX0_dress ∈ q_tbl := ⟨(q_tb2 233 rfl rfl), (q_tb2 234 rfl rfl)⟩
theorem calX0_grow : q_cal yX0_grow cX0_grow 3 none := ⟨(q_tb1 5 rfl rfl), (q_tb3 27 rfl rfl), by decide +kernel, by decide +kernel⟩
theorem dnX0_grow : (parseMethodDescriptor yX0_grow.desc).map (fun d => d.parameters.length) = some 1 := by decide +kernel
theorem inX0_grow : Cond.instanceMethod yX0_grow ∈ q_tbl ∧ Cond.selects yX0_grow.cls yX0_grow yX0_grow ∈ q_tbl := ⟨(q_tb3 25 rfl rfl), (q_tb3 26 rfl rfl)⟩
theorem calX0_leastKeeping : q_cal yX0_leastKeeping cX0_leastKeeping 7 (some .int) := ⟨(q_tb1 5 rfl rfl), (q_tb2 211 rfl rfl), by decide +kernel, by decide +kernel⟩
theorem dnX0_leastKeeping : (parseMethodDescriptor yX0_leastKeeping.desc).map (fun d => d.parameters.length) = some 4 := by decide +kernel
theorem inX0_leastKeeping : Cond.instanceMethod yX0_leastKeeping ∈ q_tbl ∧ Cond.selects yX0_leastKeeping.cls yX0_leastKeeping yX0_leastKeeping ∈ q_tbl := ⟨(q_tb2 210 rfl rfl), (q_sl 5 rfl rfl)⟩
theorem calX0_lend : q_cal yX0_lend cX0_lend 5 none := ⟨(q_tb1 5 rfl rfl), (q_tb3 7 rfl rfl), by decide +kernel, by decide +kernel⟩
theorem dnX0_lend : (parseMethodDescriptor yX0_lend.desc).map (fun d => d.parameters.length) = some 3 := by decide +kernel
theorem inX0_lend : Cond.instanceMethod yX0_lend ∈ q_tbl ∧ Cond.selects yX0_lend.cls yX0_lend yX0_lend ∈ q_tbl := ⟨(q_tb3 5 rfl rfl), (q_tb3 6 rfl rfl)⟩
theorem calX0_load : q_cal yX0_load cX0_load 5 none := ⟨(q_tb1 5 rfl rfl), (q_tb2 164 rfl rfl), by decide +kernel, by decide +kernel⟩
theorem dnX0_load : (parseMethodDescriptor yX0_load.desc).map (fun d => d.parameters.length) = some 1 := by decide +kernel
theorem inX0_load : Cond.instanceMethod yX0_load ∈ q_tbl ∧ Cond.selects yX0_load.cls yX0_load yX0_load ∈ q_tbl := ⟨(q_tb2 162 rfl rfl), (q_tb2 163 rfl rfl)⟩
theorem calX0_most : q_cal yX0_most cX0_most 5 (some .int) := ⟨(q_tb1 5 rfl rfl), (q_tb2 190 rfl rfl), by decide +kernel, by decide +kernel⟩
theorem dnX0_most : (parseMethodDescriptor yX0_most.desc).map (fun d => d.parameters.length) = some 2 := by decide +kernel
theorem inX0_most : Cond.instanceMethod yX0_most ∈ q_tbl ∧ Cond.selects yX0_most.cls yX0_most yX0_most ∈ q_tbl := ⟨(q_tb2 188 rfl rfl), (q_tb2 189 rfl rfl)⟩
theorem calX0_moveOn : q_cal yX0_moveOn cX0_moveOn 6 none := ⟨(q_tb1 5 rfl rfl), (q_tb2 202 rfl rfl), by decide +kernel, by decide +kernel⟩
theorem dnX0_moveOn : (parseMethodDescriptor yX0_moveOn.desc).map (fun d => d.parameters.length) = some 1 := by decide +kernel
theorem inX0_moveOn : Cond.instanceMethod yX0_moveOn ∈ q_tbl ∧ Cond.selects yX0_moveOn.cls yX0_moveOn yX0_moveOn ∈ q_tbl := ⟨(q_tb2 201 rfl rfl), (q_sl 4 rfl rfl)⟩
theorem calX0_richest : q_cal yX0_richest cX0_richest 7 (some .int) := ⟨(q_tb1 5 rfl rfl), (q_tb2 223 rfl rfl), by decide +kernel, by decide +kernel⟩
theorem dnX0_richest : (parseMethodDescriptor yX0_richest.desc).map (fun d => d.parameters.length) = some 2 := by decide +kernel
theorem inX0_richest : Cond.instanceMethod yX0_richest ∈ q_tbl ∧ Cond.selects yX0_richest.cls yX0_richest yX0_richest ∈ q_tbl := ⟨(q_tb2 221 rfl rfl), (q_tb2 222 rfl rfl)⟩
theorem calX0_seat : q_cal yX0_seat cX0_seat 8 (some .boolean) := ⟨(q_tb1 5 rfl rfl), (q_tb2 198 rfl rfl), by decide +kernel, by decide +kernel⟩
theorem dnX0_seat : (parseMethodDescriptor yX0_seat.desc).map (fun d => d.parameters.length) = some 2 := by decide +kernel
theorem inX0_seat : Cond.instanceMethod yX0_seat ∈ q_tbl ∧ Cond.selects yX0_seat.cls yX0_seat yX0_seat ∈ q_tbl := ⟨(q_tb2 197 rfl rfl), (q_sl 3 rfl rfl)⟩
theorem calX1_byteAt : q_cal yX1_byteAt cX1_byteAt 2 (some .int) := ⟨(q_tb1 4 rfl rfl), (q_tb2 31 rfl rfl), by decide +kernel, by decide +kernel⟩
theorem dnX1_byteAt : (parseMethodDescriptor yX1_byteAt.desc).map (fun d => d.parameters.length) = some 1 := by decide +kernel
theorem inX1_byteAt : Cond.instanceMethod yX1_byteAt ∈ q_tbl ∧ Cond.selects yX1_byteAt.cls yX1_byteAt yX1_byteAt ∈ q_tbl := ⟨(q_tb2 29 rfl rfl), (q_tb2 30 rfl rfl)⟩
theorem calX1_clear : q_cal yX1_clear cX1_clear 1 none := ⟨(q_tb1 4 rfl rfl), (q_tb3 198 rfl rfl), by decide +kernel, by decide +kernel⟩
theorem dnX1_clear : (parseMethodDescriptor yX1_clear.desc).map (fun d => d.parameters.length) = some 0 := by decide +kernel
theorem inX1_clear : Cond.instanceMethod yX1_clear ∈ q_tbl ∧ Cond.selects yX1_clear.cls yX1_clear yX1_clear ∈ q_tbl := ⟨(q_tb3 196 rfl rfl), (q_tb3 197 rfl rfl)⟩
theorem calX1_hasStretch : q_cal yX1_hasStretch cX1_hasStretch 3 (some .boolean) := ⟨(q_tb1 4 rfl rfl), (q_tb3 226 rfl rfl), by decide +kernel, by decide +kernel⟩
theorem dnX1_hasStretch : (parseMethodDescriptor yX1_hasStretch.desc).map (fun d => d.parameters.length) = some 2 := by decide +kernel
theorem inX1_hasStretch : Cond.instanceMethod yX1_hasStretch ∈ q_tbl ∧ Cond.selects yX1_hasStretch.cls yX1_hasStretch yX1_hasStretch ∈ q_tbl := ⟨(q_tb3 224 rfl rfl), (q_tb3 225 rfl rfl)⟩
theorem calX1_lay : q_cal yX1_lay cX1_lay 4 none := ⟨(q_tb1 4 rfl rfl), (q_tb3 210 rfl rfl), by decide +kernel, by decide +kernel⟩
theorem dnX1_lay : (parseMethodDescriptor yX1_lay.desc).map (fun d => d.parameters.length) = some 2 := by decide +kernel
theorem inX1_lay : Cond.instanceMethod yX1_lay ∈ q_tbl ∧ Cond.selects yX1_lay.cls yX1_lay yX1_lay ∈ q_tbl := ⟨(q_tb3 208 rfl rfl), (q_tb3 209 rfl rfl)⟩
theorem calX1_least : q_cal yX1_least cX1_least 1 (some .int) := ⟨(q_tb1 4 rfl rfl), (q_tb3 75 rfl rfl), by decide +kernel, by decide +kernel⟩
theorem dnX1_least : (parseMethodDescriptor yX1_least.desc).map (fun d => d.parameters.length) = some 0 := by decide +kernel
theorem inX1_least : Cond.instanceMethod yX1_least ∈ q_tbl ∧ Cond.selects yX1_least.cls yX1_least yX1_least ∈ q_tbl := ⟨(q_tb3 73 rfl rfl), (q_tb3 74 rfl rfl)⟩
theorem calX1_narrowed : q_cal yX1_narrowed cX1_narrowed 2 (some .int) := ⟨(q_tb1 4 rfl rfl), (q_tb3 218 rfl rfl), by decide +kernel, by decide +kernel⟩
theorem dnX1_narrowed : (parseMethodDescriptor yX1_narrowed.desc).map (fun d => d.parameters.length) = some 1 := by decide +kernel
theorem inX1_narrowed : Cond.instanceMethod yX1_narrowed ∈ q_tbl ∧ Cond.selects yX1_narrowed.cls yX1_narrowed yX1_narrowed ∈ q_tbl := ⟨(q_tb3 216 rfl rfl), (q_tb3 217 rfl rfl)⟩
theorem calX1_number : q_cal yX1_number cX1_number 5 (some .int) := ⟨(q_tb1 4 rfl rfl), (q_tb2 59 rfl rfl), by decide +kernel, by decide +kernel⟩
theorem dnX1_number : (parseMethodDescriptor yX1_number.desc).map (fun d => d.parameters.length) = some 2 := by decide +kernel
theorem inX1_number : Cond.instanceMethod yX1_number ∈ q_tbl ∧ Cond.selects yX1_number.cls yX1_number yX1_number ∈ q_tbl := ⟨(q_tb2 57 rfl rfl), (q_tb2 58 rfl rfl)⟩
theorem calX1_refusal : q_cal yX1_refusal cX1_refusal 2 (some .int) := ⟨(q_tb1 4 rfl rfl), (q_tb2 135 rfl rfl), by decide +kernel, by decide +kernel⟩
theorem dnX1_refusal : (parseMethodDescriptor yX1_refusal.desc).map (fun d => d.parameters.length) = some 1 := by decide +kernel
theorem inX1_refusal : Cond.instanceMethod yX1_refusal ∈ q_tbl ∧ Cond.selects yX1_refusal.cls yX1_refusal yX1_refusal ∈ q_tbl := ⟨(q_tb2 133 rfl rfl), (q_tb2 134 rfl rfl)⟩
theorem calX2_addBooking : q_cal yX2_addBooking cX2_addBooking 5 (some .int) := ⟨(q_tb1 2 rfl rfl), (q_tb2 77 rfl rfl), by decide +kernel, by decide +kernel⟩
theorem dnX2_addBooking : (parseMethodDescriptor yX2_addBooking.desc).map (fun d => d.parameters.length) = some 3 := by decide +kernel
theorem inX2_addBooking : Cond.instanceMethod yX2_addBooking ∈ q_tbl ∧ Cond.selects yX2_addBooking.cls yX2_addBooking yX2_addBooking ∈ q_tbl := ⟨(q_tb2 75 rfl rfl), (q_tb2 76 rfl rfl)⟩
theorem calX2_allWorn : q_cal yX2_allWorn cX2_allWorn 3 (some .int) := ⟨(q_tb1 2 rfl rfl), (q_tb3 190 rfl rfl), by decide +kernel, by decide +kernel⟩
theorem dnX2_allWorn : (parseMethodDescriptor yX2_allWorn.desc).map (fun d => d.parameters.length) = some 0 := by decide +kernel
theorem inX2_allWorn : Cond.instanceMethod yX2_allWorn ∈ q_tbl ∧ Cond.selects yX2_allWorn.cls yX2_allWorn yX2_allWorn ∈ q_tbl := ⟨(q_tb3 188 rfl rfl), (q_tb3 189 rfl rfl)⟩
theorem calX2_canHire : q_cal yX2_canHire cX2_canHire 4 (some .boolean) := ⟨(q_tb1 2 rfl rfl), (q_tb2 95 rfl rfl), by decide +kernel, by decide +kernel⟩
theorem dnX2_canHire : (parseMethodDescriptor yX2_canHire.desc).map (fun d => d.parameters.length) = some 3 := by decide +kernel
theorem inX2_canHire : Cond.instanceMethod yX2_canHire ∈ q_tbl ∧ Cond.selects yX2_canHire.cls yX2_canHire yX2_canHire ∈ q_tbl := ⟨(q_tb2 93 rfl rfl), (q_tb2 94 rfl rfl)⟩
theorem calX2_clean : q_cal yX2_clean cX2_clean 3 (some .int) := ⟨(q_tb1 2 rfl rfl), (q_tb2 115 rfl rfl), by decide +kernel, by decide +kernel⟩
theorem dnX2_clean : (parseMethodDescriptor yX2_clean.desc).map (fun d => d.parameters.length) = some 1 := by decide +kernel
theorem inX2_clean : Cond.instanceMethod yX2_clean ∈ q_tbl ∧ Cond.selects yX2_clean.cls yX2_clean yX2_clean ∈ q_tbl := ⟨(q_tb2 113 rfl rfl), (q_tb2 114 rfl rfl)⟩
theorem calX2_couldChange : q_cal yX2_couldChange cX2_couldChange 5 (some .boolean) := ⟨(q_tb1 2 rfl rfl), (q_tb3 130 rfl rfl), by decide +kernel, by decide +kernel⟩
theorem dnX2_couldChange : (parseMethodDescriptor yX2_couldChange.desc).map (fun d => d.parameters.length) = some 2 := by decide +kernel
theorem inX2_couldChange : Cond.instanceMethod yX2_couldChange ∈ q_tbl ∧ Cond.selects yX2_couldChange.cls yX2_couldChange yX2_couldChange ∈ q_tbl := ⟨(q_tb3 128 rfl rfl), (q_tb3 129 rfl rfl)⟩
theorem calX2_giveBack : q_cal yX2_giveBack cX2_giveBack 3 (some .int) := ⟨(q_tb1 2 rfl rfl), (q_tb2 107 rfl rfl), by decide +kernel, by decide +kernel⟩
theorem dnX2_giveBack : (parseMethodDescriptor yX2_giveBack.desc).map (fun d => d.parameters.length) = some 1 := by decide +kernel
theorem inX2_giveBack : Cond.instanceMethod yX2_giveBack ∈ q_tbl ∧ Cond.selects yX2_giveBack.cls yX2_giveBack yX2_giveBack ∈ q_tbl := ⟨(q_tb2 105 rfl rfl), (q_tb2 106 rfl rfl)⟩
theorem calX2_groupBits : q_cal yX2_groupBits cX2_groupBits 4 (some .int) := ⟨(q_tb1 2 rfl rfl), (q_tb2 239 rfl rfl), by decide +kernel, by decide +kernel⟩
theorem dnX2_groupBits : (parseMethodDescriptor yX2_groupBits.desc).map (fun d => d.parameters.length) = some 1 := by decide +kernel
theorem inX2_groupBits : Cond.instanceMethod yX2_groupBits ∈ q_tbl ∧ Cond.selects yX2_groupBits.cls yX2_groupBits yX2_groupBits ∈ q_tbl := ⟨(q_tb2 237 rfl rfl), (q_tb2 238 rfl rfl)⟩
theorem calX2_growthWeight : q_cal yX2_growthWeight cX2_growthWeight 6 (some .long) := ⟨(q_tb1 2 rfl rfl), (q_tb3 22 rfl rfl), by decide +kernel, by decide +kernel⟩
theorem dnX2_growthWeight : (parseMethodDescriptor yX2_growthWeight.desc).map (fun d => d.parameters.length) = some 2 := by decide +kernel
theorem inX2_growthWeight : Cond.instanceMethod yX2_growthWeight ∈ q_tbl ∧ Cond.selects yX2_growthWeight.cls yX2_growthWeight yX2_growthWeight ∈ q_tbl := ⟨(q_tb3 20 rfl rfl), (q_tb3 21 rfl rfl)⟩
theorem calX2_hire : q_cal yX2_hire cX2_hire 3 (some .int) := ⟨(q_tb1 2 rfl rfl), (q_tb2 81 rfl rfl), by decide +kernel, by decide +kernel⟩
theorem dnX2_hire : (parseMethodDescriptor yX2_hire.desc).map (fun d => d.parameters.length) = some 2 := by decide +kernel
theorem inX2_hire : Cond.instanceMethod yX2_hire ∈ q_tbl ∧ Cond.selects yX2_hire.cls yX2_hire yX2_hire ∈ q_tbl := ⟨(q_tb2 79 rfl rfl), (q_tb2 80 rfl rfl)⟩
theorem calX2_holderOf : q_cal yX2_holderOf cX2_holderOf 3 (some .int) := ⟨(q_tb1 2 rfl rfl), (q_tb2 111 rfl rfl), by decide +kernel, by decide +kernel⟩
theorem dnX2_holderOf : (parseMethodDescriptor yX2_holderOf.desc).map (fun d => d.parameters.length) = some 1 := by decide +kernel
theorem inX2_holderOf : Cond.instanceMethod yX2_holderOf ∈ q_tbl ∧ Cond.selects yX2_holderOf.cls yX2_holderOf yX2_holderOf ∈ q_tbl := ⟨(q_tb2 109 rfl rfl), (q_tb2 110 rfl rfl)⟩
theorem calX2_hoursOf : q_cal yX2_hoursOf cX2_hoursOf 4 (some .int) := ⟨(q_tb1 2 rfl rfl), (q_tb3 81 rfl rfl), by decide +kernel, by decide +kernel⟩
theorem dnX2_hoursOf : (parseMethodDescriptor yX2_hoursOf.desc).map (fun d => d.parameters.length) = some 1 := by decide +kernel
theorem inX2_hoursOf : Cond.instanceMethod yX2_hoursOf ∈ q_tbl ∧ Cond.selects yX2_hoursOf.cls yX2_hoursOf yX2_hoursOf ∈ q_tbl := ⟨(q_tb3 79 rfl rfl), (q_tb3 80 rfl rfl)⟩
theorem calX2_isBooking : q_cal yX2_isBooking cX2_isBooking 2 (some .boolean) := ⟨(q_tb1 2 rfl rfl), (q_tb2 90 rfl rfl), by decide +kernel, by decide +kernel⟩
theorem dnX2_isBooking : (parseMethodDescriptor yX2_isBooking.desc).map (fun d => d.parameters.length) = some 1 := by decide +kernel
theorem inX2_isBooking : Cond.instanceMethod yX2_isBooking ∈ q_tbl ∧ Cond.selects yX2_isBooking.cls yX2_isBooking yX2_isBooking ∈ q_tbl := ⟨(q_tb2 88 rfl rfl), (q_tb2 89 rfl rfl)⟩
theorem calX2_isRightFor : q_cal yX2_isRightFor cX2_isRightFor 3 (some .boolean) := ⟨(q_tb1 2 rfl rfl), (q_tb2 99 rfl rfl), by decide +kernel, by decide +kernel⟩
theorem dnX2_isRightFor : (parseMethodDescriptor yX2_isRightFor.desc).map (fun d => d.parameters.length) = some 2 := by decide +kernel
theorem inX2_isRightFor : Cond.instanceMethod yX2_isRightFor ∈ q_tbl ∧ Cond.selects yX2_isRightFor.cls yX2_isRightFor yX2_isRightFor ∈ q_tbl := ⟨(q_tb2 97 rfl rfl), (q_tb2 98 rfl rfl)⟩
theorem calX2_isSuit : q_cal yX2_isSuit cX2_isSuit 2 (some .boolean) := ⟨(q_tb1 2 rfl rfl), (q_tb2 85 rfl rfl), by decide +kernel, by decide +kernel⟩
theorem dnX2_isSuit : (parseMethodDescriptor yX2_isSuit.desc).map (fun d => d.parameters.length) = some 1 := by decide +kernel
theorem inX2_isSuit : Cond.instanceMethod yX2_isSuit ∈ q_tbl ∧ Cond.selects yX2_isSuit.cls yX2_isSuit yX2_isSuit ∈ q_tbl := ⟨(q_tb2 83 rfl rfl), (q_tb2 84 rfl rfl)⟩
theorem calX2_kindOf : q_cal yX2_kindOf cX2_kindOf 3 (some (.object "BackByNoonOnMonday$Suit")) := ⟨(q_tb1 2 rfl rfl), (q_tb2 49 rfl rfl), by decide +kernel, by decide +kernel⟩
theorem dnX2_kindOf : (parseMethodDescriptor yX2_kindOf.desc).map (fun d => d.parameters.length) = some 1 := by decide +kernel
theorem inX2_kindOf : Cond.instanceMethod yX2_kindOf ∈ q_tbl ∧ Cond.selects yX2_kindOf.cls yX2_kindOf yX2_kindOf ∈ q_tbl := ⟨(q_tb2 47 rfl rfl), (q_tb2 48 rfl rfl)⟩
theorem calX2_leastFor : q_cal yX2_leastFor cX2_leastFor 5 (some .int) := ⟨(q_tb1 2 rfl rfl), (q_tb3 174 rfl rfl), by decide +kernel, by decide +kernel⟩
theorem dnX2_leastFor : (parseMethodDescriptor yX2_leastFor.desc).map (fun d => d.parameters.length) = some 3 := by decide +kernel
theorem inX2_leastFor : Cond.instanceMethod yX2_leastFor ∈ q_tbl ∧ Cond.selects yX2_leastFor.cls yX2_leastFor yX2_leastFor ∈ q_tbl := ⟨(q_tb3 172 rfl rfl), (q_tb3 173 rfl rfl)⟩
theorem calX2_openBookings : q_cal yX2_openBookings cX2_openBookings 3 (some .int) := ⟨(q_tb1 2 rfl rfl), (q_tb2 168 rfl rfl), by decide +kernel, by decide +kernel⟩
theorem dnX2_openBookings : (parseMethodDescriptor yX2_openBookings.desc).map (fun d => d.parameters.length) = some 0 := by decide +kernel
theorem inX2_openBookings : Cond.instanceMethod yX2_openBookings ∈ q_tbl ∧ Cond.selects yX2_openBookings.cls yX2_openBookings yX2_openBookings ∈ q_tbl := ⟨(q_tb2 166 rfl rfl), (q_tb2 167 rfl rfl)⟩
theorem calX2_reaches : q_cal yX2_reaches cX2_reaches 4 (some .boolean) := ⟨(q_tb1 2 rfl rfl), (q_tb2 103 rfl rfl), by decide +kernel, by decide +kernel⟩
theorem dnX2_reaches : (parseMethodDescriptor yX2_reaches.desc).map (fun d => d.parameters.length) = some 3 := by decide +kernel
theorem inX2_reaches : Cond.instanceMethod yX2_reaches ∈ q_tbl ∧ Cond.selects yX2_reaches.cls yX2_reaches yX2_reaches ∈ q_tbl := ⟨(q_tb2 101 rfl rfl), (q_tb2 102 rfl rfl)⟩
theorem calX2_suitsThatAre : q_cal yX2_suitsThatAre cX2_suitsThatAre 4 (some .int) := ⟨(q_tb1 2 rfl rfl), (q_tb2 172 rfl rfl), by decide +kernel, by decide +kernel⟩
theorem dnX2_suitsThatAre : (parseMethodDescriptor yX2_suitsThatAre.desc).map (fun d => d.parameters.length) = some 1 := by decide +kernel
theorem inX2_suitsThatAre : Cond.instanceMethod yX2_suitsThatAre ∈ q_tbl ∧ Cond.selects yX2_suitsThatAre.cls yX2_suitsThatAre yX2_suitsThatAre ∈ q_tbl := ⟨(q_tb2 170 rfl rfl), (q_tb2 171 rfl rfl)⟩
theorem calX2_takers : q_cal yX2_takers cX2_takers 6 (some .int) := ⟨(q_tb1 2 rfl rfl), (q_tb2 181 rfl rfl), by decide +kernel, by decide +kernel⟩
theorem dnX2_takers : (parseMethodDescriptor yX2_takers.desc).map (fun d => d.parameters.length) = some 3 := by decide +kernel
theorem inX2_takers : Cond.instanceMethod yX2_takers ∈ q_tbl ∧ Cond.selects yX2_takers.cls yX2_takers yX2_takers ∈ q_tbl := ⟨(q_tb2 179 rfl rfl), (q_tb2 180 rfl rfl)⟩
theorem calX3_isBlack : q_cal yX3_isBlack cX3_isBlack 1 (some .boolean) := ⟨(q_tb1 3 rfl rfl), (q_tb1 39 rfl rfl), by decide +kernel, by decide +kernel⟩
theorem dnX3_isBlack : (parseMethodDescriptor yX3_isBlack.desc).map (fun d => d.parameters.length) = some 1 := by decide +kernel
theorem inX3_isBlack : Cond.static yX3_isBlack ∈ q_tbl := (q_tb1 38 rfl rfl)
theorem calX3_isMixed : q_cal yX3_isMixed cX3_isMixed 1 (some .boolean) := ⟨(q_tb1 3 rfl rfl), (q_tb1 42 rfl rfl), by decide +kernel, by decide +kernel⟩
theorem dnX3_isMixed : (parseMethodDescriptor yX3_isMixed.desc).map (fun d => d.parameters.length) = some 1 := by decide +kernel
theorem inX3_isMixed : Cond.static yX3_isMixed ∈ q_tbl := (q_tb1 41 rfl rfl)
theorem calX4_alike : q_cal yX4_alike cX4_alike 4 (some .int) := ⟨(q_tb1 1 rfl rfl), (q_tb2 231 rfl rfl), by decide +kernel, by decide +kernel⟩
theorem dnX4_alike : (parseMethodDescriptor yX4_alike.desc).map (fun d => d.parameters.length) = some 0 := by decide +kernel
theorem inX4_alike : Cond.instanceMethod yX4_alike ∈ q_tbl ∧ Cond.selects yX4_alike.cls yX4_alike yX4_alike ∈ q_tbl := ⟨(q_tb2 229 rfl rfl), (q_tb2 230 rfl rfl)⟩
theorem calX4_at : q_cal yX4_at cX4_at 2 (some .int) := ⟨(q_tb1 1 rfl rfl), (q_tb2 34 rfl rfl), by decide +kernel, by decide +kernel⟩
theorem dnX4_at : (parseMethodDescriptor yX4_at.desc).map (fun d => d.parameters.length) = some 2 := by decide +kernel
theorem inX4_at : Cond.static yX4_at ∈ q_tbl := (q_tb2 33 rfl rfl)
theorem calX4_atFive : q_cal yX4_atFive cX4_atFive 4 (some .int) := ⟨(q_tb1 1 rfl rfl), (q_tb3 117 rfl rfl), by decide +kernel, by decide +kernel⟩
theorem dnX4_atFive : (parseMethodDescriptor yX4_atFive.desc).map (fun d => d.parameters.length) = some 3 := by decide +kernel
theorem inX4_atFive : Cond.instanceMethod yX4_atFive ∈ q_tbl ∧ Cond.selects yX4_atFive.cls yX4_atFive yX4_atFive ∈ q_tbl := ⟨(q_tb3 115 rfl rfl), (q_tb3 116 rfl rfl)⟩
theorem calX4_bestFee : q_cal yX4_bestFee cX4_bestFee 3 (some .int) := ⟨(q_tb1 1 rfl rfl), (q_tb3 113 rfl rfl), by decide +kernel, by decide +kernel⟩
theorem dnX4_bestFee : (parseMethodDescriptor yX4_bestFee.desc).map (fun d => d.parameters.length) = some 0 := by decide +kernel
theorem inX4_bestFee : Cond.instanceMethod yX4_bestFee ∈ q_tbl ∧ Cond.selects yX4_bestFee.cls yX4_bestFee yX4_bestFee ∈ q_tbl := ⟨(q_tb3 111 rfl rfl), (q_tb3 112 rfl rfl)⟩
theorem calX4_booking : q_cal yX4_booking cX4_booking 3 (some .int) := ⟨(q_tb1 1 rfl rfl), (q_tb2 126 rfl rfl), by decide +kernel, by decide +kernel⟩
theorem dnX4_booking : (parseMethodDescriptor yX4_booking.desc).map (fun d => d.parameters.length) = some 2 := by decide +kernel
theorem inX4_booking : Cond.instanceMethod yX4_booking ∈ q_tbl ∧ Cond.selects yX4_booking.cls yX4_booking yX4_booking ∈ q_tbl := ⟨(q_tb2 124 rfl rfl), (q_tb2 125 rfl rfl)⟩
theorem calX4_books : q_cal yX4_books cX4_books 4 (some .int) := ⟨(q_tb1 1 rfl rfl), (q_tb2 139 rfl rfl), by decide +kernel, by decide +kernel⟩
theorem dnX4_books : (parseMethodDescriptor yX4_books.desc).map (fun d => d.parameters.length) = some 3 := by decide +kernel
theorem inX4_books : Cond.instanceMethod yX4_books ∈ q_tbl ∧ Cond.selects yX4_books.cls yX4_books yX4_books ∈ q_tbl := ⟨(q_tb2 137 rfl rfl), (q_tb2 138 rfl rfl)⟩
theorem calX4_cleans : q_cal yX4_cleans cX4_cleans 2 (some .int) := ⟨(q_tb1 1 rfl rfl), (q_tb2 151 rfl rfl), by decide +kernel, by decide +kernel⟩
theorem dnX4_cleans : (parseMethodDescriptor yX4_cleans.desc).map (fun d => d.parameters.length) = some 1 := by decide +kernel
theorem inX4_cleans : Cond.instanceMethod yX4_cleans ∈ q_tbl ∧ Cond.selects yX4_cleans.cls yX4_cleans yX4_cleans ∈ q_tbl := ⟨(q_tb2 149 rfl rfl), (q_tb2 150 rfl rfl)⟩
theorem calX4_come : q_cal yX4_come cX4_come 6 (some .long) := ⟨(q_tb1 1 rfl rfl), (q_tb3 41 rfl rfl), by decide +kernel, by decide +kernel⟩
theorem dnX4_come : (parseMethodDescriptor yX4_come.desc).map (fun d => d.parameters.length) = some 2 := by decide +kernel
theorem inX4_come : Cond.instanceMethod yX4_come ∈ q_tbl ∧ Cond.selects yX4_come.cls yX4_come yX4_come ∈ q_tbl := ⟨(q_tb3 39 rfl rfl), (q_tb3 40 rfl rfl)⟩
theorem calX4_comersFor : q_cal yX4_comersFor cX4_comersFor 4 (some .int) := ⟨(q_tb1 1 rfl rfl), (q_tb3 109 rfl rfl), by decide +kernel, by decide +kernel⟩
theorem dnX4_comersFor : (parseMethodDescriptor yX4_comersFor.desc).map (fun d => d.parameters.length) = some 1 := by decide +kernel
theorem inX4_comersFor : Cond.instanceMethod yX4_comersFor ∈ q_tbl ∧ Cond.selects yX4_comersFor.cls yX4_comersFor yX4_comersFor ∈ q_tbl := ⟨(q_tb3 108 rfl rfl), (q_sl 14 rfl rfl)⟩
theorem calX4_commonDivisor : q_cal yX4_commonDivisor cX4_commonDivisor 11 (some .long) := ⟨(q_tb1 1 rfl rfl), (q_tb3 37 rfl rfl), by decide +kernel, by decide +kernel⟩
theorem dnX4_commonDivisor : (parseMethodDescriptor yX4_commonDivisor.desc).map (fun d => d.parameters.length) = some 2 := by decide +kernel
theorem inX4_commonDivisor : Cond.static yX4_commonDivisor ∈ q_tbl := (q_tb3 36 rfl rfl)
theorem calX4_cost : q_cal yX4_cost cX4_cost 4 (some .int) := ⟨(q_tb1 1 rfl rfl), (q_tb3 233 rfl rfl), by decide +kernel, by decide +kernel⟩
theorem dnX4_cost : (parseMethodDescriptor yX4_cost.desc).map (fun d => d.parameters.length) = some 1 := by decide +kernel
theorem inX4_cost : Cond.instanceMethod yX4_cost ∈ q_tbl ∧ Cond.selects yX4_cost.cls yX4_cost yX4_cost ∈ q_tbl := ⟨(q_tb3 231 rfl rfl), (q_tb3 232 rfl rfl)⟩
theorem calX4_count : q_cal yX4_count cX4_count 2 (some .int) := ⟨(q_tb1 1 rfl rfl), (q_tb3 186 rfl rfl), by decide +kernel, by decide +kernel⟩
theorem dnX4_count : (parseMethodDescriptor yX4_count.desc).map (fun d => d.parameters.length) = some 1 := by decide +kernel
theorem inX4_count : Cond.instanceMethod yX4_count ∈ q_tbl ∧ Cond.selects yX4_count.cls yX4_count yX4_count ∈ q_tbl := ⟨(q_tb3 184 rfl rfl), (q_tb3 185 rfl rfl)⟩
theorem calX4_digitsBehind : q_cal yX4_digitsBehind cX4_digitsBehind 1 (some .int) := ⟨(q_tb1 1 rfl rfl), (q_tb2 37 rfl rfl), by decide +kernel, by decide +kernel⟩
theorem dnX4_digitsBehind : (parseMethodDescriptor yX4_digitsBehind.desc).map (fun d => d.parameters.length) = some 1 := by decide +kernel
theorem inX4_digitsBehind : Cond.static yX4_digitsBehind ∈ q_tbl := (q_tb2 36 rfl rfl)
theorem calX4_drawBelow : q_cal yX4_drawBelow cX4_drawBelow 2 (some .int) := ⟨(q_tb1 1 rfl rfl), (q_tb3 168 rfl rfl), by decide +kernel, by decide +kernel⟩
theorem dnX4_drawBelow : (parseMethodDescriptor yX4_drawBelow.desc).map (fun d => d.parameters.length) = some 2 := by decide +kernel
theorem inX4_drawBelow : Cond.static yX4_drawBelow ∈ q_tbl := (q_tb3 167 rfl rfl)
theorem calX4_earned : q_cal yX4_earned cX4_earned 1 (some .int) := ⟨(q_tb1 1 rfl rfl), (q_tb2 219 rfl rfl), by decide +kernel, by decide +kernel⟩
theorem dnX4_earned : (parseMethodDescriptor yX4_earned.desc).map (fun d => d.parameters.length) = some 0 := by decide +kernel
theorem inX4_earned : Cond.instanceMethod yX4_earned ∈ q_tbl ∧ Cond.selects yX4_earned.cls yX4_earned yX4_earned ∈ q_tbl := ⟨(q_tb2 217 rfl rfl), (q_tb2 218 rfl rfl)⟩
theorem calX4_fee : q_cal yX4_fee cX4_fee 3 (some .int) := ⟨(q_tb1 1 rfl rfl), (q_tb3 101 rfl rfl), by decide +kernel, by decide +kernel⟩
theorem dnX4_fee : (parseMethodDescriptor yX4_fee.desc).map (fun d => d.parameters.length) = some 2 := by decide +kernel
theorem inX4_fee : Cond.instanceMethod yX4_fee ∈ q_tbl ∧ Cond.selects yX4_fee.cls yX4_fee yX4_fee ∈ q_tbl := ⟨(q_tb3 99 rfl rfl), (q_tb3 100 rfl rfl)⟩
theorem calX4_feeTenths : q_cal yX4_feeTenths cX4_feeTenths 6 (some .int) := ⟨(q_tb1 1 rfl rfl), (q_tb3 105 rfl rfl), by decide +kernel, by decide +kernel⟩
theorem dnX4_feeTenths : (parseMethodDescriptor yX4_feeTenths.desc).map (fun d => d.parameters.length) = some 1 := by decide +kernel
theorem inX4_feeTenths : Cond.instanceMethod yX4_feeTenths ∈ q_tbl ∧ Cond.selects yX4_feeTenths.cls yX4_feeTenths yX4_feeTenths ∈ q_tbl := ⟨(q_tb3 104 rfl rfl), (q_sl 13 rfl rfl)⟩
theorem calX4_fill : q_cal yX4_fill cX4_fill 3 none := ⟨(q_tb1 1 rfl rfl), (q_tb2 52 rfl rfl), by decide +kernel, by decide +kernel⟩
theorem dnX4_fill : (parseMethodDescriptor yX4_fill.desc).map (fun d => d.parameters.length) = some 2 := by decide +kernel
theorem inX4_fill : Cond.static yX4_fill ∈ q_tbl := (q_tb2 51 rfl rfl)
theorem calX4_fillWays : q_cal yX4_fillWays cX4_fillWays 4 none := ⟨(q_tb1 1 rfl rfl), (q_tb3 45 rfl rfl), by decide +kernel, by decide +kernel⟩
theorem dnX4_fillWays : (parseMethodDescriptor yX4_fillWays.desc).map (fun d => d.parameters.length) = some 0 := by decide +kernel
theorem inX4_fillWays : Cond.instanceMethod yX4_fillWays ∈ q_tbl ∧ Cond.selects yX4_fillWays.cls yX4_fillWays yX4_fillWays ∈ q_tbl := ⟨(q_tb3 44 rfl rfl), (q_sl 7 rfl rfl)⟩
theorem calX4_firstBadByte : q_cal yX4_firstBadByte cX4_firstBadByte 5 (some .int) := ⟨(q_tb1 1 rfl rfl), (q_tb2 27 rfl rfl), by decide +kernel, by decide +kernel⟩
theorem dnX4_firstBadByte : (parseMethodDescriptor yX4_firstBadByte.desc).map (fun d => d.parameters.length) = some 1 := by decide +kernel
theorem inX4_firstBadByte : Cond.static yX4_firstBadByte ∈ q_tbl := (q_tb2 26 rfl rfl)
theorem calX4_firstCleaned : q_cal yX4_firstCleaned cX4_firstCleaned 4 (some .int) := ⟨(q_tb1 1 rfl rfl), (q_tb3 97 rfl rfl), by decide +kernel, by decide +kernel⟩
theorem dnX4_firstCleaned : (parseMethodDescriptor yX4_firstCleaned.desc).map (fun d => d.parameters.length) = some 2 := by decide +kernel
theorem inX4_firstCleaned : Cond.instanceMethod yX4_firstCleaned ∈ q_tbl ∧ Cond.selects yX4_firstCleaned.cls yX4_firstCleaned yX4_firstCleaned ∈ q_tbl := ⟨(q_tb3 96 rfl rfl), (q_sl 12 rfl rfl)⟩
theorem calX4_firstForged : q_cal yX4_firstForged cX4_firstForged 5 (some .int) := ⟨(q_tb1 1 rfl rfl), (q_tb3 146 rfl rfl), by decide +kernel, by decide +kernel⟩
theorem dnX4_firstForged : (parseMethodDescriptor yX4_firstForged.desc).map (fun d => d.parameters.length) = some 1 := by decide +kernel
theorem inX4_firstForged : Cond.instanceMethod yX4_firstForged ∈ q_tbl ∧ Cond.selects yX4_firstForged.cls yX4_firstForged yX4_firstForged ∈ q_tbl := ⟨(q_tb3 145 rfl rfl), (q_sl 15 rfl rfl)⟩
theorem calX4_fits : q_cal yX4_fits cX4_fits 3 (some .int) := ⟨(q_tb1 1 rfl rfl), (q_tb2 155 rfl rfl), by decide +kernel, by decide +kernel⟩
theorem dnX4_fits : (parseMethodDescriptor yX4_fits.desc).map (fun d => d.parameters.length) = some 2 := by decide +kernel
theorem inX4_fits : Cond.instanceMethod yX4_fits ∈ q_tbl ∧ Cond.selects yX4_fits.cls yX4_fits yX4_fits ∈ q_tbl := ⟨(q_tb2 153 rfl rfl), (q_tb2 154 rfl rfl)⟩
theorem calX4_forged : q_cal yX4_forged cX4_forged 4 (some .int) := ⟨(q_tb1 1 rfl rfl), (q_tb3 153 rfl rfl), by decide +kernel, by decide +kernel⟩
theorem dnX4_forged : (parseMethodDescriptor yX4_forged.desc).map (fun d => d.parameters.length) = some 1 := by decide +kernel
theorem inX4_forged : Cond.instanceMethod yX4_forged ∈ q_tbl ∧ Cond.selects yX4_forged.cls yX4_forged yX4_forged ∈ q_tbl := ⟨(q_tb3 151 rfl rfl), (q_tb3 152 rfl rfl)⟩
theorem calX4_friday : q_cal yX4_friday cX4_friday 6 (some .int) := ⟨(q_tb1 1 rfl rfl), (q_tb3 126 rfl rfl), by decide +kernel, by decide +kernel⟩
theorem dnX4_friday : (parseMethodDescriptor yX4_friday.desc).map (fun d => d.parameters.length) = some 1 := by decide +kernel
theorem inX4_friday : Cond.instanceMethod yX4_friday ∈ q_tbl ∧ Cond.selects yX4_friday.cls yX4_friday yX4_friday ∈ q_tbl := ⟨(q_tb3 124 rfl rfl), (q_tb3 125 rfl rfl)⟩
theorem calX4_grown : q_cal yX4_grown cX4_grown 8 (some .long) := ⟨(q_tb1 1 rfl rfl), (q_tb3 11 rfl rfl), by decide +kernel, by decide +kernel⟩
theorem dnX4_grown : (parseMethodDescriptor yX4_grown.desc).map (fun d => d.parameters.length) = some 1 := by decide +kernel
theorem inX4_grown : Cond.instanceMethod yX4_grown ∈ q_tbl ∧ Cond.selects yX4_grown.cls yX4_grown yX4_grown ∈ q_tbl := ⟨(q_tb3 9 rfl rfl), (q_tb3 10 rfl rfl)⟩
theorem calX4_hasBit : q_cal yX4_hasBit cX4_hasBit 2 (some .boolean) := ⟨(q_tb1 1 rfl rfl), (q_tb2 177 rfl rfl), by decide +kernel, by decide +kernel⟩
theorem dnX4_hasBit : (parseMethodDescriptor yX4_hasBit.desc).map (fun d => d.parameters.length) = some 2 := by decide +kernel
theorem inX4_hasBit : Cond.static yX4_hasBit ∈ q_tbl := (q_tb2 176 rfl rfl)
theorem calX4_hires : q_cal yX4_hires cX4_hires 3 (some .int) := ⟨(q_tb1 1 rfl rfl), (q_tb2 143 rfl rfl), by decide +kernel, by decide +kernel⟩
theorem dnX4_hires : (parseMethodDescriptor yX4_hires.desc).map (fun d => d.parameters.length) = some 2 := by decide +kernel
theorem inX4_hires : Cond.instanceMethod yX4_hires ∈ q_tbl ∧ Cond.selects yX4_hires.cls yX4_hires yX4_hires ∈ q_tbl := ⟨(q_tb2 141 rfl rfl), (q_tb2 142 rfl rfl)⟩
theorem calX4_inTime : q_cal yX4_inTime cX4_inTime 7 (some .boolean) := ⟨(q_tb1 1 rfl rfl), (q_tb3 93 rfl rfl), by decide +kernel, by decide +kernel⟩
theorem dnX4_inTime : (parseMethodDescriptor yX4_inTime.desc).map (fun d => d.parameters.length) = some 2 := by decide +kernel
theorem inX4_inTime : Cond.instanceMethod yX4_inTime ∈ q_tbl ∧ Cond.selects yX4_inTime.cls yX4_inTime yX4_inTime ∈ q_tbl := ⟨(q_tb3 92 rfl rfl), (q_sl 11 rfl rfl)⟩
theorem calX4_isIn : q_cal yX4_isIn cX4_isIn 3 (some .boolean) := ⟨(q_tb1 1 rfl rfl), (q_tb2 20 rfl rfl), by decide +kernel, by decide +kernel⟩
theorem dnX4_isIn : (parseMethodDescriptor yX4_isIn.desc).map (fun d => d.parameters.length) = some 3 := by decide +kernel
theorem inX4_isIn : Cond.static yX4_isIn ∈ q_tbl := (q_tb2 19 rfl rfl)
theorem calX4_isShelf : q_cal yX4_isShelf cX4_isShelf 1 (some .boolean) := ⟨(q_tb1 1 rfl rfl), (q_tb2 17 rfl rfl), by decide +kernel, by decide +kernel⟩
theorem dnX4_isShelf : (parseMethodDescriptor yX4_isShelf.desc).map (fun d => d.parameters.length) = some 1 := by decide +kernel
theorem inX4_isShelf : Cond.static yX4_isShelf ∈ q_tbl := (q_tb2 16 rfl rfl)
theorem calX4_judge : q_cal yX4_judge cX4_judge 8 (some .int) := ⟨(q_tb1 1 rfl rfl), (q_tb3 157 rfl rfl), by decide +kernel, by decide +kernel⟩
theorem dnX4_judge : (parseMethodDescriptor yX4_judge.desc).map (fun d => d.parameters.length) = some 1 := by decide +kernel
theorem inX4_judge : Cond.instanceMethod yX4_judge ∈ q_tbl ∧ Cond.selects yX4_judge.cls yX4_judge yX4_judge ∈ q_tbl := ⟨(q_tb3 155 rfl rfl), (q_tb3 156 rfl rfl)⟩
theorem calX4_leftOver : q_cal yX4_leftOver cX4_leftOver 1 (some .int) := ⟨(q_tb1 1 rfl rfl), (q_tb2 215 rfl rfl), by decide +kernel, by decide +kernel⟩
theorem dnX4_leftOver : (parseMethodDescriptor yX4_leftOver.desc).map (fun d => d.parameters.length) = some 0 := by decide +kernel
theorem inX4_leftOver : Cond.instanceMethod yX4_leftOver ∈ q_tbl ∧ Cond.selects yX4_leftOver.cls yX4_leftOver yX4_leftOver ∈ q_tbl := ⟨(q_tb2 213 rfl rfl), (q_tb2 214 rfl rfl)⟩
theorem calX4_mostReady : q_cal yX4_mostReady cX4_mostReady 4 (some .int) := ⟨(q_tb1 1 rfl rfl), (q_tb3 89 rfl rfl), by decide +kernel, by decide +kernel⟩
theorem dnX4_mostReady : (parseMethodDescriptor yX4_mostReady.desc).map (fun d => d.parameters.length) = some 1 := by decide +kernel
theorem inX4_mostReady : Cond.instanceMethod yX4_mostReady ∈ q_tbl ∧ Cond.selects yX4_mostReady.cls yX4_mostReady yX4_mostReady ∈ q_tbl := ⟨(q_tb3 88 rfl rfl), (q_sl 10 rfl rfl)⟩
theorem calX4_nextSeed : q_cal yX4_nextSeed cX4_nextSeed 1 (some .int) := ⟨(q_tb1 1 rfl rfl), (q_tb3 164 rfl rfl), by decide +kernel, by decide +kernel⟩
theorem dnX4_nextSeed : (parseMethodDescriptor yX4_nextSeed.desc).map (fun d => d.parameters.length) = some 1 := by decide +kernel
theorem inX4_nextSeed : Cond.static yX4_nextSeed ∈ q_tbl := (q_tb3 163 rfl rfl)
theorem calX4_orderCleaning : q_cal yX4_orderCleaning cX4_orderCleaning 4 (some .int) := ⟨(q_tb1 1 rfl rfl), (q_tb3 85 rfl rfl), by decide +kernel, by decide +kernel⟩
theorem dnX4_orderCleaning : (parseMethodDescriptor yX4_orderCleaning.desc).map (fun d => d.parameters.length) = some 0 := by decide +kernel
theorem inX4_orderCleaning : Cond.instanceMethod yX4_orderCleaning ∈ q_tbl ∧ Cond.selects yX4_orderCleaning.cls yX4_orderCleaning yX4_orderCleaning ∈ q_tbl := ⟨(q_tb3 84 rfl rfl), (q_sl 9 rfl rfl)⟩
theorem calX4_pairRefusal : q_cal yX4_pairRefusal cX4_pairRefusal 2 (some .int) := ⟨(q_tb1 1 rfl rfl), (q_tb3 142 rfl rfl), by decide +kernel, by decide +kernel⟩
theorem dnX4_pairRefusal : (parseMethodDescriptor yX4_pairRefusal.desc).map (fun d => d.parameters.length) = some 1 := by decide +kernel
theorem inX4_pairRefusal : Cond.static yX4_pairRefusal ∈ q_tbl := (q_tb3 141 rfl rfl)
theorem calX4_partOf : q_cal yX4_partOf cX4_partOf 9 (some .long) := ⟨(q_tb1 1 rfl rfl), (q_tb3 34 rfl rfl), by decide +kernel, by decide +kernel⟩
theorem dnX4_partOf : (parseMethodDescriptor yX4_partOf.desc).map (fun d => d.parameters.length) = some 3 := by decide +kernel
theorem inX4_partOf : Cond.static yX4_partOf ∈ q_tbl := (q_tb3 33 rfl rfl)
theorem calX4_put : q_cal yX4_put cX4_put 6 (some .int) := ⟨(q_tb1 1 rfl rfl), (q_tb3 214 rfl rfl), by decide +kernel, by decide +kernel⟩
theorem dnX4_put : (parseMethodDescriptor yX4_put.desc).map (fun d => d.parameters.length) = some 3 := by decide +kernel
theorem inX4_put : Cond.instanceMethod yX4_put ∈ q_tbl ∧ Cond.selects yX4_put.cls yX4_put yX4_put ∈ q_tbl := ⟨(q_tb3 212 rfl rfl), (q_tb3 213 rfl rfl)⟩
theorem calX4_readHours : q_cal yX4_readHours cX4_readHours 4 (some .boolean) := ⟨(q_tb1 1 rfl rfl), (q_tb3 71 rfl rfl), by decide +kernel, by decide +kernel⟩
theorem dnX4_readHours : (parseMethodDescriptor yX4_readHours.desc).map (fun d => d.parameters.length) = some 1 := by decide +kernel
theorem inX4_readHours : Cond.instanceMethod yX4_readHours ∈ q_tbl ∧ Cond.selects yX4_readHours.cls yX4_readHours yX4_readHours ∈ q_tbl := ⟨(q_tb3 70 rfl rfl), (q_sl 8 rfl rfl)⟩
theorem calX4_ready : q_cal yX4_ready cX4_ready 7 (some .int) := ⟨(q_tb1 1 rfl rfl), (q_tb3 67 rfl rfl), by decide +kernel, by decide +kernel⟩
theorem dnX4_ready : (parseMethodDescriptor yX4_ready.desc).map (fun d => d.parameters.length) = some 2 := by decide +kernel
theorem inX4_ready : Cond.instanceMethod yX4_ready ∈ q_tbl ∧ Cond.selects yX4_ready.cls yX4_ready yX4_ready ∈ q_tbl := ⟨(q_tb3 65 rfl rfl), (q_tb3 66 rfl rfl)⟩
theorem calX4_refuse : q_cal yX4_refuse cX4_refuse 3 (some .int) := ⟨(q_tb1 1 rfl rfl), (q_tb3 50 rfl rfl), by decide +kernel, by decide +kernel⟩
theorem dnX4_refuse : (parseMethodDescriptor yX4_refuse.desc).map (fun d => d.parameters.length) = some 0 := by decide +kernel
theorem inX4_refuse : Cond.instanceMethod yX4_refuse ∈ q_tbl ∧ Cond.selects yX4_refuse.cls yX4_refuse yX4_refuse ∈ q_tbl := ⟨(q_tb3 48 rfl rfl), (q_tb3 49 rfl rfl)⟩
theorem calX4_returns : q_cal yX4_returns cX4_returns 2 (some .int) := ⟨(q_tb1 1 rfl rfl), (q_tb2 147 rfl rfl), by decide +kernel, by decide +kernel⟩
theorem dnX4_returns : (parseMethodDescriptor yX4_returns.desc).map (fun d => d.parameters.length) = some 1 := by decide +kernel
theorem inX4_returns : Cond.instanceMethod yX4_returns ∈ q_tbl ∧ Cond.selects yX4_returns.cls yX4_returns yX4_returns ∈ q_tbl := ⟨(q_tb2 145 rfl rfl), (q_tb2 146 rfl rfl)⟩
theorem calX4_row : q_cal yX4_row cX4_row 4 (some .int) := ⟨(q_tb1 1 rfl rfl), (q_tb3 206 rfl rfl), by decide +kernel, by decide +kernel⟩
theorem dnX4_row : (parseMethodDescriptor yX4_row.desc).map (fun d => d.parameters.length) = some 3 := by decide +kernel
theorem inX4_row : Cond.instanceMethod yX4_row ∈ q_tbl ∧ Cond.selects yX4_row.cls yX4_row yX4_row ∈ q_tbl := ⟨(q_tb3 204 rfl rfl), (q_tb3 205 rfl rfl)⟩
theorem calX4_sell : q_cal yX4_sell cX4_sell 5 (some .int) := ⟨(q_tb1 1 rfl rfl), (q_tb3 59 rfl rfl), by decide +kernel, by decide +kernel⟩
theorem dnX4_sell : (parseMethodDescriptor yX4_sell.desc).map (fun d => d.parameters.length) = some 0 := by decide +kernel
theorem inX4_sell : Cond.instanceMethod yX4_sell ∈ q_tbl ∧ Cond.selects yX4_sell.cls yX4_sell yX4_sell ∈ q_tbl := ⟨(q_tb3 57 rfl rfl), (q_tb3 58 rfl rfl)⟩
theorem calX4_served : q_cal yX4_served cX4_served 2 (some .int) := ⟨(q_tb1 1 rfl rfl), (q_tb2 160 rfl rfl), by decide +kernel, by decide +kernel⟩
theorem dnX4_served : (parseMethodDescriptor yX4_served.desc).map (fun d => d.parameters.length) = some 1 := by decide +kernel
theorem inX4_served : Cond.instanceMethod yX4_served ∈ q_tbl ∧ Cond.selects yX4_served.cls yX4_served yX4_served ∈ q_tbl := ⟨(q_tb2 158 rfl rfl), (q_tb2 159 rfl rfl)⟩
theorem calX4_set : q_cal yX4_set cX4_set 3 none := ⟨(q_tb1 1 rfl rfl), (q_tb2 70 rfl rfl), by decide +kernel, by decide +kernel⟩
theorem dnX4_set : (parseMethodDescriptor yX4_set.desc).map (fun d => d.parameters.length) = some 3 := by decide +kernel
theorem inX4_set : Cond.static yX4_set ∈ q_tbl := (q_tb2 69 rfl rfl)
theorem calX4_shelfAt : q_cal yX4_shelfAt cX4_shelfAt 3 (some (.object "BackByNoonOnMonday$Shelf")) := ⟨(q_tb1 1 rfl rfl), (q_tb2 24 rfl rfl), by decide +kernel, by decide +kernel⟩
theorem dnX4_shelfAt : (parseMethodDescriptor yX4_shelfAt.desc).map (fun d => d.parameters.length) = some 1 := by decide +kernel
theorem inX4_shelfAt : Cond.instanceMethod yX4_shelfAt ∈ q_tbl ∧ Cond.selects yX4_shelfAt.cls yX4_shelfAt yX4_shelfAt ∈ q_tbl := ⟨(q_tb2 23 rfl rfl), (q_sl 0 rfl rfl)⟩
theorem calX4_shines : q_cal yX4_shines cX4_shines 3 (some .int) := ⟨(q_tb1 1 rfl rfl), (q_tb3 63 rfl rfl), by decide +kernel, by decide +kernel⟩
theorem dnX4_shines : (parseMethodDescriptor yX4_shines.desc).map (fun d => d.parameters.length) = some 0 := by decide +kernel
theorem inX4_shines : Cond.instanceMethod yX4_shines ∈ q_tbl ∧ Cond.selects yX4_shines.cls yX4_shines yX4_shines ∈ q_tbl := ⟨(q_tb3 61 rfl rfl), (q_tb3 62 rfl rfl)⟩
theorem calX4_stained : q_cal yX4_stained cX4_stained 9 (some .int) := ⟨(q_tb1 1 rfl rfl), (q_tb3 139 rfl rfl), by decide +kernel, by decide +kernel⟩
theorem dnX4_stained : (parseMethodDescriptor yX4_stained.desc).map (fun d => d.parameters.length) = some 3 := by decide +kernel
theorem inX4_stained : Cond.instanceMethod yX4_stained ∈ q_tbl ∧ Cond.selects yX4_stained.cls yX4_stained yX4_stained ∈ q_tbl := ⟨(q_tb3 137 rfl rfl), (q_tb3 138 rfl rfl)⟩
theorem calX4_suit : q_cal yX4_suit cX4_suit 4 (some .int) := ⟨(q_tb1 1 rfl rfl), (q_tb2 119 rfl rfl), by decide +kernel, by decide +kernel⟩
theorem dnX4_suit : (parseMethodDescriptor yX4_suit.desc).map (fun d => d.parameters.length) = some 2 := by decide +kernel
theorem inX4_suit : Cond.instanceMethod yX4_suit ∈ q_tbl ∧ Cond.selects yX4_suit.cls yX4_suit yX4_suit ∈ q_tbl := ⟨(q_tb2 117 rfl rfl), (q_tb2 118 rfl rfl)⟩
theorem calX4_suitsHad : q_cal yX4_suitsHad cX4_suitsHad 4 (some .int) := ⟨(q_tb1 1 rfl rfl), (q_tb3 149 rfl rfl), by decide +kernel, by decide +kernel⟩
theorem dnX4_suitsHad : (parseMethodDescriptor yX4_suitsHad.desc).map (fun d => d.parameters.length) = some 2 := by decide +kernel
theorem inX4_suitsHad : Cond.static yX4_suitsHad ∈ q_tbl := (q_tb3 148 rfl rfl)
theorem calX4_taxi : q_cal yX4_taxi cX4_taxi 4 (some .int) := ⟨(q_tb1 1 rfl rfl), (q_tb3 121 rfl rfl), by decide +kernel, by decide +kernel⟩
theorem dnX4_taxi : (parseMethodDescriptor yX4_taxi.desc).map (fun d => d.parameters.length) = some 3 := by decide +kernel
theorem inX4_taxi : Cond.instanceMethod yX4_taxi ∈ q_tbl ∧ Cond.selects yX4_taxi.cls yX4_taxi yX4_taxi ∈ q_tbl := ⟨(q_tb3 119 rfl rfl), (q_tb3 120 rfl rfl)⟩
theorem calX4_tellBooking : q_cal yX4_tellBooking cX4_tellBooking 5 (some .int) := ⟨(q_tb1 1 rfl rfl), (q_tb2 73 rfl rfl), by decide +kernel, by decide +kernel⟩
theorem dnX4_tellBooking : (parseMethodDescriptor yX4_tellBooking.desc).map (fun d => d.parameters.length) = some 3 := by decide +kernel
theorem inX4_tellBooking : Cond.static yX4_tellBooking ∈ q_tbl := (q_tb2 72 rfl rfl)
theorem calX4_tenTo : q_cal yX4_tenTo cX4_tenTo 4 (some .long) := ⟨(q_tb1 1 rfl rfl), (q_tb3 30 rfl rfl), by decide +kernel, by decide +kernel⟩
theorem dnX4_tenTo : (parseMethodDescriptor yX4_tenTo.desc).map (fun d => d.parameters.length) = some 1 := by decide +kernel
theorem inX4_tenTo : Cond.static yX4_tenTo ∈ q_tbl := (q_tb3 29 rfl rfl)
theorem calX4_tight : q_cal yX4_tight cX4_tight 5 (some .int) := ⟨(q_tb1 1 rfl rfl), (q_tb3 134 rfl rfl), by decide +kernel, by decide +kernel⟩
theorem dnX4_tight : (parseMethodDescriptor yX4_tight.desc).map (fun d => d.parameters.length) = some 0 := by decide +kernel
theorem inX4_tight : Cond.instanceMethod yX4_tight ∈ q_tbl ∧ Cond.selects yX4_tight.cls yX4_tight yX4_tight ∈ q_tbl := ⟨(q_tb3 132 rfl rfl), (q_tb3 133 rfl rfl)⟩
theorem calX4_weeks : q_cal yX4_weeks cX4_weeks 12 (some .int) := ⟨(q_tb1 1 rfl rfl), (q_tb3 161 rfl rfl), by decide +kernel, by decide +kernel⟩
theorem dnX4_weeks : (parseMethodDescriptor yX4_weeks.desc).map (fun d => d.parameters.length) = some 3 := by decide +kernel
theorem inX4_weeks : Cond.instanceMethod yX4_weeks ∈ q_tbl ∧ Cond.selects yX4_weeks.cls yX4_weeks yX4_weeks ∈ q_tbl := ⟨(q_tb3 159 rfl rfl), (q_tb3 160 rfl rfl)⟩
theorem calX5_add : q_cal yX5_add cX5_add 4 none := ⟨(q_tb1 6 rfl rfl), (q_tb6 11 rfl rfl), by decide +kernel, by decide +kernel⟩
theorem dnX5_add : (parseMethodDescriptor yX5_add.desc).map (fun d => d.parameters.length) = some 3 := by decide +kernel
theorem inX5_add : Cond.instanceMethod yX5_add ∈ q_tbl ∧ Cond.selects yX5_add.cls yX5_add yX5_add ∈ q_tbl := ⟨(q_tb6 10 rfl rfl), (q_sl 51 rfl rfl)⟩
theorem calX5_alike : q_cal yX5_alike cX5_alike 3 (some .int) := ⟨(q_tb1 6 rfl rfl), (q_tb6 3 rfl rfl), by decide +kernel, by decide +kernel⟩
theorem dnX5_alike : (parseMethodDescriptor yX5_alike.desc).map (fun d => d.parameters.length) = some 0 := by decide +kernel
theorem inX5_alike : Cond.instanceMethod yX5_alike ∈ q_tbl ∧ Cond.selects yX5_alike.cls yX5_alike yX5_alike ∈ q_tbl := ⟨(q_tb6 1 rfl rfl), (q_tb6 2 rfl rfl)⟩
theorem calX5_apart : q_cal yX5_apart cX5_apart 2 (some .int) := ⟨(q_tb1 6 rfl rfl), (q_tb5 98 rfl rfl), by decide +kernel, by decide +kernel⟩
theorem dnX5_apart : (parseMethodDescriptor yX5_apart.desc).map (fun d => d.parameters.length) = some 2 := by decide +kernel
theorem inX5_apart : Cond.static yX5_apart ∈ q_tbl := (q_tb5 97 rfl rfl)
theorem calX5_atFive : q_cal yX5_atFive cX5_atFive 4 (some .int) := ⟨(q_tb1 6 rfl rfl), (q_tb6 91 rfl rfl), by decide +kernel, by decide +kernel⟩
theorem dnX5_atFive : (parseMethodDescriptor yX5_atFive.desc).map (fun d => d.parameters.length) = some 3 := by decide +kernel
theorem inX5_atFive : Cond.instanceMethod yX5_atFive ∈ q_tbl ∧ Cond.selects yX5_atFive.cls yX5_atFive yX5_atFive ∈ q_tbl := ⟨(q_tb6 89 rfl rfl), (q_tb6 90 rfl rfl)⟩
theorem calX5_bestFee : q_cal yX5_bestFee cX5_bestFee 3 (some .int) := ⟨(q_tb1 6 rfl rfl), (q_tb6 87 rfl rfl), by decide +kernel, by decide +kernel⟩
theorem dnX5_bestFee : (parseMethodDescriptor yX5_bestFee.desc).map (fun d => d.parameters.length) = some 0 := by decide +kernel
theorem inX5_bestFee : Cond.instanceMethod yX5_bestFee ∈ q_tbl ∧ Cond.selects yX5_bestFee.cls yX5_bestFee yX5_bestFee ∈ q_tbl := ⟨(q_tb6 85 rfl rfl), (q_tb6 86 rfl rfl)⟩
theorem calX5_booking : q_cal yX5_booking cX5_booking 3 (some .int) := ⟨(q_tb1 6 rfl rfl), (q_tb5 157 rfl rfl), by decide +kernel, by decide +kernel⟩
theorem dnX5_booking : (parseMethodDescriptor yX5_booking.desc).map (fun d => d.parameters.length) = some 2 := by decide +kernel
theorem inX5_booking : Cond.instanceMethod yX5_booking ∈ q_tbl ∧ Cond.selects yX5_booking.cls yX5_booking yX5_booking ∈ q_tbl := ⟨(q_tb5 155 rfl rfl), (q_tb5 156 rfl rfl)⟩
theorem calX5_bookingComes : q_cal yX5_bookingComes cX5_bookingComes 7 (some .boolean) := ⟨(q_tb1 6 rfl rfl), (q_tb5 79 rfl rfl), by decide +kernel, by decide +kernel⟩
theorem dnX5_bookingComes : (parseMethodDescriptor yX5_bookingComes.desc).map (fun d => d.parameters.length) = some 5 := by decide +kernel
theorem inX5_bookingComes : Cond.instanceMethod yX5_bookingComes ∈ q_tbl ∧ Cond.selects yX5_bookingComes.cls yX5_bookingComes yX5_bookingComes ∈ q_tbl := ⟨(q_tb5 78 rfl rfl), (q_sl 27 rfl rfl)⟩
theorem calX5_bookingOf : q_cal yX5_bookingOf cX5_bookingOf 4 (some .int) := ⟨(q_tb1 6 rfl rfl), (q_tb5 121 rfl rfl), by decide +kernel, by decide +kernel⟩
theorem dnX5_bookingOf : (parseMethodDescriptor yX5_bookingOf.desc).map (fun d => d.parameters.length) = some 1 := by decide +kernel
theorem inX5_bookingOf : Cond.instanceMethod yX5_bookingOf ∈ q_tbl ∧ Cond.selects yX5_bookingOf.cls yX5_bookingOf yX5_bookingOf ∈ q_tbl := ⟨(q_tb5 120 rfl rfl), (q_sl 36 rfl rfl)⟩
theorem calX5_books : q_cal yX5_books cX5_books 4 (some .int) := ⟨(q_tb1 6 rfl rfl), (q_tb5 170 rfl rfl), by decide +kernel, by decide +kernel⟩
theorem dnX5_books : (parseMethodDescriptor yX5_books.desc).map (fun d => d.parameters.length) = some 3 := by decide +kernel
theorem inX5_books : Cond.instanceMethod yX5_books ∈ q_tbl ∧ Cond.selects yX5_books.cls yX5_books yX5_books ∈ q_tbl := ⟨(q_tb5 168 rfl rfl), (q_tb5 169 rfl rfl)⟩
theorem calX5_buys : q_cal yX5_buys cX5_buys 4 (some .int) := ⟨(q_tb1 6 rfl rfl), (q_tb5 161 rfl rfl), by decide +kernel, by decide +kernel⟩
theorem dnX5_buys : (parseMethodDescriptor yX5_buys.desc).map (fun d => d.parameters.length) = some 2 := by decide +kernel
theorem inX5_buys : Cond.instanceMethod yX5_buys ∈ q_tbl ∧ Cond.selects yX5_buys.cls yX5_buys yX5_buys ∈ q_tbl := ⟨(q_tb5 159 rfl rfl), (q_tb5 160 rfl rfl)⟩
theorem calX5_canClean : q_cal yX5_canClean cX5_canClean 2 (some .boolean) := ⟨(q_tb1 6 rfl rfl), (q_tb5 125 rfl rfl), by decide +kernel, by decide +kernel⟩
theorem dnX5_canClean : (parseMethodDescriptor yX5_canClean.desc).map (fun d => d.parameters.length) = some 1 := by decide +kernel
theorem inX5_canClean : Cond.instanceMethod yX5_canClean ∈ q_tbl ∧ Cond.selects yX5_canClean.cls yX5_canClean yX5_canClean ∈ q_tbl := ⟨(q_tb5 124 rfl rfl), (q_sl 37 rfl rfl)⟩
theorem calX5_canHire : q_cal yX5_canHire cX5_canHire 3 (some .boolean) := ⟨(q_tb1 6 rfl rfl), (q_tb5 91 rfl rfl), by decide +kernel, by decide +kernel⟩
theorem dnX5_canHire : (parseMethodDescriptor yX5_canHire.desc).map (fun d => d.parameters.length) = some 2 := by decide +kernel
theorem inX5_canHire : Cond.instanceMethod yX5_canHire ∈ q_tbl ∧ Cond.selects yX5_canHire.cls yX5_canHire yX5_canHire ∈ q_tbl := ⟨(q_tb5 90 rfl rfl), (q_sl 30 rfl rfl)⟩
theorem calX5_carry : q_cal yX5_carry cX5_carry 2 (some .int) := ⟨(q_tb1 6 rfl rfl), (q_tb5 67 rfl rfl), by decide +kernel, by decide +kernel⟩
theorem dnX5_carry : (parseMethodDescriptor yX5_carry.desc).map (fun d => d.parameters.length) = some 1 := by decide +kernel
theorem inX5_carry : Cond.instanceMethod yX5_carry ∈ q_tbl ∧ Cond.selects yX5_carry.cls yX5_carry yX5_carry ∈ q_tbl := ⟨(q_tb5 66 rfl rfl), (q_sl 24 rfl rfl)⟩
theorem calX5_clean : q_cal yX5_clean cX5_clean 2 none := ⟨(q_tb1 6 rfl rfl), (q_tb5 133 rfl rfl), by decide +kernel, by decide +kernel⟩
theorem dnX5_clean : (parseMethodDescriptor yX5_clean.desc).map (fun d => d.parameters.length) = some 1 := by decide +kernel
theorem inX5_clean : Cond.instanceMethod yX5_clean ∈ q_tbl ∧ Cond.selects yX5_clean.cls yX5_clean yX5_clean ∈ q_tbl := ⟨(q_tb5 132 rfl rfl), (q_sl 39 rfl rfl)⟩
theorem calX5_cleans : q_cal yX5_cleans cX5_cleans 2 (some .int) := ⟨(q_tb1 6 rfl rfl), (q_tb5 184 rfl rfl), by decide +kernel, by decide +kernel⟩
theorem dnX5_cleans : (parseMethodDescriptor yX5_cleans.desc).map (fun d => d.parameters.length) = some 1 := by decide +kernel
theorem inX5_cleans : Cond.instanceMethod yX5_cleans ∈ q_tbl ∧ Cond.selects yX5_cleans.cls yX5_cleans yX5_cleans ∈ q_tbl := ⟨(q_tb5 182 rfl rfl), (q_tb5 183 rfl rfl)⟩
theorem calX5_cleansOf : q_cal yX5_cleansOf cX5_cleansOf 2 (some .int) := ⟨(q_tb1 6 rfl rfl), (q_tb5 129 rfl rfl), by decide +kernel, by decide +kernel⟩
theorem dnX5_cleansOf : (parseMethodDescriptor yX5_cleansOf.desc).map (fun d => d.parameters.length) = some 1 := by decide +kernel
theorem inX5_cleansOf : Cond.instanceMethod yX5_cleansOf ∈ q_tbl ∧ Cond.selects yX5_cleansOf.cls yX5_cleansOf yX5_cleansOf ∈ q_tbl := ⟨(q_tb5 128 rfl rfl), (q_sl 38 rfl rfl)⟩
theorem calX5_come : q_cal yX5_come cX5_come 11 (some .long) := ⟨(q_tb1 6 rfl rfl), (q_tb6 30 rfl rfl), by decide +kernel, by decide +kernel⟩
theorem dnX5_come : (parseMethodDescriptor yX5_come.desc).map (fun d => d.parameters.length) = some 2 := by decide +kernel
theorem inX5_come : Cond.instanceMethod yX5_come ∈ q_tbl ∧ Cond.selects yX5_come.cls yX5_come yX5_come ∈ q_tbl := ⟨(q_tb6 28 rfl rfl), (q_tb6 29 rfl rfl)⟩
theorem calX5_comeBack : q_cal yX5_comeBack cX5_comeBack 2 none := ⟨(q_tb1 6 rfl rfl), (q_tb5 117 rfl rfl), by decide +kernel, by decide +kernel⟩
theorem dnX5_comeBack : (parseMethodDescriptor yX5_comeBack.desc).map (fun d => d.parameters.length) = some 1 := by decide +kernel
theorem inX5_comeBack : Cond.instanceMethod yX5_comeBack ∈ q_tbl ∧ Cond.selects yX5_comeBack.cls yX5_comeBack yX5_comeBack ∈ q_tbl := ⟨(q_tb5 116 rfl rfl), (q_sl 35 rfl rfl)⟩
theorem calX5_comesBy : q_cal yX5_comesBy cX5_comesBy 4 (some .int) := ⟨(q_tb1 6 rfl rfl), (q_tb6 83 rfl rfl), by decide +kernel, by decide +kernel⟩
theorem dnX5_comesBy : (parseMethodDescriptor yX5_comesBy.desc).map (fun d => d.parameters.length) = some 1 := by decide +kernel
theorem inX5_comesBy : Cond.instanceMethod yX5_comesBy ∈ q_tbl ∧ Cond.selects yX5_comesBy.cls yX5_comesBy yX5_comesBy ∈ q_tbl := ⟨(q_tb6 82 rfl rfl), (q_sl 57 rfl rfl)⟩
theorem calX5_comesTold : q_cal yX5_comesTold cX5_comesTold 6 (some .boolean) := ⟨(q_tb1 6 rfl rfl), (q_tb5 71 rfl rfl), by decide +kernel, by decide +kernel⟩
theorem dnX5_comesTold : (parseMethodDescriptor yX5_comesTold.desc).map (fun d => d.parameters.length) = some 1 := by decide +kernel
theorem inX5_comesTold : Cond.instanceMethod yX5_comesTold ∈ q_tbl ∧ Cond.selects yX5_comesTold.cls yX5_comesTold yX5_comesTold ∈ q_tbl := ⟨(q_tb5 70 rfl rfl), (q_sl 25 rfl rfl)⟩
theorem calX5_copy : q_cal yX5_copy cX5_copy 7 (some .int) := ⟨(q_tb1 6 rfl rfl), (q_tb6 171 rfl rfl), by decide +kernel, by decide +kernel⟩
theorem dnX5_copy : (parseMethodDescriptor yX5_copy.desc).map (fun d => d.parameters.length) = some 5 := by decide +kernel
theorem inX5_copy : Cond.instanceMethod yX5_copy ∈ q_tbl ∧ Cond.selects yX5_copy.cls yX5_copy yX5_copy ∈ q_tbl := ⟨(q_tb6 169 rfl rfl), (q_tb6 170 rfl rfl)⟩
theorem calX5_cost : q_cal yX5_cost cX5_cost 2 (some .int) := ⟨(q_tb1 6 rfl rfl), (q_tb6 175 rfl rfl), by decide +kernel, by decide +kernel⟩
theorem dnX5_cost : (parseMethodDescriptor yX5_cost.desc).map (fun d => d.parameters.length) = some 1 := by decide +kernel
theorem inX5_cost : Cond.instanceMethod yX5_cost ∈ q_tbl ∧ Cond.selects yX5_cost.cls yX5_cost yX5_cost ∈ q_tbl := ⟨(q_tb6 173 rfl rfl), (q_tb6 174 rfl rfl)⟩
theorem calX5_costOf : q_cal yX5_costOf cX5_costOf 3 (some .int) := ⟨(q_tb1 6 rfl rfl), (q_tb6 178 rfl rfl), by decide +kernel, by decide +kernel⟩
theorem dnX5_costOf : (parseMethodDescriptor yX5_costOf.desc).map (fun d => d.parameters.length) = some 2 := by decide +kernel
theorem inX5_costOf : Cond.static yX5_costOf ∈ q_tbl := (q_tb6 177 rfl rfl)
theorem calX5_count : q_cal yX5_count cX5_count 4 (some .int) := ⟨(q_tb1 6 rfl rfl), (q_tb6 147 rfl rfl), by decide +kernel, by decide +kernel⟩
theorem dnX5_count : (parseMethodDescriptor yX5_count.desc).map (fun d => d.parameters.length) = some 1 := by decide +kernel
theorem inX5_count : Cond.instanceMethod yX5_count ∈ q_tbl ∧ Cond.selects yX5_count.cls yX5_count yX5_count ∈ q_tbl := ⟨(q_tb6 145 rfl rfl), (q_tb6 146 rfl rfl)⟩
theorem calX5_divisor : q_cal yX5_divisor cX5_divisor 10 (some .long) := ⟨(q_tb1 6 rfl rfl), (q_tb6 26 rfl rfl), by decide +kernel, by decide +kernel⟩
theorem dnX5_divisor : (parseMethodDescriptor yX5_divisor.desc).map (fun d => d.parameters.length) = some 2 := by decide +kernel
theorem inX5_divisor : Cond.static yX5_divisor ∈ q_tbl := (q_tb6 25 rfl rfl)
theorem calX5_drawBelow : q_cal yX5_drawBelow cX5_drawBelow 2 (some .int) := ⟨(q_tb1 6 rfl rfl), (q_tb6 136 rfl rfl), by decide +kernel, by decide +kernel⟩
theorem dnX5_drawBelow : (parseMethodDescriptor yX5_drawBelow.desc).map (fun d => d.parameters.length) = some 1 := by decide +kernel
theorem inX5_drawBelow : Cond.instanceMethod yX5_drawBelow ∈ q_tbl ∧ Cond.selects yX5_drawBelow.cls yX5_drawBelow yX5_drawBelow ∈ q_tbl := ⟨(q_tb6 135 rfl rfl), (q_sl 61 rfl rfl)⟩
theorem calX5_earned : q_cal yX5_earned cX5_earned 1 (some .int) := ⟨(q_tb1 6 rfl rfl), (q_tb5 235 rfl rfl), by decide +kernel, by decide +kernel⟩
theorem dnX5_earned : (parseMethodDescriptor yX5_earned.desc).map (fun d => d.parameters.length) = some 0 := by decide +kernel
theorem inX5_earned : Cond.instanceMethod yX5_earned ∈ q_tbl ∧ Cond.selects yX5_earned.cls yX5_earned yX5_earned ∈ q_tbl := ⟨(q_tb5 233 rfl rfl), (q_tb5 234 rfl rfl)⟩
theorem calX5_earnedNow : q_cal yX5_earnedNow cX5_earnedNow 1 (some .int) := ⟨(q_tb1 6 rfl rfl), (q_tb5 239 rfl rfl), by decide +kernel, by decide +kernel⟩
theorem dnX5_earnedNow : (parseMethodDescriptor yX5_earnedNow.desc).map (fun d => d.parameters.length) = some 0 := by decide +kernel
theorem inX5_earnedNow : Cond.instanceMethod yX5_earnedNow ∈ q_tbl ∧ Cond.selects yX5_earnedNow.cls yX5_earnedNow yX5_earnedNow ∈ q_tbl := ⟨(q_tb5 238 rfl rfl), (q_sl 50 rfl rfl)⟩
theorem calX5_element : q_cal yX5_element cX5_element 4 (some .long) := ⟨(q_tb1 6 rfl rfl), (q_tb6 167 rfl rfl), by decide +kernel, by decide +kernel⟩
theorem dnX5_element : (parseMethodDescriptor yX5_element.desc).map (fun d => d.parameters.length) = some 2 := by decide +kernel
theorem inX5_element : Cond.instanceMethod yX5_element ∈ q_tbl ∧ Cond.selects yX5_element.cls yX5_element yX5_element ∈ q_tbl := ⟨(q_tb6 165 rfl rfl), (q_tb6 166 rfl rfl)⟩
theorem calX5_fee : q_cal yX5_fee cX5_fee 3 (some .int) := ⟨(q_tb1 6 rfl rfl), (q_tb6 75 rfl rfl), by decide +kernel, by decide +kernel⟩
theorem dnX5_fee : (parseMethodDescriptor yX5_fee.desc).map (fun d => d.parameters.length) = some 2 := by decide +kernel
theorem inX5_fee : Cond.instanceMethod yX5_fee ∈ q_tbl ∧ Cond.selects yX5_fee.cls yX5_fee yX5_fee ∈ q_tbl := ⟨(q_tb6 73 rfl rfl), (q_tb6 74 rfl rfl)⟩
theorem calX5_fits : q_cal yX5_fits cX5_fits 3 (some .int) := ⟨(q_tb1 6 rfl rfl), (q_tb5 188 rfl rfl), by decide +kernel, by decide +kernel⟩
theorem dnX5_fits : (parseMethodDescriptor yX5_fits.desc).map (fun d => d.parameters.length) = some 2 := by decide +kernel
theorem inX5_fits : Cond.instanceMethod yX5_fits ∈ q_tbl ∧ Cond.selects yX5_fits.cls yX5_fits yX5_fits ∈ q_tbl := ⟨(q_tb5 186 rfl rfl), (q_tb5 187 rfl rfl)⟩
theorem calX5_fitsIn : q_cal yX5_fitsIn cX5_fitsIn 3 (some .boolean) := ⟨(q_tb1 6 rfl rfl), (q_tb5 95 rfl rfl), by decide +kernel, by decide +kernel⟩
theorem dnX5_fitsIn : (parseMethodDescriptor yX5_fitsIn.desc).map (fun d => d.parameters.length) = some 2 := by decide +kernel
theorem inX5_fitsIn : Cond.instanceMethod yX5_fitsIn ∈ q_tbl ∧ Cond.selects yX5_fitsIn.cls yX5_fitsIn yX5_fitsIn ∈ q_tbl := ⟨(q_tb5 94 rfl rfl), (q_sl 31 rfl rfl)⟩
theorem calX5_forged : q_cal yX5_forged cX5_forged 2 (some .int) := ⟨(q_tb1 6 rfl rfl), (q_tb6 107 rfl rfl), by decide +kernel, by decide +kernel⟩
theorem dnX5_forged : (parseMethodDescriptor yX5_forged.desc).map (fun d => d.parameters.length) = some 1 := by decide +kernel
theorem inX5_forged : Cond.instanceMethod yX5_forged ∈ q_tbl ∧ Cond.selects yX5_forged.cls yX5_forged yX5_forged ∈ q_tbl := ⟨(q_tb6 105 rfl rfl), (q_tb6 106 rfl rfl)⟩
theorem calX5_forgedIn : q_cal yX5_forgedIn cX5_forgedIn 8 (some .int) := ⟨(q_tb1 6 rfl rfl), (q_tb6 115 rfl rfl), by decide +kernel, by decide +kernel⟩
theorem dnX5_forgedIn : (parseMethodDescriptor yX5_forgedIn.desc).map (fun d => d.parameters.length) = some 1 := by decide +kernel
theorem inX5_forgedIn : Cond.instanceMethod yX5_forgedIn ∈ q_tbl ∧ Cond.selects yX5_forgedIn.cls yX5_forgedIn yX5_forgedIn ∈ q_tbl := ⟨(q_tb6 114 rfl rfl), (q_sl 59 rfl rfl)⟩
theorem calX5_friday : q_cal yX5_friday cX5_friday 7 (some .int) := ⟨(q_tb1 6 rfl rfl), (q_tb6 99 rfl rfl), by decide +kernel, by decide +kernel⟩
theorem dnX5_friday : (parseMethodDescriptor yX5_friday.desc).map (fun d => d.parameters.length) = some 1 := by decide +kernel
theorem inX5_friday : Cond.instanceMethod yX5_friday ∈ q_tbl ∧ Cond.selects yX5_friday.cls yX5_friday yX5_friday ∈ q_tbl := ⟨(q_tb6 97 rfl rfl), (q_tb6 98 rfl rfl)⟩
theorem calX5_givesOf : q_cal yX5_givesOf cX5_givesOf 2 (some .int) := ⟨(q_tb1 6 rfl rfl), (q_tb5 102 rfl rfl), by decide +kernel, by decide +kernel⟩
theorem dnX5_givesOf : (parseMethodDescriptor yX5_givesOf.desc).map (fun d => d.parameters.length) = some 1 := by decide +kernel
theorem inX5_givesOf : Cond.instanceMethod yX5_givesOf ∈ q_tbl ∧ Cond.selects yX5_givesOf.cls yX5_givesOf yX5_givesOf ∈ q_tbl := ⟨(q_tb5 101 rfl rfl), (q_sl 32 rfl rfl)⟩
theorem calX5_greater : q_cal yX5_greater cX5_greater 2 (some .int) := ⟨(q_tb1 6 rfl rfl), (q_tb5 219 rfl rfl), by decide +kernel, by decide +kernel⟩
theorem dnX5_greater : (parseMethodDescriptor yX5_greater.desc).map (fun d => d.parameters.length) = some 2 := by decide +kernel
theorem inX5_greater : Cond.static yX5_greater ∈ q_tbl := (q_tb5 218 rfl rfl)
theorem calX5_hadAll : q_cal yX5_hadAll cX5_hadAll 6 (some .boolean) := ⟨(q_tb1 6 rfl rfl), (q_tb6 124 rfl rfl), by decide +kernel, by decide +kernel⟩
theorem dnX5_hadAll : (parseMethodDescriptor yX5_hadAll.desc).map (fun d => d.parameters.length) = some 3 := by decide +kernel
theorem inX5_hadAll : Cond.instanceMethod yX5_hadAll ∈ q_tbl ∧ Cond.selects yX5_hadAll.cls yX5_hadAll yX5_hadAll ∈ q_tbl := ⟨(q_tb6 123 rfl rfl), (q_sl 60 rfl rfl)⟩
theorem calX5_hasBit : q_cal yX5_hasBit cX5_hasBit 2 (some .boolean) := ⟨(q_tb1 6 rfl rfl), (q_tb5 212 rfl rfl), by decide +kernel, by decide +kernel⟩
theorem dnX5_hasBit : (parseMethodDescriptor yX5_hasBit.desc).map (fun d => d.parameters.length) = some 2 := by decide +kernel
theorem inX5_hasBit : Cond.static yX5_hasBit ∈ q_tbl := (q_tb5 211 rfl rfl)
theorem calX5_here : q_cal yX5_here cX5_here 1 (some .int) := ⟨(q_tb1 6 rfl rfl), (q_tb5 45 rfl rfl), by decide +kernel, by decide +kernel⟩
theorem dnX5_here : (parseMethodDescriptor yX5_here.desc).map (fun d => d.parameters.length) = some 0 := by decide +kernel
theorem inX5_here : Cond.instanceMethod yX5_here ∈ q_tbl ∧ Cond.selects yX5_here.cls yX5_here yX5_here ∈ q_tbl := ⟨(q_tb5 44 rfl rfl), (q_sl 19 rfl rfl)⟩
theorem calX5_hire : q_cal yX5_hire cX5_hire 3 none := ⟨(q_tb1 6 rfl rfl), (q_tb5 113 rfl rfl), by decide +kernel, by decide +kernel⟩
theorem dnX5_hire : (parseMethodDescriptor yX5_hire.desc).map (fun d => d.parameters.length) = some 2 := by decide +kernel
theorem inX5_hire : Cond.instanceMethod yX5_hire ∈ q_tbl ∧ Cond.selects yX5_hire.cls yX5_hire yX5_hire ∈ q_tbl := ⟨(q_tb5 112 rfl rfl), (q_sl 34 rfl rfl)⟩
theorem calX5_hires : q_cal yX5_hires cX5_hires 3 (some .int) := ⟨(q_tb1 6 rfl rfl), (q_tb5 176 rfl rfl), by decide +kernel, by decide +kernel⟩
theorem dnX5_hires : (parseMethodDescriptor yX5_hires.desc).map (fun d => d.parameters.length) = some 2 := by decide +kernel
theorem inX5_hires : Cond.instanceMethod yX5_hires ∈ q_tbl ∧ Cond.selects yX5_hires.cls yX5_hires yX5_hires ∈ q_tbl := ⟨(q_tb5 174 rfl rfl), (q_tb5 175 rfl rfl)⟩
theorem calX5_hiresLeast : q_cal yX5_hiresLeast cX5_hiresLeast 3 (some .boolean) := ⟨(q_tb1 6 rfl rfl), (q_tb6 143 rfl rfl), by decide +kernel, by decide +kernel⟩
theorem dnX5_hiresLeast : (parseMethodDescriptor yX5_hiresLeast.desc).map (fun d => d.parameters.length) = some 1 := by decide +kernel
theorem inX5_hiresLeast : Cond.instanceMethod yX5_hiresLeast ∈ q_tbl ∧ Cond.selects yX5_hiresLeast.cls yX5_hiresLeast yX5_hiresLeast ∈ q_tbl := ⟨(q_tb6 142 rfl rfl), (q_sl 62 rfl rfl)⟩
theorem calX5_in : q_cal yX5_in cX5_in 6 (some .boolean) := ⟨(q_tb1 6 rfl rfl), (q_tb5 37 rfl rfl), by decide +kernel, by decide +kernel⟩
theorem dnX5_in : (parseMethodDescriptor yX5_in.desc).map (fun d => d.parameters.length) = some 3 := by decide +kernel
theorem inX5_in : Cond.static yX5_in ∈ q_tbl := (q_tb5 36 rfl rfl)
theorem calX5_inState : q_cal yX5_inState cX5_inState 4 (some .int) := ⟨(q_tb1 6 rfl rfl), (q_tb5 231 rfl rfl), by decide +kernel, by decide +kernel⟩
theorem dnX5_inState : (parseMethodDescriptor yX5_inState.desc).map (fun d => d.parameters.length) = some 1 := by decide +kernel
theorem inX5_inState : Cond.instanceMethod yX5_inState ∈ q_tbl ∧ Cond.selects yX5_inState.cls yX5_inState yX5_inState ∈ q_tbl := ⟨(q_tb5 230 rfl rfl), (q_sl 49 rfl rfl)⟩
theorem calX5_isBooking : q_cal yX5_isBooking cX5_isBooking 2 (some .boolean) := ⟨(q_tb1 6 rfl rfl), (q_tb5 87 rfl rfl), by decide +kernel, by decide +kernel⟩
theorem dnX5_isBooking : (parseMethodDescriptor yX5_isBooking.desc).map (fun d => d.parameters.length) = some 1 := by decide +kernel
theorem inX5_isBooking : Cond.instanceMethod yX5_isBooking ∈ q_tbl ∧ Cond.selects yX5_isBooking.cls yX5_isBooking yX5_isBooking ∈ q_tbl := ⟨(q_tb5 86 rfl rfl), (q_sl 29 rfl rfl)⟩
theorem calX5_isOpen : q_cal yX5_isOpen cX5_isOpen 2 (some .boolean) := ⟨(q_tb1 6 rfl rfl), (q_tb5 209 rfl rfl), by decide +kernel, by decide +kernel⟩
theorem dnX5_isOpen : (parseMethodDescriptor yX5_isOpen.desc).map (fun d => d.parameters.length) = some 1 := by decide +kernel
theorem inX5_isOpen : Cond.instanceMethod yX5_isOpen ∈ q_tbl ∧ Cond.selects yX5_isOpen.cls yX5_isOpen yX5_isOpen ∈ q_tbl := ⟨(q_tb5 208 rfl rfl), (q_sl 46 rfl rfl)⟩
theorem calX5_isReady : q_cal yX5_isReady cX5_isReady 9 (some .boolean) := ⟨(q_tb1 6 rfl rfl), (q_tb6 71 rfl rfl), by decide +kernel, by decide +kernel⟩
theorem dnX5_isReady : (parseMethodDescriptor yX5_isReady.desc).map (fun d => d.parameters.length) = some 2 := by decide +kernel
theorem inX5_isReady : Cond.instanceMethod yX5_isReady ∈ q_tbl ∧ Cond.selects yX5_isReady.cls yX5_isReady yX5_isReady ∈ q_tbl := ⟨(q_tb6 70 rfl rfl), (q_sl 55 rfl rfl)⟩
theorem calX5_isSuit : q_cal yX5_isSuit cX5_isSuit 2 (some .boolean) := ⟨(q_tb1 6 rfl rfl), (q_tb5 83 rfl rfl), by decide +kernel, by decide +kernel⟩
theorem dnX5_isSuit : (parseMethodDescriptor yX5_isSuit.desc).map (fun d => d.parameters.length) = some 1 := by decide +kernel
theorem inX5_isSuit : Cond.instanceMethod yX5_isSuit ∈ q_tbl ∧ Cond.selects yX5_isSuit.cls yX5_isSuit yX5_isSuit ∈ q_tbl := ⟨(q_tb5 82 rfl rfl), (q_sl 28 rfl rfl)⟩
theorem calX5_judge : q_cal yX5_judge cX5_judge 8 (some .int) := ⟨(q_tb1 6 rfl rfl), (q_tb6 128 rfl rfl), by decide +kernel, by decide +kernel⟩
theorem dnX5_judge : (parseMethodDescriptor yX5_judge.desc).map (fun d => d.parameters.length) = some 1 := by decide +kernel
theorem inX5_judge : Cond.instanceMethod yX5_judge ∈ q_tbl ∧ Cond.selects yX5_judge.cls yX5_judge yX5_judge ∈ q_tbl := ⟨(q_tb6 126 rfl rfl), (q_tb6 127 rfl rfl)⟩
theorem calX5_keep : q_cal yX5_keep cX5_keep 5 (some .int) := ⟨(q_tb1 6 rfl rfl), (q_tb6 151 rfl rfl), by decide +kernel, by decide +kernel⟩
theorem dnX5_keep : (parseMethodDescriptor yX5_keep.desc).map (fun d => d.parameters.length) = some 4 := by decide +kernel
theorem inX5_keep : Cond.instanceMethod yX5_keep ∈ q_tbl ∧ Cond.selects yX5_keep.cls yX5_keep yX5_keep ∈ q_tbl := ⟨(q_tb6 149 rfl rfl), (q_tb6 150 rfl rfl)⟩
theorem calX5_lastsOf : q_cal yX5_lastsOf cX5_lastsOf 2 (some .int) := ⟨(q_tb1 6 rfl rfl), (q_tb5 153 rfl rfl), by decide +kernel, by decide +kernel⟩
theorem dnX5_lastsOf : (parseMethodDescriptor yX5_lastsOf.desc).map (fun d => d.parameters.length) = some 1 := by decide +kernel
theorem inX5_lastsOf : Cond.instanceMethod yX5_lastsOf ∈ q_tbl ∧ Cond.selects yX5_lastsOf.cls yX5_lastsOf yX5_lastsOf ∈ q_tbl := ⟨(q_tb5 152 rfl rfl), (q_sl 41 rfl rfl)⟩
theorem calX5_layFirst : q_cal yX5_layFirst cX5_layFirst 6 (some .int) := ⟨(q_tb1 6 rfl rfl), (q_tb5 223 rfl rfl), by decide +kernel, by decide +kernel⟩
theorem dnX5_layFirst : (parseMethodDescriptor yX5_layFirst.desc).map (fun d => d.parameters.length) = some 0 := by decide +kernel
theorem inX5_layFirst : Cond.instanceMethod yX5_layFirst ∈ q_tbl ∧ Cond.selects yX5_layFirst.cls yX5_layFirst yX5_layFirst ∈ q_tbl := ⟨(q_tb5 222 rfl rfl), (q_sl 48 rfl rfl)⟩
theorem calX5_layMost : q_cal yX5_layMost cX5_layMost 3 (some .int) := ⟨(q_tb1 6 rfl rfl), (q_tb5 201 rfl rfl), by decide +kernel, by decide +kernel⟩
theorem dnX5_layMost : (parseMethodDescriptor yX5_layMost.desc).map (fun d => d.parameters.length) = some 0 := by decide +kernel
theorem inX5_layMost : Cond.instanceMethod yX5_layMost ∈ q_tbl ∧ Cond.selects yX5_layMost.cls yX5_layMost yX5_layMost ∈ q_tbl := ⟨(q_tb5 200 rfl rfl), (q_sl 44 rfl rfl)⟩
theorem calX5_leftOver : q_cal yX5_leftOver cX5_leftOver 1 (some .int) := ⟨(q_tb1 6 rfl rfl), (q_tb5 227 rfl rfl), by decide +kernel, by decide +kernel⟩
theorem dnX5_leftOver : (parseMethodDescriptor yX5_leftOver.desc).map (fun d => d.parameters.length) = some 0 := by decide +kernel
theorem inX5_leftOver : Cond.instanceMethod yX5_leftOver ∈ q_tbl ∧ Cond.selects yX5_leftOver.cls yX5_leftOver yX5_leftOver ∈ q_tbl := ⟨(q_tb5 225 rfl rfl), (q_tb5 226 rfl rfl)⟩
theorem calX5_mayHave : q_cal yX5_mayHave cX5_mayHave 4 (some .boolean) := ⟨(q_tb1 6 rfl rfl), (q_tb5 216 rfl rfl), by decide +kernel, by decide +kernel⟩
theorem dnX5_mayHave : (parseMethodDescriptor yX5_mayHave.desc).map (fun d => d.parameters.length) = some 2 := by decide +kernel
theorem inX5_mayHave : Cond.instanceMethod yX5_mayHave ∈ q_tbl ∧ Cond.selects yX5_mayHave.cls yX5_mayHave yX5_mayHave ∈ q_tbl := ⟨(q_tb5 215 rfl rfl), (q_sl 47 rfl rfl)⟩
theorem calX5_mostBy : q_cal yX5_mostBy cX5_mostBy 5 (some .int) := ⟨(q_tb1 6 rfl rfl), (q_tb5 205 rfl rfl), by decide +kernel, by decide +kernel⟩
theorem dnX5_mostBy : (parseMethodDescriptor yX5_mostBy.desc).map (fun d => d.parameters.length) = some 2 := by decide +kernel
theorem inX5_mostBy : Cond.instanceMethod yX5_mostBy ∈ q_tbl ∧ Cond.selects yX5_mostBy.cls yX5_mostBy yX5_mostBy ∈ q_tbl := ⟨(q_tb5 204 rfl rfl), (q_sl 45 rfl rfl)⟩
theorem calX5_narrowed : q_cal yX5_narrowed cX5_narrowed 2 (some .long) := ⟨(q_tb1 6 rfl rfl), (q_tb6 163 rfl rfl), by decide +kernel, by decide +kernel⟩
theorem dnX5_narrowed : (parseMethodDescriptor yX5_narrowed.desc).map (fun d => d.parameters.length) = some 2 := by decide +kernel
theorem inX5_narrowed : Cond.static yX5_narrowed ∈ q_tbl := (q_tb6 162 rfl rfl)
theorem calX5_onesOf : q_cal yX5_onesOf cX5_onesOf 3 (some .int) := ⟨(q_tb1 6 rfl rfl), (q_tb6 19 rfl rfl), by decide +kernel, by decide +kernel⟩
theorem dnX5_onesOf : (parseMethodDescriptor yX5_onesOf.desc).map (fun d => d.parameters.length) = some 1 := by decide +kernel
theorem inX5_onesOf : Cond.static yX5_onesOf ∈ q_tbl := (q_tb6 18 rfl rfl)
theorem calX5_paidBy : q_cal yX5_paidBy cX5_paidBy 4 (some .int) := ⟨(q_tb1 6 rfl rfl), (q_tb6 79 rfl rfl), by decide +kernel, by decide +kernel⟩
theorem dnX5_paidBy : (parseMethodDescriptor yX5_paidBy.desc).map (fun d => d.parameters.length) = some 1 := by decide +kernel
theorem inX5_paidBy : Cond.instanceMethod yX5_paidBy ∈ q_tbl ∧ Cond.selects yX5_paidBy.cls yX5_paidBy yX5_paidBy ∈ q_tbl := ⟨(q_tb6 78 rfl rfl), (q_sl 56 rfl rfl)⟩
theorem calX5_partOf : q_cal yX5_partOf cX5_partOf 7 (some .long) := ⟨(q_tb1 6 rfl rfl), (q_tb6 23 rfl rfl), by decide +kernel, by decide +kernel⟩
theorem dnX5_partOf : (parseMethodDescriptor yX5_partOf.desc).map (fun d => d.parameters.length) = some 3 := by decide +kernel
theorem inX5_partOf : Cond.static yX5_partOf ∈ q_tbl := (q_tb6 22 rfl rfl)
theorem calX5_priceBy : q_cal yX5_priceBy cX5_priceBy 2 (some .int) := ⟨(q_tb1 6 rfl rfl), (q_tb5 109 rfl rfl), by decide +kernel, by decide +kernel⟩
theorem dnX5_priceBy : (parseMethodDescriptor yX5_priceBy.desc).map (fun d => d.parameters.length) = some 2 := by decide +kernel
theorem inX5_priceBy : Cond.static yX5_priceBy ∈ q_tbl := (q_tb5 108 rfl rfl)
theorem calX5_priceOf : q_cal yX5_priceOf cX5_priceOf 2 (some .int) := ⟨(q_tb1 6 rfl rfl), (q_tb5 106 rfl rfl), by decide +kernel, by decide +kernel⟩
theorem dnX5_priceOf : (parseMethodDescriptor yX5_priceOf.desc).map (fun d => d.parameters.length) = some 1 := by decide +kernel
theorem inX5_priceOf : Cond.instanceMethod yX5_priceOf ∈ q_tbl ∧ Cond.selects yX5_priceOf.cls yX5_priceOf yX5_priceOf ∈ q_tbl := ⟨(q_tb5 105 rfl rfl), (q_sl 33 rfl rfl)⟩
theorem calX5_put : q_cal yX5_put cX5_put 5 (some .int) := ⟨(q_tb1 6 rfl rfl), (q_tb6 160 rfl rfl), by decide +kernel, by decide +kernel⟩
theorem dnX5_put : (parseMethodDescriptor yX5_put.desc).map (fun d => d.parameters.length) = some 3 := by decide +kernel
theorem inX5_put : Cond.instanceMethod yX5_put ∈ q_tbl ∧ Cond.selects yX5_put.cls yX5_put yX5_put ∈ q_tbl := ⟨(q_tb6 158 rfl rfl), (q_tb6 159 rfl rfl)⟩
theorem calX5_readDigits : q_cal yX5_readDigits cX5_readDigits 4 (some .int) := ⟨(q_tb1 6 rfl rfl), (q_tb5 53 rfl rfl), by decide +kernel, by decide +kernel⟩
theorem dnX5_readDigits : (parseMethodDescriptor yX5_readDigits.desc).map (fun d => d.parameters.length) = some 1 := by decide +kernel
theorem inX5_readDigits : Cond.instanceMethod yX5_readDigits ∈ q_tbl ∧ Cond.selects yX5_readDigits.cls yX5_readDigits yX5_readDigits ∈ q_tbl := ⟨(q_tb5 52 rfl rfl), (q_sl 21 rfl rfl)⟩
theorem calX5_readNumbers : q_cal yX5_readNumbers cX5_readNumbers 4 none := ⟨(q_tb1 6 rfl rfl), (q_tb5 49 rfl rfl), by decide +kernel, by decide +kernel⟩
theorem dnX5_readNumbers : (parseMethodDescriptor yX5_readNumbers.desc).map (fun d => d.parameters.length) = some 2 := by decide +kernel
theorem inX5_readNumbers : Cond.instanceMethod yX5_readNumbers ∈ q_tbl ∧ Cond.selects yX5_readNumbers.cls yX5_readNumbers yX5_readNumbers ∈ q_tbl := ⟨(q_tb5 48 rfl rfl), (q_sl 20 rfl rfl)⟩
theorem calX5_readStatement : q_cal yX5_readStatement cX5_readStatement 3 none := ⟨(q_tb1 6 rfl rfl), (q_tb5 41 rfl rfl), by decide +kernel, by decide +kernel⟩
theorem dnX5_readStatement : (parseMethodDescriptor yX5_readStatement.desc).map (fun d => d.parameters.length) = some 0 := by decide +kernel
theorem inX5_readStatement : Cond.instanceMethod yX5_readStatement ∈ q_tbl ∧ Cond.selects yX5_readStatement.cls yX5_readStatement yX5_readStatement ∈ q_tbl := ⟨(q_tb5 40 rfl rfl), (q_sl 18 rfl rfl)⟩
theorem calX5_ready : q_cal yX5_ready cX5_ready 8 (some .int) := ⟨(q_tb1 6 rfl rfl), (q_tb6 50 rfl rfl), by decide +kernel, by decide +kernel⟩
theorem dnX5_ready : (parseMethodDescriptor yX5_ready.desc).map (fun d => d.parameters.length) = some 2 := by decide +kernel
theorem inX5_ready : Cond.instanceMethod yX5_ready ∈ q_tbl ∧ Cond.selects yX5_ready.cls yX5_ready yX5_ready ∈ q_tbl := ⟨(q_tb6 48 rfl rfl), (q_tb6 49 rfl rfl)⟩
theorem calX5_refuse : q_cal yX5_refuse cX5_refuse 4 (some .int) := ⟨(q_tb1 6 rfl rfl), (q_tb6 34 rfl rfl), by decide +kernel, by decide +kernel⟩
theorem dnX5_refuse : (parseMethodDescriptor yX5_refuse.desc).map (fun d => d.parameters.length) = some 0 := by decide +kernel
theorem inX5_refuse : Cond.instanceMethod yX5_refuse ∈ q_tbl ∧ Cond.selects yX5_refuse.cls yX5_refuse yX5_refuse ∈ q_tbl := ⟨(q_tb6 32 rfl rfl), (q_tb6 33 rfl rfl)⟩
theorem calX5_returns : q_cal yX5_returns cX5_returns 3 (some .int) := ⟨(q_tb1 6 rfl rfl), (q_tb5 180 rfl rfl), by decide +kernel, by decide +kernel⟩
theorem dnX5_returns : (parseMethodDescriptor yX5_returns.desc).map (fun d => d.parameters.length) = some 1 := by decide +kernel
theorem inX5_returns : Cond.instanceMethod yX5_returns ∈ q_tbl ∧ Cond.selects yX5_returns.cls yX5_returns yX5_returns ∈ q_tbl := ⟨(q_tb5 178 rfl rfl), (q_tb5 179 rfl rfl)⟩
theorem calX5_row : q_cal yX5_row cX5_row 5 (some .int) := ⟨(q_tb1 6 rfl rfl), (q_tb6 156 rfl rfl), by decide +kernel, by decide +kernel⟩
theorem dnX5_row : (parseMethodDescriptor yX5_row.desc).map (fun d => d.parameters.length) = some 3 := by decide +kernel
theorem inX5_row : Cond.instanceMethod yX5_row ∈ q_tbl ∧ Cond.selects yX5_row.cls yX5_row yX5_row ∈ q_tbl := ⟨(q_tb6 154 rfl rfl), (q_tb6 155 rfl rfl)⟩
theorem calX5_sell : q_cal yX5_sell cX5_sell 6 (some .int) := ⟨(q_tb1 6 rfl rfl), (q_tb6 42 rfl rfl), by decide +kernel, by decide +kernel⟩
theorem dnX5_sell : (parseMethodDescriptor yX5_sell.desc).map (fun d => d.parameters.length) = some 0 := by decide +kernel
theorem inX5_sell : Cond.instanceMethod yX5_sell ∈ q_tbl ∧ Cond.selects yX5_sell.cls yX5_sell yX5_sell ∈ q_tbl := ⟨(q_tb6 40 rfl rfl), (q_tb6 41 rfl rfl)⟩
theorem calX5_served : q_cal yX5_served cX5_served 2 (some .int) := ⟨(q_tb1 6 rfl rfl), (q_tb5 192 rfl rfl), by decide +kernel, by decide +kernel⟩
theorem dnX5_served : (parseMethodDescriptor yX5_served.desc).map (fun d => d.parameters.length) = some 1 := by decide +kernel
theorem inX5_served : Cond.instanceMethod yX5_served ∈ q_tbl ∧ Cond.selects yX5_served.cls yX5_served yX5_served ∈ q_tbl := ⟨(q_tb5 190 rfl rfl), (q_tb5 191 rfl rfl)⟩
theorem calX5_servedNow : q_cal yX5_servedNow cX5_servedNow 1 (some .int) := ⟨(q_tb1 6 rfl rfl), (q_tb5 197 rfl rfl), by decide +kernel, by decide +kernel⟩
theorem dnX5_servedNow : (parseMethodDescriptor yX5_servedNow.desc).map (fun d => d.parameters.length) = some 0 := by decide +kernel
theorem inX5_servedNow : Cond.instanceMethod yX5_servedNow ∈ q_tbl ∧ Cond.selects yX5_servedNow.cls yX5_servedNow yX5_servedNow ∈ q_tbl := ⟨(q_tb5 196 rfl rfl), (q_sl 43 rfl rfl)⟩
theorem calX5_shines : q_cal yX5_shines cX5_shines 3 (some .int) := ⟨(q_tb1 6 rfl rfl), (q_tb6 46 rfl rfl), by decide +kernel, by decide +kernel⟩
theorem dnX5_shines : (parseMethodDescriptor yX5_shines.desc).map (fun d => d.parameters.length) = some 0 := by decide +kernel
theorem inX5_shines : Cond.instanceMethod yX5_shines ∈ q_tbl ∧ Cond.selects yX5_shines.cls yX5_shines yX5_shines ∈ q_tbl := ⟨(q_tb6 44 rfl rfl), (q_tb6 45 rfl rfl)⟩
theorem calX5_skipped : q_cal yX5_skipped cX5_skipped 2 (some .long) := ⟨(q_tb1 6 rfl rfl), (q_tb6 59 rfl rfl), by decide +kernel, by decide +kernel⟩
theorem dnX5_skipped : (parseMethodDescriptor yX5_skipped.desc).map (fun d => d.parameters.length) = some 1 := by decide +kernel
theorem inX5_skipped : Cond.instanceMethod yX5_skipped ∈ q_tbl ∧ Cond.selects yX5_skipped.cls yX5_skipped yX5_skipped ∈ q_tbl := ⟨(q_tb6 58 rfl rfl), (q_sl 53 rfl rfl)⟩
theorem calX5_stained : q_cal yX5_stained cX5_stained 8 (some .int) := ⟨(q_tb1 6 rfl rfl), (q_tb6 119 rfl rfl), by decide +kernel, by decide +kernel⟩
theorem dnX5_stained : (parseMethodDescriptor yX5_stained.desc).map (fun d => d.parameters.length) = some 3 := by decide +kernel
theorem inX5_stained : Cond.instanceMethod yX5_stained ∈ q_tbl ∧ Cond.selects yX5_stained.cls yX5_stained yX5_stained ∈ q_tbl := ⟨(q_tb6 117 rfl rfl), (q_tb6 118 rfl rfl)⟩
theorem calX5_suit : q_cal yX5_suit cX5_suit 3 (some .int) := ⟨(q_tb1 6 rfl rfl), (q_tb5 149 rfl rfl), by decide +kernel, by decide +kernel⟩
theorem dnX5_suit : (parseMethodDescriptor yX5_suit.desc).map (fun d => d.parameters.length) = some 2 := by decide +kernel
theorem inX5_suit : Cond.instanceMethod yX5_suit ∈ q_tbl ∧ Cond.selects yX5_suit.cls yX5_suit yX5_suit ∈ q_tbl := ⟨(q_tb5 147 rfl rfl), (q_tb5 148 rfl rfl)⟩
theorem calX5_suitComes : q_cal yX5_suitComes cX5_suitComes 6 (some .boolean) := ⟨(q_tb1 6 rfl rfl), (q_tb5 75 rfl rfl), by decide +kernel, by decide +kernel⟩
theorem dnX5_suitComes : (parseMethodDescriptor yX5_suitComes.desc).map (fun d => d.parameters.length) = some 4 := by decide +kernel
theorem inX5_suitComes : Cond.instanceMethod yX5_suitComes ∈ q_tbl ∧ Cond.selects yX5_suitComes.cls yX5_suitComes yX5_suitComes ∈ q_tbl := ⟨(q_tb5 74 rfl rfl), (q_sl 26 rfl rfl)⟩
theorem calX5_taxi : q_cal yX5_taxi cX5_taxi 4 (some .int) := ⟨(q_tb1 6 rfl rfl), (q_tb6 95 rfl rfl), by decide +kernel, by decide +kernel⟩
theorem dnX5_taxi : (parseMethodDescriptor yX5_taxi.desc).map (fun d => d.parameters.length) = some 3 := by decide +kernel
theorem inX5_taxi : Cond.instanceMethod yX5_taxi ∈ q_tbl ∧ Cond.selects yX5_taxi.cls yX5_taxi yX5_taxi ∈ q_tbl := ⟨(q_tb6 93 rfl rfl), (q_tb6 94 rfl rfl)⟩
theorem calX5_thrown : q_cal yX5_thrown cX5_thrown 1 (some .int) := ⟨(q_tb1 6 rfl rfl), (q_tb5 25 rfl rfl), by decide +kernel, by decide +kernel⟩
theorem dnX5_thrown : (parseMethodDescriptor yX5_thrown.desc).map (fun d => d.parameters.length) = some 0 := by decide +kernel
theorem inX5_thrown : Cond.instanceMethod yX5_thrown ∈ q_tbl ∧ Cond.selects yX5_thrown.cls yX5_thrown yX5_thrown ∈ q_tbl := ⟨(q_tb5 23 rfl rfl), (q_tb5 24 rfl rfl)⟩
theorem calX5_tight : q_cal yX5_tight cX5_tight 4 (some .int) := ⟨(q_tb1 6 rfl rfl), (q_tb6 103 rfl rfl), by decide +kernel, by decide +kernel⟩
theorem dnX5_tight : (parseMethodDescriptor yX5_tight.desc).map (fun d => d.parameters.length) = some 0 := by decide +kernel
theorem inX5_tight : Cond.instanceMethod yX5_tight ∈ q_tbl ∧ Cond.selects yX5_tight.cls yX5_tight yX5_tight ∈ q_tbl := ⟨(q_tb6 101 rfl rfl), (q_tb6 102 rfl rfl)⟩
theorem calX5_toldHour : q_cal yX5_toldHour cX5_toldHour 3 (some .long) := ⟨(q_tb1 6 rfl rfl), (q_tb6 67 rfl rfl), by decide +kernel, by decide +kernel⟩
theorem dnX5_toldHour : (parseMethodDescriptor yX5_toldHour.desc).map (fun d => d.parameters.length) = some 2 := by decide +kernel
theorem inX5_toldHour : Cond.instanceMethod yX5_toldHour ∈ q_tbl ∧ Cond.selects yX5_toldHour.cls yX5_toldHour yX5_toldHour ∈ q_tbl := ⟨(q_tb6 66 rfl rfl), (q_sl 54 rfl rfl)⟩
theorem calX5_toss : q_cal yX5_toss cX5_toss 4 (some .int) := ⟨(q_tb1 6 rfl rfl), (q_tb6 182 rfl rfl), by decide +kernel, by decide +kernel⟩
theorem dnX5_toss : (parseMethodDescriptor yX5_toss.desc).map (fun d => d.parameters.length) = some 1 := by decide +kernel
theorem inX5_toss : Cond.instanceMethod yX5_toss ∈ q_tbl ∧ Cond.selects yX5_toss.cls yX5_toss yX5_toss ∈ q_tbl := ⟨(q_tb6 180 rfl rfl), (q_tb6 181 rfl rfl)⟩
theorem calX5_wrongHours : q_cal yX5_wrongHours cX5_wrongHours 6 (some .int) := ⟨(q_tb1 6 rfl rfl), (q_tb6 55 rfl rfl), by decide +kernel, by decide +kernel⟩
theorem dnX5_wrongHours : (parseMethodDescriptor yX5_wrongHours.desc).map (fun d => d.parameters.length) = some 1 := by decide +kernel
theorem inX5_wrongHours : Cond.instanceMethod yX5_wrongHours ∈ q_tbl ∧ Cond.selects yX5_wrongHours.cls yX5_wrongHours yX5_wrongHours ∈ q_tbl := ⟨(q_tb6 54 rfl rfl), (q_sl 52 rfl rfl)⟩
theorem calX5_wrongKept : q_cal yX5_wrongKept cX5_wrongKept 2 (some .int) := ⟨(q_tb1 6 rfl rfl), (q_tb5 166 rfl rfl), by decide +kernel, by decide +kernel⟩
theorem dnX5_wrongKept : (parseMethodDescriptor yX5_wrongKept.desc).map (fun d => d.parameters.length) = some 1 := by decide +kernel
theorem inX5_wrongKept : Cond.instanceMethod yX5_wrongKept ∈ q_tbl ∧ Cond.selects yX5_wrongKept.cls yX5_wrongKept yX5_wrongKept ∈ q_tbl := ⟨(q_tb5 165 rfl rfl), (q_sl 42 rfl rfl)⟩
theorem calX5_wrongPairs : q_cal yX5_wrongPairs cX5_wrongPairs 3 (some .int) := ⟨(q_tb1 6 rfl rfl), (q_tb6 111 rfl rfl), by decide +kernel, by decide +kernel⟩
theorem dnX5_wrongPairs : (parseMethodDescriptor yX5_wrongPairs.desc).map (fun d => d.parameters.length) = some 1 := by decide +kernel
theorem inX5_wrongPairs : Cond.instanceMethod yX5_wrongPairs ∈ q_tbl ∧ Cond.selects yX5_wrongPairs.cls yX5_wrongPairs yX5_wrongPairs ∈ q_tbl := ⟨(q_tb6 110 rfl rfl), (q_sl 58 rfl rfl)⟩
theorem calX5_wrongRow : q_cal yX5_wrongRow cX5_wrongRow 2 (some .int) := ⟨(q_tb1 6 rfl rfl), (q_tb5 33 rfl rfl), by decide +kernel, by decide +kernel⟩
theorem dnX5_wrongRow : (parseMethodDescriptor yX5_wrongRow.desc).map (fun d => d.parameters.length) = some 1 := by decide +kernel
theorem inX5_wrongRow : Cond.instanceMethod yX5_wrongRow ∈ q_tbl ∧ Cond.selects yX5_wrongRow.cls yX5_wrongRow yX5_wrongRow ∈ q_tbl := ⟨(q_tb5 32 rfl rfl), (q_sl 17 rfl rfl)⟩
theorem lkX0_46 : Cond.methodLink RX0 46 yX2_openBookings ∈ q_tbl := (q_tb2 165 rfl rfl)
theorem lkX0_52 : Cond.methodLink RX0 52 yX2_suitsThatAre ∈ q_tbl := (q_tb2 169 rfl rfl)
theorem lkX0_56 : Cond.methodLink RX0 56 yX2_kindOf ∈ q_tbl := (q_tb2 173 rfl rfl)
theorem lkX0_63 : Cond.methodLinkNest RX0 63 yX4_at "BackByNoonOnMonday" ∈ lw_tbl := q_in2 174 rfl
theorem lkX0_67 : Cond.methodLinkNest RX0 67 yX4_hasBit "BackByNoonOnMonday" ∈ lw_tbl := q_in2 175 rfl
theorem lkX0_71 : Cond.methodLink RX0 71 yX2_takers ∈ q_tbl := (q_tb2 178 rfl rfl)
theorem lkX0_74 : Cond.methodLinkNest RX0 74 yX4_set "BackByNoonOnMonday" ∈ lw_tbl := q_in2 185 rfl
theorem lkX0_83 : Cond.methodLinkNest RX0 83 yX4_fill "BackByNoonOnMonday" ∈ lw_tbl := q_in2 186 rfl
theorem lkX0_91 : Cond.methodLink RX0 91 yX2_groupBits ∈ q_tbl := (q_tb2 236 rfl rfl)
theorem lkX0_97 : Cond.methodLink RX0 97 yX0_clear ∈ q_tbl := (q_tb2 191 rfl rfl)
theorem lkX0_100 : Cond.methodLink RX0 100 yX0_seat ∈ q_tbl := (q_tb2 195 rfl rfl)
theorem lkX0_103 : Cond.methodLink RX0 103 yX0_dearest ∈ q_tbl := (q_tb2 224 rfl rfl)
theorem lkX0_106 : Cond.methodLink RX0 106 yX0_most ∈ q_tbl := (q_tb2 207 rfl rfl)
theorem lkX0_110 : Cond.methodLink RX0 110 yX0_leastKeeping ∈ q_tbl := (q_tb2 208 rfl rfl)
theorem lkX0_114 : Cond.methodLink RX0 114 yX0_moveOn ∈ q_tbl := (q_tb2 199 rfl rfl)
theorem lkX1_35 : Cond.methodLinkNest RX1 35 yX4_at "BackByNoonOnMonday" ∈ lw_tbl := q_in2 32 rfl
theorem lkX1_39 : Cond.methodLink RX1 39 yX1_byteAt ∈ q_tbl := (q_tb2 60 rfl rfl)
theorem lkX2_65 : Cond.methodLink RX2 65 yX2_kindOf ∈ q_tbl := (q_tb2 46 rfl rfl)
theorem lkX2_73 : Cond.methodLinkNest RX2 73 yX4_isIn "BackByNoonOnMonday" ∈ lw_tbl := q_in2 86 rfl
theorem lkX2_77 : Cond.methodLinkNest RX2 77 yX4_set "BackByNoonOnMonday" ∈ lw_tbl := q_in2 68 rfl
theorem lkX2_81 : Cond.methodLink RX2 81 yX2_isSuit ∈ q_tbl := (q_tb2 82 rfl rfl)
theorem lkX2_85 : Cond.methodLink RX2 85 yX2_isBooking ∈ q_tbl := (q_tb2 87 rfl rfl)
theorem lkX2_88 : Cond.methodLinkNest RX2 88 yX4_at "BackByNoonOnMonday" ∈ lw_tbl := q_in2 91 rfl
theorem lkX2_92 : Cond.methodLink RX2 92 yX2_canHire ∈ q_tbl := (q_tb2 92 rfl rfl)
theorem lkX2_98 : Cond.methodLink RX2 98 yX2_isRightFor ∈ q_tbl := (q_tb2 96 rfl rfl)
theorem lkX2_102 : Cond.methodLink RX2 102 yX2_holderOf ∈ q_tbl := (q_tb2 108 rfl rfl)
theorem lkX2_109 : Cond.methodLink RX2 109 yX2_reaches ∈ q_tbl := (q_tb2 100 rfl rfl)
theorem lkX2_122 : Cond.methodLinkNest RX2 122 yX4_hasBit "BackByNoonOnMonday" ∈ lw_tbl := q_in3 23 rfl
theorem lkX4_67 : Cond.methodLink RX4 67 yX4_isShelf ∈ q_tbl := (q_tb2 15 rfl rfl)
theorem lkX4_71 : Cond.methodLink RX4 71 yX4_shelfAt ∈ q_tbl := (q_tb2 21 rfl rfl)
theorem lkX4_89 : Cond.methodLink RX4 89 yX2_isSuit ∈ q_tbl := (q_tb2 120 rfl rfl)
theorem lkX4_92 : Cond.methodLink RX4 92 yX2_kindOf ∈ q_tbl := (q_tb2 121 rfl rfl)
theorem lkX4_105 : Cond.methodLink RX4 105 yX4_at ∈ q_tbl := (q_tb2 122 rfl rfl)
theorem lkX4_127 : Cond.methodLink RX4 127 yX2_isBooking ∈ q_tbl := (q_tb2 127 rfl rfl)
theorem lkX4_148 : Cond.methodLink RX4 148 yX4_isIn ∈ q_tbl := (q_tb2 18 rfl rfl)
theorem lkX4_152 : Cond.methodLink RX4 152 yX1_refusal ∈ q_tbl := (q_tb2 132 rfl rfl)
theorem lkX4_163 : Cond.methodLink RX4 163 yX2_addBooking ∈ q_tbl := (q_tb2 74 rfl rfl)
theorem lkX4_167 : Cond.methodLink RX4 167 yX2_hire ∈ q_tbl := (q_tb2 78 rfl rfl)
theorem lkX4_171 : Cond.methodLink RX4 171 yX2_giveBack ∈ q_tbl := (q_tb2 104 rfl rfl)
theorem lkX4_174 : Cond.methodLink RX4 174 yX2_clean ∈ q_tbl := (q_tb2 112 rfl rfl)
theorem lkX4_177 : Cond.methodLink RX4 177 yX2_isRightFor ∈ q_tbl := (q_tb2 156 rfl rfl)
theorem lkX4_184 : Cond.methodLink RX4 184 yX0_load ∈ q_tbl := (q_tb2 161 rfl rfl)
theorem lkX4_194 : Cond.methodLink RX4 194 yX0_most ∈ q_tbl := (q_tb2 187 rfl rfl)
theorem lkX4_197 : Cond.methodLink RX4 197 yX0_chooseFirst ∈ q_tbl := (q_tb2 203 rfl rfl)
theorem lkX4_204 : Cond.methodLink RX4 204 yX0_richest ∈ q_tbl := (q_tb2 220 rfl rfl)
theorem lkX4_207 : Cond.methodLink RX4 207 yX0_dress ∈ q_tbl := (q_tb2 232 rfl rfl)
theorem lkX4_217 : Cond.methodLink RX4 217 yJ6_bitCount_0f7a4 ∈ q_tbl := (q_tb3 13 rfl rfl)
theorem lkX4_222 : Cond.methodLink RX4 222 yX2_growthWeight ∈ q_tbl := (q_tb3 19 rfl rfl)
theorem lkX4_226 : Cond.methodLink RX4 226 yX0_grow ∈ q_tbl := (q_tb3 24 rfl rfl)
theorem lkX4_230 : Cond.methodLink RX4 230 yX4_tenTo ∈ q_tbl := (q_tb3 28 rfl rfl)
theorem lkX4_234 : Cond.methodLink RX4 234 yX4_partOf ∈ q_tbl := (q_tb3 32 rfl rfl)
theorem lkX4_238 : Cond.methodLink RX4 238 yX4_fillWays ∈ q_tbl := (q_tb3 42 rfl rfl)
theorem lkX4_241 : Cond.methodLink RX4 241 yX4_hasBit ∈ q_tbl := (q_tb3 51 rfl rfl)
theorem lkX4_247 : Cond.methodLink RX4 247 yX4_readHours ∈ q_tbl := (q_tb3 68 rfl rfl)
theorem lkX4_251 : Cond.methodLink RX4 251 yX2_suitsThatAre ∈ q_tbl := (q_tb3 77 rfl rfl)
theorem lkX4_254 : Cond.methodLink RX4 254 yX2_hoursOf ∈ q_tbl := (q_tb3 78 rfl rfl)
theorem lkX4_257 : Cond.methodLink RX4 257 yX4_orderCleaning ∈ q_tbl := (q_tb3 82 rfl rfl)
theorem lkX4_260 : Cond.methodLink RX4 260 yX4_mostReady ∈ q_tbl := (q_tb3 86 rfl rfl)
theorem lkX4_263 : Cond.methodLink RX4 263 yX4_firstCleaned ∈ q_tbl := (q_tb3 94 rfl rfl)
theorem lkX4_266 : Cond.methodLink RX4 266 yX4_feeTenths ∈ q_tbl := (q_tb3 102 rfl rfl)
theorem lkX4_269 : Cond.methodLink RX4 269 yX4_comersFor ∈ q_tbl := (q_tb3 106 rfl rfl)
theorem lkX4_272 : Cond.methodLink RX4 272 yX2_holderOf ∈ q_tbl := (q_tb3 122 rfl rfl)
theorem lkX4_275 : Cond.methodLink RX4 275 yX2_couldChange ∈ q_tbl := (q_tb3 127 rfl rfl)
theorem lkX4_278 : Cond.methodLink RX4 278 yX2_reaches ∈ q_tbl := (q_tb3 135 rfl rfl)
theorem lkX4_282 : Cond.methodLink RX4 282 yX4_pairRefusal ∈ q_tbl := (q_tb3 140 rfl rfl)
theorem lkX4_285 : Cond.methodLink RX4 285 yX4_firstForged ∈ q_tbl := (q_tb3 143 rfl rfl)
theorem lkX4_288 : Cond.methodLink RX4 288 yX4_suitsHad ∈ q_tbl := (q_tb3 147 rfl rfl)
theorem lkX4_298 : Cond.methodLink RX4 298 yX1_least ∈ q_tbl := (q_tb3 72 rfl rfl)
theorem lkX4_304 : Cond.methodLink RX4 304 yX4_nextSeed ∈ q_tbl := (q_tb3 162 rfl rfl)
theorem lkX4_307 : Cond.methodLink RX4 307 yX4_drawBelow ∈ q_tbl := (q_tb3 166 rfl rfl)
theorem lkX4_310 : Cond.methodLink RX4 310 yX2_leastFor ∈ q_tbl := (q_tb3 171 rfl rfl)
theorem lkX4_319 : Cond.methodLink RX4 319 yX2_allWorn ∈ q_tbl := (q_tb3 187 rfl rfl)
theorem lkX4_329 : Cond.methodLink RX4 329 yX1_lay ∈ q_tbl := (q_tb3 207 rfl rfl)
theorem lkX4_332 : Cond.methodLink RX4 332 yX1_narrowed ∈ q_tbl := (q_tb3 215 rfl rfl)
theorem lkX4_335 : Cond.methodLink RX4 335 yX4_set ∈ q_tbl := (q_tb3 46 rfl rfl)
theorem lkX4_369 : Cond.methodLink RX4 369 yX1_byteAt ∈ q_tbl := (q_tb2 28 rfl rfl)
theorem lkX4_372 : Cond.methodLink RX4 372 yX4_digitsBehind ∈ q_tbl := (q_tb2 35 rfl rfl)
theorem lkX4_379 : Cond.methodLink RX4 379 yX1_number ∈ q_tbl := (q_tb2 56 rfl rfl)
theorem lkX4_387 : Cond.methodLink RX4 387 yX4_commonDivisor ∈ q_tbl := (q_tb3 35 rfl rfl)
theorem lkX4_396 : Cond.methodLink RX4 396 yX4_inTime ∈ q_tbl := (q_tb3 90 rfl rfl)
theorem lkX5_96 : Cond.methodLink RX5 96 yX5_in ∈ q_tbl := (q_tb5 35 rfl rfl)
theorem lkX5_103 : Cond.methodLink RX5 103 yX5_priceBy ∈ q_tbl := (q_tb5 107 rfl rfl)
theorem lkX5_107 : Cond.methodLink RX5 107 yX5_apart ∈ q_tbl := (q_tb5 96 rfl rfl)
theorem lkX5_110 : Cond.methodLink RX5 110 yX5_givesOf ∈ q_tbl := (q_tb5 99 rfl rfl)
theorem lkX5_114 : Cond.methodLink RX5 114 yX5_fitsIn ∈ q_tbl := (q_tb5 92 rfl rfl)
theorem lkX5_121 : Cond.methodLink RX5 121 yX5_priceOf ∈ q_tbl := (q_tb5 103 rfl rfl)
theorem lkX5_124 : Cond.methodLink RX5 124 yX5_bookingOf ∈ q_tbl := (q_tb5 118 rfl rfl)
theorem lkX5_130 : Cond.methodLink RX5 130 yX5_cleansOf ∈ q_tbl := (q_tb5 126 rfl rfl)
theorem lkX5_143 : Cond.methodLink RX5 143 yX5_here ∈ q_tbl := (q_tb5 42 rfl rfl)
theorem lkX5_151 : Cond.methodLink RX5 151 yX5_readDigits ∈ q_tbl := (q_tb5 50 rfl rfl)
theorem lkX5_157 : Cond.methodLink RX5 157 yX5_readNumbers ∈ q_tbl := (q_tb5 46 rfl rfl)
theorem lkX5_161 : Cond.methodLink RX5 161 yX5_suitComes ∈ q_tbl := (q_tb5 72 rfl rfl)
theorem lkX5_165 : Cond.methodLink RX5 165 yX5_bookingComes ∈ q_tbl := (q_tb5 76 rfl rfl)
theorem lkX5_169 : Cond.methodLink RX5 169 yX5_isSuit ∈ q_tbl := (q_tb5 80 rfl rfl)
theorem lkX5_173 : Cond.methodLink RX5 173 yX5_isBooking ∈ q_tbl := (q_tb5 84 rfl rfl)
theorem lkX5_176 : Cond.methodLink RX5 176 yX5_canHire ∈ q_tbl := (q_tb5 88 rfl rfl)
theorem lkX5_179 : Cond.methodLink RX5 179 yX5_hire ∈ q_tbl := (q_tb5 110 rfl rfl)
theorem lkX5_182 : Cond.methodLink RX5 182 yX5_comeBack ∈ q_tbl := (q_tb5 114 rfl rfl)
theorem lkX5_186 : Cond.methodLink RX5 186 yX5_canClean ∈ q_tbl := (q_tb5 122 rfl rfl)
theorem lkX5_189 : Cond.methodLink RX5 189 yX5_clean ∈ q_tbl := (q_tb5 130 rfl rfl)
theorem lkX5_192 : Cond.methodLink RX5 192 yX5_wrongRow ∈ q_tbl := (q_tb5 30 rfl rfl)
theorem lkX5_226 : Cond.methodLink RX5 226 yX5_lastsOf ∈ q_tbl := (q_tb5 150 rfl rfl)
theorem lkX5_233 : Cond.methodLink RX5 233 yX5_wrongKept ∈ q_tbl := (q_tb5 163 rfl rfl)
theorem lkX5_243 : Cond.methodLink RX5 243 yX5_hasBit ∈ q_tbl := (q_tb5 210 rfl rfl)
theorem lkX5_249 : Cond.methodLink RX5 249 yX5_isOpen ∈ q_tbl := (q_tb5 206 rfl rfl)
theorem lkX5_252 : Cond.methodLink RX5 252 yX5_mayHave ∈ q_tbl := (q_tb5 213 rfl rfl)
theorem lkX5_258 : Cond.methodLink RX5 258 yX5_greater ∈ q_tbl := (q_tb5 217 rfl rfl)
theorem lkX5_261 : Cond.methodLink RX5 261 yX5_mostBy ∈ q_tbl := (q_tb5 202 rfl rfl)
theorem lkX5_264 : Cond.methodLink RX5 264 yX5_layMost ∈ q_tbl := (q_tb5 198 rfl rfl)
theorem lkX5_267 : Cond.methodLink RX5 267 yX5_servedNow ∈ q_tbl := (q_tb5 194 rfl rfl)
theorem lkX5_272 : Cond.methodLink RX5 272 yX5_layFirst ∈ q_tbl := (q_tb5 220 rfl rfl)
theorem lkX5_275 : Cond.methodLink RX5 275 yX5_inState ∈ q_tbl := (q_tb5 228 rfl rfl)
theorem lkX5_278 : Cond.methodLink RX5 278 yX5_earnedNow ∈ q_tbl := (q_tb5 236 rfl rfl)
theorem lkX5_285 : Cond.methodLink RX5 285 yX5_divisor ∈ q_tbl := (q_tb6 24 rfl rfl)
theorem lkX5_291 : Cond.methodLink RX5 291 yX5_onesOf ∈ q_tbl := (q_tb6 17 rfl rfl)
theorem lkX5_296 : Cond.methodLink RX5 296 yX5_partOf ∈ q_tbl := (q_tb6 21 rfl rfl)
theorem lkX5_306 : Cond.methodLink RX5 306 yX5_skipped ∈ q_tbl := (q_tb6 56 rfl rfl)
theorem lkX5_315 : Cond.methodLink RX5 315 yX5_toldHour ∈ q_tbl := (q_tb6 64 rfl rfl)
theorem lkX5_321 : Cond.methodLink RX5 321 yX5_wrongHours ∈ q_tbl := (q_tb6 52 rfl rfl)
theorem lkX5_324 : Cond.methodLink RX5 324 yX5_isReady ∈ q_tbl := (q_tb6 68 rfl rfl)
theorem lkX5_327 : Cond.methodLink RX5 327 yX5_comesBy ∈ q_tbl := (q_tb6 80 rfl rfl)
theorem lkX5_330 : Cond.methodLink RX5 330 yX5_paidBy ∈ q_tbl := (q_tb6 76 rfl rfl)
theorem lkX5_333 : Cond.methodLink RX5 333 yX5_wrongPairs ∈ q_tbl := (q_tb6 108 rfl rfl)
theorem lkX5_336 : Cond.methodLink RX5 336 yX5_forgedIn ∈ q_tbl := (q_tb6 112 rfl rfl)
theorem lkX5_341 : Cond.methodLink RX5 341 yX5_hadAll ∈ q_tbl := (q_tb6 121 rfl rfl)
theorem lkX5_359 : Cond.methodLink RX5 359 yX5_narrowed ∈ q_tbl := (q_tb6 161 rfl rfl)
theorem lkX5_362 : Cond.methodLink RX5 362 yX5_costOf ∈ q_tbl := (q_tb6 176 rfl rfl)
end
