section
-- ===== PART A: goes FIRST, ahead of the names: the tables' words, and 'selects' of the private methods out of them =====
/-- a private method of a class that the tables say can be made, by its rows of tables_1 -/
def lw_okq (q : MethodName × Nat) : Prop := (q.1.cls ≠ "java/lang/invoke/MethodHandle" ∧ q.1.cls ≠ "java/lang/invoke/VarHandle") ∧ Cond.instantiable q.1.cls q.2 ∈ tables_1 ∧ Cond.privateMethod q.1 ∈ tables_1 ∧ Cond.instanceMethod q.1 ∈ tables_1
theorem lw_p0 : lw_okq (⟨"CableCars", "textOf", "(I)LCableCars$Text;"⟩, 18) := ⟨⟨by decide +kernel, by decide +kernel⟩, List.mem_of_getElem? (i := 20) (by decide +kernel), List.mem_of_getElem? (i := 323) (by decide +kernel), List.mem_of_getElem? (i := 324) (by decide +kernel)⟩
theorem lw_p1 : lw_okq (⟨"CableCars", "readAgain", "(I)V"⟩, 18) := ⟨⟨by decide +kernel, by decide +kernel⟩, List.mem_of_getElem? (i := 20) (by decide +kernel), List.mem_of_getElem? (i := 339) (by decide +kernel), List.mem_of_getElem? (i := 340) (by decide +kernel)⟩
theorem lw_p2 : lw_okq (⟨"CableCars$Triples", "faultIn", "(LCableCars$Text;)I"⟩, 8) := ⟨⟨by decide +kernel, by decide +kernel⟩, List.mem_of_getElem? (i := 52) (by decide +kernel), List.mem_of_getElem? (i := 347) (by decide +kernel), List.mem_of_getElem? (i := 348) (by decide +kernel)⟩
theorem lw_p3 : lw_okq (⟨"CableCars$Triples", "goesOn", "(LCableCars$Text;I)Z"⟩, 8) := ⟨⟨by decide +kernel, by decide +kernel⟩, List.mem_of_getElem? (i := 52) (by decide +kernel), List.mem_of_getElem? (i := 351) (by decide +kernel), List.mem_of_getElem? (i := 352) (by decide +kernel)⟩
theorem lw_p4 : lw_okq (⟨"CableCars$Triples", "isTaken", "(LCableCars$Text;I)Z"⟩, 8) := ⟨⟨by decide +kernel, by decide +kernel⟩, List.mem_of_getElem? (i := 52) (by decide +kernel), List.mem_of_getElem? (i := 356) (by decide +kernel), List.mem_of_getElem? (i := 357) (by decide +kernel)⟩
theorem lw_p5 : lw_okq (⟨"CableCars", "faultOfSpeed", "()I"⟩, 18) := ⟨⟨by decide +kernel, by decide +kernel⟩, List.mem_of_getElem? (i := 20) (by decide +kernel), List.mem_of_getElem? (i := 444) (by decide +kernel), List.mem_of_getElem? (i := 445) (by decide +kernel)⟩
theorem lw_p6 : lw_okq (⟨"CableCars", "isCar", "(I)Z"⟩, 18) := ⟨⟨by decide +kernel, by decide +kernel⟩, List.mem_of_getElem? (i := 20) (by decide +kernel), List.mem_of_getElem? (i := 464) (by decide +kernel), List.mem_of_getElem? (i := 465) (by decide +kernel)⟩
theorem lw_p7 : lw_okq (⟨"CableCars", "toldSpeed", "(I)I"⟩, 18) := ⟨⟨by decide +kernel, by decide +kernel⟩, List.mem_of_getElem? (i := 20) (by decide +kernel), List.mem_of_getElem? (i := 483) (by decide +kernel), List.mem_of_getElem? (i := 484) (by decide +kernel)⟩
theorem lw_p8 : lw_okq (⟨"CableCars", "sheetOf", "(I)LCableCars$Sheet;"⟩, 18) := ⟨⟨by decide +kernel, by decide +kernel⟩, List.mem_of_getElem? (i := 20) (by decide +kernel), List.mem_of_getElem? (i := 514) (by decide +kernel), List.mem_of_getElem? (i := 515) (by decide +kernel)⟩
theorem lw_p9 : lw_okq (⟨"CableCars", "found", "(I)I"⟩, 18) := ⟨⟨by decide +kernel, by decide +kernel⟩, List.mem_of_getElem? (i := 20) (by decide +kernel), List.mem_of_getElem? (i := 518) (by decide +kernel), List.mem_of_getElem? (i := 519) (by decide +kernel)⟩
theorem lw_p10 : lw_okq (⟨"CableCars", "asTold", "()LCableCars$Ride;"⟩, 18) := ⟨⟨by decide +kernel, by decide +kernel⟩, List.mem_of_getElem? (i := 20) (by decide +kernel), List.mem_of_getElem? (i := 527) (by decide +kernel), List.mem_of_getElem? (i := 528) (by decide +kernel)⟩
theorem lw_p11 : lw_okq (⟨"CableCars", "planAsTold", "()V"⟩, 18) := ⟨⟨by decide +kernel, by decide +kernel⟩, List.mem_of_getElem? (i := 20) (by decide +kernel), List.mem_of_getElem? (i := 531) (by decide +kernel), List.mem_of_getElem? (i := 532) (by decide +kernel)⟩
theorem lw_p12 : lw_okq (⟨"CableCars$Plan", "takeEvent", "(III)V"⟩, 9) := ⟨⟨by decide +kernel, by decide +kernel⟩, List.mem_of_getElem? (i := 162) (by decide +kernel), List.mem_of_getElem? (i := 551) (by decide +kernel), List.mem_of_getElem? (i := 552) (by decide +kernel)⟩
theorem lw_p13 : lw_okq (⟨"CableCars$Ride", "start", "(LCableCars$Plan;)V"⟩, 13) := ⟨⟨by decide +kernel, by decide +kernel⟩, List.mem_of_getElem? (i := 206) (by decide +kernel), List.mem_of_getElem? (i := 559) (by decide +kernel), List.mem_of_getElem? (i := 560) (by decide +kernel)⟩
theorem lw_p14 : lw_okq (⟨"CableCars$Ride", "goOn", "(LCableCars$Plan;I)I"⟩, 13) := ⟨⟨by decide +kernel, by decide +kernel⟩, List.mem_of_getElem? (i := 206) (by decide +kernel), List.mem_of_getElem? (i := 567) (by decide +kernel), List.mem_of_getElem? (i := 568) (by decide +kernel)⟩
theorem lw_p15 : lw_okq (⟨"CableCars$Ride", "letOut", "(III)V"⟩, 13) := ⟨⟨by decide +kernel, by decide +kernel⟩, List.mem_of_getElem? (i := 206) (by decide +kernel), List.mem_of_getElem? (i := 578) (by decide +kernel), List.mem_of_getElem? (i := 579) (by decide +kernel)⟩
def lw_privs_1 : List (MethodName × Nat) := [(⟨"CableCars", "textOf", "(I)LCableCars$Text;"⟩, 18), (⟨"CableCars", "readAgain", "(I)V"⟩, 18), (⟨"CableCars$Triples", "faultIn", "(LCableCars$Text;)I"⟩, 8), (⟨"CableCars$Triples", "goesOn", "(LCableCars$Text;I)Z"⟩, 8), (⟨"CableCars$Triples", "isTaken", "(LCableCars$Text;I)Z"⟩, 8), (⟨"CableCars", "faultOfSpeed", "()I"⟩, 18), (⟨"CableCars", "isCar", "(I)Z"⟩, 18), (⟨"CableCars", "toldSpeed", "(I)I"⟩, 18), (⟨"CableCars", "sheetOf", "(I)LCableCars$Sheet;"⟩, 18), (⟨"CableCars", "found", "(I)I"⟩, 18), (⟨"CableCars", "asTold", "()LCableCars$Ride;"⟩, 18), (⟨"CableCars", "planAsTold", "()V"⟩, 18), (⟨"CableCars$Plan", "takeEvent", "(III)V"⟩, 9), (⟨"CableCars$Ride", "start", "(LCableCars$Plan;)V"⟩, 13), (⟨"CableCars$Ride", "goOn", "(LCableCars$Plan;I)I"⟩, 13), (⟨"CableCars$Ride", "letOut", "(III)V"⟩, 13)]
theorem lw_r1 : ∀ q ∈ lw_privs_1, lw_okq q := List.forall_mem_cons.mpr ⟨lw_p0, List.forall_mem_cons.mpr ⟨lw_p1, List.forall_mem_cons.mpr ⟨lw_p2, List.forall_mem_cons.mpr ⟨lw_p3, List.forall_mem_cons.mpr ⟨lw_p4, List.forall_mem_cons.mpr ⟨lw_p5, List.forall_mem_cons.mpr ⟨lw_p6, List.forall_mem_cons.mpr ⟨lw_p7, List.forall_mem_cons.mpr ⟨lw_p8, List.forall_mem_cons.mpr ⟨lw_p9, List.forall_mem_cons.mpr ⟨lw_p10, List.forall_mem_cons.mpr ⟨lw_p11, List.forall_mem_cons.mpr ⟨lw_p12, List.forall_mem_cons.mpr ⟨lw_p13, List.forall_mem_cons.mpr ⟨lw_p14, List.forall_mem_cons.mpr ⟨lw_p15, fun _ h => absurd h List.not_mem_nil⟩⟩⟩⟩⟩⟩⟩⟩⟩⟩⟩⟩⟩⟩⟩⟩
theorem lw_p16 : lw_okq (⟨"CableCars$Ride", "letIn", "(III)V"⟩, 13) := ⟨⟨by decide +kernel, by decide +kernel⟩, List.mem_of_getElem? (i := 206) (by decide +kernel), List.mem_of_getElem? (i := 586) (by decide +kernel), List.mem_of_getElem? (i := 587) (by decide +kernel)⟩
theorem lw_p17 : lw_okq (⟨"CableCars$Ride", "stand", "(LCableCars$Plan;I)V"⟩, 13) := ⟨⟨by decide +kernel, by decide +kernel⟩, List.mem_of_getElem? (i := 206) (by decide +kernel), List.mem_of_getElem? (i := 592) (by decide +kernel), List.mem_of_getElem? (i := 593) (by decide +kernel)⟩
theorem lw_p18 : lw_okq (⟨"CableCars$Ride", "note", "(I)V"⟩, 13) := ⟨⟨by decide +kernel, by decide +kernel⟩, List.mem_of_getElem? (i := 206) (by decide +kernel), List.mem_of_getElem? (i := 596) (by decide +kernel), List.mem_of_getElem? (i := 597) (by decide +kernel)⟩
theorem lw_p19 : lw_okq (⟨"CableCars", "leftBehind", "(LCableCars$Ride;)I"⟩, 18) := ⟨⟨by decide +kernel, by decide +kernel⟩, List.mem_of_getElem? (i := 20) (by decide +kernel), List.mem_of_getElem? (i := 643) (by decide +kernel), List.mem_of_getElem? (i := 644) (by decide +kernel)⟩
theorem lw_p20 : lw_okq (⟨"CableCars", "anotherHangsAt", "(II)Z"⟩, 18) := ⟨⟨by decide +kernel, by decide +kernel⟩, List.mem_of_getElem? (i := 20) (by decide +kernel), List.mem_of_getElem? (i := 655) (by decide +kernel), List.mem_of_getElem? (i := 656) (by decide +kernel)⟩
theorem lw_p21 : lw_okq (⟨"CableCars", "leastSpared", "()I"⟩, 18) := ⟨⟨by decide +kernel, by decide +kernel⟩, List.mem_of_getElem? (i := 20) (by decide +kernel), List.mem_of_getElem? (i := 672) (by decide +kernel), List.mem_of_getElem? (i := 673) (by decide +kernel)⟩
theorem lw_p22 : lw_okq (⟨"CableCars", "nobodyLeftWithout", "(I)Z"⟩, 18) := ⟨⟨by decide +kernel, by decide +kernel⟩, List.mem_of_getElem? (i := 20) (by decide +kernel), List.mem_of_getElem? (i := 676) (by decide +kernel), List.mem_of_getElem? (i := 677) (by decide +kernel)⟩
theorem lw_p23 : lw_okq (⟨"CableCars", "comesOutAsSeen", "()Z"⟩, 18) := ⟨⟨by decide +kernel, by decide +kernel⟩, List.mem_of_getElem? (i := 20) (by decide +kernel), List.mem_of_getElem? (i := 710) (by decide +kernel), List.mem_of_getElem? (i := 711) (by decide +kernel)⟩
theorem lw_p24 : lw_okq (⟨"CableCars", "likelyRooms", "(I)I"⟩, 18) := ⟨⟨by decide +kernel, by decide +kernel⟩, List.mem_of_getElem? (i := 20) (by decide +kernel), List.mem_of_getElem? (i := 722) (by decide +kernel), List.mem_of_getElem? (i := 723) (by decide +kernel)⟩
theorem lw_p25 : lw_okq (⟨"CableCars", "likelySorts", "(I)I"⟩, 18) := ⟨⟨by decide +kernel, by decide +kernel⟩, List.mem_of_getElem? (i := 20) (by decide +kernel), List.mem_of_getElem? (i := 726) (by decide +kernel), List.mem_of_getElem? (i := 727) (by decide +kernel)⟩
theorem lw_p26 : lw_okq (⟨"CableCars", "noteCrowdsByRoom", "(I)V"⟩, 18) := ⟨⟨by decide +kernel, by decide +kernel⟩, List.mem_of_getElem? (i := 20) (by decide +kernel), List.mem_of_getElem? (i := 734) (by decide +kernel), List.mem_of_getElem? (i := 735) (by decide +kernel)⟩
theorem lw_p27 : lw_okq (⟨"CableCars", "mostAlike", "(I)I"⟩, 18) := ⟨⟨by decide +kernel, by decide +kernel⟩, List.mem_of_getElem? (i := 20) (by decide +kernel), List.mem_of_getElem? (i := 742) (by decide +kernel), List.mem_of_getElem? (i := 743) (by decide +kernel)⟩
theorem lw_p28 : lw_okq (⟨"CableCars", "sharesWithNobodyWaiting", "(II)J"⟩, 18) := ⟨⟨by decide +kernel, by decide +kernel⟩, List.mem_of_getElem? (i := 20) (by decide +kernel), List.mem_of_getElem? (i := 752) (by decide +kernel), List.mem_of_getElem? (i := 753) (by decide +kernel)⟩
theorem lw_p29 : lw_okq (⟨"CableCars", "sharesOf", "(II)J"⟩, 18) := ⟨⟨by decide +kernel, by decide +kernel⟩, List.mem_of_getElem? (i := 20) (by decide +kernel), List.mem_of_getElem? (i := 756) (by decide +kernel), List.mem_of_getElem? (i := 757) (by decide +kernel)⟩
theorem lw_p30 : lw_okq (⟨"CableCars", "digestTold", "(J)J"⟩, 18) := ⟨⟨by decide +kernel, by decide +kernel⟩, List.mem_of_getElem? (i := 20) (by decide +kernel), List.mem_of_getElem? (i := 827) (by decide +kernel), List.mem_of_getElem? (i := 828) (by decide +kernel)⟩
theorem lw_p31 : lw_okq (⟨"CableCarsModel", "faultOf", "(I)I"⟩, 48) := ⟨⟨by decide +kernel, by decide +kernel⟩, List.mem_of_getElem? (i := 860) (by decide +kernel), List.mem_of_getElem? (i := 1036) (by decide +kernel), List.mem_of_getElem? (i := 1037) (by decide +kernel)⟩
def lw_privs_2 : List (MethodName × Nat) := [(⟨"CableCars$Ride", "letIn", "(III)V"⟩, 13), (⟨"CableCars$Ride", "stand", "(LCableCars$Plan;I)V"⟩, 13), (⟨"CableCars$Ride", "note", "(I)V"⟩, 13), (⟨"CableCars", "leftBehind", "(LCableCars$Ride;)I"⟩, 18), (⟨"CableCars", "anotherHangsAt", "(II)Z"⟩, 18), (⟨"CableCars", "leastSpared", "()I"⟩, 18), (⟨"CableCars", "nobodyLeftWithout", "(I)Z"⟩, 18), (⟨"CableCars", "comesOutAsSeen", "()Z"⟩, 18), (⟨"CableCars", "likelyRooms", "(I)I"⟩, 18), (⟨"CableCars", "likelySorts", "(I)I"⟩, 18), (⟨"CableCars", "noteCrowdsByRoom", "(I)V"⟩, 18), (⟨"CableCars", "mostAlike", "(I)I"⟩, 18), (⟨"CableCars", "sharesWithNobodyWaiting", "(II)J"⟩, 18), (⟨"CableCars", "sharesOf", "(II)J"⟩, 18), (⟨"CableCars", "digestTold", "(J)J"⟩, 18), (⟨"CableCarsModel", "faultOf", "(I)I"⟩, 48)]
theorem lw_r2 : ∀ q ∈ lw_privs_2, lw_okq q := List.forall_mem_cons.mpr ⟨lw_p16, List.forall_mem_cons.mpr ⟨lw_p17, List.forall_mem_cons.mpr ⟨lw_p18, List.forall_mem_cons.mpr ⟨lw_p19, List.forall_mem_cons.mpr ⟨lw_p20, List.forall_mem_cons.mpr ⟨lw_p21, List.forall_mem_cons.mpr ⟨lw_p22, List.forall_mem_cons.mpr ⟨lw_p23, List.forall_mem_cons.mpr ⟨lw_p24, List.forall_mem_cons.mpr ⟨lw_p25, List.forall_mem_cons.mpr ⟨lw_p26, List.forall_mem_cons.mpr ⟨lw_p27, List.forall_mem_cons.mpr ⟨lw_p28, List.forall_mem_cons.mpr ⟨lw_p29, List.forall_mem_cons.mpr ⟨lw_p30, List.forall_mem_cons.mpr ⟨lw_p31, fun _ h => absurd h List.not_mem_nil⟩⟩⟩⟩⟩⟩⟩⟩⟩⟩⟩⟩⟩⟩⟩⟩
theorem lw_p32 : lw_okq (⟨"CableCarsModel", "readsParts", "(I)I"⟩, 48) := ⟨⟨by decide +kernel, by decide +kernel⟩, List.mem_of_getElem? (i := 860) (by decide +kernel), List.mem_of_getElem? (i := 1040) (by decide +kernel), List.mem_of_getElem? (i := 1041) (by decide +kernel)⟩
theorem lw_p33 : lw_okq (⟨"CableCarsModel", "readsCar", "(II)I"⟩, 48) := ⟨⟨by decide +kernel, by decide +kernel⟩, List.mem_of_getElem? (i := 860) (by decide +kernel), List.mem_of_getElem? (i := 1044) (by decide +kernel), List.mem_of_getElem? (i := 1045) (by decide +kernel)⟩
theorem lw_p34 : lw_okq (⟨"CableCarsModel", "byteAt", "(II)I"⟩, 48) := ⟨⟨by decide +kernel, by decide +kernel⟩, List.mem_of_getElem? (i := 860) (by decide +kernel), List.mem_of_getElem? (i := 1048) (by decide +kernel), List.mem_of_getElem? (i := 1049) (by decide +kernel)⟩
theorem lw_p35 : lw_okq (⟨"CableCarsModel", "isTaken", "(II)Z"⟩, 48) := ⟨⟨by decide +kernel, by decide +kernel⟩, List.mem_of_getElem? (i := 860) (by decide +kernel), List.mem_of_getElem? (i := 1052) (by decide +kernel), List.mem_of_getElem? (i := 1053) (by decide +kernel)⟩
theorem lw_p36 : lw_okq (⟨"CableCarsModel", "readsComing", "(II)I"⟩, 48) := ⟨⟨by decide +kernel, by decide +kernel⟩, List.mem_of_getElem? (i := 860) (by decide +kernel), List.mem_of_getElem? (i := 1056) (by decide +kernel), List.mem_of_getElem? (i := 1057) (by decide +kernel)⟩
theorem lw_p37 : lw_okq (⟨"CableCarsModel", "readsSpeed", "()I"⟩, 48) := ⟨⟨by decide +kernel, by decide +kernel⟩, List.mem_of_getElem? (i := 860) (by decide +kernel), List.mem_of_getElem? (i := 1063) (by decide +kernel), List.mem_of_getElem? (i := 1064) (by decide +kernel)⟩
theorem lw_p38 : lw_okq (⟨"CableCarsModel", "isCar", "(I)Z"⟩, 48) := ⟨⟨by decide +kernel, by decide +kernel⟩, List.mem_of_getElem? (i := 860) (by decide +kernel), List.mem_of_getElem? (i := 1071) (by decide +kernel), List.mem_of_getElem? (i := 1072) (by decide +kernel)⟩
theorem lw_p39 : lw_okq (⟨"CableCarsModel", "reads", "()V"⟩, 48) := ⟨⟨by decide +kernel, by decide +kernel⟩, List.mem_of_getElem? (i := 860) (by decide +kernel), List.mem_of_getElem? (i := 1075) (by decide +kernel), List.mem_of_getElem? (i := 1076) (by decide +kernel)⟩
theorem lw_p40 : lw_okq (⟨"CableCarsModel", "carOf", "(II)I"⟩, 48) := ⟨⟨by decide +kernel, by decide +kernel⟩, List.mem_of_getElem? (i := 860) (by decide +kernel), List.mem_of_getElem? (i := 1082) (by decide +kernel), List.mem_of_getElem? (i := 1083) (by decide +kernel)⟩
theorem lw_p41 : lw_okq (⟨"CableCarsModel", "comingOf", "(II)I"⟩, 48) := ⟨⟨by decide +kernel, by decide +kernel⟩, List.mem_of_getElem? (i := 860) (by decide +kernel), List.mem_of_getElem? (i := 1090) (by decide +kernel), List.mem_of_getElem? (i := 1091) (by decide +kernel)⟩
theorem lw_p42 : lw_okq (⟨"CableCarsModel", "speedOf", "(I)I"⟩, 48) := ⟨⟨by decide +kernel, by decide +kernel⟩, List.mem_of_getElem? (i := 860) (by decide +kernel), List.mem_of_getElem? (i := 1098) (by decide +kernel), List.mem_of_getElem? (i := 1099) (by decide +kernel)⟩
theorem lw_p43 : lw_okq (⟨"CableCarsModel", "meets", "(I)I"⟩, 48) := ⟨⟨by decide +kernel, by decide +kernel⟩, List.mem_of_getElem? (i := 860) (by decide +kernel), List.mem_of_getElem? (i := 1117) (by decide +kernel), List.mem_of_getElem? (i := 1118) (by decide +kernel)⟩
theorem lw_p44 : lw_okq (⟨"CableCarsModel", "atOf", "(III)I"⟩, 48) := ⟨⟨by decide +kernel, by decide +kernel⟩, List.mem_of_getElem? (i := 860) (by decide +kernel), List.mem_of_getElem? (i := 1129) (by decide +kernel), List.mem_of_getElem? (i := 1130) (by decide +kernel)⟩
theorem lw_p45 : lw_okq (⟨"CableCarsModel", "runsTold", "()V"⟩, 48) := ⟨⟨by decide +kernel, by decide +kernel⟩, List.mem_of_getElem? (i := 860) (by decide +kernel), List.mem_of_getElem? (i := 1133) (by decide +kernel), List.mem_of_getElem? (i := 1134) (by decide +kernel)⟩
theorem lw_p46 : lw_okq (⟨"CableCarsModel", "asTold", "()V"⟩, 48) := ⟨⟨by decide +kernel, by decide +kernel⟩, List.mem_of_getElem? (i := 860) (by decide +kernel), List.mem_of_getElem? (i := 1137) (by decide +kernel), List.mem_of_getElem? (i := 1138) (by decide +kernel)⟩
theorem lw_p47 : lw_okq (⟨"CableCarsModel", "runs", "()V"⟩, 48) := ⟨⟨by decide +kernel, by decide +kernel⟩, List.mem_of_getElem? (i := 860) (by decide +kernel), List.mem_of_getElem? (i := 1141) (by decide +kernel), List.mem_of_getElem? (i := 1142) (by decide +kernel)⟩
def lw_privs_3 : List (MethodName × Nat) := [(⟨"CableCarsModel", "readsParts", "(I)I"⟩, 48), (⟨"CableCarsModel", "readsCar", "(II)I"⟩, 48), (⟨"CableCarsModel", "byteAt", "(II)I"⟩, 48), (⟨"CableCarsModel", "isTaken", "(II)Z"⟩, 48), (⟨"CableCarsModel", "readsComing", "(II)I"⟩, 48), (⟨"CableCarsModel", "readsSpeed", "()I"⟩, 48), (⟨"CableCarsModel", "isCar", "(I)Z"⟩, 48), (⟨"CableCarsModel", "reads", "()V"⟩, 48), (⟨"CableCarsModel", "carOf", "(II)I"⟩, 48), (⟨"CableCarsModel", "comingOf", "(II)I"⟩, 48), (⟨"CableCarsModel", "speedOf", "(I)I"⟩, 48), (⟨"CableCarsModel", "meets", "(I)I"⟩, 48), (⟨"CableCarsModel", "atOf", "(III)I"⟩, 48), (⟨"CableCarsModel", "runsTold", "()V"⟩, 48), (⟨"CableCarsModel", "asTold", "()V"⟩, 48), (⟨"CableCarsModel", "runs", "()V"⟩, 48)]
theorem lw_r3 : ∀ q ∈ lw_privs_3, lw_okq q := List.forall_mem_cons.mpr ⟨lw_p32, List.forall_mem_cons.mpr ⟨lw_p33, List.forall_mem_cons.mpr ⟨lw_p34, List.forall_mem_cons.mpr ⟨lw_p35, List.forall_mem_cons.mpr ⟨lw_p36, List.forall_mem_cons.mpr ⟨lw_p37, List.forall_mem_cons.mpr ⟨lw_p38, List.forall_mem_cons.mpr ⟨lw_p39, List.forall_mem_cons.mpr ⟨lw_p40, List.forall_mem_cons.mpr ⟨lw_p41, List.forall_mem_cons.mpr ⟨lw_p42, List.forall_mem_cons.mpr ⟨lw_p43, List.forall_mem_cons.mpr ⟨lw_p44, List.forall_mem_cons.mpr ⟨lw_p45, List.forall_mem_cons.mpr ⟨lw_p46, List.forall_mem_cons.mpr ⟨lw_p47, fun _ h => absurd h List.not_mem_nil⟩⟩⟩⟩⟩⟩⟩⟩⟩⟩⟩⟩⟩⟩⟩⟩
theorem lw_p48 : lw_okq (⟨"CableCarsModel", "goesBy", "(I)V"⟩, 48) := ⟨⟨by decide +kernel, by decide +kernel⟩, List.mem_of_getElem? (i := 860) (by decide +kernel), List.mem_of_getElem? (i := 1145) (by decide +kernel), List.mem_of_getElem? (i := 1146) (by decide +kernel)⟩
theorem lw_p49 : lw_okq (⟨"CableCarsModel", "befalls", "(I)V"⟩, 48) := ⟨⟨by decide +kernel, by decide +kernel⟩, List.mem_of_getElem? (i := 860) (by decide +kernel), List.mem_of_getElem? (i := 1149) (by decide +kernel), List.mem_of_getElem? (i := 1150) (by decide +kernel)⟩
theorem lw_p50 : lw_okq (⟨"CableCarsModel", "goesOn", "()V"⟩, 48) := ⟨⟨by decide +kernel, by decide +kernel⟩, List.mem_of_getElem? (i := 860) (by decide +kernel), List.mem_of_getElem? (i := 1156) (by decide +kernel), List.mem_of_getElem? (i := 1157) (by decide +kernel)⟩
theorem lw_p51 : lw_okq (⟨"CableCarsModel", "servesAll", "(IZ)V"⟩, 48) := ⟨⟨by decide +kernel, by decide +kernel⟩, List.mem_of_getElem? (i := 860) (by decide +kernel), List.mem_of_getElem? (i := 1160) (by decide +kernel), List.mem_of_getElem? (i := 1161) (by decide +kernel)⟩
theorem lw_p52 : lw_okq (⟨"CableCarsModel", "getsOut", "(II)V"⟩, 48) := ⟨⟨by decide +kernel, by decide +kernel⟩, List.mem_of_getElem? (i := 860) (by decide +kernel), List.mem_of_getElem? (i := 1164) (by decide +kernel), List.mem_of_getElem? (i := 1165) (by decide +kernel)⟩
theorem lw_p53 : lw_okq (⟨"CableCarsModel", "getsIn", "(I)V"⟩, 48) := ⟨⟨by decide +kernel, by decide +kernel⟩, List.mem_of_getElem? (i := 860) (by decide +kernel), List.mem_of_getElem? (i := 1168) (by decide +kernel), List.mem_of_getElem? (i := 1169) (by decide +kernel)⟩
theorem lw_p54 : lw_okq (⟨"CableCarsModel", "waitsOf", "(II)I"⟩, 48) := ⟨⟨by decide +kernel, by decide +kernel⟩, List.mem_of_getElem? (i := 860) (by decide +kernel), List.mem_of_getElem? (i := 1176) (by decide +kernel), List.mem_of_getElem? (i := 1177) (by decide +kernel)⟩
theorem lw_p55 : lw_okq (⟨"CableCarsModel", "overOf", "(I)I"⟩, 48) := ⟨⟨by decide +kernel, by decide +kernel⟩, List.mem_of_getElem? (i := 860) (by decide +kernel), List.mem_of_getElem? (i := 1184) (by decide +kernel), List.mem_of_getElem? (i := 1185) (by decide +kernel)⟩
theorem lw_p56 : lw_okq (⟨"CableCarsModel", "sumOf", "()I"⟩, 48) := ⟨⟨by decide +kernel, by decide +kernel⟩, List.mem_of_getElem? (i := 860) (by decide +kernel), List.mem_of_getElem? (i := 1192) (by decide +kernel), List.mem_of_getElem? (i := 1193) (by decide +kernel)⟩
theorem lw_p57 : lw_okq (⟨"CableCarsModel", "crowdOf", "(II)I"⟩, 48) := ⟨⟨by decide +kernel, by decide +kernel⟩, List.mem_of_getElem? (i := 860) (by decide +kernel), List.mem_of_getElem? (i := 1200) (by decide +kernel), List.mem_of_getElem? (i := 1201) (by decide +kernel)⟩
theorem lw_p58 : lw_okq (⟨"CableCarsModel", "firstOf", "(I)I"⟩, 48) := ⟨⟨by decide +kernel, by decide +kernel⟩, List.mem_of_getElem? (i := 860) (by decide +kernel), List.mem_of_getElem? (i := 1208) (by decide +kernel), List.mem_of_getElem? (i := 1209) (by decide +kernel)⟩
theorem lw_p59 : lw_okq (⟨"CableCarsModel", "carriedOf", "(I)I"⟩, 48) := ⟨⟨by decide +kernel, by decide +kernel⟩, List.mem_of_getElem? (i := 860) (by decide +kernel), List.mem_of_getElem? (i := 1216) (by decide +kernel), List.mem_of_getElem? (i := 1217) (by decide +kernel)⟩
theorem lw_p60 : lw_okq (⟨"CableCarsModel", "idleOf", "()I"⟩, 48) := ⟨⟨by decide +kernel, by decide +kernel⟩, List.mem_of_getElem? (i := 860) (by decide +kernel), List.mem_of_getElem? (i := 1224) (by decide +kernel), List.mem_of_getElem? (i := 1225) (by decide +kernel)⟩
theorem lw_p61 : lw_okq (⟨"CableCarsModel", "leftOf", "()I"⟩, 48) := ⟨⟨by decide +kernel, by decide +kernel⟩, List.mem_of_getElem? (i := 860) (by decide +kernel), List.mem_of_getElem? (i := 1232) (by decide +kernel), List.mem_of_getElem? (i := 1233) (by decide +kernel)⟩
theorem lw_p62 : lw_okq (⟨"CableCarsModel", "leftNow", "()I"⟩, 48) := ⟨⟨by decide +kernel, by decide +kernel⟩, List.mem_of_getElem? (i := 860) (by decide +kernel), List.mem_of_getElem? (i := 1236) (by decide +kernel), List.mem_of_getElem? (i := 1237) (by decide +kernel)⟩
theorem lw_p63 : lw_okq (⟨"CableCarsModel", "hangOf", "(II)I"⟩, 48) := ⟨⟨by decide +kernel, by decide +kernel⟩, List.mem_of_getElem? (i := 860) (by decide +kernel), List.mem_of_getElem? (i := 1244) (by decide +kernel), List.mem_of_getElem? (i := 1245) (by decide +kernel)⟩
def lw_privs_4 : List (MethodName × Nat) := [(⟨"CableCarsModel", "goesBy", "(I)V"⟩, 48), (⟨"CableCarsModel", "befalls", "(I)V"⟩, 48), (⟨"CableCarsModel", "goesOn", "()V"⟩, 48), (⟨"CableCarsModel", "servesAll", "(IZ)V"⟩, 48), (⟨"CableCarsModel", "getsOut", "(II)V"⟩, 48), (⟨"CableCarsModel", "getsIn", "(I)V"⟩, 48), (⟨"CableCarsModel", "waitsOf", "(II)I"⟩, 48), (⟨"CableCarsModel", "overOf", "(I)I"⟩, 48), (⟨"CableCarsModel", "sumOf", "()I"⟩, 48), (⟨"CableCarsModel", "crowdOf", "(II)I"⟩, 48), (⟨"CableCarsModel", "firstOf", "(I)I"⟩, 48), (⟨"CableCarsModel", "carriedOf", "(I)I"⟩, 48), (⟨"CableCarsModel", "idleOf", "()I"⟩, 48), (⟨"CableCarsModel", "leftOf", "()I"⟩, 48), (⟨"CableCarsModel", "leftNow", "()I"⟩, 48), (⟨"CableCarsModel", "hangOf", "(II)I"⟩, 48)]
theorem lw_r4 : ∀ q ∈ lw_privs_4, lw_okq q := List.forall_mem_cons.mpr ⟨lw_p48, List.forall_mem_cons.mpr ⟨lw_p49, List.forall_mem_cons.mpr ⟨lw_p50, List.forall_mem_cons.mpr ⟨lw_p51, List.forall_mem_cons.mpr ⟨lw_p52, List.forall_mem_cons.mpr ⟨lw_p53, List.forall_mem_cons.mpr ⟨lw_p54, List.forall_mem_cons.mpr ⟨lw_p55, List.forall_mem_cons.mpr ⟨lw_p56, List.forall_mem_cons.mpr ⟨lw_p57, List.forall_mem_cons.mpr ⟨lw_p58, List.forall_mem_cons.mpr ⟨lw_p59, List.forall_mem_cons.mpr ⟨lw_p60, List.forall_mem_cons.mpr ⟨lw_p61, List.forall_mem_cons.mpr ⟨lw_p62, List.forall_mem_cons.mpr ⟨lw_p63, fun _ h => absurd h List.not_mem_nil⟩⟩⟩⟩⟩⟩⟩⟩⟩⟩⟩⟩⟩⟩⟩⟩
theorem lw_p64 : lw_okq (⟨"CableCarsModel", "isOther", "(II)Z"⟩, 48) := ⟨⟨by decide +kernel, by decide +kernel⟩, List.mem_of_getElem? (i := 860) (by decide +kernel), List.mem_of_getElem? (i := 1248) (by decide +kernel), List.mem_of_getElem? (i := 1249) (by decide +kernel)⟩
theorem lw_p65 : lw_okq (⟨"CableCarsModel", "bothOver", "()I"⟩, 48) := ⟨⟨by decide +kernel, by decide +kernel⟩, List.mem_of_getElem? (i := 860) (by decide +kernel), List.mem_of_getElem? (i := 1252) (by decide +kernel), List.mem_of_getElem? (i := 1253) (by decide +kernel)⟩
theorem lw_p66 : lw_okq (⟨"CableCarsModel", "paceOf", "(II)I"⟩, 48) := ⟨⟨by decide +kernel, by decide +kernel⟩, List.mem_of_getElem? (i := 860) (by decide +kernel), List.mem_of_getElem? (i := 1260) (by decide +kernel), List.mem_of_getElem? (i := 1261) (by decide +kernel)⟩
theorem lw_p67 : lw_okq (⟨"CableCarsModel", "cheapOf", "(II)I"⟩, 48) := ⟨⟨by decide +kernel, by decide +kernel⟩, List.mem_of_getElem? (i := 860) (by decide +kernel), List.mem_of_getElem? (i := 1268) (by decide +kernel), List.mem_of_getElem? (i := 1269) (by decide +kernel)⟩
theorem lw_p68 : lw_okq (⟨"CableCarsModel", "spareBy", "()I"⟩, 48) := ⟨⟨by decide +kernel, by decide +kernel⟩, List.mem_of_getElem? (i := 860) (by decide +kernel), List.mem_of_getElem? (i := 1276) (by decide +kernel), List.mem_of_getElem? (i := 1277) (by decide +kernel)⟩
theorem lw_p69 : lw_okq (⟨"CableCarsModel", "isSpared", "(I)Z"⟩, 48) := ⟨⟨by decide +kernel, by decide +kernel⟩, List.mem_of_getElem? (i := 860) (by decide +kernel), List.mem_of_getElem? (i := 1280) (by decide +kernel), List.mem_of_getElem? (i := 1281) (by decide +kernel)⟩
theorem lw_p70 : lw_okq (⟨"CableCarsModel", "ofRow", "(II)I"⟩, 48) := ⟨⟨by decide +kernel, by decide +kernel⟩, List.mem_of_getElem? (i := 860) (by decide +kernel), List.mem_of_getElem? (i := 1284) (by decide +kernel), List.mem_of_getElem? (i := 1285) (by decide +kernel)⟩
theorem lw_p71 : lw_okq (⟨"CableCarsModel", "neverNow", "()I"⟩, 48) := ⟨⟨by decide +kernel, by decide +kernel⟩, List.mem_of_getElem? (i := 860) (by decide +kernel), List.mem_of_getElem? (i := 1300) (by decide +kernel), List.mem_of_getElem? (i := 1301) (by decide +kernel)⟩
theorem lw_p72 : lw_okq (⟨"CableCarsModel", "isSeen", "()Z"⟩, 48) := ⟨⟨by decide +kernel, by decide +kernel⟩, List.mem_of_getElem? (i := 860) (by decide +kernel), List.mem_of_getElem? (i := 1304) (by decide +kernel), List.mem_of_getElem? (i := 1305) (by decide +kernel)⟩
theorem lw_p73 : lw_okq (⟨"CableCarsModel", "roomsBy", "(I)I"⟩, 48) := ⟨⟨by decide +kernel, by decide +kernel⟩, List.mem_of_getElem? (i := 860) (by decide +kernel), List.mem_of_getElem? (i := 1312) (by decide +kernel), List.mem_of_getElem? (i := 1313) (by decide +kernel)⟩
theorem lw_p74 : lw_okq (⟨"CableCarsModel", "sortsBy", "(I)I"⟩, 48) := ⟨⟨by decide +kernel, by decide +kernel⟩, List.mem_of_getElem? (i := 860) (by decide +kernel), List.mem_of_getElem? (i := 1316) (by decide +kernel), List.mem_of_getElem? (i := 1317) (by decide +kernel)⟩
theorem lw_p75 : lw_okq (⟨"CableCarsModel", "askOf", "(I)I"⟩, 48) := ⟨⟨by decide +kernel, by decide +kernel⟩, List.mem_of_getElem? (i := 860) (by decide +kernel), List.mem_of_getElem? (i := 1324) (by decide +kernel), List.mem_of_getElem? (i := 1325) (by decide +kernel)⟩
theorem lw_p76 : lw_okq (⟨"CableCarsModel", "chanceOf", "(III)J"⟩, 48) := ⟨⟨by decide +kernel, by decide +kernel⟩, List.mem_of_getElem? (i := 860) (by decide +kernel), List.mem_of_getElem? (i := 1332) (by decide +kernel), List.mem_of_getElem? (i := 1333) (by decide +kernel)⟩
theorem lw_p77 : lw_okq (⟨"CableCarsModel", "yearsOf", "(III)I"⟩, 48) := ⟨⟨by decide +kernel, by decide +kernel⟩, List.mem_of_getElem? (i := 860) (by decide +kernel), List.mem_of_getElem? (i := 1347) (by decide +kernel), List.mem_of_getElem? (i := 1348) (by decide +kernel)⟩
theorem lw_p78 : lw_okq (⟨"CableCarsModel", "lacks", "(III)I"⟩, 48) := ⟨⟨by decide +kernel, by decide +kernel⟩, List.mem_of_getElem? (i := 860) (by decide +kernel), List.mem_of_getElem? (i := 1364) (by decide +kernel), List.mem_of_getElem? (i := 1365) (by decide +kernel)⟩
theorem lw_p79 : lw_okq (⟨"CableCarsModel", "keep", "(III)V"⟩, 48) := ⟨⟨by decide +kernel, by decide +kernel⟩, List.mem_of_getElem? (i := 860) (by decide +kernel), List.mem_of_getElem? (i := 1368) (by decide +kernel), List.mem_of_getElem? (i := 1369) (by decide +kernel)⟩
def lw_privs_5 : List (MethodName × Nat) := [(⟨"CableCarsModel", "isOther", "(II)Z"⟩, 48), (⟨"CableCarsModel", "bothOver", "()I"⟩, 48), (⟨"CableCarsModel", "paceOf", "(II)I"⟩, 48), (⟨"CableCarsModel", "cheapOf", "(II)I"⟩, 48), (⟨"CableCarsModel", "spareBy", "()I"⟩, 48), (⟨"CableCarsModel", "isSpared", "(I)Z"⟩, 48), (⟨"CableCarsModel", "ofRow", "(II)I"⟩, 48), (⟨"CableCarsModel", "neverNow", "()I"⟩, 48), (⟨"CableCarsModel", "isSeen", "()Z"⟩, 48), (⟨"CableCarsModel", "roomsBy", "(I)I"⟩, 48), (⟨"CableCarsModel", "sortsBy", "(I)I"⟩, 48), (⟨"CableCarsModel", "askOf", "(I)I"⟩, 48), (⟨"CableCarsModel", "chanceOf", "(III)J"⟩, 48), (⟨"CableCarsModel", "yearsOf", "(III)I"⟩, 48), (⟨"CableCarsModel", "lacks", "(III)I"⟩, 48), (⟨"CableCarsModel", "keep", "(III)V"⟩, 48)]
theorem lw_r5 : ∀ q ∈ lw_privs_5, lw_okq q := List.forall_mem_cons.mpr ⟨lw_p64, List.forall_mem_cons.mpr ⟨lw_p65, List.forall_mem_cons.mpr ⟨lw_p66, List.forall_mem_cons.mpr ⟨lw_p67, List.forall_mem_cons.mpr ⟨lw_p68, List.forall_mem_cons.mpr ⟨lw_p69, List.forall_mem_cons.mpr ⟨lw_p70, List.forall_mem_cons.mpr ⟨lw_p71, List.forall_mem_cons.mpr ⟨lw_p72, List.forall_mem_cons.mpr ⟨lw_p73, List.forall_mem_cons.mpr ⟨lw_p74, List.forall_mem_cons.mpr ⟨lw_p75, List.forall_mem_cons.mpr ⟨lw_p76, List.forall_mem_cons.mpr ⟨lw_p77, List.forall_mem_cons.mpr ⟨lw_p78, List.forall_mem_cons.mpr ⟨lw_p79, fun _ h => absurd h List.not_mem_nil⟩⟩⟩⟩⟩⟩⟩⟩⟩⟩⟩⟩⟩⟩⟩⟩
theorem lw_p80 : lw_okq (⟨"CableCarsModel", "tellOf", "(I)I"⟩, 48) := ⟨⟨by decide +kernel, by decide +kernel⟩, List.mem_of_getElem? (i := 860) (by decide +kernel), List.mem_of_getElem? (i := 1389) (by decide +kernel), List.mem_of_getElem? (i := 1390) (by decide +kernel)⟩
theorem lw_p81 : lw_okq (⟨"CableCarsModel", "momentDigest", "(JI)J"⟩, 48) := ⟨⟨by decide +kernel, by decide +kernel⟩, List.mem_of_getElem? (i := 860) (by decide +kernel), List.mem_of_getElem? (i := 1400) (by decide +kernel), List.mem_of_getElem? (i := 1401) (by decide +kernel)⟩
theorem lw_p82 : lw_okq (⟨"CableCarsModel", "carDigest", "(JI)J"⟩, 48) := ⟨⟨by decide +kernel, by decide +kernel⟩, List.mem_of_getElem? (i := 860) (by decide +kernel), List.mem_of_getElem? (i := 1404) (by decide +kernel), List.mem_of_getElem? (i := 1405) (by decide +kernel)⟩
theorem lw_p83 : lw_okq (⟨"CableCarsModel", "atDigest", "(JII)J"⟩, 48) := ⟨⟨by decide +kernel, by decide +kernel⟩, List.mem_of_getElem? (i := 860) (by decide +kernel), List.mem_of_getElem? (i := 1408) (by decide +kernel), List.mem_of_getElem? (i := 1409) (by decide +kernel)⟩
def lw_privs_6 : List (MethodName × Nat) := [(⟨"CableCarsModel", "tellOf", "(I)I"⟩, 48), (⟨"CableCarsModel", "momentDigest", "(JI)J"⟩, 48), (⟨"CableCarsModel", "carDigest", "(JI)J"⟩, 48), (⟨"CableCarsModel", "atDigest", "(JII)J"⟩, 48)]
theorem lw_r6 : ∀ q ∈ lw_privs_6, lw_okq q := List.forall_mem_cons.mpr ⟨lw_p80, List.forall_mem_cons.mpr ⟨lw_p81, List.forall_mem_cons.mpr ⟨lw_p82, List.forall_mem_cons.mpr ⟨lw_p83, fun _ h => absurd h List.not_mem_nil⟩⟩⟩⟩
def lw_privs : List (MethodName × Nat) := lw_privs_1 ++ (lw_privs_2 ++ (lw_privs_3 ++ (lw_privs_4 ++ (lw_privs_5 ++ (lw_privs_6)))))
def lw_tbl : List Cond := k2_sels lw_privs ++ tables_1
theorem lw_privs_ok : ∀ q ∈ lw_privs, lw_okq q := by
  show ∀ q ∈ lw_privs_1 ++ (lw_privs_2 ++ (lw_privs_3 ++ (lw_privs_4 ++ (lw_privs_5 ++ (lw_privs_6))))), lw_okq q
  exact List.forall_mem_append.mpr ⟨lw_r1, List.forall_mem_append.mpr ⟨lw_r2, List.forall_mem_append.mpr ⟨lw_r3, List.forall_mem_append.mpr ⟨lw_r4, List.forall_mem_append.mpr ⟨lw_r5, lw_r6⟩⟩⟩⟩⟩
-- ===== end of PART A; then your names; then what follows =====
end
section
def va_AOA (ty : FieldType) (U : State) : Prop := (Cond.arrayOver (.array ty)).before #[] U = true
theorem va_AOA.use {ty : FieldType} {A : Array Value} {U : State} (h : va_AOA ty U) : (Cond.arrayOver (.array ty)).before A U = true := h
/-! ===== BEGIN words of one list among another's, by their places ===== -/
theorem goodIn_r {big : List Cond} (ws : List Cond) (ps : List Nat) (hp : ws = ps.filterMap (fun i => big[i]?)) (h : ws.all goodWord = true) : GoodIn big ws := by
  intro w hw
  have h1 := List.all_eq_true.mp h w hw
  rw [hp] at hw
  obtain ⟨i, -, hi⟩ := List.mem_filterMap.mp hw
  have hm : w ∈ big := by first | exact List.mem_of_getElem? hi | exact List.getElem?_mem hi
  exact ⟨hm, good_of_word h1⟩
theorem goodIn_app {big a b : List Cond} (ha : GoodIn big a) (hb : GoodIn big b) : GoodIn big (a ++ b) := fun w h => (List.mem_append.mp h).elim (ha w) (hb w)
theorem goodIn_ca {big a b : List Cond} {c : Cond} (ha : GoodIn big (c :: a)) (hb : GoodIn big b) : GoodIn big (c :: (a ++ b)) := fun w h => (List.mem_cons.mp h).elim (fun e => ha w (List.mem_cons.mpr (Or.inl e))) (fun h => (List.mem_append.mp h).elim (fun h => ha w (List.mem_cons.mpr (Or.inr h))) (hb w))
theorem goodIn_sub {big ws : List Cond} (hm : ∀ w ∈ ws, w ∈ big) (h : ws.all goodWord = true) : GoodIn big ws := fun w hw => ⟨hm w hw, good_of_word (List.all_eq_true.mp h w hw)⟩
/-! ===== END ===== -/

/-! ===== BEGIN new T[n][m]: the outer array a place, the inner ones among the pooled ===== -/
/-- f, but v at every address of l -/
def vr_up {α : Type} (f : Nat → α) (l : List Nat) (v : α) : Nat → α := fun a => if a ∈ l then v else f a
theorem vr_up_in {α : Type} {f : Nat → α} {l : List Nat} {v : α} {a : Nat} (h : a ∈ l) : vr_up f l v a = v := if_pos h
theorem vr_up_ne {α : Type} {f : Nat → α} {l : List Nat} {v : α} {a : Nat} (h : a ∉ l) : vr_up f l v a = f a := if_neg h
theorem vr_rows {L l : List Nat} {f : Nat → va_E} {e : va_E} (h : ∀ a, a ∈ l → a ∉ L) : va_pl L f ++ l.map (fun a => (a, e)) = va_pl (L ++ l) (vr_up f l e) := by
  unfold va_pl
  rw [List.map_append]
  congr 1
  · apply List.map_congr_left
    intro a ha
    rw [vr_up_ne (fun q => h a q ha)]
  · apply List.map_congr_left
    intro a ha
    rw [vr_up_in ha]
theorem vr_lay {X rows : va_W} {x : Nat × va_E} {pl : va_W} {D : va_G} {cl : List vw_C} {H : Heap} (hP : va_P D cl (((X ++ pl) ++ [x]) ++ rows) H) : va_P D cl ((X ++ [x]) ++ (pl ++ rows)) H := by
  rw [List.append_assoc (X ++ pl)] at hP
  have h := va_P.swap hP
  rw [← List.append_assoc X] at h
  have h2 := va_P.swap h
  rw [List.append_assoc (X ++ [x])] at h2
  exact h2
theorem vr_layD {X rows : va_W} {x : Nat × va_E} {pl : va_W} {A : Nat → Prop} (hD : va_D A (((X ++ pl) ++ [x]) ++ rows)) : va_D A ((X ++ [x]) ++ (pl ++ rows)) := by
  rw [List.append_assoc (X ++ pl)] at hD
  have h := va_D.swap hD
  rw [← List.append_assoc X] at h
  have h2 := va_D.swap h
  rw [List.append_assoc (X ++ [x])] at h2
  exact h2
theorem vr_outer (c : ClassId) (N h0 : Nat) : ∀ i : Nat, Jvm.Free.Multi.outerC c N h0 i = arrV c N (fun j => va_rf (if j < i then some (h0 + 1 + j) else none))
  | 0 => by
    show ({ cls := c, slots := Array.replicate N .null, vm := .none } : Cell) = _
    rw [arrV_new]
    refine congrArg (arrV c N) (funext fun j => ?_)
    simp [va_rf]
  | i + 1 => by
    show (Jvm.Free.Multi.outerC c N h0 i).setSlot i (.ref (h0 + 1 + i)) = _
    rw [vr_outer c N h0 i, arrV_store]
    refine congrArg (arrV c N) (funext fun j => ?_)
    by_cases e : j = i
    · subst e
      simp [updV, va_rf]
    · by_cases h : j < i
      · simp [updV, e, h, Nat.lt_succ_of_lt h]
      · simp [updV, e, h, show ¬ j < i + 1 by omega]
section VGM
variable {p : Program} {l : Launch} {e : Env} {R : Room} {s : State} {m : MethodId} {args : Array Value} {below : List Frame} {meth : Method} {c : Code} {H : Heap} {locs : List Loc} {cells slots : Nat} {Q : State → Prop}
variable {cc : ByteArray} {pc : Nat} {ls : Array Slot} {rest : List Value} {D : va_G} {cl : List vw_C} {A : Nat → Prop} {a : Nat} {tys : List (ClassId × FieldType)} {ws : va_W} {H0 : Heap}
theorem va_mna {X : va_W} {L : List Nat} {f : Nat → va_E} {cc : ByteArray} (hexec : p.tables.exec = Jvm.exec) (hb : c.code = cc) {own : String} {index : Nat} {ty : FieldType} {cy : ClassId} (hown : s.vm.findClass own = some m.cls) (hclink : (Cond.classLink own index ("[" ++ (FieldType.array ty).toString)).before args s = true) (hover : va_AOA ty s) (harr : (Cond.arrayClass ty).before args s = true) (hcy : s.vm.findClass (FieldType.array ty).toString = some cy)
    (hK : va_K D cl tys s) (hP : va_P D cl (X ++ va_pl L f) H) (hD : va_D A (X ++ va_pl L f)) (hS : va_S A H0 H locs) (hA : ∀ q, H0.size ≤ q → A q) {n k : Int32} {N' K' : Nat} {z : vp_A} (hn : ¬ n < 0) (hk : ¬ k < 0) (hN : n.toNatClampNeg = N') (hM : k.toNatClampNeg = K')
    (hb1 : N' * 4 ≤ 536870912) (hb2 : K' * componentBytes ty ≤ 536870912) (hb3 : K' ≤ 536870912) (hdf : fits ty (defaultValue ty) = true) (hdd : (defaultValue ty).isDefault = true) (hcells : cells + (1 + N') ≤ R.cells) (hslots : slots + (N' + N' * K') ≤ R.slots) (hz : ∀ c : ClassId, Jvm.Free.Multi.innerC c K' (defaultValue ty) = vp_cell c z) (hdg : decode cc pc = .ok (.multianewarray index 2, 4))
    (kk : ∀ (q : Nat) (r : Nat → Nat) (cA : ClassId) (H1 : Heap), (∀ i j : Nat, i < N' → j < N' → r i = r j → i = j) → (∀ i : Nat, i < N' → r i ∉ L) → va_K D cl (tys ++ [(cA, .array ty)]) s →
      va_P D cl ((X ++ [(q, .inl (cA, N', .inr (.inr (.inr (.inr (fun i => if i < N' then some (r i) else none))))))]) ++ va_pl (L ++ (List.range N').map r) (vr_up f ((List.range N').map r) (.inl (cy, z)))) H1 → va_D A ((X ++ [(q, .inl (cA, N', .inr (.inr (.inr (.inr (fun i => if i < N' then some (r i) else none))))))]) ++ va_pl (L ++ (List.range N').map r) (vr_up f ((List.range N').map r) (.inl (cy, z)))) → va_S A H0 H1 locs →
      W p l e R s m args below meth c H1 locs (cells + 1 + N') (slots + N' + N' * K') Q (F0 m (pc + 4) ls (.ref q :: rest))) : W p l e R s m args below meth c H locs cells slots Q (F0 m pc ls (.int k :: .int n :: rest)) := by
  subst hN
  subst hM
  intro T hT Xs
  obtain ⟨vm₁, cA, comp, -, fA, fC, hO, -, X', step⟩ := Xs.multianewarray2F hexec hown hclink (va_AOA.use hover) harr (g := F0 m pc ls (.int k :: .int n :: rest)) rfl (by rw [hb]; exact hdg) rfl hn hk hb1 hb2 hb3 hdf hdd hcells hslots
  have ec : some cy = some comp := hcy.symm.trans fC
  cases ec
  generalize hF : Jvm.Free.Multi.fill (T.setVm vm₁) cA cy n.toNatClampNeg k.toNatClampNeg (defaultValue ty) n.toNatClampNeg = F at X' step
  have hTh : (T.setVm vm₁).heap = H := hT
  obtain ⟨f1, f2, -, -⟩ := Jvm.Free.Multi.fill_facts (T.setVm vm₁) cA cy n.toNatClampNeg k.toNatClampNeg (defaultValue ty) n.toNatClampNeg
  rw [hF, hTh] at f1 f2
  have hold : ∀ x : Nat, x < H.size → F.heap[x]? = H[x]? := fun x hx => by
    have := Jvm.Free.Multi.fill_old (T.setVm vm₁) cA cy n.toNatClampNeg k.toNatClampNeg (defaultValue ty) (a := x) (by rw [hTh]; exact hx) n.toNatClampNeg
    rw [hF, hTh] at this
    exact this
  have hrow : ∀ j : Nat, j < n.toNatClampNeg → F.heap[H.size + 1 + j]? = some (vp_cell cy z) := fun j hj => by
    have := Jvm.Free.Multi.fill_inner (T.setVm vm₁) cA cy n.toNatClampNeg k.toNatClampNeg (defaultValue ty) n.toNatClampNeg j hj
    rw [hF, hTh, hz] at this
    exact this
  have hout : Jvm.Free.Multi.outerC cA n.toNatClampNeg H.size n.toNatClampNeg = vp_cell cA (n.toNatClampNeg, .inr (.inr (.inr (.inr (fun i => if i < n.toNatClampNeg then some (H.size + 1 + i) else none))))) := by
    rw [vp_cell_q]
    exact vr_outer cA n.toNatClampNeg H.size n.toNatClampNeg
  rw [hout] at f2
  have hlt : ∀ a, a ∈ L → a < H.size := fun a ha => by
    obtain ⟨k9, hk9⟩ := va_pl_get (X := X) (f := f) ha
    exact (hP k9 _ hk9).lt
  have hnl : ∀ i : Nat, i < n.toNatClampNeg → H.size + 1 + i ∉ L := fun i _ h => by
    have := hlt _ h
    omega
  have hnm : ∀ a, a ∈ (List.range n.toNatClampNeg).map (fun i => H.size + 1 + i) → a ∉ L := fun a ha h => by
    obtain ⟨i, -, rfl⟩ := List.mem_map.mp ha
    have := hlt _ h
    omega
  have hP0 : va_P D cl (X ++ va_pl L f) F.heap := hP.kept (fun k9 x hx => hold x.1 ((hP k9 x hx).lt))
  have hP1 : va_P D cl ((X ++ va_pl L f) ++ [(H.size, .inl (cA, n.toNatClampNeg, .inr (.inr (.inr (.inr (fun i => if i < n.toNatClampNeg then some (H.size + 1 + i) else none))))))]) F.heap := hP0.app (fun k9 x hx => by
    have h0 : k9 < 1 := (List.getElem?_eq_some_iff.mp hx).1
    rw [show k9 = 0 by omega] at hx
    cases hx
    exact f2)
  have hP2 : va_P D cl (((X ++ va_pl L f) ++ [(H.size, .inl (cA, n.toNatClampNeg, .inr (.inr (.inr (.inr (fun i => if i < n.toNatClampNeg then some (H.size + 1 + i) else none))))))]) ++ ((List.range n.toNatClampNeg).map (fun i => H.size + 1 + i)).map (fun a => (a, .inl (cy, z)))) F.heap := hP1.app (fun k9 x hx => by
    obtain ⟨a, ha, rfl⟩ := List.mem_map.mp (List.mem_of_getElem? hx)
    obtain ⟨i, hi, rfl⟩ := List.mem_map.mp ha
    exact hrow i (List.mem_range.mp hi))
  have hD2 : va_D A (((X ++ va_pl L f) ++ [(H.size, .inl (cA, n.toNatClampNeg, .inr (.inr (.inr (.inr (fun i => if i < n.toNatClampNeg then some (H.size + 1 + i) else none))))))]) ++ ((List.range n.toNatClampNeg).map (fun i => H.size + 1 + i)).map (fun a => (a, .inl (cy, z)))) := by
    have hD1 := hD.push (e := .inl (cA, n.toNatClampNeg, .inr (.inr (.inr (.inr (fun i => if i < n.toNatClampNeg then some (H.size + 1 + i) else none)))))) hP rfl (hA _ hS.1)
    generalize hW1 : (X ++ va_pl L f) ++ [(H.size, .inl (cA, n.toNatClampNeg, .inr (.inr (.inr (.inr (fun i => if i < n.toNatClampNeg then some (H.size + 1 + i) else none))))))] = W1 at hD1 hP1 ⊢
    have hle : ∀ (k9 : Nat) (x : Nat × va_E), W1[k9]? = some x → x.1 ≤ H.size := fun k9 x hx => by
      rw [← hW1] at hx
      by_cases hl : k9 < (X ++ va_pl L f).length
      · rw [List.getElem?_append_left hl] at hx
        exact Nat.le_of_lt ((hP k9 x hx).lt)
      · rw [List.getElem?_append_right (by omega)] at hx
        have h0 : k9 - (X ++ va_pl L f).length < 1 := (List.getElem?_eq_some_iff.mp hx).1
        rw [show k9 - (X ++ va_pl L f).length = 0 by omega] at hx
        cases hx
        exact Nat.le_refl _
    have hr : ∀ (k9 : Nat) (x : Nat × va_E), (((List.range n.toNatClampNeg).map (fun i => H.size + 1 + i)).map (fun a => ((a, .inl (cy, z)) : Nat × va_E)))[k9]? = some x → x.1 = H.size + 1 + k9 := fun k9 x hx => by
      rw [List.getElem?_map, List.getElem?_map] at hx
      by_cases h9 : k9 < n.toNatClampNeg
      · rw [List.getElem?_range h9] at hx
        cases hx
        rfl
      · have hn0 : (List.range n.toNatClampNeg)[k9]? = none := List.getElem?_eq_none (by rw [List.length_range]; omega)
        rw [hn0] at hx
        cases hx
    refine ⟨fun i j x y hi hj hxy => ?_, fun k9 x hx => ?_⟩
    · by_cases h1 : i < W1.length <;> by_cases h2 : j < W1.length
      · rw [List.getElem?_append_left h1] at hi
        rw [List.getElem?_append_left h2] at hj
        exact hD1.1 i j x y hi hj hxy
      · rw [List.getElem?_append_left h1] at hi
        rw [List.getElem?_append_right (by omega)] at hj
        have := hle _ _ hi
        have := hr _ _ hj
        omega
      · rw [List.getElem?_append_right (by omega)] at hi
        rw [List.getElem?_append_left h2] at hj
        have := hle _ _ hj
        have := hr _ _ hi
        omega
      · rw [List.getElem?_append_right (by omega)] at hi hj
        have := hr _ _ hi
        have := hr _ _ hj
        omega
    · by_cases h1 : k9 < W1.length
      · rw [List.getElem?_append_left h1] at hx
        exact hD1.2 k9 x hx
      · rw [List.getElem?_append_right (by omega)] at hx
        have := hr _ _ hx
        exact hA _ (by have := hS.1; omega)
  have hAr : ArrOfT s cA (.array ty) := fun N9 z9 => by
    obtain ⟨-, k9, hk9, cm9, hkk9⟩ := (hO 0 0 0).1
    exact ⟨(fun q hq => by cases hq), k9, hk9, cm9, hkk9⟩
  have hK2 : va_K D cl (tys ++ [(cA, .array ty)]) s := ⟨hK.1, fun k9 x hx => by
    by_cases hl : k9 < tys.length
    · rw [List.getElem?_append_left hl] at hx
      exact hK.2 k9 x hx
    · rw [List.getElem?_append_right (by omega)] at hx
      have h0 : k9 - tys.length < 1 := (List.getElem?_eq_some_iff.mp hx).1
      rw [show k9 - tys.length = 0 by omega] at hx
      cases hx
      exact ⟨hAr, fA⟩⟩
  obtain ⟨t, a1, b1⟩ := kk H.size (fun i => H.size + 1 + i) cA F.heap (fun i j _ _ h => by have h9 : H.size + 1 + i = H.size + 1 + j := h; omega) hnl hK2 (by rw [← vr_rows hnm]; exact vr_lay hP2) (by rw [← vr_rows hnm]; exact vr_layD hD2) ⟨by rw [f1]; have := hS.1; omega, fun x h1 h2 => (hold x (Nat.lt_of_lt_of_le h1 hS.1)).trans (hS.2.1 x h1 h2), hS.2.2⟩ F rfl X'
  refine ⟨t, step t ?_, b1⟩
  have e : T.heap.size = H.size := by rw [hT]
  rw [e]
  exact a1
end VGM
/-! ===== END ===== -/

/-! ===== BEGIN printed: names, fields, word lists, decode rows ===== -/
def RX0 : String := "CableCars$Events"
def TX0 : u_T := fun k => match k with
  | 0 => ("CableCars$Events", "kind", "[I", true)
  | 1 => ("CableCars$Events", "moment", "[I", true)
  | 2 => ("CableCars$Events", "number", "[I", true)
  | _ => ("CableCars$Events", "size", "I", false)
def tyX0 : Nat → FieldType := fun k => match k with
  | 0 => .array .int
  | 1 => .array .int
  | 2 => .array .int
  | _ => .int
abbrev wsX00 : List Cond := u_ws RX0 TX0 4
theorem nmX0 : ∀ a, a < 4 → ∀ b, b < 4 → a ≠ b → (TX0 a).2.1 ≠ (TX0 b).2.1 := by decide +kernel
theorem tyX0_ok : ∀ k, k < 4 → parseFieldDescriptor (TX0 k).2.2.1 = some (tyX0 k) := by decide +kernel
abbrev cX0_init : ByteArray := prog_2_method_1_code
def yX0_init : MethodName := ⟨RX0, "<init>", "()V"⟩
abbrev cX0_mayBe : ByteArray := prog_2_method_2_code
def yX0_mayBe : MethodName := ⟨RX0, "mayBe", "(III)Z"⟩
abbrev cX0_hasSpace : ByteArray := prog_2_method_3_code
def yX0_hasSpace : MethodName := ⟨RX0, "hasSpace", "()Z"⟩
abbrev cX0_append : ByteArray := prog_2_method_4_code
def yX0_append : MethodName := ⟨RX0, "append", "(III)V"⟩
def RX1 : String := "CableCars$Plan"
def TX1 : u_T := fun k => match k with
  | 0 => ("CableCars$Plan", "cars", "I", false)
  | 1 => ("CableCars$Plan", "place", "[I", true)
  | 2 => ("CableCars$Plan", "sort", "[I", true)
  | 3 => ("CableCars$Plan", "room", "[I", true)
  | 4 => ("CableCars$Plan", "jammedFrom", "[I", true)
  | 5 => ("CableCars$Plan", "arrivals", "[[I", true)
  | 6 => ("CableCars$Plan", "pace", "[I", true)
  | 7 => ("CableCars$Plan", "gusty", "[Z", true)
  | _ => ("CableCars$Plan", "stopped", "[Z", true)
def tyX1 : Nat → FieldType := fun k => match k with
  | 0 => .int
  | 1 => .array .int
  | 2 => .array .int
  | 3 => .array .int
  | 4 => .array .int
  | 5 => .array (.array .int)
  | 6 => .array .int
  | 7 => .array .boolean
  | _ => .array .boolean
abbrev wsX10 : List Cond := u_ws RX1 TX1 9
theorem nmX1 : ∀ a, a < 9 → ∀ b, b < 9 → a ≠ b → (TX1 a).2.1 ≠ (TX1 b).2.1 := by decide +kernel
theorem tyX1_ok : ∀ k, k < 9 → parseFieldDescriptor (TX1 k).2.2.1 = some (tyX1 k) := by decide +kernel
abbrev cX1_init : ByteArray := prog_3_method_1_code
def yX1_init : MethodName := ⟨RX1, "<init>", "()V"⟩
abbrev cX1_takeCars : ByteArray := prog_3_method_2_code
def yX1_takeCars : MethodName := ⟨RX1, "takeCars", "(LCableCars$Triples;)V"⟩
abbrev cX1_takeComings : ByteArray := prog_3_method_3_code
def yX1_takeComings : MethodName := ⟨RX1, "takeComings", "(LCableCars$Triples;)V"⟩
abbrev cX1_takeEvents : ByteArray := prog_3_method_4_code
def yX1_takeEvents : MethodName := ⟨RX1, "takeEvents", "(LCableCars$Events;I)V"⟩
abbrev cX1_takeEvent : ByteArray := prog_3_method_5_code
def yX1_takeEvent : MethodName := ⟨RX1, "takeEvent", "(III)V"⟩
abbrev cX1_places : ByteArray := prog_3_method_6_code
def yX1_places : MethodName := ⟨RX1, "places", "(I)I"⟩
abbrev cX1_roomIn : ByteArray := prog_3_method_7_code
def yX1_roomIn : MethodName := ⟨RX1, "roomIn", "(I)I"⟩
abbrev cX1_isClosed : ByteArray := prog_3_method_8_code
def yX1_isClosed : MethodName := ⟨RX1, "isClosed", "(II)Z"⟩
def RX2 : String := "CableCars$Ride"
def TX2 : u_T := fun k => match k with
  | 0 => ("CableCars$Ride", "placeBehind", "[[I", true)
  | 1 => ("CableCars$Ride", "insideBehind", "[[I", true)
  | 2 => ("CableCars$Ride", "waitBehind", "[[I", true)
  | 3 => ("CableCars$Ride", "power", "[I", true)
  | 4 => ("CableCars$Ride", "place", "[I", true)
  | 5 => ("CableCars$Ride", "inside", "[I", true)
  | 6 => ("CableCars$Ride", "gotOut", "[I", true)
  | 7 => ("CableCars$Ride", "waiting", "[I", true)
  | 8 => ("CableCars$Ride", "comeOver", "[I", true)
  | 9 => ("CableCars$Ride", "cars", "I", false)
  | 10 => ("CableCars$Ride", "usedCars", "I", false)
  | 11 => ("CableCars$Ride", "firstMoment", "I", false)
  | _ => ("CableCars$Ride", "firstCar", "I", false)
def tyX2 : Nat → FieldType := fun k => match k with
  | 0 => .array (.array .int)
  | 1 => .array (.array .int)
  | 2 => .array (.array .int)
  | 3 => .array .int
  | 4 => .array .int
  | 5 => .array .int
  | 6 => .array .int
  | 7 => .array .int
  | 8 => .array .int
  | 9 => .int
  | 10 => .int
  | 11 => .int
  | _ => .int
abbrev wsX20 : List Cond := u_ws RX2 TX2 13
theorem nmX2 : ∀ a, a < 13 → ∀ b, b < 13 → a ≠ b → (TX2 a).2.1 ≠ (TX2 b).2.1 := by decide +kernel
theorem tyX2_ok : ∀ k, k < 13 → parseFieldDescriptor (TX2 k).2.2.1 = some (tyX2 k) := by decide +kernel
abbrev cX2_init : ByteArray := prog_4_method_1_code
def yX2_init : MethodName := ⟨RX2, "<init>", "()V"⟩
abbrev cX2_run : ByteArray := prog_4_method_2_code
def yX2_run : MethodName := ⟨RX2, "run", "(LCableCars$Plan;I)V"⟩
abbrev cX2_allInside : ByteArray := prog_4_method_3_code
def yX2_allInside : MethodName := ⟨RX2, "allInside", "(I)I"⟩
abbrev cX2_allOver : ByteArray := prog_4_method_4_code
def yX2_allOver : MethodName := ⟨RX2, "allOver", "()I"⟩
abbrev cX2_allPower : ByteArray := prog_4_method_5_code
def yX2_allPower : MethodName := ⟨RX2, "allPower", "()I"⟩
abbrev cX2_crowdKey : ByteArray := prog_4_method_6_code
def yX2_crowdKey : MethodName := ⟨RX2, "crowdKey", "(I)I"⟩
abbrev cX2_start : ByteArray := prog_4_method_7_code
def yX2_start : MethodName := ⟨RX2, "start", "(LCableCars$Plan;)V"⟩
abbrev cX2_goOn : ByteArray := prog_4_method_8_code
def yX2_goOn : MethodName := ⟨RX2, "goOn", "(LCableCars$Plan;I)I"⟩
abbrev cX2_stand : ByteArray := prog_4_method_9_code
def yX2_stand : MethodName := ⟨RX2, "stand", "(LCableCars$Plan;I)V"⟩
abbrev cX2_letOut : ByteArray := prog_4_method_10_code
def yX2_letOut : MethodName := ⟨RX2, "letOut", "(III)V"⟩
abbrev cX2_letIn : ByteArray := prog_4_method_11_code
def yX2_letIn : MethodName := ⟨RX2, "letIn", "(III)V"⟩
abbrev cX2_note : ByteArray := prog_4_method_12_code
def yX2_note : MethodName := ⟨RX2, "note", "(I)V"⟩
abbrev cX2_stationAt : ByteArray := prog_4_method_13_code
def yX2_stationAt : MethodName := ⟨RX2, "stationAt", "(I)I"⟩
def RX3 : String := "CableCars$Sheet"
def TX3 : u_T := fun k => match k with
  | 0 => ("CableCars$Sheet", "items", "[I", true)
  | 1 => ("CableCars$Sheet", "lost", "Z", false)
  | 2 => ("CableCars$Sheet", "form", "I", false)
  | _ => ("CableCars$Sheet", "size", "I", false)
def tyX3 : Nat → FieldType := fun k => match k with
  | 0 => .array .int
  | 1 => .boolean
  | 2 => .int
  | _ => .int
abbrev wsX30 : List Cond := u_ws RX3 TX3 4
theorem nmX3 : ∀ a, a < 4 → ∀ b, b < 4 → a ≠ b → (TX3 a).2.1 ≠ (TX3 b).2.1 := by decide +kernel
theorem tyX3_ok : ∀ k, k < 4 → parseFieldDescriptor (TX3 k).2.2.1 = some (tyX3 k) := by decide +kernel
abbrev cX3_init : ByteArray := prog_5_method_1_code
def yX3_init : MethodName := ⟨RX3, "<init>", "()V"⟩
abbrev cX3_renew : ByteArray := prog_5_method_2_code
def yX3_renew : MethodName := ⟨RX3, "renew", "(II)V"⟩
abbrev cX3_wrongWith : ByteArray := prog_5_method_3_code
def yX3_wrongWith : MethodName := ⟨RX3, "wrongWith", "(II)I"⟩
abbrev cX3_hasRun : ByteArray := prog_5_method_4_code
def yX3_hasRun : MethodName := ⟨RX3, "hasRun", "(II)Z"⟩
abbrev cX3_store : ByteArray := prog_5_method_5_code
def yX3_store : MethodName := ⟨RX3, "store", "(II)V"⟩
def RX4 : String := "CableCars$Sightings"
def TX4 : u_T := fun k => match k with
  | 0 => ("CableCars$Sightings", "moment", "[I", true)
  | 1 => ("CableCars$Sightings", "station", "[I", true)
  | 2 => ("CableCars$Sightings", "many", "[I", true)
  | _ => ("CableCars$Sightings", "size", "I", false)
def tyX4 : Nat → FieldType := fun k => match k with
  | 0 => .array .int
  | 1 => .array .int
  | 2 => .array .int
  | _ => .int
abbrev wsX40 : List Cond := u_ws RX4 TX4 4
theorem nmX4 : ∀ a, a < 4 → ∀ b, b < 4 → a ≠ b → (TX4 a).2.1 ≠ (TX4 b).2.1 := by decide +kernel
theorem tyX4_ok : ∀ k, k < 4 → parseFieldDescriptor (TX4 k).2.2.1 = some (tyX4 k) := by decide +kernel
abbrev cX4_init : ByteArray := prog_6_method_1_code
def yX4_init : MethodName := ⟨RX4, "<init>", "()V"⟩
abbrev cX4_hasSpace : ByteArray := prog_6_method_2_code
def yX4_hasSpace : MethodName := ⟨RX4, "hasSpace", "()Z"⟩
abbrev cX4_append : ByteArray := prog_6_method_3_code
def yX4_append : MethodName := ⟨RX4, "append", "(III)V"⟩
abbrev cX4_agreeWith : ByteArray := prog_6_method_4_code
def yX4_agreeWith : MethodName := ⟨RX4, "agreeWith", "(LCableCars$Ride;)Z"⟩
def RX5 : String := "CableCars$Text"
def TX5 : u_T := fun k => match k with
  | 0 => ("CableCars$Text", "bytes", "[I", true)
  | 1 => ("CableCars$Text", "limit", "I", true)
  | _ => ("CableCars$Text", "length", "I", false)
def tyX5 : Nat → FieldType := fun k => match k with
  | 0 => .array .int
  | 1 => .int
  | _ => .int
abbrev wsX50 : List Cond := u_ws RX5 TX5 3
theorem nmX5 : ∀ a, a < 3 → ∀ b, b < 3 → a ≠ b → (TX5 a).2.1 ≠ (TX5 b).2.1 := by decide +kernel
theorem tyX5_ok : ∀ k, k < 3 → parseFieldDescriptor (TX5 k).2.2.1 = some (tyX5 k) := by decide +kernel
abbrev cX5_init : ByteArray := prog_7_method_1_code
def yX5_init : MethodName := ⟨RX5, "<init>", "(I)V"⟩
abbrev cX5_hasSpace : ByteArray := prog_7_method_2_code
def yX5_hasSpace : MethodName := ⟨RX5, "hasSpace", "()Z"⟩
abbrev cX5_append : ByteArray := prog_7_method_3_code
def yX5_append : MethodName := ⟨RX5, "append", "(I)V"⟩
def RX6 : String := "CableCars$Triples"
def TX6 : u_T := fun k => match k with
  | 0 => ("CableCars$Triples", "signs", "Ljava/lang/String;", true)
  | 1 => ("CableCars$Triples", "most", "I", true)
  | 2 => ("CableCars$Triples", "lettersDiffer", "Z", true)
  | 3 => ("CableCars$Triples", "letter", "[I", true)
  | 4 => ("CableCars$Triples", "sign", "[I", true)
  | 5 => ("CableCars$Triples", "figure", "[I", true)
  | 6 => ("CableCars$Triples", "size", "I", false)
  | _ => ("CableCars$Triples", "fault", "I", false)
def tyX6 : Nat → FieldType := fun k => match k with
  | 0 => .object "java/lang/String"
  | 1 => .int
  | 2 => .boolean
  | 3 => .array .int
  | 4 => .array .int
  | 5 => .array .int
  | 6 => .int
  | _ => .int
abbrev wsX60 : List Cond := u_ws RX6 TX6 8
theorem nmX6 : ∀ a, a < 8 → ∀ b, b < 8 → a ≠ b → (TX6 a).2.1 ≠ (TX6 b).2.1 := by decide +kernel
theorem tyX6_ok : ∀ k, k < 8 → parseFieldDescriptor (TX6 k).2.2.1 = some (tyX6 k) := by decide +kernel
abbrev cX6_init : ByteArray := prog_8_method_1_code
def yX6_init : MethodName := ⟨RX6, "<init>", "(Ljava/lang/String;IZ)V"⟩
abbrev cX6_part : ByteArray := prog_8_method_2_code
def yX6_part : MethodName := ⟨RX6, "part", "(II)I"⟩
abbrev cX6_parse : ByteArray := prog_8_method_3_code
def yX6_parse : MethodName := ⟨RX6, "parse", "(LCableCars$Text;)V"⟩
abbrev cX6_faultIn : ByteArray := prog_8_method_4_code
def yX6_faultIn : MethodName := ⟨RX6, "faultIn", "(LCableCars$Text;)I"⟩
abbrev cX6_goesOn : ByteArray := prog_8_method_5_code
def yX6_goesOn : MethodName := ⟨RX6, "goesOn", "(LCableCars$Text;I)Z"⟩
abbrev cX6_isTaken : ByteArray := prog_8_method_6_code
def yX6_isTaken : MethodName := ⟨RX6, "isTaken", "(LCableCars$Text;I)Z"⟩
def RX7 : String := "CableCars"
def TX7 : u_T := fun k => match k with
  | 0 => ("CableCars", "carText", "LCableCars$Text;", true)
  | 1 => ("CableCars", "comingText", "LCableCars$Text;", true)
  | 2 => ("CableCars", "speedText", "LCableCars$Text;", true)
  | 3 => ("CableCars", "cars", "LCableCars$Triples;", true)
  | 4 => ("CableCars", "comings", "LCableCars$Triples;", true)
  | 5 => ("CableCars", "events", "LCableCars$Events;", true)
  | 6 => ("CableCars", "sightings", "LCableCars$Sightings;", true)
  | 7 => ("CableCars", "sheet0", "LCableCars$Sheet;", true)
  | 8 => ("CableCars", "sheet1", "LCableCars$Sheet;", true)
  | 9 => ("CableCars", "sheet2", "LCableCars$Sheet;", true)
  | 10 => ("CableCars", "sheet3", "LCableCars$Sheet;", true)
  | 11 => ("CableCars", "plan", "LCableCars$Plan;", true)
  | 12 => ("CableCars", "toldRide", "LCableCars$Ride;", true)
  | 13 => ("CableCars", "trial", "LCableCars$Ride;", true)
  | 14 => ("CableCars", "crowdByRoom", "[[I", true)
  | 15 => ("CableCars", "speedFault", "I", false)
  | 16 => ("CableCars", "stale", "Z", false)
  | _ => ("CableCars", "finding", "I", false)
def tyX7 : Nat → FieldType := fun k => match k with
  | 0 => .object "CableCars$Text"
  | 1 => .object "CableCars$Text"
  | 2 => .object "CableCars$Text"
  | 3 => .object "CableCars$Triples"
  | 4 => .object "CableCars$Triples"
  | 5 => .object "CableCars$Events"
  | 6 => .object "CableCars$Sightings"
  | 7 => .object "CableCars$Sheet"
  | 8 => .object "CableCars$Sheet"
  | 9 => .object "CableCars$Sheet"
  | 10 => .object "CableCars$Sheet"
  | 11 => .object "CableCars$Plan"
  | 12 => .object "CableCars$Ride"
  | 13 => .object "CableCars$Ride"
  | 14 => .array (.array .int)
  | 15 => .int
  | 16 => .boolean
  | _ => .int
abbrev wsX70 : List Cond := u_ws RX7 TX7 18
theorem nmX7 : ∀ a, a < 18 → ∀ b, b < 18 → a ≠ b → (TX7 a).2.1 ≠ (TX7 b).2.1 := by decide +kernel
theorem tyX7_ok : ∀ k, k < 18 → parseFieldDescriptor (TX7 k).2.2.1 = some (tyX7 k) := by decide +kernel
abbrev cX7_init : ByteArray := prog_1_method_1_code
def yX7_init : MethodName := ⟨RX7, "<init>", "()V"⟩
abbrev cX7_type : ByteArray := prog_1_method_2_code
def yX7_type : MethodName := ⟨RX7, "type", "(II)I"⟩
abbrev cX7_wipe : ByteArray := prog_1_method_3_code
def yX7_wipe : MethodName := ⟨RX7, "wipe", "(I)I"⟩
abbrev cX7_undo : ByteArray := prog_1_method_4_code
def yX7_undo : MethodName := ⟨RX7, "undo", "(I)I"⟩
abbrev cX7_fault : ByteArray := prog_1_method_5_code
def yX7_fault : MethodName := ⟨RX7, "fault", "(I)I"⟩
abbrev cX7_car : ByteArray := prog_1_method_6_code
def yX7_car : MethodName := ⟨RX7, "car", "(II)I"⟩
abbrev cX7_coming : ByteArray := prog_1_method_7_code
def yX7_coming : MethodName := ⟨RX7, "coming", "(II)I"⟩
abbrev cX7_speed : ByteArray := prog_1_method_8_code
def yX7_speed : MethodName := ⟨RX7, "speed", "(I)I"⟩
abbrev cX7_event : ByteArray := prog_1_method_9_code
def yX7_event : MethodName := ⟨RX7, "event", "(III)I"⟩
abbrev cX7_back : ByteArray := prog_1_method_10_code
def yX7_back : MethodName := ⟨RX7, "back", "()I"⟩
abbrev cX7_read : ByteArray := prog_1_method_11_code
def yX7_read : MethodName := ⟨RX7, "read", "(I)I"⟩
abbrev cX7_at : ByteArray := prog_1_method_12_code
def yX7_at : MethodName := ⟨RX7, "at", "(III)I"⟩
abbrev cX7_waits : ByteArray := prog_1_method_13_code
def yX7_waits : MethodName := ⟨RX7, "waits", "(II)I"⟩
abbrev cX7_over : ByteArray := prog_1_method_14_code
def yX7_over : MethodName := ⟨RX7, "over", "(I)I"⟩
abbrev cX7_sum : ByteArray := prog_1_method_15_code
def yX7_sum : MethodName := ⟨RX7, "sum", "()I"⟩
abbrev cX7_crowd : ByteArray := prog_1_method_16_code
def yX7_crowd : MethodName := ⟨RX7, "crowd", "(II)I"⟩
abbrev cX7_first : ByteArray := prog_1_method_17_code
def yX7_first : MethodName := ⟨RX7, "first", "(I)I"⟩
abbrev cX7_carried : ByteArray := prog_1_method_18_code
def yX7_carried : MethodName := ⟨RX7, "carried", "(I)I"⟩
abbrev cX7_idle : ByteArray := prog_1_method_19_code
def yX7_idle : MethodName := ⟨RX7, "idle", "()I"⟩
abbrev cX7_left : ByteArray := prog_1_method_20_code
def yX7_left : MethodName := ⟨RX7, "left", "()I"⟩
abbrev cX7_hang : ByteArray := prog_1_method_21_code
def yX7_hang : MethodName := ⟨RX7, "hang", "(II)I"⟩
abbrev cX7_pace : ByteArray := prog_1_method_22_code
def yX7_pace : MethodName := ⟨RX7, "pace", "(II)I"⟩
abbrev cX7_cheap : ByteArray := prog_1_method_23_code
def yX7_cheap : MethodName := ⟨RX7, "cheap", "(II)I"⟩
abbrev cX7_spare : ByteArray := prog_1_method_24_code
def yX7_spare : MethodName := ⟨RX7, "spare", "(I)I"⟩
abbrev cX7_seen : ByteArray := prog_1_method_25_code
def yX7_seen : MethodName := ⟨RX7, "seen", "(III)I"⟩
abbrev cX7_forget : ByteArray := prog_1_method_26_code
def yX7_forget : MethodName := ⟨RX7, "forget", "()I"⟩
abbrev cX7_never : ByteArray := prog_1_method_27_code
def yX7_never : MethodName := ⟨RX7, "never", "()I"⟩
abbrev cX7_was : ByteArray := prog_1_method_28_code
def yX7_was : MethodName := ⟨RX7, "was", "(II)I"⟩
abbrev cX7_ask : ByteArray := prog_1_method_29_code
def yX7_ask : MethodName := ⟨RX7, "ask", "(I)I"⟩
abbrev cX7_chance : ByteArray := prog_1_method_30_code
def yX7_chance : MethodName := ⟨RX7, "chance", "(III)J"⟩
abbrev cX7_years : ByteArray := prog_1_method_31_code
def yX7_years : MethodName := ⟨RX7, "years", "(III)I"⟩
abbrev cX7_sheet : ByteArray := prog_1_method_32_code
def yX7_sheet : MethodName := ⟨RX7, "sheet", "(III)I"⟩
abbrev cX7_lose : ByteArray := prog_1_method_33_code
def yX7_lose : MethodName := ⟨RX7, "lose", "(I)I"⟩
abbrev cX7_put : ByteArray := prog_1_method_34_code
def yX7_put : MethodName := ⟨RX7, "put", "(IIII)I"⟩
abbrev cX7_get : ByteArray := prog_1_method_35_code
def yX7_get : MethodName := ⟨RX7, "get", "(III)I"⟩
abbrev cX7_copy : ByteArray := prog_1_method_36_code
def yX7_copy : MethodName := ⟨RX7, "copy", "(IIIII)I"⟩
abbrev cX7_write : ByteArray := prog_1_method_37_code
def yX7_write : MethodName := ⟨RX7, "write", "(II)I"⟩
abbrev cX7_count : ByteArray := prog_1_method_38_code
def yX7_count : MethodName := ⟨RX7, "count", "(I)I"⟩
abbrev cX7_digest : ByteArray := prog_1_method_39_code
def yX7_digest : MethodName := ⟨RX7, "digest", "()J"⟩
abbrev cX7_digestTold : ByteArray := prog_1_method_40_code
def yX7_digestTold : MethodName := ⟨RX7, "digestTold", "(J)J"⟩
abbrev cX7_mix : ByteArray := prog_1_method_41_code
def yX7_mix : MethodName := ⟨RX7, "mix", "(JJ)J"⟩
abbrev cX7_within : ByteArray := prog_1_method_42_code
def yX7_within : MethodName := ⟨RX7, "within", "(III)Z"⟩
abbrev cX7_isMoment : ByteArray := prog_1_method_43_code
def yX7_isMoment : MethodName := ⟨RX7, "isMoment", "(I)Z"⟩
abbrev cX7_isStation : ByteArray := prog_1_method_44_code
def yX7_isStation : MethodName := ⟨RX7, "isStation", "(I)Z"⟩
abbrev cX7_isForm : ByteArray := prog_1_method_45_code
def yX7_isForm : MethodName := ⟨RX7, "isForm", "(I)Z"⟩
abbrev cX7_isCar : ByteArray := prog_1_method_46_code
def yX7_isCar : MethodName := ⟨RX7, "isCar", "(I)Z"⟩
abbrev cX7_found : ByteArray := prog_1_method_47_code
def yX7_found : MethodName := ⟨RX7, "found", "(I)I"⟩
abbrev cX7_textOf : ByteArray := prog_1_method_48_code
def yX7_textOf : MethodName := ⟨RX7, "textOf", "(I)LCableCars$Text;"⟩
abbrev cX7_sheetOf : ByteArray := prog_1_method_49_code
def yX7_sheetOf : MethodName := ⟨RX7, "sheetOf", "(I)LCableCars$Sheet;"⟩
abbrev cX7_readAgain : ByteArray := prog_1_method_50_code
def yX7_readAgain : MethodName := ⟨RX7, "readAgain", "(I)V"⟩
abbrev cX7_faultOfSpeed : ByteArray := prog_1_method_51_code
def yX7_faultOfSpeed : MethodName := ⟨RX7, "faultOfSpeed", "()I"⟩
abbrev cX7_toldSpeed : ByteArray := prog_1_method_52_code
def yX7_toldSpeed : MethodName := ⟨RX7, "toldSpeed", "(I)I"⟩
abbrev cX7_anotherHangsAt : ByteArray := prog_1_method_53_code
def yX7_anotherHangsAt : MethodName := ⟨RX7, "anotherHangsAt", "(II)Z"⟩
abbrev cX7_planAsTold : ByteArray := prog_1_method_54_code
def yX7_planAsTold : MethodName := ⟨RX7, "planAsTold", "()V"⟩
abbrev cX7_asTold : ByteArray := prog_1_method_55_code
def yX7_asTold : MethodName := ⟨RX7, "asTold", "()LCableCars$Ride;"⟩
abbrev cX7_leftBehind : ByteArray := prog_1_method_56_code
def yX7_leftBehind : MethodName := ⟨RX7, "leftBehind", "(LCableCars$Ride;)I"⟩
abbrev cX7_leastSpared : ByteArray := prog_1_method_57_code
def yX7_leastSpared : MethodName := ⟨RX7, "leastSpared", "()I"⟩
abbrev cX7_nobodyLeftWithout : ByteArray := prog_1_method_58_code
def yX7_nobodyLeftWithout : MethodName := ⟨RX7, "nobodyLeftWithout", "(I)Z"⟩
abbrev cX7_numberOfBit : ByteArray := prog_1_method_59_code
def yX7_numberOfBit : MethodName := ⟨RX7, "numberOfBit", "(II)I"⟩
abbrev cX7_comesOutAsSeen : ByteArray := prog_1_method_60_code
def yX7_comesOutAsSeen : MethodName := ⟨RX7, "comesOutAsSeen", "()Z"⟩
abbrev cX7_likelyRooms : ByteArray := prog_1_method_61_code
def yX7_likelyRooms : MethodName := ⟨RX7, "likelyRooms", "(I)I"⟩
abbrev cX7_likelySorts : ByteArray := prog_1_method_62_code
def yX7_likelySorts : MethodName := ⟨RX7, "likelySorts", "(I)I"⟩
abbrev cX7_noteCrowdsByRoom : ByteArray := prog_1_method_63_code
def yX7_noteCrowdsByRoom : MethodName := ⟨RX7, "noteCrowdsByRoom", "(I)V"⟩
abbrev cX7_mostAlike : ByteArray := prog_1_method_64_code
def yX7_mostAlike : MethodName := ⟨RX7, "mostAlike", "(I)I"⟩
abbrev cX7_sharesWithNobodyWaiting : ByteArray := prog_1_method_65_code
def yX7_sharesWithNobodyWaiting : MethodName := ⟨RX7, "sharesWithNobodyWaiting", "(II)J"⟩
abbrev cX7_sharesOf : ByteArray := prog_1_method_66_code
def yX7_sharesOf : MethodName := ⟨RX7, "sharesOf", "(II)J"⟩
def RX8 : String := "CableCarsModel"
def TX8 : u_T := fun k => match k with
  | 0 => ("CableCarsModel", "typed", "[I", true)
  | 1 => ("CableCarsModel", "texts", "[I", true)
  | 2 => ("CableCarsModel", "cars", "I", false)
  | 3 => ("CableCarsModel", "places", "[I", true)
  | 4 => ("CableCarsModel", "sorts", "[I", true)
  | 5 => ("CableCarsModel", "rooms", "[I", true)
  | 6 => ("CableCarsModel", "comings", "I", false)
  | 7 => ("CableCarsModel", "comingAt", "[I", true)
  | 8 => ("CableCarsModel", "comingTo", "[I", true)
  | 9 => ("CableCarsModel", "comingMany", "[I", true)
  | 10 => ("CableCarsModel", "speeds", "I", false)
  | 11 => ("CableCarsModel", "speedTold", "[I", true)
  | 12 => ("CableCarsModel", "events", "I", false)
  | 13 => ("CableCarsModel", "eventKind", "[I", true)
  | 14 => ("CableCarsModel", "eventAt", "[I", true)
  | 15 => ("CableCarsModel", "eventNumber", "[I", true)
  | 16 => ("CableCarsModel", "speedNow", "[I", true)
  | 17 => ("CableCarsModel", "notEvents", "I", false)
  | 18 => ("CableCarsModel", "isGust", "Z", false)
  | 19 => ("CableCarsModel", "isStop", "Z", false)
  | 20 => ("CableCarsModel", "jammed", "I", false)
  | 21 => ("CableCarsModel", "placeNow", "[I", true)
  | 22 => ("CableCarsModel", "inside", "[I", true)
  | 23 => ("CableCarsModel", "gotOut", "[I", true)
  | 24 => ("CableCarsModel", "everIn", "I", false)
  | 25 => ("CableCarsModel", "waiting", "[I", true)
  | 26 => ("CableCarsModel", "overNow", "[I", true)
  | 27 => ("CableCarsModel", "powerNow", "I", false)
  | 28 => ("CableCarsModel", "sumNow", "I", false)
  | 29 => ("CableCarsModel", "firstAt", "I", false)
  | 30 => ("CableCarsModel", "firstCar", "I", false)
  | 31 => ("CableCarsModel", "waitAt", "[I", true)
  | 32 => ("CableCarsModel", "ridesAt", "[I", true)
  | 33 => ("CableCarsModel", "powerAt", "[I", true)
  | 34 => ("CableCarsModel", "placeAt", "[I", true)
  | 35 => ("CableCarsModel", "insideAt", "[I", true)
  | 36 => ("CableCarsModel", "planRow", "[I", true)
  | 37 => ("CableCarsModel", "seens", "I", false)
  | 38 => ("CableCarsModel", "seenAt", "[I", true)
  | 39 => ("CableCarsModel", "seenStation", "[I", true)
  | 40 => ("CableCarsModel", "seenMany", "[I", true)
  | 41 => ("CableCarsModel", "waitBy", "[I", true)
  | 42 => ("CableCarsModel", "isThere", "[Z", true)
  | 43 => ("CableCarsModel", "forms", "[I", true)
  | 44 => ("CableCarsModel", "sizes", "[I", true)
  | 45 => ("CableCarsModel", "items", "[I", true)
  | 46 => ("CableCarsModel", "moved", "[I", true)
  | _ => ("CableCarsModel", "finding", "I", false)
def tyX8 : Nat → FieldType := fun k => match k with
  | 0 => .array .int
  | 1 => .array .int
  | 2 => .int
  | 3 => .array .int
  | 4 => .array .int
  | 5 => .array .int
  | 6 => .int
  | 7 => .array .int
  | 8 => .array .int
  | 9 => .array .int
  | 10 => .int
  | 11 => .array .int
  | 12 => .int
  | 13 => .array .int
  | 14 => .array .int
  | 15 => .array .int
  | 16 => .array .int
  | 17 => .int
  | 18 => .boolean
  | 19 => .boolean
  | 20 => .int
  | 21 => .array .int
  | 22 => .array .int
  | 23 => .array .int
  | 24 => .int
  | 25 => .array .int
  | 26 => .array .int
  | 27 => .int
  | 28 => .int
  | 29 => .int
  | 30 => .int
  | 31 => .array .int
  | 32 => .array .int
  | 33 => .array .int
  | 34 => .array .int
  | 35 => .array .int
  | 36 => .array .int
  | 37 => .int
  | 38 => .array .int
  | 39 => .array .int
  | 40 => .array .int
  | 41 => .array .int
  | 42 => .array .boolean
  | 43 => .array .int
  | 44 => .array .int
  | 45 => .array .int
  | 46 => .array .int
  | _ => .int
abbrev wsX80 : List Cond := u_ws RX8 TX8 48
theorem nmX8 : ∀ a, a < 48 → ∀ b, b < 48 → a ≠ b → (TX8 a).2.1 ≠ (TX8 b).2.1 := by decide +kernel
theorem tyX8_ok : ∀ k, k < 48 → parseFieldDescriptor (TX8 k).2.2.1 = some (tyX8 k) := by decide +kernel
abbrev cX8_init : ByteArray := prog_10_method_1_code
def yX8_init : MethodName := ⟨RX8, "<init>", "()V"⟩
abbrev cX8_in : ByteArray := prog_10_method_3_code
def yX8_in : MethodName := ⟨RX8, "in", "(III)Z"⟩
abbrev cX8_isIn : ByteArray := prog_10_method_4_code
def yX8_isIn : MethodName := ⟨RX8, "isIn", "(II)Z"⟩
abbrev cX8_no : ByteArray := prog_10_method_5_code
def yX8_no : MethodName := ⟨RX8, "no", "(I)J"⟩
abbrev cX8_lowest : ByteArray := prog_10_method_6_code
def yX8_lowest : MethodName := ⟨RX8, "lowest", "(JJI)J"⟩
abbrev cX8_isText : ByteArray := prog_10_method_7_code
def yX8_isText : MethodName := ⟨RX8, "isText", "(I)Z"⟩
abbrev cX8_isMoment : ByteArray := prog_10_method_8_code
def yX8_isMoment : MethodName := ⟨RX8, "isMoment", "(I)Z"⟩
abbrev cX8_isTwo : ByteArray := prog_10_method_9_code
def yX8_isTwo : MethodName := ⟨RX8, "isTwo", "(I)Z"⟩
abbrev cX8_isThree : ByteArray := prog_10_method_10_code
def yX8_isThree : MethodName := ⟨RX8, "isThree", "(I)Z"⟩
abbrev cX8_roomOf : ByteArray := prog_10_method_11_code
def yX8_roomOf : MethodName := ⟨RX8, "roomOf", "(I)I"⟩
abbrev cX8_type : ByteArray := prog_10_method_12_code
def yX8_type : MethodName := ⟨RX8, "type", "(II)I"⟩
abbrev cX8_wipe : ByteArray := prog_10_method_13_code
def yX8_wipe : MethodName := ⟨RX8, "wipe", "(I)I"⟩
abbrev cX8_undo : ByteArray := prog_10_method_14_code
def yX8_undo : MethodName := ⟨RX8, "undo", "(I)I"⟩
abbrev cX8_byteAt : ByteArray := prog_10_method_15_code
def yX8_byteAt : MethodName := ⟨RX8, "byteAt", "(II)I"⟩
abbrev cX8_isTaken : ByteArray := prog_10_method_16_code
def yX8_isTaken : MethodName := ⟨RX8, "isTaken", "(II)Z"⟩
abbrev cX8_readsCar : ByteArray := prog_10_method_17_code
def yX8_readsCar : MethodName := ⟨RX8, "readsCar", "(II)I"⟩
abbrev cX8_readsComing : ByteArray := prog_10_method_18_code
def yX8_readsComing : MethodName := ⟨RX8, "readsComing", "(II)I"⟩
abbrev cX8_readsParts : ByteArray := prog_10_method_19_code
def yX8_readsParts : MethodName := ⟨RX8, "readsParts", "(I)I"⟩
abbrev cX8_readsSpeed : ByteArray := prog_10_method_20_code
def yX8_readsSpeed : MethodName := ⟨RX8, "readsSpeed", "()I"⟩
abbrev cX8_faultOf : ByteArray := prog_10_method_21_code
def yX8_faultOf : MethodName := ⟨RX8, "faultOf", "(I)I"⟩
abbrev cX8_reads : ByteArray := prog_10_method_22_code
def yX8_reads : MethodName := ⟨RX8, "reads", "()V"⟩
abbrev cX8_fault : ByteArray := prog_10_method_23_code
def yX8_fault : MethodName := ⟨RX8, "fault", "(I)I"⟩
abbrev cX8_isCar : ByteArray := prog_10_method_24_code
def yX8_isCar : MethodName := ⟨RX8, "isCar", "(I)Z"⟩
abbrev cX8_carOf : ByteArray := prog_10_method_25_code
def yX8_carOf : MethodName := ⟨RX8, "carOf", "(II)I"⟩
abbrev cX8_car : ByteArray := prog_10_method_26_code
def yX8_car : MethodName := ⟨RX8, "car", "(II)I"⟩
abbrev cX8_comingOf : ByteArray := prog_10_method_27_code
def yX8_comingOf : MethodName := ⟨RX8, "comingOf", "(II)I"⟩
abbrev cX8_coming : ByteArray := prog_10_method_28_code
def yX8_coming : MethodName := ⟨RX8, "coming", "(II)I"⟩
abbrev cX8_speedOf : ByteArray := prog_10_method_29_code
def yX8_speedOf : MethodName := ⟨RX8, "speedOf", "(I)I"⟩
abbrev cX8_speed : ByteArray := prog_10_method_30_code
def yX8_speed : MethodName := ⟨RX8, "speed", "(I)I"⟩
abbrev cX8_event : ByteArray := prog_10_method_31_code
def yX8_event : MethodName := ⟨RX8, "event", "(III)I"⟩
abbrev cX8_back : ByteArray := prog_10_method_32_code
def yX8_back : MethodName := ⟨RX8, "back", "()I"⟩
abbrev cX8_read : ByteArray := prog_10_method_33_code
def yX8_read : MethodName := ⟨RX8, "read", "(I)I"⟩
abbrev cX8_asTold : ByteArray := prog_10_method_34_code
def yX8_asTold : MethodName := ⟨RX8, "asTold", "()V"⟩
abbrev cX8_befalls : ByteArray := prog_10_method_35_code
def yX8_befalls : MethodName := ⟨RX8, "befalls", "(I)V"⟩
abbrev cX8_getsOut : ByteArray := prog_10_method_36_code
def yX8_getsOut : MethodName := ⟨RX8, "getsOut", "(II)V"⟩
abbrev cX8_getsIn : ByteArray := prog_10_method_37_code
def yX8_getsIn : MethodName := ⟨RX8, "getsIn", "(I)V"⟩
abbrev cX8_servesAll : ByteArray := prog_10_method_38_code
def yX8_servesAll : MethodName := ⟨RX8, "servesAll", "(IZ)V"⟩
abbrev cX8_goesOn : ByteArray := prog_10_method_39_code
def yX8_goesOn : MethodName := ⟨RX8, "goesOn", "()V"⟩
abbrev cX8_goesBy : ByteArray := prog_10_method_40_code
def yX8_goesBy : MethodName := ⟨RX8, "goesBy", "(I)V"⟩
abbrev cX8_runs : ByteArray := prog_10_method_41_code
def yX8_runs : MethodName := ⟨RX8, "runs", "()V"⟩
abbrev cX8_runsTold : ByteArray := prog_10_method_42_code
def yX8_runsTold : MethodName := ⟨RX8, "runsTold", "()V"⟩
abbrev cX8_atOf : ByteArray := prog_10_method_43_code
def yX8_atOf : MethodName := ⟨RX8, "atOf", "(III)I"⟩
abbrev cX8_at : ByteArray := prog_10_method_44_code
def yX8_at : MethodName := ⟨RX8, "at", "(III)I"⟩
abbrev cX8_waitsOf : ByteArray := prog_10_method_45_code
def yX8_waitsOf : MethodName := ⟨RX8, "waitsOf", "(II)I"⟩
abbrev cX8_waits : ByteArray := prog_10_method_46_code
def yX8_waits : MethodName := ⟨RX8, "waits", "(II)I"⟩
abbrev cX8_overOf : ByteArray := prog_10_method_47_code
def yX8_overOf : MethodName := ⟨RX8, "overOf", "(I)I"⟩
abbrev cX8_over : ByteArray := prog_10_method_48_code
def yX8_over : MethodName := ⟨RX8, "over", "(I)I"⟩
abbrev cX8_sumOf : ByteArray := prog_10_method_49_code
def yX8_sumOf : MethodName := ⟨RX8, "sumOf", "()I"⟩
abbrev cX8_sum : ByteArray := prog_10_method_50_code
def yX8_sum : MethodName := ⟨RX8, "sum", "()I"⟩
abbrev cX8_crowdOf : ByteArray := prog_10_method_51_code
def yX8_crowdOf : MethodName := ⟨RX8, "crowdOf", "(II)I"⟩
abbrev cX8_crowd : ByteArray := prog_10_method_52_code
def yX8_crowd : MethodName := ⟨RX8, "crowd", "(II)I"⟩
abbrev cX8_firstOf : ByteArray := prog_10_method_53_code
def yX8_firstOf : MethodName := ⟨RX8, "firstOf", "(I)I"⟩
abbrev cX8_first : ByteArray := prog_10_method_54_code
def yX8_first : MethodName := ⟨RX8, "first", "(I)I"⟩
abbrev cX8_carriedOf : ByteArray := prog_10_method_55_code
def yX8_carriedOf : MethodName := ⟨RX8, "carriedOf", "(I)I"⟩
abbrev cX8_carried : ByteArray := prog_10_method_56_code
def yX8_carried : MethodName := ⟨RX8, "carried", "(I)I"⟩
abbrev cX8_idleOf : ByteArray := prog_10_method_57_code
def yX8_idleOf : MethodName := ⟨RX8, "idleOf", "()I"⟩
abbrev cX8_idle : ByteArray := prog_10_method_58_code
def yX8_idle : MethodName := ⟨RX8, "idle", "()I"⟩
abbrev cX8_leftNow : ByteArray := prog_10_method_59_code
def yX8_leftNow : MethodName := ⟨RX8, "leftNow", "()I"⟩
abbrev cX8_leftOf : ByteArray := prog_10_method_60_code
def yX8_leftOf : MethodName := ⟨RX8, "leftOf", "()I"⟩
abbrev cX8_left : ByteArray := prog_10_method_61_code
def yX8_left : MethodName := ⟨RX8, "left", "()I"⟩
abbrev cX8_bothOver : ByteArray := prog_10_method_62_code
def yX8_bothOver : MethodName := ⟨RX8, "bothOver", "()I"⟩
abbrev cX8_isOther : ByteArray := prog_10_method_63_code
def yX8_isOther : MethodName := ⟨RX8, "isOther", "(II)Z"⟩
abbrev cX8_hangOf : ByteArray := prog_10_method_64_code
def yX8_hangOf : MethodName := ⟨RX8, "hangOf", "(II)I"⟩
abbrev cX8_hang : ByteArray := prog_10_method_65_code
def yX8_hang : MethodName := ⟨RX8, "hang", "(II)I"⟩
abbrev cX8_paceOf : ByteArray := prog_10_method_66_code
def yX8_paceOf : MethodName := ⟨RX8, "paceOf", "(II)I"⟩
abbrev cX8_pace : ByteArray := prog_10_method_67_code
def yX8_pace : MethodName := ⟨RX8, "pace", "(II)I"⟩
abbrev cX8_cheapOf : ByteArray := prog_10_method_68_code
def yX8_cheapOf : MethodName := ⟨RX8, "cheapOf", "(II)I"⟩
abbrev cX8_cheap : ByteArray := prog_10_method_69_code
def yX8_cheap : MethodName := ⟨RX8, "cheap", "(II)I"⟩
abbrev cX8_isSpared : ByteArray := prog_10_method_70_code
def yX8_isSpared : MethodName := ⟨RX8, "isSpared", "(I)Z"⟩
abbrev cX8_spareBy : ByteArray := prog_10_method_71_code
def yX8_spareBy : MethodName := ⟨RX8, "spareBy", "()I"⟩
abbrev cX8_ofRow : ByteArray := prog_10_method_72_code
def yX8_ofRow : MethodName := ⟨RX8, "ofRow", "(II)I"⟩
abbrev cX8_spare : ByteArray := prog_10_method_73_code
def yX8_spare : MethodName := ⟨RX8, "spare", "(I)I"⟩
abbrev cX8_seen : ByteArray := prog_10_method_74_code
def yX8_seen : MethodName := ⟨RX8, "seen", "(III)I"⟩
abbrev cX8_forget : ByteArray := prog_10_method_75_code
def yX8_forget : MethodName := ⟨RX8, "forget", "()I"⟩
abbrev cX8_isSeen : ByteArray := prog_10_method_76_code
def yX8_isSeen : MethodName := ⟨RX8, "isSeen", "()Z"⟩
abbrev cX8_neverNow : ByteArray := prog_10_method_77_code
def yX8_neverNow : MethodName := ⟨RX8, "neverNow", "()I"⟩
abbrev cX8_never : ByteArray := prog_10_method_78_code
def yX8_never : MethodName := ⟨RX8, "never", "()I"⟩
abbrev cX8_roomsBy : ByteArray := prog_10_method_79_code
def yX8_roomsBy : MethodName := ⟨RX8, "roomsBy", "(I)I"⟩
abbrev cX8_sortsBy : ByteArray := prog_10_method_80_code
def yX8_sortsBy : MethodName := ⟨RX8, "sortsBy", "(I)I"⟩
abbrev cX8_was : ByteArray := prog_10_method_81_code
def yX8_was : MethodName := ⟨RX8, "was", "(II)I"⟩
abbrev cX8_askOf : ByteArray := prog_10_method_82_code
def yX8_askOf : MethodName := ⟨RX8, "askOf", "(I)I"⟩
abbrev cX8_ask : ByteArray := prog_10_method_83_code
def yX8_ask : MethodName := ⟨RX8, "ask", "(I)I"⟩
abbrev cX8_chanceOf : ByteArray := prog_10_method_84_code
def yX8_chanceOf : MethodName := ⟨RX8, "chanceOf", "(III)J"⟩
abbrev cX8_chance : ByteArray := prog_10_method_85_code
def yX8_chance : MethodName := ⟨RX8, "chance", "(III)J"⟩
abbrev cX8_yearsOf : ByteArray := prog_10_method_86_code
def yX8_yearsOf : MethodName := ⟨RX8, "yearsOf", "(III)I"⟩
abbrev cX8_years : ByteArray := prog_10_method_87_code
def yX8_years : MethodName := ⟨RX8, "years", "(III)I"⟩
abbrev cX8_meets : ByteArray := prog_10_method_88_code
def yX8_meets : MethodName := ⟨RX8, "meets", "(I)I"⟩
abbrev cX8_isSheet : ByteArray := prog_10_method_89_code
def yX8_isSheet : MethodName := ⟨RX8, "isSheet", "(I)Z"⟩
abbrev cX8_sheet : ByteArray := prog_10_method_90_code
def yX8_sheet : MethodName := ⟨RX8, "sheet", "(III)I"⟩
abbrev cX8_lose : ByteArray := prog_10_method_91_code
def yX8_lose : MethodName := ⟨RX8, "lose", "(I)I"⟩
abbrev cX8_lacks : ByteArray := prog_10_method_92_code
def yX8_lacks : MethodName := ⟨RX8, "lacks", "(III)I"⟩
abbrev cX8_keep : ByteArray := prog_10_method_93_code
def yX8_keep : MethodName := ⟨RX8, "keep", "(III)V"⟩
abbrev cX8_put : ByteArray := prog_10_method_94_code
def yX8_put : MethodName := ⟨RX8, "put", "(IIII)I"⟩
abbrev cX8_get : ByteArray := prog_10_method_95_code
def yX8_get : MethodName := ⟨RX8, "get", "(III)I"⟩
abbrev cX8_copy : ByteArray := prog_10_method_96_code
def yX8_copy : MethodName := ⟨RX8, "copy", "(IIIII)I"⟩
abbrev cX8_write : ByteArray := prog_10_method_97_code
def yX8_write : MethodName := ⟨RX8, "write", "(II)I"⟩
abbrev cX8_tellOf : ByteArray := prog_10_method_98_code
def yX8_tellOf : MethodName := ⟨RX8, "tellOf", "(I)I"⟩
abbrev cX8_count : ByteArray := prog_10_method_99_code
def yX8_count : MethodName := ⟨RX8, "count", "(I)I"⟩
abbrev cX8_momentDigest : ByteArray := prog_10_method_100_code
def yX8_momentDigest : MethodName := ⟨RX8, "momentDigest", "(JI)J"⟩
abbrev cX8_atDigest : ByteArray := prog_10_method_101_code
def yX8_atDigest : MethodName := ⟨RX8, "atDigest", "(JII)J"⟩
abbrev cX8_carDigest : ByteArray := prog_10_method_102_code
def yX8_carDigest : MethodName := ⟨RX8, "carDigest", "(JI)J"⟩
abbrev cX8_digest : ByteArray := prog_10_method_103_code
def yX8_digest : MethodName := ⟨RX8, "digest", "()J"⟩
def RJx145de : String := "java/io/Serializable"
def TJx145de : u_T := fun k => match k with
  | _ => ("", "", "", false)
def tyJx145de : Nat → FieldType := fun k => match k with
  | _ => .int
abbrev wsJx145de0 : List Cond := u_ws RJx145de TJx145de 0
theorem nmJx145de : ∀ a, a < 0 → ∀ b, b < 0 → a ≠ b → (TJx145de a).2.1 ≠ (TJx145de b).2.1 := by decide +kernel
theorem tyJx145de_ok : ∀ k, k < 0 → parseFieldDescriptor (TJx145de k).2.2.1 = some (tyJx145de k) := by decide +kernel
def RJx9f9b0 : String := "java/lang/CharSequence"
def TJx9f9b0 : u_T := fun k => match k with
  | _ => ("", "", "", false)
def tyJx9f9b0 : Nat → FieldType := fun k => match k with
  | _ => .int
abbrev wsJx9f9b00 : List Cond := u_ws RJx9f9b0 TJx9f9b0 0
theorem nmJx9f9b0 : ∀ a, a < 0 → ∀ b, b < 0 → a ≠ b → (TJx9f9b0 a).2.1 ≠ (TJx9f9b0 b).2.1 := by decide +kernel
theorem tyJx9f9b0_ok : ∀ k, k < 0 → parseFieldDescriptor (TJx9f9b0 k).2.2.1 = some (tyJx9f9b0 k) := by decide +kernel
def RJ11 : String := "java/lang/Character"
def TJ11 : u_T := fun k => match k with
  | _ => ("", "", "", false)
def tyJ11 : Nat → FieldType := fun k => match k with
  | _ => .int
abbrev wsJ110 : List Cond := u_ws RJ11 TJ11 0
theorem nmJ11 : ∀ a, a < 0 → ∀ b, b < 0 → a ≠ b → (TJ11 a).2.1 ≠ (TJ11 b).2.1 := by decide +kernel
theorem tyJ11_ok : ∀ k, k < 0 → parseFieldDescriptor (TJ11 k).2.2.1 = some (tyJ11 k) := by decide +kernel
abbrev cJ11_isValidCodePoint_9a6ad : ByteArray := prog_11_method_11_code
def yJ11_isValidCodePoint_9a6ad : MethodName := ⟨RJ11, "isValidCodePoint", "(I)Z"⟩
abbrev cJ11_highSurrogate_5068e : ByteArray := prog_11_method_28_code
def yJ11_highSurrogate_5068e : MethodName := ⟨RJ11, "highSurrogate", "(I)C"⟩
abbrev cJ11_lowSurrogate_5068e : ByteArray := prog_11_method_29_code
def yJ11_lowSurrogate_5068e : MethodName := ⟨RJ11, "lowSurrogate", "(I)C"⟩
def RJxb160c : String := "java/lang/Comparable"
def TJxb160c : u_T := fun k => match k with
  | _ => ("", "", "", false)
def tyJxb160c : Nat → FieldType := fun k => match k with
  | _ => .int
abbrev wsJxb160c0 : List Cond := u_ws RJxb160c TJxb160c 0
theorem nmJxb160c : ∀ a, a < 0 → ∀ b, b < 0 → a ≠ b → (TJxb160c a).2.1 ≠ (TJxb160c b).2.1 := by decide +kernel
theorem tyJxb160c_ok : ∀ k, k < 0 → parseFieldDescriptor (TJxb160c k).2.2.1 = some (tyJxb160c k) := by decide +kernel
def RJ6 : String := "java/lang/Integer"
def TJ6 : u_T := fun k => match k with
  | _ => ("", "", "", false)
def tyJ6 : Nat → FieldType := fun k => match k with
  | _ => .int
abbrev wsJ60 : List Cond := u_ws RJ6 TJ6 0
theorem nmJ6 : ∀ a, a < 0 → ∀ b, b < 0 → a ≠ b → (TJ6 a).2.1 ≠ (TJ6 b).2.1 := by decide +kernel
theorem tyJ6_ok : ∀ k, k < 0 → parseFieldDescriptor (TJ6 k).2.2.1 = some (tyJ6 k) := by decide +kernel
abbrev cJ6_bitCount_0f7a4 : ByteArray := prog_12_method_49_code
def yJ6_bitCount_0f7a4 : MethodName := ⟨RJ6, "bitCount", "(I)I"⟩
def RJ9 : String := "java/lang/Math"
def TJ9 : u_T := fun k => match k with
  | _ => ("", "", "", false)
def tyJ9 : Nat → FieldType := fun k => match k with
  | _ => .int
abbrev wsJ90 : List Cond := u_ws RJ9 TJ9 0
theorem nmJ9 : ∀ a, a < 0 → ∀ b, b < 0 → a ≠ b → (TJ9 a).2.1 ≠ (TJ9 b).2.1 := by decide +kernel
theorem tyJ9_ok : ∀ k, k < 0 → parseFieldDescriptor (TJ9 k).2.2.1 = some (tyJ9 k) := by decide +kernel
abbrev cJ9_max_7cf53 : ByteArray := prog_13_method_65_code
def yJ9_max_7cf53 : MethodName := ⟨RJ9, "max", "(II)I"⟩
abbrev cJ9_min_7cf53 : ByteArray := prog_13_method_69_code
def yJ9_min_7cf53 : MethodName := ⟨RJ9, "min", "(II)I"⟩
def RJ0 : String := "java/lang/String"
def TJ0 : u_T := fun k => match k with
  | _ => ("", "", "", false)
def tyJ0 : Nat → FieldType := fun k => match k with
  | _ => .int
abbrev wsJ00 : List Cond := u_ws RJ0 TJ0 0
theorem nmJ0 : ∀ a, a < 0 → ∀ b, b < 0 → a ≠ b → (TJ0 a).2.1 ≠ (TJ0 b).2.1 := by decide +kernel
theorem tyJ0_ok : ∀ k, k < 0 → parseFieldDescriptor (TJ0 k).2.2.1 = some (tyJ0 k) := by decide +kernel
abbrev cJ0_length_8abf5 : ByteArray := prog_14_method_54_code
def yJ0_length_8abf5 : MethodName := ⟨RJ0, "length", "()I"⟩
abbrev cJ0_indexOf_0f7a4 : ByteArray := prog_14_method_79_code
def yJ0_indexOf_0f7a4 : MethodName := ⟨RJ0, "indexOf", "(I)I"⟩
abbrev cJ0_indexOf_7cf53 : ByteArray := prog_14_method_80_code
def yJ0_indexOf_7cf53 : MethodName := ⟨RJ0, "indexOf", "(II)I"⟩
abbrev cJ0_coder_7d493 : ByteArray := prog_14_method_152_code
def yJ0_coder_7d493 : MethodName := ⟨RJ0, "coder", "()B"⟩
abbrev cJ0_isLatin1_aae02 : ByteArray := prog_14_method_154_code
def yJ0_isLatin1_aae02 : MethodName := ⟨RJ0, "isLatin1", "()Z"⟩
abbrev cJ0_checkBoundsBeginEnd_23922 : ByteArray := prog_14_method_158_code
def yJ0_checkBoundsBeginEnd_23922 : MethodName := ⟨RJ0, "checkBoundsBeginEnd", "(III)V"⟩
def RJ1 : String := "java/lang/StringLatin1"
def TJ1 : u_T := fun k => match k with
  | _ => ("", "", "", false)
def tyJ1 : Nat → FieldType := fun k => match k with
  | _ => .int
abbrev wsJ10 : List Cond := u_ws RJ1 TJ1 0
theorem nmJ1 : ∀ a, a < 0 → ∀ b, b < 0 → a ≠ b → (TJ1 a).2.1 ≠ (TJ1 b).2.1 := by decide +kernel
theorem tyJ1_ok : ∀ k, k < 0 → parseFieldDescriptor (TJ1 k).2.2.1 = some (tyJ1 k) := by decide +kernel
abbrev cJ1_canEncode_9a6ad : ByteArray := prog_15_method_4_code
def yJ1_canEncode_9a6ad : MethodName := ⟨RJ1, "canEncode", "(I)Z"⟩
abbrev cJ1_indexOf_4cfef : ByteArray := prog_15_method_22_code
def yJ1_indexOf_4cfef : MethodName := ⟨RJ1, "indexOf", "([BIII)I"⟩
abbrev cJ1_indexOfChar_4cfef : ByteArray := prog_15_method_23_code
def yJ1_indexOfChar_4cfef : MethodName := ⟨RJ1, "indexOfChar", "([BIII)I"⟩
def RJ2 : String := "java/lang/StringUTF16"
def TJ2 : u_T := fun k => match k with
  | _ => ("", "", "", false)
def tyJ2 : Nat → FieldType := fun k => match k with
  | _ => .int
abbrev wsJ20 : List Cond := u_ws RJ2 TJ2 0
theorem nmJ2 : ∀ a, a < 0 → ∀ b, b < 0 → a ≠ b → (TJ2 a).2.1 ≠ (TJ2 b).2.1 := by decide +kernel
theorem tyJ2_ok : ∀ k, k < 0 → parseFieldDescriptor (TJ2 k).2.2.1 = some (tyJ2 k) := by decide +kernel
abbrev cJ2_getChar_3b067 : ByteArray := prog_16_method_5_code
def yJ2_getChar_3b067 : MethodName := ⟨RJ2, "getChar", "([BI)C"⟩
abbrev cJ2_length_9d52b : ByteArray := prog_16_method_6_code
def yJ2_length_9d52b : MethodName := ⟨RJ2, "length", "([B)I"⟩
abbrev cJ2_indexOf_4cfef : ByteArray := prog_16_method_40_code
def yJ2_indexOf_4cfef : MethodName := ⟨RJ2, "indexOf", "([BIII)I"⟩
abbrev cJ2_indexOfChar_4cfef : ByteArray := prog_16_method_47_code
def yJ2_indexOfChar_4cfef : MethodName := ⟨RJ2, "indexOfChar", "([BIII)I"⟩
abbrev cJ2_indexOfCharUnsafe_4cfef : ByteArray := prog_16_method_48_code
def yJ2_indexOfCharUnsafe_4cfef : MethodName := ⟨RJ2, "indexOfCharUnsafe", "([BIII)I"⟩
abbrev cJ2_indexOfSupplementary_4cfef : ByteArray := prog_16_method_49_code
def yJ2_indexOfSupplementary_4cfef : MethodName := ⟨RJ2, "indexOfSupplementary", "([BIII)I"⟩
abbrev cJ2_checkBoundsBeginEnd_d044e : ByteArray := prog_16_method_93_code
def yJ2_checkBoundsBeginEnd_d044e : MethodName := ⟨RJ2, "checkBoundsBeginEnd", "(II[B)V"⟩
def RJ10 : String := "java/lang/System"
def TJ10 : u_T := fun k => match k with
  | _ => ("", "", "", false)
def tyJ10 : Nat → FieldType := fun k => match k with
  | _ => .int
abbrev wsJ100 : List Cond := u_ws RJ10 TJ10 0
theorem nmJ10 : ∀ a, a < 0 → ∀ b, b < 0 → a ≠ b → (TJ10 a).2.1 ≠ (TJ10 b).2.1 := by decide +kernel
theorem tyJ10_ok : ∀ k, k < 0 → parseFieldDescriptor (TJ10 k).2.2.1 = some (tyJ10 k) := by decide +kernel
def RJxfd54e : String := "java/lang/constant/Constable"
def TJxfd54e : u_T := fun k => match k with
  | _ => ("", "", "", false)
def tyJxfd54e : Nat → FieldType := fun k => match k with
  | _ => .int
abbrev wsJxfd54e0 : List Cond := u_ws RJxfd54e TJxfd54e 0
theorem nmJxfd54e : ∀ a, a < 0 → ∀ b, b < 0 → a ≠ b → (TJxfd54e a).2.1 ≠ (TJxfd54e b).2.1 := by decide +kernel
theorem tyJxfd54e_ok : ∀ k, k < 0 → parseFieldDescriptor (TJxfd54e k).2.2.1 = some (tyJxfd54e k) := by decide +kernel
def RJx3cf43 : String := "java/lang/constant/ConstantDesc"
def TJx3cf43 : u_T := fun k => match k with
  | _ => ("", "", "", false)
def tyJx3cf43 : Nat → FieldType := fun k => match k with
  | _ => .int
abbrev wsJx3cf430 : List Cond := u_ws RJx3cf43 TJx3cf43 0
theorem nmJx3cf43 : ∀ a, a < 0 → ∀ b, b < 0 → a ≠ b → (TJx3cf43 a).2.1 ≠ (TJx3cf43 b).2.1 := by decide +kernel
theorem tyJx3cf43_ok : ∀ k, k < 0 → parseFieldDescriptor (TJx3cf43 k).2.2.1 = some (tyJx3cf43 k) := by decide +kernel
def RJ7 : String := "java/util/Arrays"
def TJ7 : u_T := fun k => match k with
  | _ => ("", "", "", false)
def tyJ7 : Nat → FieldType := fun k => match k with
  | _ => .int
abbrev wsJ70 : List Cond := u_ws RJ7 TJ7 0
theorem nmJ7 : ∀ a, a < 0 → ∀ b, b < 0 → a ≠ b → (TJ7 a).2.1 ≠ (TJ7 b).2.1 := by decide +kernel
theorem tyJ7_ok : ∀ k, k < 0 → parseFieldDescriptor (TJ7 k).2.2.1 = some (tyJ7 k) := by decide +kernel
abbrev cJ7_fill_53178 : ByteArray := prog_18_method_103_code
def yJ7_fill_53178 : MethodName := ⟨RJ7, "fill", "([II)V"⟩
def RJ3 : String := "jdk/internal/util/Preconditions"
def TJ3 : u_T := fun k => match k with
  | _ => ("", "", "", false)
def tyJ3 : Nat → FieldType := fun k => match k with
  | _ => .int
abbrev wsJ30 : List Cond := u_ws RJ3 TJ3 0
theorem nmJ3 : ∀ a, a < 0 → ∀ b, b < 0 → a ≠ b → (TJ3 a).2.1 ≠ (TJ3 b).2.1 := by decide +kernel
theorem tyJ3_ok : ∀ k, k < 0 → parseFieldDescriptor (TJ3 k).2.2.1 = some (tyJ3 k) := by decide +kernel
abbrev cJ3_checkFromToIndex_8c36e : ByteArray := prog_19_method_12_code
def yJ3_checkFromToIndex_8c36e : MethodName := ⟨RJ3, "checkFromToIndex", "(IIILjava/util/function/BiFunction;)I"⟩
def RL : String := "CableCarsLaw"
abbrev cL_law : ByteArray := code
def yL_law : MethodName := ⟨RL, "law", "([I)Z"⟩
abbrev vwCl : List vw_C := [(RX0, TX0, 4), (RX1, TX1, 9), (RX2, TX2, 13), (RX3, TX3, 4), (RX4, TX4, 4), (RX5, TX5, 3), (RX6, TX6, 8), (RX7, TX7, 18), (RX8, TX8, 48)]
set_option maxRecDepth 100000 in
theorem inX0 : ∀ w ∈ wsX00, w ∈ lw_tbl := fun w h => (goodIn_r wsX00 [193, 195, 197, 199] (by decide +kernel) (by decide +kernel) w h).1
set_option maxRecDepth 100000 in
theorem inX1 : ∀ w ∈ wsX10, w ∈ lw_tbl := fun w h => (goodIn_r wsX10 [269, 271, 273, 275, 277, 279, 281, 283, 285] (by decide +kernel) (by decide +kernel) w h).1
set_option maxRecDepth 100000 in
theorem inX2 : ∀ w ∈ wsX20, w ∈ lw_tbl := fun w h => (goodIn_r wsX20 [319, 321, 323, 325, 327, 329, 331, 333, 335, 337, 339, 341, 343] (by decide +kernel) (by decide +kernel) w h).1
set_option maxRecDepth 100000 in
theorem inX3 : ∀ w ∈ wsX30, w ∈ lw_tbl := fun w h => (goodIn_r wsX30 [236, 238, 240, 242] (by decide +kernel) (by decide +kernel) w h).1
set_option maxRecDepth 100000 in
theorem inX4 : ∀ w ∈ wsX40, w ∈ lw_tbl := fun w h => (goodIn_r wsX40 [213, 215, 217, 219] (by decide +kernel) (by decide +kernel) w h).1
set_option maxRecDepth 100000 in
theorem inX5 : ∀ w ∈ wsX50, w ∈ lw_tbl := fun w h => (goodIn_r wsX50 [127, 129, 131] (by decide +kernel) (by decide +kernel) w h).1
set_option maxRecDepth 100000 in
theorem inX6 : ∀ w ∈ wsX60, w ∈ lw_tbl := fun w h => (goodIn_r wsX60 [159, 161, 163, 165, 167, 169, 171, 173] (by decide +kernel) (by decide +kernel) w h).1
set_option maxRecDepth 100000 in
theorem inX7 : ∀ w ∈ wsX70, w ∈ lw_tbl := fun w h => (goodIn_r wsX70 [365, 367, 369, 371, 373, 375, 377, 379, 381, 383, 385, 387, 389, 391, 393, 395, 397, 399] (by decide +kernel) (by decide +kernel) w h).1
set_option maxRecDepth 100000 in
theorem inX8 : ∀ w ∈ wsX80, w ∈ lw_tbl := fun w h => (goodIn_r wsX80 [997, 999, 1001, 1003, 1005, 1007, 1009, 1011, 1013, 1015, 1017, 1019, 1021, 1023, 1025, 1027, 1029, 1031, 1033, 1035, 1037, 1039, 1041, 1043, 1045, 1047, 1049, 1051, 1053, 1055, 1057, 1059, 1061, 1063, 1065, 1067, 1069, 1071, 1073, 1075, 1077, 1079, 1081, 1083, 1085, 1087, 1089, 1091] (by decide +kernel) (by decide +kernel) w h).1
def gk_tb : List Cond := lw_tbl.filter goodWord
theorem gk_tb_good : GoodIn gk_tb gk_tb := fun w h => ⟨h, good_of_word (List.mem_filter.mp h).2⟩
theorem gk_tb_in {w : Cond} (i : Nat) (h : lw_tbl[i]? = some w) (hg : goodWord w = true) : w ∈ gk_tb := List.mem_filter.mpr ⟨List.mem_of_getElem? h, hg⟩
end
section
theorem dX0_init_0 : decode cX0_init 0 = .ok (.aload_n 0, 1) := by decide +kernel
theorem dX0_init_1 : decode cX0_init 1 = .ok (.invokespecial 3, 3) := by decide +kernel
theorem dX0_init_4 : decode cX0_init 4 = .ok (.aload_n 0, 1) := by decide +kernel
theorem dX0_init_5 : decode cX0_init 5 = .ok (.bipush 8, 2) := by decide +kernel
theorem dX0_init_7 : decode cX0_init 7 = .ok (.newarray .int, 2) := by decide +kernel
theorem dX0_init_9 : decode cX0_init 9 = .ok (.putfield 9, 3) := by decide +kernel
theorem dX0_init_12 : decode cX0_init 12 = .ok (.aload_n 0, 1) := by decide +kernel
theorem dX0_init_13 : decode cX0_init 13 = .ok (.bipush 8, 2) := by decide +kernel
theorem dX0_init_15 : decode cX0_init 15 = .ok (.newarray .int, 2) := by decide +kernel
theorem dX0_init_17 : decode cX0_init 17 = .ok (.putfield 15, 3) := by decide +kernel
theorem dX0_init_20 : decode cX0_init 20 = .ok (.aload_n 0, 1) := by decide +kernel
theorem dX0_init_21 : decode cX0_init 21 = .ok (.bipush 8, 2) := by decide +kernel
theorem dX0_init_23 : decode cX0_init 23 = .ok (.newarray .int, 2) := by decide +kernel
theorem dX0_init_25 : decode cX0_init 25 = .ok (.putfield 18, 3) := by decide +kernel
theorem dX0_init_28 : decode cX0_init 28 = .ok (.aload_n 0, 1) := by decide +kernel
theorem dX0_init_29 : decode cX0_init 29 = .ok (.iconst 0, 1) := by decide +kernel
theorem dX0_init_30 : decode cX0_init 30 = .ok (.putfield 21, 3) := by decide +kernel
theorem dX0_init_33 : decode cX0_init 33 = .ok (.return_, 1) := by decide +kernel
theorem dX0_mayBe_0 : decode cX0_mayBe 0 = .ok (.iload_n 1, 1) := by decide +kernel
theorem dX0_mayBe_1 : decode cX0_mayBe 1 = .ok (.iconst 0, 1) := by decide +kernel
theorem dX0_mayBe_2 : decode cX0_mayBe 2 = .ok (.iconst 2, 1) := by decide +kernel
theorem dX0_mayBe_3 : decode cX0_mayBe 3 = .ok (.invokestatic 25, 3) := by decide +kernel
theorem dX0_mayBe_6 : decode cX0_mayBe 6 = .ok (.ifCond .eq 23, 3) := by decide +kernel
theorem dX0_mayBe_9 : decode cX0_mayBe 9 = .ok (.iload_n 2, 1) := by decide +kernel
theorem dX0_mayBe_10 : decode cX0_mayBe 10 = .ok (.invokestatic 29, 3) := by decide +kernel
theorem dX0_mayBe_13 : decode cX0_mayBe 13 = .ok (.ifCond .eq 16, 3) := by decide +kernel
theorem dX0_mayBe_16 : decode cX0_mayBe 16 = .ok (.iload_n 3, 1) := by decide +kernel
theorem dX0_mayBe_17 : decode cX0_mayBe 17 = .ok (.iconst 0, 1) := by decide +kernel
theorem dX0_mayBe_18 : decode cX0_mayBe 18 = .ok (.iconst 5, 1) := by decide +kernel
theorem dX0_mayBe_19 : decode cX0_mayBe 19 = .ok (.invokestatic 25, 3) := by decide +kernel
theorem dX0_mayBe_22 : decode cX0_mayBe 22 = .ok (.ifCond .eq 7, 3) := by decide +kernel
theorem dX0_mayBe_25 : decode cX0_mayBe 25 = .ok (.iconst 1, 1) := by decide +kernel
theorem dX0_mayBe_26 : decode cX0_mayBe 26 = .ok (.goto 4, 3) := by decide +kernel
theorem dX0_mayBe_29 : decode cX0_mayBe 29 = .ok (.iconst 0, 1) := by decide +kernel
theorem dX0_mayBe_30 : decode cX0_mayBe 30 = .ok (.ireturn, 1) := by decide +kernel
theorem dX0_hasSpace_0 : decode cX0_hasSpace 0 = .ok (.aload_n 0, 1) := by decide +kernel
theorem dX0_hasSpace_1 : decode cX0_hasSpace 1 = .ok (.getfield 21, 3) := by decide +kernel
theorem dX0_hasSpace_4 : decode cX0_hasSpace 4 = .ok (.bipush 8, 2) := by decide +kernel
theorem dX0_hasSpace_6 : decode cX0_hasSpace 6 = .ok (.if_icmp .ge 7, 3) := by decide +kernel
theorem dX0_hasSpace_9 : decode cX0_hasSpace 9 = .ok (.iconst 1, 1) := by decide +kernel
theorem dX0_hasSpace_10 : decode cX0_hasSpace 10 = .ok (.goto 4, 3) := by decide +kernel
theorem dX0_hasSpace_13 : decode cX0_hasSpace 13 = .ok (.iconst 0, 1) := by decide +kernel
theorem dX0_hasSpace_14 : decode cX0_hasSpace 14 = .ok (.ireturn, 1) := by decide +kernel
theorem dX0_append_0 : decode cX0_append 0 = .ok (.aload_n 0, 1) := by decide +kernel
theorem dX0_append_1 : decode cX0_append 1 = .ok (.invokevirtual 33, 3) := by decide +kernel
theorem dX0_append_4 : decode cX0_append 4 = .ok (.ifCond .eq 43, 3) := by decide +kernel
theorem dX0_append_7 : decode cX0_append 7 = .ok (.aload_n 0, 1) := by decide +kernel
theorem dX0_append_8 : decode cX0_append 8 = .ok (.getfield 9, 3) := by decide +kernel
theorem dX0_append_11 : decode cX0_append 11 = .ok (.aload_n 0, 1) := by decide +kernel
theorem dX0_append_12 : decode cX0_append 12 = .ok (.getfield 21, 3) := by decide +kernel
theorem dX0_append_15 : decode cX0_append 15 = .ok (.iload_n 1, 1) := by decide +kernel
theorem dX0_append_16 : decode cX0_append 16 = .ok (.iastore, 1) := by decide +kernel
theorem dX0_append_17 : decode cX0_append 17 = .ok (.aload_n 0, 1) := by decide +kernel
theorem dX0_append_18 : decode cX0_append 18 = .ok (.getfield 15, 3) := by decide +kernel
theorem dX0_append_21 : decode cX0_append 21 = .ok (.aload_n 0, 1) := by decide +kernel
theorem dX0_append_22 : decode cX0_append 22 = .ok (.getfield 21, 3) := by decide +kernel
theorem dX0_append_25 : decode cX0_append 25 = .ok (.iload_n 2, 1) := by decide +kernel
theorem dX0_append_26 : decode cX0_append 26 = .ok (.iastore, 1) := by decide +kernel
theorem dX0_append_27 : decode cX0_append 27 = .ok (.aload_n 0, 1) := by decide +kernel
theorem dX0_append_28 : decode cX0_append 28 = .ok (.getfield 18, 3) := by decide +kernel
theorem dX0_append_31 : decode cX0_append 31 = .ok (.aload_n 0, 1) := by decide +kernel
theorem dX0_append_32 : decode cX0_append 32 = .ok (.getfield 21, 3) := by decide +kernel
theorem dX0_append_35 : decode cX0_append 35 = .ok (.iload_n 3, 1) := by decide +kernel
theorem dX0_append_36 : decode cX0_append 36 = .ok (.iastore, 1) := by decide +kernel
theorem dX0_append_37 : decode cX0_append 37 = .ok (.aload_n 0, 1) := by decide +kernel
theorem dX0_append_38 : decode cX0_append 38 = .ok (.dup, 1) := by decide +kernel
theorem dX0_append_39 : decode cX0_append 39 = .ok (.getfield 21, 3) := by decide +kernel
theorem dX0_append_42 : decode cX0_append 42 = .ok (.iconst 1, 1) := by decide +kernel
theorem dX0_append_43 : decode cX0_append 43 = .ok (.iadd, 1) := by decide +kernel
theorem dX0_append_44 : decode cX0_append 44 = .ok (.putfield 21, 3) := by decide +kernel
theorem dX0_append_47 : decode cX0_append 47 = .ok (.return_, 1) := by decide +kernel
theorem dX1_init_0 : decode cX1_init 0 = .ok (.aload_n 0, 1) := by decide +kernel
theorem dX1_init_1 : decode cX1_init 1 = .ok (.invokespecial 3, 3) := by decide +kernel
theorem dX1_init_4 : decode cX1_init 4 = .ok (.aload_n 0, 1) := by decide +kernel
theorem dX1_init_5 : decode cX1_init 5 = .ok (.iconst 0, 1) := by decide +kernel
theorem dX1_init_6 : decode cX1_init 6 = .ok (.putfield 9, 3) := by decide +kernel
theorem dX1_init_9 : decode cX1_init 9 = .ok (.aload_n 0, 1) := by decide +kernel
theorem dX1_init_10 : decode cX1_init 10 = .ok (.bipush 6, 2) := by decide +kernel
theorem dX1_init_12 : decode cX1_init 12 = .ok (.newarray .int, 2) := by decide +kernel
theorem dX1_init_14 : decode cX1_init 14 = .ok (.putfield 15, 3) := by decide +kernel
theorem dX1_init_17 : decode cX1_init 17 = .ok (.aload_n 0, 1) := by decide +kernel
theorem dX1_init_18 : decode cX1_init 18 = .ok (.bipush 6, 2) := by decide +kernel
theorem dX1_init_20 : decode cX1_init 20 = .ok (.newarray .int, 2) := by decide +kernel
theorem dX1_init_22 : decode cX1_init 22 = .ok (.putfield 19, 3) := by decide +kernel
theorem dX1_init_25 : decode cX1_init 25 = .ok (.aload_n 0, 1) := by decide +kernel
theorem dX1_init_26 : decode cX1_init 26 = .ok (.bipush 6, 2) := by decide +kernel
theorem dX1_init_28 : decode cX1_init 28 = .ok (.newarray .int, 2) := by decide +kernel
theorem dX1_init_30 : decode cX1_init 30 = .ok (.putfield 22, 3) := by decide +kernel
theorem dX1_init_33 : decode cX1_init 33 = .ok (.aload_n 0, 1) := by decide +kernel
theorem dX1_init_34 : decode cX1_init 34 = .ok (.bipush 6, 2) := by decide +kernel
theorem dX1_init_36 : decode cX1_init 36 = .ok (.newarray .int, 2) := by decide +kernel
theorem dX1_init_38 : decode cX1_init 38 = .ok (.putfield 25, 3) := by decide +kernel
theorem dX1_init_41 : decode cX1_init 41 = .ok (.aload_n 0, 1) := by decide +kernel
theorem dX1_init_42 : decode cX1_init 42 = .ok (.iconst 2, 1) := by decide +kernel
theorem dX1_init_43 : decode cX1_init 43 = .ok (.bipush 24, 2) := by decide +kernel
theorem dX1_init_45 : decode cX1_init 45 = .ok (.multianewarray 28 2, 4) := by decide +kernel
theorem dX1_init_49 : decode cX1_init 49 = .ok (.putfield 30, 3) := by decide +kernel
theorem dX1_init_52 : decode cX1_init 52 = .ok (.aload_n 0, 1) := by decide +kernel
theorem dX1_init_53 : decode cX1_init 53 = .ok (.bipush 24, 2) := by decide +kernel
theorem dX1_init_55 : decode cX1_init 55 = .ok (.newarray .int, 2) := by decide +kernel
theorem dX1_init_57 : decode cX1_init 57 = .ok (.putfield 33, 3) := by decide +kernel
theorem dX1_init_60 : decode cX1_init 60 = .ok (.aload_n 0, 1) := by decide +kernel
theorem dX1_init_61 : decode cX1_init 61 = .ok (.bipush 24, 2) := by decide +kernel
theorem dX1_init_63 : decode cX1_init 63 = .ok (.newarray .boolean, 2) := by decide +kernel
theorem dX1_init_65 : decode cX1_init 65 = .ok (.putfield 36, 3) := by decide +kernel
theorem dX1_init_68 : decode cX1_init 68 = .ok (.aload_n 0, 1) := by decide +kernel
theorem dX1_init_69 : decode cX1_init 69 = .ok (.bipush 24, 2) := by decide +kernel
theorem dX1_init_71 : decode cX1_init 71 = .ok (.newarray .boolean, 2) := by decide +kernel
theorem dX1_init_73 : decode cX1_init 73 = .ok (.putfield 40, 3) := by decide +kernel
theorem dX1_init_76 : decode cX1_init 76 = .ok (.return_, 1) := by decide +kernel
theorem dX1_takeCars_0 : decode cX1_takeCars 0 = .ok (.aload_n 0, 1) := by decide +kernel
theorem dX1_takeCars_1 : decode cX1_takeCars 1 = .ok (.aload_n 1, 1) := by decide +kernel
theorem dX1_takeCars_2 : decode cX1_takeCars 2 = .ok (.getfield 43, 3) := by decide +kernel
theorem dX1_takeCars_5 : decode cX1_takeCars 5 = .ok (.bipush 6, 2) := by decide +kernel
theorem dX1_takeCars_7 : decode cX1_takeCars 7 = .ok (.invokestatic 48, 3) := by decide +kernel
theorem dX1_takeCars_10 : decode cX1_takeCars 10 = .ok (.putfield 9, 3) := by decide +kernel
theorem dX1_takeCars_13 : decode cX1_takeCars 13 = .ok (.iconst 0, 1) := by decide +kernel
theorem dX1_takeCars_14 : decode cX1_takeCars 14 = .ok (.istore_n 2, 1) := by decide +kernel
theorem dX1_takeCars_15 : decode cX1_takeCars 15 = .ok (.iload_n 2, 1) := by decide +kernel
theorem dX1_takeCars_16 : decode cX1_takeCars 16 = .ok (.aload_n 0, 1) := by decide +kernel
theorem dX1_takeCars_17 : decode cX1_takeCars 17 = .ok (.getfield 9, 3) := by decide +kernel
theorem dX1_takeCars_20 : decode cX1_takeCars 20 = .ok (.if_icmp .ge 45, 3) := by decide +kernel
theorem dX1_takeCars_23 : decode cX1_takeCars 23 = .ok (.aload_n 0, 1) := by decide +kernel
theorem dX1_takeCars_24 : decode cX1_takeCars 24 = .ok (.getfield 15, 3) := by decide +kernel
theorem dX1_takeCars_27 : decode cX1_takeCars 27 = .ok (.iload_n 2, 1) := by decide +kernel
theorem dX1_takeCars_28 : decode cX1_takeCars 28 = .ok (.aload_n 1, 1) := by decide +kernel
theorem dX1_takeCars_29 : decode cX1_takeCars 29 = .ok (.getfield 54, 3) := by decide +kernel
theorem dX1_takeCars_32 : decode cX1_takeCars 32 = .ok (.iload_n 2, 1) := by decide +kernel
theorem dX1_takeCars_33 : decode cX1_takeCars 33 = .ok (.iaload, 1) := by decide +kernel
theorem dX1_takeCars_34 : decode cX1_takeCars 34 = .ok (.iastore, 1) := by decide +kernel
theorem dX1_takeCars_35 : decode cX1_takeCars 35 = .ok (.aload_n 0, 1) := by decide +kernel
theorem dX1_takeCars_36 : decode cX1_takeCars 36 = .ok (.getfield 19, 3) := by decide +kernel
theorem dX1_takeCars_39 : decode cX1_takeCars 39 = .ok (.iload_n 2, 1) := by decide +kernel
theorem dX1_takeCars_40 : decode cX1_takeCars 40 = .ok (.aload_n 1, 1) := by decide +kernel
theorem dX1_takeCars_41 : decode cX1_takeCars 41 = .ok (.getfield 57, 3) := by decide +kernel
theorem dX1_takeCars_44 : decode cX1_takeCars 44 = .ok (.iload_n 2, 1) := by decide +kernel
theorem dX1_takeCars_45 : decode cX1_takeCars 45 = .ok (.iaload, 1) := by decide +kernel
theorem dX1_takeCars_46 : decode cX1_takeCars 46 = .ok (.iastore, 1) := by decide +kernel
theorem dX1_takeCars_47 : decode cX1_takeCars 47 = .ok (.aload_n 0, 1) := by decide +kernel
theorem dX1_takeCars_48 : decode cX1_takeCars 48 = .ok (.getfield 22, 3) := by decide +kernel
theorem dX1_takeCars_51 : decode cX1_takeCars 51 = .ok (.iload_n 2, 1) := by decide +kernel
theorem dX1_takeCars_52 : decode cX1_takeCars 52 = .ok (.aload_n 1, 1) := by decide +kernel
theorem dX1_takeCars_53 : decode cX1_takeCars 53 = .ok (.getfield 60, 3) := by decide +kernel
theorem dX1_takeCars_56 : decode cX1_takeCars 56 = .ok (.iload_n 2, 1) := by decide +kernel
theorem dX1_takeCars_57 : decode cX1_takeCars 57 = .ok (.iaload, 1) := by decide +kernel
theorem dX1_takeCars_58 : decode cX1_takeCars 58 = .ok (.iastore, 1) := by decide +kernel
theorem dX1_takeCars_59 : decode cX1_takeCars 59 = .ok (.iinc 2 1, 3) := by decide +kernel
theorem dX1_takeCars_62 : decode cX1_takeCars 62 = .ok (.goto (-47), 3) := by decide +kernel
theorem dX1_takeCars_65 : decode cX1_takeCars 65 = .ok (.return_, 1) := by decide +kernel
theorem dX1_takeComings_0 : decode cX1_takeComings 0 = .ok (.aload_n 0, 1) := by decide +kernel
theorem dX1_takeComings_1 : decode cX1_takeComings 1 = .ok (.getfield 30, 3) := by decide +kernel
theorem dX1_takeComings_4 : decode cX1_takeComings 4 = .ok (.iconst 0, 1) := by decide +kernel
theorem dX1_takeComings_5 : decode cX1_takeComings 5 = .ok (.aaload, 1) := by decide +kernel
theorem dX1_takeComings_6 : decode cX1_takeComings 6 = .ok (.iconst 0, 1) := by decide +kernel
theorem dX1_takeComings_7 : decode cX1_takeComings 7 = .ok (.invokestatic 63, 3) := by decide +kernel
theorem dX1_takeComings_10 : decode cX1_takeComings 10 = .ok (.aload_n 0, 1) := by decide +kernel
theorem dX1_takeComings_11 : decode cX1_takeComings 11 = .ok (.getfield 30, 3) := by decide +kernel
theorem dX1_takeComings_14 : decode cX1_takeComings 14 = .ok (.iconst 1, 1) := by decide +kernel
theorem dX1_takeComings_15 : decode cX1_takeComings 15 = .ok (.aaload, 1) := by decide +kernel
theorem dX1_takeComings_16 : decode cX1_takeComings 16 = .ok (.iconst 0, 1) := by decide +kernel
theorem dX1_takeComings_17 : decode cX1_takeComings 17 = .ok (.invokestatic 63, 3) := by decide +kernel
theorem dX1_takeComings_20 : decode cX1_takeComings 20 = .ok (.iconst 0, 1) := by decide +kernel
theorem dX1_takeComings_21 : decode cX1_takeComings 21 = .ok (.istore_n 2, 1) := by decide +kernel
theorem dX1_takeComings_22 : decode cX1_takeComings 22 = .ok (.iload_n 2, 1) := by decide +kernel
theorem dX1_takeComings_23 : decode cX1_takeComings 23 = .ok (.aload_n 1, 1) := by decide +kernel
theorem dX1_takeComings_24 : decode cX1_takeComings 24 = .ok (.getfield 43, 3) := by decide +kernel
theorem dX1_takeComings_27 : decode cX1_takeComings 27 = .ok (.if_icmp .ge 36, 3) := by decide +kernel
theorem dX1_takeComings_30 : decode cX1_takeComings 30 = .ok (.aload_n 0, 1) := by decide +kernel
theorem dX1_takeComings_31 : decode cX1_takeComings 31 = .ok (.getfield 30, 3) := by decide +kernel
theorem dX1_takeComings_34 : decode cX1_takeComings 34 = .ok (.aload_n 1, 1) := by decide +kernel
theorem dX1_takeComings_35 : decode cX1_takeComings 35 = .ok (.getfield 57, 3) := by decide +kernel
theorem dX1_takeComings_38 : decode cX1_takeComings 38 = .ok (.iload_n 2, 1) := by decide +kernel
theorem dX1_takeComings_39 : decode cX1_takeComings 39 = .ok (.iaload, 1) := by decide +kernel
theorem dX1_takeComings_40 : decode cX1_takeComings 40 = .ok (.aaload, 1) := by decide +kernel
theorem dX1_takeComings_41 : decode cX1_takeComings 41 = .ok (.aload_n 1, 1) := by decide +kernel
theorem dX1_takeComings_42 : decode cX1_takeComings 42 = .ok (.getfield 54, 3) := by decide +kernel
theorem dX1_takeComings_45 : decode cX1_takeComings 45 = .ok (.iload_n 2, 1) := by decide +kernel
theorem dX1_takeComings_46 : decode cX1_takeComings 46 = .ok (.iaload, 1) := by decide +kernel
theorem dX1_takeComings_47 : decode cX1_takeComings 47 = .ok (.dup2, 1) := by decide +kernel
theorem dX1_takeComings_48 : decode cX1_takeComings 48 = .ok (.iaload, 1) := by decide +kernel
theorem dX1_takeComings_49 : decode cX1_takeComings 49 = .ok (.aload_n 1, 1) := by decide +kernel
theorem dX1_takeComings_50 : decode cX1_takeComings 50 = .ok (.getfield 60, 3) := by decide +kernel
theorem dX1_takeComings_53 : decode cX1_takeComings 53 = .ok (.iload_n 2, 1) := by decide +kernel
theorem dX1_takeComings_54 : decode cX1_takeComings 54 = .ok (.iaload, 1) := by decide +kernel
theorem dX1_takeComings_55 : decode cX1_takeComings 55 = .ok (.iadd, 1) := by decide +kernel
theorem dX1_takeComings_56 : decode cX1_takeComings 56 = .ok (.iastore, 1) := by decide +kernel
theorem dX1_takeComings_57 : decode cX1_takeComings 57 = .ok (.iinc 2 1, 3) := by decide +kernel
theorem dX1_takeComings_60 : decode cX1_takeComings 60 = .ok (.goto (-38), 3) := by decide +kernel
theorem dX1_takeComings_63 : decode cX1_takeComings 63 = .ok (.return_, 1) := by decide +kernel
theorem dX1_takeEvents_0 : decode cX1_takeEvents 0 = .ok (.iconst 0, 1) := by decide +kernel
theorem dX1_takeEvents_1 : decode cX1_takeEvents 1 = .ok (.istore_n 3, 1) := by decide +kernel
theorem dX1_takeEvents_2 : decode cX1_takeEvents 2 = .ok (.iload_n 3, 1) := by decide +kernel
theorem dX1_takeEvents_3 : decode cX1_takeEvents 3 = .ok (.bipush 24, 2) := by decide +kernel
theorem dX1_takeEvents_5 : decode cX1_takeEvents 5 = .ok (.if_icmp .ge 23, 3) := by decide +kernel
theorem dX1_takeEvents_8 : decode cX1_takeEvents 8 = .ok (.aload_n 0, 1) := by decide +kernel
theorem dX1_takeEvents_9 : decode cX1_takeEvents 9 = .ok (.getfield 36, 3) := by decide +kernel
theorem dX1_takeEvents_12 : decode cX1_takeEvents 12 = .ok (.iload_n 3, 1) := by decide +kernel
theorem dX1_takeEvents_13 : decode cX1_takeEvents 13 = .ok (.iconst 0, 1) := by decide +kernel
theorem dX1_takeEvents_14 : decode cX1_takeEvents 14 = .ok (.bastore, 1) := by decide +kernel
theorem dX1_takeEvents_15 : decode cX1_takeEvents 15 = .ok (.aload_n 0, 1) := by decide +kernel
theorem dX1_takeEvents_16 : decode cX1_takeEvents 16 = .ok (.getfield 40, 3) := by decide +kernel
theorem dX1_takeEvents_19 : decode cX1_takeEvents 19 = .ok (.iload_n 3, 1) := by decide +kernel
theorem dX1_takeEvents_20 : decode cX1_takeEvents 20 = .ok (.iconst 0, 1) := by decide +kernel
theorem dX1_takeEvents_21 : decode cX1_takeEvents 21 = .ok (.bastore, 1) := by decide +kernel
theorem dX1_takeEvents_22 : decode cX1_takeEvents 22 = .ok (.iinc 3 1, 3) := by decide +kernel
theorem dX1_takeEvents_25 : decode cX1_takeEvents 25 = .ok (.goto (-23), 3) := by decide +kernel
theorem dX1_takeEvents_28 : decode cX1_takeEvents 28 = .ok (.aload_n 0, 1) := by decide +kernel
theorem dX1_takeEvents_29 : decode cX1_takeEvents 29 = .ok (.getfield 25, 3) := by decide +kernel
theorem dX1_takeEvents_32 : decode cX1_takeEvents 32 = .ok (.bipush 24, 2) := by decide +kernel
theorem dX1_takeEvents_34 : decode cX1_takeEvents 34 = .ok (.invokestatic 63, 3) := by decide +kernel
theorem dX1_takeEvents_37 : decode cX1_takeEvents 37 = .ok (.iconst 0, 1) := by decide +kernel
theorem dX1_takeEvents_38 : decode cX1_takeEvents 38 = .ok (.istore_n 3, 1) := by decide +kernel
theorem dX1_takeEvents_39 : decode cX1_takeEvents 39 = .ok (.iload_n 3, 1) := by decide +kernel
theorem dX1_takeEvents_40 : decode cX1_takeEvents 40 = .ok (.aload_n 1, 1) := by decide +kernel
theorem dX1_takeEvents_41 : decode cX1_takeEvents 41 = .ok (.getfield 69, 3) := by decide +kernel
theorem dX1_takeEvents_44 : decode cX1_takeEvents 44 = .ok (.if_icmp .ge 40, 3) := by decide +kernel
theorem dX1_takeEvents_47 : decode cX1_takeEvents 47 = .ok (.iload_n 2, 1) := by decide +kernel
theorem dX1_takeEvents_48 : decode cX1_takeEvents 48 = .ok (.iload_n 3, 1) := by decide +kernel
theorem dX1_takeEvents_49 : decode cX1_takeEvents 49 = .ok (.ishr, 1) := by decide +kernel
theorem dX1_takeEvents_50 : decode cX1_takeEvents 50 = .ok (.iconst 1, 1) := by decide +kernel
theorem dX1_takeEvents_51 : decode cX1_takeEvents 51 = .ok (.iand, 1) := by decide +kernel
theorem dX1_takeEvents_52 : decode cX1_takeEvents 52 = .ok (.iconst 1, 1) := by decide +kernel
theorem dX1_takeEvents_53 : decode cX1_takeEvents 53 = .ok (.if_icmp .ne 25, 3) := by decide +kernel
theorem dX1_takeEvents_56 : decode cX1_takeEvents 56 = .ok (.aload_n 0, 1) := by decide +kernel
theorem dX1_takeEvents_57 : decode cX1_takeEvents 57 = .ok (.aload_n 1, 1) := by decide +kernel
theorem dX1_takeEvents_58 : decode cX1_takeEvents 58 = .ok (.getfield 72, 3) := by decide +kernel
theorem dX1_takeEvents_61 : decode cX1_takeEvents 61 = .ok (.iload_n 3, 1) := by decide +kernel
theorem dX1_takeEvents_62 : decode cX1_takeEvents 62 = .ok (.iaload, 1) := by decide +kernel
theorem dX1_takeEvents_63 : decode cX1_takeEvents 63 = .ok (.aload_n 1, 1) := by decide +kernel
theorem dX1_takeEvents_64 : decode cX1_takeEvents 64 = .ok (.getfield 75, 3) := by decide +kernel
theorem dX1_takeEvents_67 : decode cX1_takeEvents 67 = .ok (.iload_n 3, 1) := by decide +kernel
theorem dX1_takeEvents_68 : decode cX1_takeEvents 68 = .ok (.iaload, 1) := by decide +kernel
theorem dX1_takeEvents_69 : decode cX1_takeEvents 69 = .ok (.aload_n 1, 1) := by decide +kernel
theorem dX1_takeEvents_70 : decode cX1_takeEvents 70 = .ok (.getfield 78, 3) := by decide +kernel
theorem dX1_takeEvents_73 : decode cX1_takeEvents 73 = .ok (.iload_n 3, 1) := by decide +kernel
theorem dX1_takeEvents_74 : decode cX1_takeEvents 74 = .ok (.iaload, 1) := by decide +kernel
theorem dX1_takeEvents_75 : decode cX1_takeEvents 75 = .ok (.invokevirtual 81, 3) := by decide +kernel
theorem dX1_takeEvents_78 : decode cX1_takeEvents 78 = .ok (.iinc 3 1, 3) := by decide +kernel
theorem dX1_takeEvents_81 : decode cX1_takeEvents 81 = .ok (.goto (-42), 3) := by decide +kernel
theorem dX1_takeEvents_84 : decode cX1_takeEvents 84 = .ok (.return_, 1) := by decide +kernel
theorem dX1_takeEvent_0 : decode cX1_takeEvent 0 = .ok (.iload_n 1, 1) := by decide +kernel
theorem dX1_takeEvent_1 : decode cX1_takeEvent 1 = .ok (.ifCond .ne 10, 3) := by decide +kernel
theorem dX1_takeEvent_4 : decode cX1_takeEvent 4 = .ok (.aload_n 0, 1) := by decide +kernel
theorem dX1_takeEvent_5 : decode cX1_takeEvent 5 = .ok (.getfield 36, 3) := by decide +kernel
theorem dX1_takeEvent_8 : decode cX1_takeEvent 8 = .ok (.iload_n 2, 1) := by decide +kernel
theorem dX1_takeEvent_9 : decode cX1_takeEvent 9 = .ok (.iconst 1, 1) := by decide +kernel
theorem dX1_takeEvent_10 : decode cX1_takeEvent 10 = .ok (.bastore, 1) := by decide +kernel
theorem dX1_takeEvent_11 : decode cX1_takeEvent 11 = .ok (.iload_n 1, 1) := by decide +kernel
theorem dX1_takeEvent_12 : decode cX1_takeEvent 12 = .ok (.iconst 1, 1) := by decide +kernel
theorem dX1_takeEvent_13 : decode cX1_takeEvent 13 = .ok (.if_icmp .ne 10, 3) := by decide +kernel
theorem dX1_takeEvent_16 : decode cX1_takeEvent 16 = .ok (.aload_n 0, 1) := by decide +kernel
theorem dX1_takeEvent_17 : decode cX1_takeEvent 17 = .ok (.getfield 40, 3) := by decide +kernel
theorem dX1_takeEvent_20 : decode cX1_takeEvent 20 = .ok (.iload_n 2, 1) := by decide +kernel
theorem dX1_takeEvent_21 : decode cX1_takeEvent 21 = .ok (.iconst 1, 1) := by decide +kernel
theorem dX1_takeEvent_22 : decode cX1_takeEvent 22 = .ok (.bastore, 1) := by decide +kernel
theorem dX1_takeEvent_23 : decode cX1_takeEvent 23 = .ok (.iload_n 1, 1) := by decide +kernel
theorem dX1_takeEvent_24 : decode cX1_takeEvent 24 = .ok (.iconst 2, 1) := by decide +kernel
theorem dX1_takeEvent_25 : decode cX1_takeEvent 25 = .ok (.if_icmp .ne 19, 3) := by decide +kernel
theorem dX1_takeEvent_28 : decode cX1_takeEvent 28 = .ok (.aload_n 0, 1) := by decide +kernel
theorem dX1_takeEvent_29 : decode cX1_takeEvent 29 = .ok (.getfield 25, 3) := by decide +kernel
theorem dX1_takeEvent_32 : decode cX1_takeEvent 32 = .ok (.iload_n 3, 1) := by decide +kernel
theorem dX1_takeEvent_33 : decode cX1_takeEvent 33 = .ok (.aload_n 0, 1) := by decide +kernel
theorem dX1_takeEvent_34 : decode cX1_takeEvent 34 = .ok (.getfield 25, 3) := by decide +kernel
theorem dX1_takeEvent_37 : decode cX1_takeEvent 37 = .ok (.iload_n 3, 1) := by decide +kernel
theorem dX1_takeEvent_38 : decode cX1_takeEvent 38 = .ok (.iaload, 1) := by decide +kernel
theorem dX1_takeEvent_39 : decode cX1_takeEvent 39 = .ok (.iload_n 2, 1) := by decide +kernel
theorem dX1_takeEvent_40 : decode cX1_takeEvent 40 = .ok (.invokestatic 48, 3) := by decide +kernel
theorem dX1_takeEvent_43 : decode cX1_takeEvent 43 = .ok (.iastore, 1) := by decide +kernel
theorem dX1_takeEvent_44 : decode cX1_takeEvent 44 = .ok (.return_, 1) := by decide +kernel
theorem dX1_places_0 : decode cX1_places 0 = .ok (.aload_n 0, 1) := by decide +kernel
theorem dX1_places_1 : decode cX1_places 1 = .ok (.getfield 40, 3) := by decide +kernel
theorem dX1_places_4 : decode cX1_places 4 = .ok (.iload_n 1, 1) := by decide +kernel
theorem dX1_places_5 : decode cX1_places 5 = .ok (.baload, 1) := by decide +kernel
theorem dX1_places_6 : decode cX1_places 6 = .ok (.ifCond .eq 7, 3) := by decide +kernel
theorem dX1_places_9 : decode cX1_places 9 = .ok (.iconst 0, 1) := by decide +kernel
theorem dX1_places_10 : decode cX1_places 10 = .ok (.goto 9, 3) := by decide +kernel
theorem dX1_places_13 : decode cX1_places 13 = .ok (.aload_n 0, 1) := by decide +kernel
theorem dX1_places_14 : decode cX1_places 14 = .ok (.getfield 33, 3) := by decide +kernel
theorem dX1_places_17 : decode cX1_places 17 = .ok (.iload_n 1, 1) := by decide +kernel
theorem dX1_places_18 : decode cX1_places 18 = .ok (.iaload, 1) := by decide +kernel
theorem dX1_places_19 : decode cX1_places 19 = .ok (.ireturn, 1) := by decide +kernel
theorem dX1_roomIn_0 : decode cX1_roomIn 0 = .ok (.aload_n 0, 1) := by decide +kernel
theorem dX1_roomIn_1 : decode cX1_roomIn 1 = .ok (.getfield 19, 3) := by decide +kernel
theorem dX1_roomIn_4 : decode cX1_roomIn 4 = .ok (.iload_n 1, 1) := by decide +kernel
theorem dX1_roomIn_5 : decode cX1_roomIn 5 = .ok (.iaload, 1) := by decide +kernel
theorem dX1_roomIn_6 : decode cX1_roomIn 6 = .ok (.iconst 2, 1) := by decide +kernel
theorem dX1_roomIn_7 : decode cX1_roomIn 7 = .ok (.if_icmp .ne 14, 3) := by decide +kernel
theorem dX1_roomIn_10 : decode cX1_roomIn 10 = .ok (.aload_n 0, 1) := by decide +kernel
theorem dX1_roomIn_11 : decode cX1_roomIn 11 = .ok (.getfield 22, 3) := by decide +kernel
theorem dX1_roomIn_14 : decode cX1_roomIn 14 = .ok (.iload_n 1, 1) := by decide +kernel
theorem dX1_roomIn_15 : decode cX1_roomIn 15 = .ok (.iaload, 1) := by decide +kernel
theorem dX1_roomIn_16 : decode cX1_roomIn 16 = .ok (.iconst 2, 1) := by decide +kernel
theorem dX1_roomIn_17 : decode cX1_roomIn 17 = .ok (.idiv, 1) := by decide +kernel
theorem dX1_roomIn_18 : decode cX1_roomIn 18 = .ok (.goto 9, 3) := by decide +kernel
theorem dX1_roomIn_21 : decode cX1_roomIn 21 = .ok (.aload_n 0, 1) := by decide +kernel
theorem dX1_roomIn_22 : decode cX1_roomIn 22 = .ok (.getfield 22, 3) := by decide +kernel
theorem dX1_roomIn_25 : decode cX1_roomIn 25 = .ok (.iload_n 1, 1) := by decide +kernel
theorem dX1_roomIn_26 : decode cX1_roomIn 26 = .ok (.iaload, 1) := by decide +kernel
theorem dX1_roomIn_27 : decode cX1_roomIn 27 = .ok (.ireturn, 1) := by decide +kernel
theorem dX1_isClosed_0 : decode cX1_isClosed 0 = .ok (.iload_n 2, 1) := by decide +kernel
theorem dX1_isClosed_1 : decode cX1_isClosed 1 = .ok (.aload_n 0, 1) := by decide +kernel
theorem dX1_isClosed_2 : decode cX1_isClosed 2 = .ok (.getfield 25, 3) := by decide +kernel
theorem dX1_isClosed_5 : decode cX1_isClosed 5 = .ok (.iload_n 1, 1) := by decide +kernel
theorem dX1_isClosed_6 : decode cX1_isClosed 6 = .ok (.iaload, 1) := by decide +kernel
theorem dX1_isClosed_7 : decode cX1_isClosed 7 = .ok (.if_icmp .ge 21, 3) := by decide +kernel
theorem dX1_isClosed_10 : decode cX1_isClosed 10 = .ok (.aload_n 0, 1) := by decide +kernel
theorem dX1_isClosed_11 : decode cX1_isClosed 11 = .ok (.getfield 36, 3) := by decide +kernel
theorem dX1_isClosed_14 : decode cX1_isClosed 14 = .ok (.iload_n 2, 1) := by decide +kernel
theorem dX1_isClosed_15 : decode cX1_isClosed 15 = .ok (.baload, 1) := by decide +kernel
theorem dX1_isClosed_16 : decode cX1_isClosed 16 = .ok (.ifCond .eq 16, 3) := by decide +kernel
theorem dX1_isClosed_19 : decode cX1_isClosed 19 = .ok (.aload_n 0, 1) := by decide +kernel
theorem dX1_isClosed_20 : decode cX1_isClosed 20 = .ok (.getfield 19, 3) := by decide +kernel
theorem dX1_isClosed_23 : decode cX1_isClosed 23 = .ok (.iload_n 1, 1) := by decide +kernel
theorem dX1_isClosed_24 : decode cX1_isClosed 24 = .ok (.iaload, 1) := by decide +kernel
theorem dX1_isClosed_25 : decode cX1_isClosed 25 = .ok (.ifCond .ne 7, 3) := by decide +kernel
theorem dX1_isClosed_28 : decode cX1_isClosed 28 = .ok (.iconst 1, 1) := by decide +kernel
theorem dX1_isClosed_29 : decode cX1_isClosed 29 = .ok (.goto 4, 3) := by decide +kernel
theorem dX1_isClosed_32 : decode cX1_isClosed 32 = .ok (.iconst 0, 1) := by decide +kernel
theorem dX1_isClosed_33 : decode cX1_isClosed 33 = .ok (.ireturn, 1) := by decide +kernel
theorem dX2_init_0 : decode cX2_init 0 = .ok (.aload_n 0, 1) := by decide +kernel
theorem dX2_init_1 : decode cX2_init 1 = .ok (.invokespecial 3, 3) := by decide +kernel
theorem dX2_init_4 : decode cX2_init 4 = .ok (.aload_n 0, 1) := by decide +kernel
theorem dX2_init_5 : decode cX2_init 5 = .ok (.bipush 6, 2) := by decide +kernel
theorem dX2_init_7 : decode cX2_init 7 = .ok (.bipush 24, 2) := by decide +kernel
theorem dX2_init_9 : decode cX2_init 9 = .ok (.multianewarray 9 2, 4) := by decide +kernel
theorem dX2_init_13 : decode cX2_init 13 = .ok (.putfield 11, 3) := by decide +kernel
theorem dX2_init_16 : decode cX2_init 16 = .ok (.aload_n 0, 1) := by decide +kernel
theorem dX2_init_17 : decode cX2_init 17 = .ok (.bipush 6, 2) := by decide +kernel
theorem dX2_init_19 : decode cX2_init 19 = .ok (.bipush 24, 2) := by decide +kernel
theorem dX2_init_21 : decode cX2_init 21 = .ok (.multianewarray 9 2, 4) := by decide +kernel
theorem dX2_init_25 : decode cX2_init 25 = .ok (.putfield 16, 3) := by decide +kernel
theorem dX2_init_28 : decode cX2_init 28 = .ok (.aload_n 0, 1) := by decide +kernel
theorem dX2_init_29 : decode cX2_init 29 = .ok (.iconst 2, 1) := by decide +kernel
theorem dX2_init_30 : decode cX2_init 30 = .ok (.bipush 24, 2) := by decide +kernel
theorem dX2_init_32 : decode cX2_init 32 = .ok (.multianewarray 9 2, 4) := by decide +kernel
theorem dX2_init_36 : decode cX2_init 36 = .ok (.putfield 19, 3) := by decide +kernel
theorem dX2_init_39 : decode cX2_init 39 = .ok (.aload_n 0, 1) := by decide +kernel
theorem dX2_init_40 : decode cX2_init 40 = .ok (.bipush 24, 2) := by decide +kernel
theorem dX2_init_42 : decode cX2_init 42 = .ok (.newarray .int, 2) := by decide +kernel
theorem dX2_init_44 : decode cX2_init 44 = .ok (.putfield 22, 3) := by decide +kernel
theorem dX2_init_47 : decode cX2_init 47 = .ok (.aload_n 0, 1) := by decide +kernel
theorem dX2_init_48 : decode cX2_init 48 = .ok (.bipush 6, 2) := by decide +kernel
theorem dX2_init_50 : decode cX2_init 50 = .ok (.newarray .int, 2) := by decide +kernel
theorem dX2_init_52 : decode cX2_init 52 = .ok (.putfield 26, 3) := by decide +kernel
theorem dX2_init_55 : decode cX2_init 55 = .ok (.aload_n 0, 1) := by decide +kernel
theorem dX2_init_56 : decode cX2_init 56 = .ok (.bipush 6, 2) := by decide +kernel
theorem dX2_init_58 : decode cX2_init 58 = .ok (.newarray .int, 2) := by decide +kernel
theorem dX2_init_60 : decode cX2_init 60 = .ok (.putfield 29, 3) := by decide +kernel
theorem dX2_init_63 : decode cX2_init 63 = .ok (.aload_n 0, 1) := by decide +kernel
theorem dX2_init_64 : decode cX2_init 64 = .ok (.bipush 6, 2) := by decide +kernel
theorem dX2_init_66 : decode cX2_init 66 = .ok (.newarray .int, 2) := by decide +kernel
theorem dX2_init_68 : decode cX2_init 68 = .ok (.putfield 32, 3) := by decide +kernel
theorem dX2_init_71 : decode cX2_init 71 = .ok (.aload_n 0, 1) := by decide +kernel
theorem dX2_init_72 : decode cX2_init 72 = .ok (.iconst 2, 1) := by decide +kernel
theorem dX2_init_73 : decode cX2_init 73 = .ok (.newarray .int, 2) := by decide +kernel
theorem dX2_init_75 : decode cX2_init 75 = .ok (.putfield 35, 3) := by decide +kernel
theorem dX2_init_78 : decode cX2_init 78 = .ok (.aload_n 0, 1) := by decide +kernel
theorem dX2_init_79 : decode cX2_init 79 = .ok (.iconst 2, 1) := by decide +kernel
theorem dX2_init_80 : decode cX2_init 80 = .ok (.newarray .int, 2) := by decide +kernel
theorem dX2_init_82 : decode cX2_init 82 = .ok (.putfield 38, 3) := by decide +kernel
theorem dX2_init_85 : decode cX2_init 85 = .ok (.aload_n 0, 1) := by decide +kernel
theorem dX2_init_86 : decode cX2_init 86 = .ok (.iconst 0, 1) := by decide +kernel
theorem dX2_init_87 : decode cX2_init 87 = .ok (.putfield 41, 3) := by decide +kernel
theorem dX2_init_90 : decode cX2_init 90 = .ok (.aload_n 0, 1) := by decide +kernel
theorem dX2_init_91 : decode cX2_init 91 = .ok (.iconst 0, 1) := by decide +kernel
theorem dX2_init_92 : decode cX2_init 92 = .ok (.putfield 45, 3) := by decide +kernel
theorem dX2_init_95 : decode cX2_init 95 = .ok (.aload_n 0, 1) := by decide +kernel
theorem dX2_init_96 : decode cX2_init 96 = .ok (.iconst (-1), 1) := by decide +kernel
theorem dX2_init_97 : decode cX2_init 97 = .ok (.putfield 48, 3) := by decide +kernel
theorem dX2_init_100 : decode cX2_init 100 = .ok (.aload_n 0, 1) := by decide +kernel
theorem dX2_init_101 : decode cX2_init 101 = .ok (.iconst (-1), 1) := by decide +kernel
theorem dX2_init_102 : decode cX2_init 102 = .ok (.putfield 51, 3) := by decide +kernel
theorem dX2_init_105 : decode cX2_init 105 = .ok (.return_, 1) := by decide +kernel
theorem dX2_run_0 : decode cX2_run 0 = .ok (.aload_n 0, 1) := by decide +kernel
theorem dX2_run_1 : decode cX2_run 1 = .ok (.aload_n 1, 1) := by decide +kernel
theorem dX2_run_2 : decode cX2_run 2 = .ok (.invokevirtual 54, 3) := by decide +kernel
theorem dX2_run_5 : decode cX2_run 5 = .ok (.iconst 0, 1) := by decide +kernel
theorem dX2_run_6 : decode cX2_run 6 = .ok (.istore_n 3, 1) := by decide +kernel
theorem dX2_run_7 : decode cX2_run 7 = .ok (.iload_n 3, 1) := by decide +kernel
theorem dX2_run_8 : decode cX2_run 8 = .ok (.bipush 24, 2) := by decide +kernel
theorem dX2_run_10 : decode cX2_run 10 = .ok (.if_icmp .ge 109, 3) := by decide +kernel
theorem dX2_run_13 : decode cX2_run 13 = .ok (.iload_n 3, 1) := by decide +kernel
theorem dX2_run_14 : decode cX2_run 14 = .ok (.iload_n 2, 1) := by decide +kernel
theorem dX2_run_15 : decode cX2_run 15 = .ok (.if_icmp .gt 104, 3) := by decide +kernel
theorem dX2_run_18 : decode cX2_run 18 = .ok (.aload_n 0, 1) := by decide +kernel
theorem dX2_run_19 : decode cX2_run 19 = .ok (.getfield 35, 3) := by decide +kernel
theorem dX2_run_22 : decode cX2_run 22 = .ok (.iconst 0, 1) := by decide +kernel
theorem dX2_run_23 : decode cX2_run 23 = .ok (.dup2, 1) := by decide +kernel
theorem dX2_run_24 : decode cX2_run 24 = .ok (.iaload, 1) := by decide +kernel
theorem dX2_run_25 : decode cX2_run 25 = .ok (.aload_n 1, 1) := by decide +kernel
theorem dX2_run_26 : decode cX2_run 26 = .ok (.getfield 58, 3) := by decide +kernel
theorem dX2_run_29 : decode cX2_run 29 = .ok (.iconst 0, 1) := by decide +kernel
theorem dX2_run_30 : decode cX2_run 30 = .ok (.aaload, 1) := by decide +kernel
theorem dX2_run_31 : decode cX2_run 31 = .ok (.iload_n 3, 1) := by decide +kernel
theorem dX2_run_32 : decode cX2_run 32 = .ok (.iaload, 1) := by decide +kernel
theorem dX2_run_33 : decode cX2_run 33 = .ok (.iadd, 1) := by decide +kernel
theorem dX2_run_34 : decode cX2_run 34 = .ok (.iastore, 1) := by decide +kernel
theorem dX2_run_35 : decode cX2_run 35 = .ok (.aload_n 0, 1) := by decide +kernel
theorem dX2_run_36 : decode cX2_run 36 = .ok (.getfield 35, 3) := by decide +kernel
theorem dX2_run_39 : decode cX2_run 39 = .ok (.iconst 1, 1) := by decide +kernel
theorem dX2_run_40 : decode cX2_run 40 = .ok (.dup2, 1) := by decide +kernel
theorem dX2_run_41 : decode cX2_run 41 = .ok (.iaload, 1) := by decide +kernel
theorem dX2_run_42 : decode cX2_run 42 = .ok (.aload_n 1, 1) := by decide +kernel
theorem dX2_run_43 : decode cX2_run 43 = .ok (.getfield 58, 3) := by decide +kernel
theorem dX2_run_46 : decode cX2_run 46 = .ok (.iconst 1, 1) := by decide +kernel
theorem dX2_run_47 : decode cX2_run 47 = .ok (.aaload, 1) := by decide +kernel
theorem dX2_run_48 : decode cX2_run 48 = .ok (.iload_n 3, 1) := by decide +kernel
theorem dX2_run_49 : decode cX2_run 49 = .ok (.iaload, 1) := by decide +kernel
theorem dX2_run_50 : decode cX2_run 50 = .ok (.iadd, 1) := by decide +kernel
theorem dX2_run_51 : decode cX2_run 51 = .ok (.iastore, 1) := by decide +kernel
theorem dX2_run_52 : decode cX2_run 52 = .ok (.aload_n 1, 1) := by decide +kernel
theorem dX2_run_53 : decode cX2_run 53 = .ok (.iload_n 3, 1) := by decide +kernel
theorem dX2_run_54 : decode cX2_run 54 = .ok (.invokevirtual 63, 3) := by decide +kernel
theorem dX2_run_57 : decode cX2_run 57 = .ok (.istore 4, 2) := by decide +kernel
theorem dX2_run_59 : decode cX2_run 59 = .ok (.iconst 0, 1) := by decide +kernel
theorem dX2_run_60 : decode cX2_run 60 = .ok (.istore 5, 2) := by decide +kernel
theorem dX2_run_62 : decode cX2_run 62 = .ok (.iconst 0, 1) := by decide +kernel
theorem dX2_run_63 : decode cX2_run 63 = .ok (.istore 6, 2) := by decide +kernel
theorem dX2_run_65 : decode cX2_run 65 = .ok (.iload 6, 2) := by decide +kernel
theorem dX2_run_67 : decode cX2_run 67 = .ok (.iload 4, 2) := by decide +kernel
theorem dX2_run_69 : decode cX2_run 69 = .ok (.if_icmp .ge 20, 3) := by decide +kernel
theorem dX2_run_72 : decode cX2_run 72 = .ok (.iload 5, 2) := by decide +kernel
theorem dX2_run_74 : decode cX2_run 74 = .ok (.aload_n 0, 1) := by decide +kernel
theorem dX2_run_75 : decode cX2_run 75 = .ok (.aload_n 1, 1) := by decide +kernel
theorem dX2_run_76 : decode cX2_run 76 = .ok (.iload_n 3, 1) := by decide +kernel
theorem dX2_run_77 : decode cX2_run 77 = .ok (.invokevirtual 67, 3) := by decide +kernel
theorem dX2_run_80 : decode cX2_run 80 = .ok (.iadd, 1) := by decide +kernel
theorem dX2_run_81 : decode cX2_run 81 = .ok (.istore 5, 2) := by decide +kernel
theorem dX2_run_83 : decode cX2_run 83 = .ok (.iinc 6 1, 3) := by decide +kernel
theorem dX2_run_86 : decode cX2_run 86 = .ok (.goto (-21), 3) := by decide +kernel
theorem dX2_run_89 : decode cX2_run 89 = .ok (.iload 4, 2) := by decide +kernel
theorem dX2_run_91 : decode cX2_run 91 = .ok (.ifCond .ne 9, 3) := by decide +kernel
theorem dX2_run_94 : decode cX2_run 94 = .ok (.aload_n 0, 1) := by decide +kernel
theorem dX2_run_95 : decode cX2_run 95 = .ok (.aload_n 1, 1) := by decide +kernel
theorem dX2_run_96 : decode cX2_run 96 = .ok (.iload_n 3, 1) := by decide +kernel
theorem dX2_run_97 : decode cX2_run 97 = .ok (.invokevirtual 71, 3) := by decide +kernel
theorem dX2_run_100 : decode cX2_run 100 = .ok (.aload_n 0, 1) := by decide +kernel
theorem dX2_run_101 : decode cX2_run 101 = .ok (.getfield 22, 3) := by decide +kernel
theorem dX2_run_104 : decode cX2_run 104 = .ok (.iload_n 3, 1) := by decide +kernel
theorem dX2_run_105 : decode cX2_run 105 = .ok (.iload 5, 2) := by decide +kernel
theorem dX2_run_107 : decode cX2_run 107 = .ok (.iastore, 1) := by decide +kernel
theorem dX2_run_108 : decode cX2_run 108 = .ok (.aload_n 0, 1) := by decide +kernel
theorem dX2_run_109 : decode cX2_run 109 = .ok (.iload_n 3, 1) := by decide +kernel
theorem dX2_run_110 : decode cX2_run 110 = .ok (.invokevirtual 75, 3) := by decide +kernel
theorem dX2_run_113 : decode cX2_run 113 = .ok (.iinc 3 1, 3) := by decide +kernel
theorem dX2_run_116 : decode cX2_run 116 = .ok (.goto (-109), 3) := by decide +kernel
theorem dX2_run_119 : decode cX2_run 119 = .ok (.return_, 1) := by decide +kernel
theorem dX2_allInside_0 : decode cX2_allInside 0 = .ok (.iconst 0, 1) := by decide +kernel
theorem dX2_allInside_1 : decode cX2_allInside 1 = .ok (.istore_n 2, 1) := by decide +kernel
theorem dX2_allInside_2 : decode cX2_allInside 2 = .ok (.iconst 0, 1) := by decide +kernel
theorem dX2_allInside_3 : decode cX2_allInside 3 = .ok (.istore_n 3, 1) := by decide +kernel
theorem dX2_allInside_4 : decode cX2_allInside 4 = .ok (.iload_n 3, 1) := by decide +kernel
theorem dX2_allInside_5 : decode cX2_allInside 5 = .ok (.aload_n 0, 1) := by decide +kernel
theorem dX2_allInside_6 : decode cX2_allInside 6 = .ok (.getfield 41, 3) := by decide +kernel
theorem dX2_allInside_9 : decode cX2_allInside 9 = .ok (.if_icmp .ge 20, 3) := by decide +kernel
theorem dX2_allInside_12 : decode cX2_allInside 12 = .ok (.iload_n 2, 1) := by decide +kernel
theorem dX2_allInside_13 : decode cX2_allInside 13 = .ok (.aload_n 0, 1) := by decide +kernel
theorem dX2_allInside_14 : decode cX2_allInside 14 = .ok (.getfield 16, 3) := by decide +kernel
theorem dX2_allInside_17 : decode cX2_allInside 17 = .ok (.iload_n 3, 1) := by decide +kernel
theorem dX2_allInside_18 : decode cX2_allInside 18 = .ok (.aaload, 1) := by decide +kernel
theorem dX2_allInside_19 : decode cX2_allInside 19 = .ok (.iload_n 1, 1) := by decide +kernel
theorem dX2_allInside_20 : decode cX2_allInside 20 = .ok (.iaload, 1) := by decide +kernel
theorem dX2_allInside_21 : decode cX2_allInside 21 = .ok (.iadd, 1) := by decide +kernel
theorem dX2_allInside_22 : decode cX2_allInside 22 = .ok (.istore_n 2, 1) := by decide +kernel
theorem dX2_allInside_23 : decode cX2_allInside 23 = .ok (.iinc 3 1, 3) := by decide +kernel
theorem dX2_allInside_26 : decode cX2_allInside 26 = .ok (.goto (-22), 3) := by decide +kernel
theorem dX2_allInside_29 : decode cX2_allInside 29 = .ok (.iload_n 2, 1) := by decide +kernel
theorem dX2_allInside_30 : decode cX2_allInside 30 = .ok (.ireturn, 1) := by decide +kernel
theorem dX2_allOver_0 : decode cX2_allOver 0 = .ok (.aload_n 0, 1) := by decide +kernel
theorem dX2_allOver_1 : decode cX2_allOver 1 = .ok (.getfield 38, 3) := by decide +kernel
theorem dX2_allOver_4 : decode cX2_allOver 4 = .ok (.iconst 0, 1) := by decide +kernel
theorem dX2_allOver_5 : decode cX2_allOver 5 = .ok (.iaload, 1) := by decide +kernel
theorem dX2_allOver_6 : decode cX2_allOver 6 = .ok (.aload_n 0, 1) := by decide +kernel
theorem dX2_allOver_7 : decode cX2_allOver 7 = .ok (.getfield 38, 3) := by decide +kernel
theorem dX2_allOver_10 : decode cX2_allOver 10 = .ok (.iconst 1, 1) := by decide +kernel
theorem dX2_allOver_11 : decode cX2_allOver 11 = .ok (.iaload, 1) := by decide +kernel
theorem dX2_allOver_12 : decode cX2_allOver 12 = .ok (.iadd, 1) := by decide +kernel
theorem dX2_allOver_13 : decode cX2_allOver 13 = .ok (.ireturn, 1) := by decide +kernel
theorem dX2_allPower_0 : decode cX2_allPower 0 = .ok (.iconst 0, 1) := by decide +kernel
theorem dX2_allPower_1 : decode cX2_allPower 1 = .ok (.istore_n 1, 1) := by decide +kernel
theorem dX2_allPower_2 : decode cX2_allPower 2 = .ok (.iconst 0, 1) := by decide +kernel
theorem dX2_allPower_3 : decode cX2_allPower 3 = .ok (.istore_n 2, 1) := by decide +kernel
theorem dX2_allPower_4 : decode cX2_allPower 4 = .ok (.iload_n 2, 1) := by decide +kernel
theorem dX2_allPower_5 : decode cX2_allPower 5 = .ok (.bipush 24, 2) := by decide +kernel
theorem dX2_allPower_7 : decode cX2_allPower 7 = .ok (.if_icmp .ge 18, 3) := by decide +kernel
theorem dX2_allPower_10 : decode cX2_allPower 10 = .ok (.iload_n 1, 1) := by decide +kernel
theorem dX2_allPower_11 : decode cX2_allPower 11 = .ok (.aload_n 0, 1) := by decide +kernel
theorem dX2_allPower_12 : decode cX2_allPower 12 = .ok (.getfield 22, 3) := by decide +kernel
theorem dX2_allPower_15 : decode cX2_allPower 15 = .ok (.iload_n 2, 1) := by decide +kernel
theorem dX2_allPower_16 : decode cX2_allPower 16 = .ok (.iaload, 1) := by decide +kernel
theorem dX2_allPower_17 : decode cX2_allPower 17 = .ok (.iadd, 1) := by decide +kernel
theorem dX2_allPower_18 : decode cX2_allPower 18 = .ok (.istore_n 1, 1) := by decide +kernel
theorem dX2_allPower_19 : decode cX2_allPower 19 = .ok (.iinc 2 1, 3) := by decide +kernel
theorem dX2_allPower_22 : decode cX2_allPower 22 = .ok (.goto (-18), 3) := by decide +kernel
theorem dX2_allPower_25 : decode cX2_allPower 25 = .ok (.iload_n 1, 1) := by decide +kernel
theorem dX2_allPower_26 : decode cX2_allPower 26 = .ok (.ireturn, 1) := by decide +kernel
theorem dX2_crowdKey_0 : decode cX2_crowdKey 0 = .ok (.aload_n 0, 1) := by decide +kernel
theorem dX2_crowdKey_1 : decode cX2_crowdKey 1 = .ok (.getfield 19, 3) := by decide +kernel
theorem dX2_crowdKey_4 : decode cX2_crowdKey 4 = .ok (.iconst 0, 1) := by decide +kernel
theorem dX2_crowdKey_5 : decode cX2_crowdKey 5 = .ok (.aaload, 1) := by decide +kernel
theorem dX2_crowdKey_6 : decode cX2_crowdKey 6 = .ok (.iload_n 1, 1) := by decide +kernel
theorem dX2_crowdKey_7 : decode cX2_crowdKey 7 = .ok (.iaload, 1) := by decide +kernel
theorem dX2_crowdKey_8 : decode cX2_crowdKey 8 = .ok (.bipush 109, 2) := by decide +kernel
theorem dX2_crowdKey_10 : decode cX2_crowdKey 10 = .ok (.imul, 1) := by decide +kernel
theorem dX2_crowdKey_11 : decode cX2_crowdKey 11 = .ok (.aload_n 0, 1) := by decide +kernel
theorem dX2_crowdKey_12 : decode cX2_crowdKey 12 = .ok (.getfield 19, 3) := by decide +kernel
theorem dX2_crowdKey_15 : decode cX2_crowdKey 15 = .ok (.iconst 1, 1) := by decide +kernel
theorem dX2_crowdKey_16 : decode cX2_crowdKey 16 = .ok (.aaload, 1) := by decide +kernel
theorem dX2_crowdKey_17 : decode cX2_crowdKey 17 = .ok (.iload_n 1, 1) := by decide +kernel
theorem dX2_crowdKey_18 : decode cX2_crowdKey 18 = .ok (.iaload, 1) := by decide +kernel
theorem dX2_crowdKey_19 : decode cX2_crowdKey 19 = .ok (.iadd, 1) := by decide +kernel
theorem dX2_crowdKey_20 : decode cX2_crowdKey 20 = .ok (.ireturn, 1) := by decide +kernel
theorem dX2_start_0 : decode cX2_start 0 = .ok (.aload_n 0, 1) := by decide +kernel
theorem dX2_start_1 : decode cX2_start 1 = .ok (.aload_n 1, 1) := by decide +kernel
theorem dX2_start_2 : decode cX2_start 2 = .ok (.getfield 79, 3) := by decide +kernel
theorem dX2_start_5 : decode cX2_start 5 = .ok (.putfield 41, 3) := by decide +kernel
theorem dX2_start_8 : decode cX2_start 8 = .ok (.iconst 0, 1) := by decide +kernel
theorem dX2_start_9 : decode cX2_start 9 = .ok (.istore_n 2, 1) := by decide +kernel
theorem dX2_start_10 : decode cX2_start 10 = .ok (.iload_n 2, 1) := by decide +kernel
theorem dX2_start_11 : decode cX2_start 11 = .ok (.aload_n 0, 1) := by decide +kernel
theorem dX2_start_12 : decode cX2_start 12 = .ok (.getfield 41, 3) := by decide +kernel
theorem dX2_start_15 : decode cX2_start 15 = .ok (.if_icmp .ge 35, 3) := by decide +kernel
theorem dX2_start_18 : decode cX2_start 18 = .ok (.aload_n 0, 1) := by decide +kernel
theorem dX2_start_19 : decode cX2_start 19 = .ok (.getfield 26, 3) := by decide +kernel
theorem dX2_start_22 : decode cX2_start 22 = .ok (.iload_n 2, 1) := by decide +kernel
theorem dX2_start_23 : decode cX2_start 23 = .ok (.aload_n 1, 1) := by decide +kernel
theorem dX2_start_24 : decode cX2_start 24 = .ok (.getfield 80, 3) := by decide +kernel
theorem dX2_start_27 : decode cX2_start 27 = .ok (.iload_n 2, 1) := by decide +kernel
theorem dX2_start_28 : decode cX2_start 28 = .ok (.iaload, 1) := by decide +kernel
theorem dX2_start_29 : decode cX2_start 29 = .ok (.iastore, 1) := by decide +kernel
theorem dX2_start_30 : decode cX2_start 30 = .ok (.aload_n 0, 1) := by decide +kernel
theorem dX2_start_31 : decode cX2_start 31 = .ok (.getfield 29, 3) := by decide +kernel
theorem dX2_start_34 : decode cX2_start 34 = .ok (.iload_n 2, 1) := by decide +kernel
theorem dX2_start_35 : decode cX2_start 35 = .ok (.iconst 0, 1) := by decide +kernel
theorem dX2_start_36 : decode cX2_start 36 = .ok (.iastore, 1) := by decide +kernel
theorem dX2_start_37 : decode cX2_start 37 = .ok (.aload_n 0, 1) := by decide +kernel
theorem dX2_start_38 : decode cX2_start 38 = .ok (.getfield 32, 3) := by decide +kernel
theorem dX2_start_41 : decode cX2_start 41 = .ok (.iload_n 2, 1) := by decide +kernel
theorem dX2_start_42 : decode cX2_start 42 = .ok (.iconst 0, 1) := by decide +kernel
theorem dX2_start_43 : decode cX2_start 43 = .ok (.iastore, 1) := by decide +kernel
theorem dX2_start_44 : decode cX2_start 44 = .ok (.iinc 2 1, 3) := by decide +kernel
theorem dX2_start_47 : decode cX2_start 47 = .ok (.goto (-37), 3) := by decide +kernel
theorem dX2_start_50 : decode cX2_start 50 = .ok (.iconst 0, 1) := by decide +kernel
theorem dX2_start_51 : decode cX2_start 51 = .ok (.istore_n 2, 1) := by decide +kernel
theorem dX2_start_52 : decode cX2_start 52 = .ok (.iload_n 2, 1) := by decide +kernel
theorem dX2_start_53 : decode cX2_start 53 = .ok (.iconst 2, 1) := by decide +kernel
theorem dX2_start_54 : decode cX2_start 54 = .ok (.if_icmp .ge 23, 3) := by decide +kernel
theorem dX2_start_57 : decode cX2_start 57 = .ok (.aload_n 0, 1) := by decide +kernel
theorem dX2_start_58 : decode cX2_start 58 = .ok (.getfield 35, 3) := by decide +kernel
theorem dX2_start_61 : decode cX2_start 61 = .ok (.iload_n 2, 1) := by decide +kernel
theorem dX2_start_62 : decode cX2_start 62 = .ok (.iconst 0, 1) := by decide +kernel
theorem dX2_start_63 : decode cX2_start 63 = .ok (.iastore, 1) := by decide +kernel
theorem dX2_start_64 : decode cX2_start 64 = .ok (.aload_n 0, 1) := by decide +kernel
theorem dX2_start_65 : decode cX2_start 65 = .ok (.getfield 38, 3) := by decide +kernel
theorem dX2_start_68 : decode cX2_start 68 = .ok (.iload_n 2, 1) := by decide +kernel
theorem dX2_start_69 : decode cX2_start 69 = .ok (.iconst 0, 1) := by decide +kernel
theorem dX2_start_70 : decode cX2_start 70 = .ok (.iastore, 1) := by decide +kernel
theorem dX2_start_71 : decode cX2_start 71 = .ok (.iinc 2 1, 3) := by decide +kernel
theorem dX2_start_74 : decode cX2_start 74 = .ok (.goto (-22), 3) := by decide +kernel
theorem dX2_start_77 : decode cX2_start 77 = .ok (.aload_n 0, 1) := by decide +kernel
theorem dX2_start_78 : decode cX2_start 78 = .ok (.iconst 0, 1) := by decide +kernel
theorem dX2_start_79 : decode cX2_start 79 = .ok (.putfield 45, 3) := by decide +kernel
theorem dX2_start_82 : decode cX2_start 82 = .ok (.aload_n 0, 1) := by decide +kernel
theorem dX2_start_83 : decode cX2_start 83 = .ok (.iconst (-1), 1) := by decide +kernel
theorem dX2_start_84 : decode cX2_start 84 = .ok (.putfield 48, 3) := by decide +kernel
theorem dX2_start_87 : decode cX2_start 87 = .ok (.aload_n 0, 1) := by decide +kernel
theorem dX2_start_88 : decode cX2_start 88 = .ok (.iconst (-1), 1) := by decide +kernel
theorem dX2_start_89 : decode cX2_start 89 = .ok (.putfield 51, 3) := by decide +kernel
theorem dX2_start_92 : decode cX2_start 92 = .ok (.return_, 1) := by decide +kernel
theorem dX2_goOn_0 : decode cX2_goOn 0 = .ok (.iconst 0, 1) := by decide +kernel
theorem dX2_goOn_1 : decode cX2_goOn 1 = .ok (.istore_n 3, 1) := by decide +kernel
theorem dX2_goOn_2 : decode cX2_goOn 2 = .ok (.iconst 0, 1) := by decide +kernel
theorem dX2_goOn_3 : decode cX2_goOn 3 = .ok (.istore 4, 2) := by decide +kernel
theorem dX2_goOn_5 : decode cX2_goOn 5 = .ok (.iload 4, 2) := by decide +kernel
theorem dX2_goOn_7 : decode cX2_goOn 7 = .ok (.aload_n 0, 1) := by decide +kernel
theorem dX2_goOn_8 : decode cX2_goOn 8 = .ok (.getfield 41, 3) := by decide +kernel
theorem dX2_goOn_11 : decode cX2_goOn 11 = .ok (.if_icmp .ge 112, 3) := by decide +kernel
theorem dX2_goOn_14 : decode cX2_goOn 14 = .ok (.iload_n 3, 1) := by decide +kernel
theorem dX2_goOn_15 : decode cX2_goOn 15 = .ok (.aload_n 0, 1) := by decide +kernel
theorem dX2_goOn_16 : decode cX2_goOn 16 = .ok (.getfield 26, 3) := by decide +kernel
theorem dX2_goOn_19 : decode cX2_goOn 19 = .ok (.iload 4, 2) := by decide +kernel
theorem dX2_goOn_21 : decode cX2_goOn 21 = .ok (.iaload, 1) := by decide +kernel
theorem dX2_goOn_22 : decode cX2_goOn 22 = .ok (.bipush 12, 2) := by decide +kernel
theorem dX2_goOn_24 : decode cX2_goOn 24 = .ok (.if_icmp .ge 13, 3) := by decide +kernel
theorem dX2_goOn_27 : decode cX2_goOn 27 = .ok (.aload_n 0, 1) := by decide +kernel
theorem dX2_goOn_28 : decode cX2_goOn 28 = .ok (.getfield 29, 3) := by decide +kernel
theorem dX2_goOn_31 : decode cX2_goOn 31 = .ok (.iload 4, 2) := by decide +kernel
theorem dX2_goOn_33 : decode cX2_goOn 33 = .ok (.iaload, 1) := by decide +kernel
theorem dX2_goOn_34 : decode cX2_goOn 34 = .ok (.goto 11, 3) := by decide +kernel
theorem dX2_goOn_37 : decode cX2_goOn 37 = .ok (.aload_n 0, 1) := by decide +kernel
theorem dX2_goOn_38 : decode cX2_goOn 38 = .ok (.getfield 29, 3) := by decide +kernel
theorem dX2_goOn_41 : decode cX2_goOn 41 = .ok (.iload 4, 2) := by decide +kernel
theorem dX2_goOn_43 : decode cX2_goOn 43 = .ok (.iaload, 1) := by decide +kernel
theorem dX2_goOn_44 : decode cX2_goOn 44 = .ok (.ineg, 1) := by decide +kernel
theorem dX2_goOn_45 : decode cX2_goOn 45 = .ok (.iadd, 1) := by decide +kernel
theorem dX2_goOn_46 : decode cX2_goOn 46 = .ok (.istore_n 3, 1) := by decide +kernel
theorem dX2_goOn_47 : decode cX2_goOn 47 = .ok (.aload_n 0, 1) := by decide +kernel
theorem dX2_goOn_48 : decode cX2_goOn 48 = .ok (.getfield 26, 3) := by decide +kernel
theorem dX2_goOn_51 : decode cX2_goOn 51 = .ok (.iload 4, 2) := by decide +kernel
theorem dX2_goOn_53 : decode cX2_goOn 53 = .ok (.aload_n 0, 1) := by decide +kernel
theorem dX2_goOn_54 : decode cX2_goOn 54 = .ok (.getfield 26, 3) := by decide +kernel
theorem dX2_goOn_57 : decode cX2_goOn 57 = .ok (.iload 4, 2) := by decide +kernel
theorem dX2_goOn_59 : decode cX2_goOn 59 = .ok (.iaload, 1) := by decide +kernel
theorem dX2_goOn_60 : decode cX2_goOn 60 = .ok (.iconst 1, 1) := by decide +kernel
theorem dX2_goOn_61 : decode cX2_goOn 61 = .ok (.iadd, 1) := by decide +kernel
theorem dX2_goOn_62 : decode cX2_goOn 62 = .ok (.bipush 24, 2) := by decide +kernel
theorem dX2_goOn_64 : decode cX2_goOn 64 = .ok (.irem, 1) := by decide +kernel
theorem dX2_goOn_65 : decode cX2_goOn 65 = .ok (.iastore, 1) := by decide +kernel
theorem dX2_goOn_66 : decode cX2_goOn 66 = .ok (.aload_n 0, 1) := by decide +kernel
theorem dX2_goOn_67 : decode cX2_goOn 67 = .ok (.getfield 26, 3) := by decide +kernel
theorem dX2_goOn_70 : decode cX2_goOn 70 = .ok (.iload 4, 2) := by decide +kernel
theorem dX2_goOn_72 : decode cX2_goOn 72 = .ok (.iaload, 1) := by decide +kernel
theorem dX2_goOn_73 : decode cX2_goOn 73 = .ok (.invokestatic 81, 3) := by decide +kernel
theorem dX2_goOn_76 : decode cX2_goOn 76 = .ok (.istore 5, 2) := by decide +kernel
theorem dX2_goOn_78 : decode cX2_goOn 78 = .ok (.iload 5, 2) := by decide +kernel
theorem dX2_goOn_80 : decode cX2_goOn 80 = .ok (.iconst (-1), 1) := by decide +kernel
theorem dX2_goOn_81 : decode cX2_goOn 81 = .ok (.if_icmp .eq 36, 3) := by decide +kernel
theorem dX2_goOn_84 : decode cX2_goOn 84 = .ok (.aload_n 1, 1) := by decide +kernel
theorem dX2_goOn_85 : decode cX2_goOn 85 = .ok (.iload 4, 2) := by decide +kernel
theorem dX2_goOn_87 : decode cX2_goOn 87 = .ok (.iload_n 2, 1) := by decide +kernel
theorem dX2_goOn_88 : decode cX2_goOn 88 = .ok (.invokevirtual 84, 3) := by decide +kernel
theorem dX2_goOn_91 : decode cX2_goOn 91 = .ok (.ifCond .ne 26, 3) := by decide +kernel
theorem dX2_goOn_94 : decode cX2_goOn 94 = .ok (.aload_n 0, 1) := by decide +kernel
theorem dX2_goOn_95 : decode cX2_goOn 95 = .ok (.iload 4, 2) := by decide +kernel
theorem dX2_goOn_97 : decode cX2_goOn 97 = .ok (.iload 5, 2) := by decide +kernel
theorem dX2_goOn_99 : decode cX2_goOn 99 = .ok (.iload_n 2, 1) := by decide +kernel
theorem dX2_goOn_100 : decode cX2_goOn 100 = .ok (.invokevirtual 88, 3) := by decide +kernel
theorem dX2_goOn_103 : decode cX2_goOn 103 = .ok (.aload_n 0, 1) := by decide +kernel
theorem dX2_goOn_104 : decode cX2_goOn 104 = .ok (.iload 4, 2) := by decide +kernel
theorem dX2_goOn_106 : decode cX2_goOn 106 = .ok (.iload 5, 2) := by decide +kernel
theorem dX2_goOn_108 : decode cX2_goOn 108 = .ok (.aload_n 1, 1) := by decide +kernel
theorem dX2_goOn_109 : decode cX2_goOn 109 = .ok (.iload 4, 2) := by decide +kernel
theorem dX2_goOn_111 : decode cX2_goOn 111 = .ok (.invokevirtual 92, 3) := by decide +kernel
theorem dX2_goOn_114 : decode cX2_goOn 114 = .ok (.invokevirtual 95, 3) := by decide +kernel
theorem dX2_goOn_117 : decode cX2_goOn 117 = .ok (.iinc 4 1, 3) := by decide +kernel
theorem dX2_goOn_120 : decode cX2_goOn 120 = .ok (.goto (-115), 3) := by decide +kernel
theorem dX2_goOn_123 : decode cX2_goOn 123 = .ok (.iconst 0, 1) := by decide +kernel
theorem dX2_goOn_124 : decode cX2_goOn 124 = .ok (.iload_n 3, 1) := by decide +kernel
theorem dX2_goOn_125 : decode cX2_goOn 125 = .ok (.invokestatic 98, 3) := by decide +kernel
theorem dX2_goOn_128 : decode cX2_goOn 128 = .ok (.ireturn, 1) := by decide +kernel
theorem dX2_stand_0 : decode cX2_stand 0 = .ok (.iconst 0, 1) := by decide +kernel
theorem dX2_stand_1 : decode cX2_stand 1 = .ok (.istore_n 3, 1) := by decide +kernel
theorem dX2_stand_2 : decode cX2_stand 2 = .ok (.iload_n 3, 1) := by decide +kernel
theorem dX2_stand_3 : decode cX2_stand 3 = .ok (.aload_n 0, 1) := by decide +kernel
theorem dX2_stand_4 : decode cX2_stand 4 = .ok (.getfield 41, 3) := by decide +kernel
theorem dX2_stand_7 : decode cX2_stand 7 = .ok (.if_icmp .ge 54, 3) := by decide +kernel
theorem dX2_stand_10 : decode cX2_stand 10 = .ok (.aload_n 0, 1) := by decide +kernel
theorem dX2_stand_11 : decode cX2_stand 11 = .ok (.getfield 26, 3) := by decide +kernel
theorem dX2_stand_14 : decode cX2_stand 14 = .ok (.iload_n 3, 1) := by decide +kernel
theorem dX2_stand_15 : decode cX2_stand 15 = .ok (.iaload, 1) := by decide +kernel
theorem dX2_stand_16 : decode cX2_stand 16 = .ok (.invokestatic 81, 3) := by decide +kernel
theorem dX2_stand_19 : decode cX2_stand 19 = .ok (.istore 4, 2) := by decide +kernel
theorem dX2_stand_21 : decode cX2_stand 21 = .ok (.iload 4, 2) := by decide +kernel
theorem dX2_stand_23 : decode cX2_stand 23 = .ok (.iconst (-1), 1) := by decide +kernel
theorem dX2_stand_24 : decode cX2_stand 24 = .ok (.if_icmp .eq 31, 3) := by decide +kernel
theorem dX2_stand_27 : decode cX2_stand 27 = .ok (.aload_n 1, 1) := by decide +kernel
theorem dX2_stand_28 : decode cX2_stand 28 = .ok (.iload_n 3, 1) := by decide +kernel
theorem dX2_stand_29 : decode cX2_stand 29 = .ok (.iload_n 2, 1) := by decide +kernel
theorem dX2_stand_30 : decode cX2_stand 30 = .ok (.invokevirtual 84, 3) := by decide +kernel
theorem dX2_stand_33 : decode cX2_stand 33 = .ok (.ifCond .ne 22, 3) := by decide +kernel
theorem dX2_stand_36 : decode cX2_stand 36 = .ok (.aload_n 0, 1) := by decide +kernel
theorem dX2_stand_37 : decode cX2_stand 37 = .ok (.iload_n 3, 1) := by decide +kernel
theorem dX2_stand_38 : decode cX2_stand 38 = .ok (.iload 4, 2) := by decide +kernel
theorem dX2_stand_40 : decode cX2_stand 40 = .ok (.aload_n 1, 1) := by decide +kernel
theorem dX2_stand_41 : decode cX2_stand 41 = .ok (.iload_n 3, 1) := by decide +kernel
theorem dX2_stand_42 : decode cX2_stand 42 = .ok (.invokevirtual 92, 3) := by decide +kernel
theorem dX2_stand_45 : decode cX2_stand 45 = .ok (.aload_n 0, 1) := by decide +kernel
theorem dX2_stand_46 : decode cX2_stand 46 = .ok (.getfield 29, 3) := by decide +kernel
theorem dX2_stand_49 : decode cX2_stand 49 = .ok (.iload_n 3, 1) := by decide +kernel
theorem dX2_stand_50 : decode cX2_stand 50 = .ok (.iaload, 1) := by decide +kernel
theorem dX2_stand_51 : decode cX2_stand 51 = .ok (.isub, 1) := by decide +kernel
theorem dX2_stand_52 : decode cX2_stand 52 = .ok (.invokevirtual 95, 3) := by decide +kernel
theorem dX2_stand_55 : decode cX2_stand 55 = .ok (.iinc 3 1, 3) := by decide +kernel
theorem dX2_stand_58 : decode cX2_stand 58 = .ok (.goto (-56), 3) := by decide +kernel
theorem dX2_stand_61 : decode cX2_stand 61 = .ok (.return_, 1) := by decide +kernel
theorem dX2_letOut_0 : decode cX2_letOut 0 = .ok (.aload_n 0, 1) := by decide +kernel
theorem dX2_letOut_1 : decode cX2_letOut 1 = .ok (.getfield 29, 3) := by decide +kernel
theorem dX2_letOut_4 : decode cX2_letOut 4 = .ok (.iload_n 1, 1) := by decide +kernel
theorem dX2_letOut_5 : decode cX2_letOut 5 = .ok (.iaload, 1) := by decide +kernel
theorem dX2_letOut_6 : decode cX2_letOut 6 = .ok (.ifCond .le 21, 3) := by decide +kernel
theorem dX2_letOut_9 : decode cX2_letOut 9 = .ok (.aload_n 0, 1) := by decide +kernel
theorem dX2_letOut_10 : decode cX2_letOut 10 = .ok (.getfield 48, 3) := by decide +kernel
theorem dX2_letOut_13 : decode cX2_letOut 13 = .ok (.iconst (-1), 1) := by decide +kernel
theorem dX2_letOut_14 : decode cX2_letOut 14 = .ok (.if_icmp .ne 13, 3) := by decide +kernel
theorem dX2_letOut_17 : decode cX2_letOut 17 = .ok (.aload_n 0, 1) := by decide +kernel
theorem dX2_letOut_18 : decode cX2_letOut 18 = .ok (.iload_n 3, 1) := by decide +kernel
theorem dX2_letOut_19 : decode cX2_letOut 19 = .ok (.putfield 48, 3) := by decide +kernel
theorem dX2_letOut_22 : decode cX2_letOut 22 = .ok (.aload_n 0, 1) := by decide +kernel
theorem dX2_letOut_23 : decode cX2_letOut 23 = .ok (.iload_n 1, 1) := by decide +kernel
theorem dX2_letOut_24 : decode cX2_letOut 24 = .ok (.putfield 51, 3) := by decide +kernel
theorem dX2_letOut_27 : decode cX2_letOut 27 = .ok (.aload_n 0, 1) := by decide +kernel
theorem dX2_letOut_28 : decode cX2_letOut 28 = .ok (.getfield 38, 3) := by decide +kernel
theorem dX2_letOut_31 : decode cX2_letOut 31 = .ok (.iload_n 2, 1) := by decide +kernel
theorem dX2_letOut_32 : decode cX2_letOut 32 = .ok (.dup2, 1) := by decide +kernel
theorem dX2_letOut_33 : decode cX2_letOut 33 = .ok (.iaload, 1) := by decide +kernel
theorem dX2_letOut_34 : decode cX2_letOut 34 = .ok (.aload_n 0, 1) := by decide +kernel
theorem dX2_letOut_35 : decode cX2_letOut 35 = .ok (.getfield 29, 3) := by decide +kernel
theorem dX2_letOut_38 : decode cX2_letOut 38 = .ok (.iload_n 1, 1) := by decide +kernel
theorem dX2_letOut_39 : decode cX2_letOut 39 = .ok (.iaload, 1) := by decide +kernel
theorem dX2_letOut_40 : decode cX2_letOut 40 = .ok (.iadd, 1) := by decide +kernel
theorem dX2_letOut_41 : decode cX2_letOut 41 = .ok (.iastore, 1) := by decide +kernel
theorem dX2_letOut_42 : decode cX2_letOut 42 = .ok (.aload_n 0, 1) := by decide +kernel
theorem dX2_letOut_43 : decode cX2_letOut 43 = .ok (.getfield 32, 3) := by decide +kernel
theorem dX2_letOut_46 : decode cX2_letOut 46 = .ok (.iload_n 1, 1) := by decide +kernel
theorem dX2_letOut_47 : decode cX2_letOut 47 = .ok (.dup2, 1) := by decide +kernel
theorem dX2_letOut_48 : decode cX2_letOut 48 = .ok (.iaload, 1) := by decide +kernel
theorem dX2_letOut_49 : decode cX2_letOut 49 = .ok (.aload_n 0, 1) := by decide +kernel
theorem dX2_letOut_50 : decode cX2_letOut 50 = .ok (.getfield 29, 3) := by decide +kernel
theorem dX2_letOut_53 : decode cX2_letOut 53 = .ok (.iload_n 1, 1) := by decide +kernel
theorem dX2_letOut_54 : decode cX2_letOut 54 = .ok (.iaload, 1) := by decide +kernel
theorem dX2_letOut_55 : decode cX2_letOut 55 = .ok (.iadd, 1) := by decide +kernel
theorem dX2_letOut_56 : decode cX2_letOut 56 = .ok (.iastore, 1) := by decide +kernel
theorem dX2_letOut_57 : decode cX2_letOut 57 = .ok (.aload_n 0, 1) := by decide +kernel
theorem dX2_letOut_58 : decode cX2_letOut 58 = .ok (.getfield 29, 3) := by decide +kernel
theorem dX2_letOut_61 : decode cX2_letOut 61 = .ok (.iload_n 1, 1) := by decide +kernel
theorem dX2_letOut_62 : decode cX2_letOut 62 = .ok (.iconst 0, 1) := by decide +kernel
theorem dX2_letOut_63 : decode cX2_letOut 63 = .ok (.iastore, 1) := by decide +kernel
theorem dX2_letOut_64 : decode cX2_letOut 64 = .ok (.return_, 1) := by decide +kernel
theorem dX2_letIn_0 : decode cX2_letIn 0 = .ok (.aload_n 0, 1) := by decide +kernel
theorem dX2_letIn_1 : decode cX2_letIn 1 = .ok (.getfield 35, 3) := by decide +kernel
theorem dX2_letIn_4 : decode cX2_letIn 4 = .ok (.iload_n 2, 1) := by decide +kernel
theorem dX2_letIn_5 : decode cX2_letIn 5 = .ok (.iaload, 1) := by decide +kernel
theorem dX2_letIn_6 : decode cX2_letIn 6 = .ok (.iload_n 3, 1) := by decide +kernel
theorem dX2_letIn_7 : decode cX2_letIn 7 = .ok (.invokestatic 104, 3) := by decide +kernel
theorem dX2_letIn_10 : decode cX2_letIn 10 = .ok (.istore 4, 2) := by decide +kernel
theorem dX2_letIn_12 : decode cX2_letIn 12 = .ok (.iload 4, 2) := by decide +kernel
theorem dX2_letIn_14 : decode cX2_letIn 14 = .ok (.ifCond .le 37, 3) := by decide +kernel
theorem dX2_letIn_17 : decode cX2_letIn 17 = .ok (.aload_n 0, 1) := by decide +kernel
theorem dX2_letIn_18 : decode cX2_letIn 18 = .ok (.getfield 35, 3) := by decide +kernel
theorem dX2_letIn_21 : decode cX2_letIn 21 = .ok (.iload_n 2, 1) := by decide +kernel
theorem dX2_letIn_22 : decode cX2_letIn 22 = .ok (.dup2, 1) := by decide +kernel
theorem dX2_letIn_23 : decode cX2_letIn 23 = .ok (.iaload, 1) := by decide +kernel
theorem dX2_letIn_24 : decode cX2_letIn 24 = .ok (.iload 4, 2) := by decide +kernel
theorem dX2_letIn_26 : decode cX2_letIn 26 = .ok (.isub, 1) := by decide +kernel
theorem dX2_letIn_27 : decode cX2_letIn 27 = .ok (.iastore, 1) := by decide +kernel
theorem dX2_letIn_28 : decode cX2_letIn 28 = .ok (.aload_n 0, 1) := by decide +kernel
theorem dX2_letIn_29 : decode cX2_letIn 29 = .ok (.getfield 29, 3) := by decide +kernel
theorem dX2_letIn_32 : decode cX2_letIn 32 = .ok (.iload_n 1, 1) := by decide +kernel
theorem dX2_letIn_33 : decode cX2_letIn 33 = .ok (.dup2, 1) := by decide +kernel
theorem dX2_letIn_34 : decode cX2_letIn 34 = .ok (.iaload, 1) := by decide +kernel
theorem dX2_letIn_35 : decode cX2_letIn 35 = .ok (.iload 4, 2) := by decide +kernel
theorem dX2_letIn_37 : decode cX2_letIn 37 = .ok (.iadd, 1) := by decide +kernel
theorem dX2_letIn_38 : decode cX2_letIn 38 = .ok (.iastore, 1) := by decide +kernel
theorem dX2_letIn_39 : decode cX2_letIn 39 = .ok (.aload_n 0, 1) := by decide +kernel
theorem dX2_letIn_40 : decode cX2_letIn 40 = .ok (.dup, 1) := by decide +kernel
theorem dX2_letIn_41 : decode cX2_letIn 41 = .ok (.getfield 45, 3) := by decide +kernel
theorem dX2_letIn_44 : decode cX2_letIn 44 = .ok (.iconst 1, 1) := by decide +kernel
theorem dX2_letIn_45 : decode cX2_letIn 45 = .ok (.iload_n 1, 1) := by decide +kernel
theorem dX2_letIn_46 : decode cX2_letIn 46 = .ok (.ishl, 1) := by decide +kernel
theorem dX2_letIn_47 : decode cX2_letIn 47 = .ok (.ior, 1) := by decide +kernel
theorem dX2_letIn_48 : decode cX2_letIn 48 = .ok (.putfield 45, 3) := by decide +kernel
theorem dX2_letIn_51 : decode cX2_letIn 51 = .ok (.return_, 1) := by decide +kernel
theorem dX2_note_0 : decode cX2_note 0 = .ok (.iconst 0, 1) := by decide +kernel
theorem dX2_note_1 : decode cX2_note 1 = .ok (.istore_n 2, 1) := by decide +kernel
theorem dX2_note_2 : decode cX2_note 2 = .ok (.iload_n 2, 1) := by decide +kernel
theorem dX2_note_3 : decode cX2_note 3 = .ok (.aload_n 0, 1) := by decide +kernel
theorem dX2_note_4 : decode cX2_note 4 = .ok (.getfield 41, 3) := by decide +kernel
theorem dX2_note_7 : decode cX2_note 7 = .ok (.if_icmp .ge 37, 3) := by decide +kernel
theorem dX2_note_10 : decode cX2_note 10 = .ok (.aload_n 0, 1) := by decide +kernel
theorem dX2_note_11 : decode cX2_note 11 = .ok (.getfield 11, 3) := by decide +kernel
theorem dX2_note_14 : decode cX2_note 14 = .ok (.iload_n 2, 1) := by decide +kernel
theorem dX2_note_15 : decode cX2_note 15 = .ok (.aaload, 1) := by decide +kernel
theorem dX2_note_16 : decode cX2_note 16 = .ok (.iload_n 1, 1) := by decide +kernel
theorem dX2_note_17 : decode cX2_note 17 = .ok (.aload_n 0, 1) := by decide +kernel
theorem dX2_note_18 : decode cX2_note 18 = .ok (.getfield 26, 3) := by decide +kernel
theorem dX2_note_21 : decode cX2_note 21 = .ok (.iload_n 2, 1) := by decide +kernel
theorem dX2_note_22 : decode cX2_note 22 = .ok (.iaload, 1) := by decide +kernel
theorem dX2_note_23 : decode cX2_note 23 = .ok (.iastore, 1) := by decide +kernel
theorem dX2_note_24 : decode cX2_note 24 = .ok (.aload_n 0, 1) := by decide +kernel
theorem dX2_note_25 : decode cX2_note 25 = .ok (.getfield 16, 3) := by decide +kernel
theorem dX2_note_28 : decode cX2_note 28 = .ok (.iload_n 2, 1) := by decide +kernel
theorem dX2_note_29 : decode cX2_note 29 = .ok (.aaload, 1) := by decide +kernel
theorem dX2_note_30 : decode cX2_note 30 = .ok (.iload_n 1, 1) := by decide +kernel
theorem dX2_note_31 : decode cX2_note 31 = .ok (.aload_n 0, 1) := by decide +kernel
theorem dX2_note_32 : decode cX2_note 32 = .ok (.getfield 29, 3) := by decide +kernel
theorem dX2_note_35 : decode cX2_note 35 = .ok (.iload_n 2, 1) := by decide +kernel
theorem dX2_note_36 : decode cX2_note 36 = .ok (.iaload, 1) := by decide +kernel
theorem dX2_note_37 : decode cX2_note 37 = .ok (.iastore, 1) := by decide +kernel
theorem dX2_note_38 : decode cX2_note 38 = .ok (.iinc 2 1, 3) := by decide +kernel
theorem dX2_note_41 : decode cX2_note 41 = .ok (.goto (-39), 3) := by decide +kernel
theorem dX2_note_44 : decode cX2_note 44 = .ok (.aload_n 0, 1) := by decide +kernel
theorem dX2_note_45 : decode cX2_note 45 = .ok (.getfield 19, 3) := by decide +kernel
theorem dX2_note_48 : decode cX2_note 48 = .ok (.iconst 0, 1) := by decide +kernel
theorem dX2_note_49 : decode cX2_note 49 = .ok (.aaload, 1) := by decide +kernel
theorem dX2_note_50 : decode cX2_note 50 = .ok (.iload_n 1, 1) := by decide +kernel
theorem dX2_note_51 : decode cX2_note 51 = .ok (.aload_n 0, 1) := by decide +kernel
theorem dX2_note_52 : decode cX2_note 52 = .ok (.getfield 35, 3) := by decide +kernel
theorem dX2_note_55 : decode cX2_note 55 = .ok (.iconst 0, 1) := by decide +kernel
theorem dX2_note_56 : decode cX2_note 56 = .ok (.iaload, 1) := by decide +kernel
theorem dX2_note_57 : decode cX2_note 57 = .ok (.iastore, 1) := by decide +kernel
theorem dX2_note_58 : decode cX2_note 58 = .ok (.aload_n 0, 1) := by decide +kernel
theorem dX2_note_59 : decode cX2_note 59 = .ok (.getfield 19, 3) := by decide +kernel
theorem dX2_note_62 : decode cX2_note 62 = .ok (.iconst 1, 1) := by decide +kernel
theorem dX2_note_63 : decode cX2_note 63 = .ok (.aaload, 1) := by decide +kernel
theorem dX2_note_64 : decode cX2_note 64 = .ok (.iload_n 1, 1) := by decide +kernel
theorem dX2_note_65 : decode cX2_note 65 = .ok (.aload_n 0, 1) := by decide +kernel
theorem dX2_note_66 : decode cX2_note 66 = .ok (.getfield 35, 3) := by decide +kernel
theorem dX2_note_69 : decode cX2_note 69 = .ok (.iconst 1, 1) := by decide +kernel
theorem dX2_note_70 : decode cX2_note 70 = .ok (.iaload, 1) := by decide +kernel
theorem dX2_note_71 : decode cX2_note 71 = .ok (.iastore, 1) := by decide +kernel
theorem dX2_note_72 : decode cX2_note 72 = .ok (.return_, 1) := by decide +kernel
theorem dX2_stationAt_0 : decode cX2_stationAt 0 = .ok (.iload_n 0, 1) := by decide +kernel
theorem dX2_stationAt_1 : decode cX2_stationAt 1 = .ok (.ifCond .ne 5, 3) := by decide +kernel
theorem dX2_stationAt_4 : decode cX2_stationAt 4 = .ok (.iconst 0, 1) := by decide +kernel
theorem dX2_stationAt_5 : decode cX2_stationAt 5 = .ok (.ireturn, 1) := by decide +kernel
theorem dX2_stationAt_6 : decode cX2_stationAt 6 = .ok (.iload_n 0, 1) := by decide +kernel
theorem dX2_stationAt_7 : decode cX2_stationAt 7 = .ok (.bipush 12, 2) := by decide +kernel
theorem dX2_stationAt_9 : decode cX2_stationAt 9 = .ok (.if_icmp .ne 7, 3) := by decide +kernel
theorem dX2_stationAt_12 : decode cX2_stationAt 12 = .ok (.iconst 1, 1) := by decide +kernel
theorem dX2_stationAt_13 : decode cX2_stationAt 13 = .ok (.goto 4, 3) := by decide +kernel
theorem dX2_stationAt_16 : decode cX2_stationAt 16 = .ok (.iconst (-1), 1) := by decide +kernel
theorem dX2_stationAt_17 : decode cX2_stationAt 17 = .ok (.ireturn, 1) := by decide +kernel
theorem dX3_init_0 : decode cX3_init 0 = .ok (.aload_n 0, 1) := by decide +kernel
theorem dX3_init_1 : decode cX3_init 1 = .ok (.invokespecial 3, 3) := by decide +kernel
theorem dX3_init_4 : decode cX3_init 4 = .ok (.aload_n 0, 1) := by decide +kernel
theorem dX3_init_5 : decode cX3_init 5 = .ok (.bipush 60, 2) := by decide +kernel
theorem dX3_init_7 : decode cX3_init 7 = .ok (.newarray .int, 2) := by decide +kernel
theorem dX3_init_9 : decode cX3_init 9 = .ok (.putfield 9, 3) := by decide +kernel
theorem dX3_init_12 : decode cX3_init 12 = .ok (.aload_n 0, 1) := by decide +kernel
theorem dX3_init_13 : decode cX3_init 13 = .ok (.iconst 1, 1) := by decide +kernel
theorem dX3_init_14 : decode cX3_init 14 = .ok (.putfield 15, 3) := by decide +kernel
theorem dX3_init_17 : decode cX3_init 17 = .ok (.aload_n 0, 1) := by decide +kernel
theorem dX3_init_18 : decode cX3_init 18 = .ok (.iconst 0, 1) := by decide +kernel
theorem dX3_init_19 : decode cX3_init 19 = .ok (.putfield 19, 3) := by decide +kernel
theorem dX3_init_22 : decode cX3_init 22 = .ok (.aload_n 0, 1) := by decide +kernel
theorem dX3_init_23 : decode cX3_init 23 = .ok (.iconst 0, 1) := by decide +kernel
theorem dX3_init_24 : decode cX3_init 24 = .ok (.putfield 23, 3) := by decide +kernel
theorem dX3_init_27 : decode cX3_init 27 = .ok (.return_, 1) := by decide +kernel
theorem dX3_renew_0 : decode cX3_renew 0 = .ok (.aload_n 0, 1) := by decide +kernel
theorem dX3_renew_1 : decode cX3_renew 1 = .ok (.getfield 9, 3) := by decide +kernel
theorem dX3_renew_4 : decode cX3_renew 4 = .ok (.iconst 0, 1) := by decide +kernel
theorem dX3_renew_5 : decode cX3_renew 5 = .ok (.invokestatic 26, 3) := by decide +kernel
theorem dX3_renew_8 : decode cX3_renew 8 = .ok (.aload_n 0, 1) := by decide +kernel
theorem dX3_renew_9 : decode cX3_renew 9 = .ok (.iload_n 1, 1) := by decide +kernel
theorem dX3_renew_10 : decode cX3_renew 10 = .ok (.putfield 19, 3) := by decide +kernel
theorem dX3_renew_13 : decode cX3_renew 13 = .ok (.aload_n 0, 1) := by decide +kernel
theorem dX3_renew_14 : decode cX3_renew 14 = .ok (.iconst 0, 1) := by decide +kernel
theorem dX3_renew_15 : decode cX3_renew 15 = .ok (.iload_n 2, 1) := by decide +kernel
theorem dX3_renew_16 : decode cX3_renew 16 = .ok (.bipush 60, 2) := by decide +kernel
theorem dX3_renew_18 : decode cX3_renew 18 = .ok (.invokestatic 32, 3) := by decide +kernel
theorem dX3_renew_21 : decode cX3_renew 21 = .ok (.invokestatic 38, 3) := by decide +kernel
theorem dX3_renew_24 : decode cX3_renew 24 = .ok (.putfield 23, 3) := by decide +kernel
theorem dX3_renew_27 : decode cX3_renew 27 = .ok (.aload_n 0, 1) := by decide +kernel
theorem dX3_renew_28 : decode cX3_renew 28 = .ok (.iconst 0, 1) := by decide +kernel
theorem dX3_renew_29 : decode cX3_renew 29 = .ok (.putfield 15, 3) := by decide +kernel
theorem dX3_renew_32 : decode cX3_renew 32 = .ok (.return_, 1) := by decide +kernel
theorem dX3_wrongWith_0 : decode cX3_wrongWith 0 = .ok (.aload_n 0, 1) := by decide +kernel
theorem dX3_wrongWith_1 : decode cX3_wrongWith 1 = .ok (.getfield 15, 3) := by decide +kernel
theorem dX3_wrongWith_4 : decode cX3_wrongWith 4 = .ok (.ifCond .eq 5, 3) := by decide +kernel
theorem dX3_wrongWith_7 : decode cX3_wrongWith 7 = .ok (.iconst 1, 1) := by decide +kernel
theorem dX3_wrongWith_8 : decode cX3_wrongWith 8 = .ok (.ireturn, 1) := by decide +kernel
theorem dX3_wrongWith_9 : decode cX3_wrongWith 9 = .ok (.iload_n 1, 1) := by decide +kernel
theorem dX3_wrongWith_10 : decode cX3_wrongWith 10 = .ok (.aload_n 0, 1) := by decide +kernel
theorem dX3_wrongWith_11 : decode cX3_wrongWith 11 = .ok (.getfield 19, 3) := by decide +kernel
theorem dX3_wrongWith_14 : decode cX3_wrongWith 14 = .ok (.if_icmp .eq 5, 3) := by decide +kernel
theorem dX3_wrongWith_17 : decode cX3_wrongWith 17 = .ok (.iconst 3, 1) := by decide +kernel
theorem dX3_wrongWith_18 : decode cX3_wrongWith 18 = .ok (.ireturn, 1) := by decide +kernel
theorem dX3_wrongWith_19 : decode cX3_wrongWith 19 = .ok (.aload_n 0, 1) := by decide +kernel
theorem dX3_wrongWith_20 : decode cX3_wrongWith 20 = .ok (.iload_n 2, 1) := by decide +kernel
theorem dX3_wrongWith_21 : decode cX3_wrongWith 21 = .ok (.iconst 1, 1) := by decide +kernel
theorem dX3_wrongWith_22 : decode cX3_wrongWith 22 = .ok (.invokevirtual 41, 3) := by decide +kernel
theorem dX3_wrongWith_25 : decode cX3_wrongWith 25 = .ok (.ifCond .eq 7, 3) := by decide +kernel
theorem dX3_wrongWith_28 : decode cX3_wrongWith 28 = .ok (.iconst 0, 1) := by decide +kernel
theorem dX3_wrongWith_29 : decode cX3_wrongWith 29 = .ok (.goto 4, 3) := by decide +kernel
theorem dX3_wrongWith_32 : decode cX3_wrongWith 32 = .ok (.iconst 2, 1) := by decide +kernel
theorem dX3_wrongWith_33 : decode cX3_wrongWith 33 = .ok (.ireturn, 1) := by decide +kernel
theorem dX3_hasRun_0 : decode cX3_hasRun 0 = .ok (.iload_n 1, 1) := by decide +kernel
theorem dX3_hasRun_1 : decode cX3_hasRun 1 = .ok (.ifCond .lt 29, 3) := by decide +kernel
theorem dX3_hasRun_4 : decode cX3_hasRun 4 = .ok (.iload_n 2, 1) := by decide +kernel
theorem dX3_hasRun_5 : decode cX3_hasRun 5 = .ok (.ifCond .lt 25, 3) := by decide +kernel
theorem dX3_hasRun_8 : decode cX3_hasRun 8 = .ok (.iload_n 1, 1) := by decide +kernel
theorem dX3_hasRun_9 : decode cX3_hasRun 9 = .ok (.aload_n 0, 1) := by decide +kernel
theorem dX3_hasRun_10 : decode cX3_hasRun 10 = .ok (.getfield 23, 3) := by decide +kernel
theorem dX3_hasRun_13 : decode cX3_hasRun 13 = .ok (.if_icmp .gt 17, 3) := by decide +kernel
theorem dX3_hasRun_16 : decode cX3_hasRun 16 = .ok (.iload_n 2, 1) := by decide +kernel
theorem dX3_hasRun_17 : decode cX3_hasRun 17 = .ok (.aload_n 0, 1) := by decide +kernel
theorem dX3_hasRun_18 : decode cX3_hasRun 18 = .ok (.getfield 23, 3) := by decide +kernel
theorem dX3_hasRun_21 : decode cX3_hasRun 21 = .ok (.iload_n 1, 1) := by decide +kernel
theorem dX3_hasRun_22 : decode cX3_hasRun 22 = .ok (.isub, 1) := by decide +kernel
theorem dX3_hasRun_23 : decode cX3_hasRun 23 = .ok (.if_icmp .gt 7, 3) := by decide +kernel
theorem dX3_hasRun_26 : decode cX3_hasRun 26 = .ok (.iconst 1, 1) := by decide +kernel
theorem dX3_hasRun_27 : decode cX3_hasRun 27 = .ok (.goto 4, 3) := by decide +kernel
theorem dX3_hasRun_30 : decode cX3_hasRun 30 = .ok (.iconst 0, 1) := by decide +kernel
theorem dX3_hasRun_31 : decode cX3_hasRun 31 = .ok (.ireturn, 1) := by decide +kernel
theorem dX3_store_0 : decode cX3_store 0 = .ok (.aload_n 0, 1) := by decide +kernel
theorem dX3_store_1 : decode cX3_store 1 = .ok (.iload_n 1, 1) := by decide +kernel
theorem dX3_store_2 : decode cX3_store 2 = .ok (.iconst 1, 1) := by decide +kernel
theorem dX3_store_3 : decode cX3_store 3 = .ok (.invokevirtual 41, 3) := by decide +kernel
theorem dX3_store_6 : decode cX3_store 6 = .ok (.ifCond .ne 4, 3) := by decide +kernel
theorem dX3_store_9 : decode cX3_store 9 = .ok (.return_, 1) := by decide +kernel
theorem dX3_store_10 : decode cX3_store 10 = .ok (.aload_n 0, 1) := by decide +kernel
theorem dX3_store_11 : decode cX3_store 11 = .ok (.getfield 19, 3) := by decide +kernel
theorem dX3_store_14 : decode cX3_store 14 = .ok (.lookupswitch 48 #[(0, 26), (1, 37)], 26) := by decide +kernel
theorem dX3_store_40 : decode cX3_store 40 = .ok (.aload_n 0, 1) := by decide +kernel
theorem dX3_store_41 : decode cX3_store 41 = .ok (.getfield 9, 3) := by decide +kernel
theorem dX3_store_44 : decode cX3_store 44 = .ok (.iload_n 1, 1) := by decide +kernel
theorem dX3_store_45 : decode cX3_store 45 = .ok (.iload_n 2, 1) := by decide +kernel
theorem dX3_store_46 : decode cX3_store 46 = .ok (.i2b, 1) := by decide +kernel
theorem dX3_store_47 : decode cX3_store 47 = .ok (.iastore, 1) := by decide +kernel
theorem dX3_store_48 : decode cX3_store 48 = .ok (.goto 21, 3) := by decide +kernel
theorem dX3_store_51 : decode cX3_store 51 = .ok (.aload_n 0, 1) := by decide +kernel
theorem dX3_store_52 : decode cX3_store 52 = .ok (.getfield 9, 3) := by decide +kernel
theorem dX3_store_55 : decode cX3_store 55 = .ok (.iload_n 1, 1) := by decide +kernel
theorem dX3_store_56 : decode cX3_store 56 = .ok (.iload_n 2, 1) := by decide +kernel
theorem dX3_store_57 : decode cX3_store 57 = .ok (.i2s, 1) := by decide +kernel
theorem dX3_store_58 : decode cX3_store 58 = .ok (.iastore, 1) := by decide +kernel
theorem dX3_store_59 : decode cX3_store 59 = .ok (.goto 10, 3) := by decide +kernel
theorem dX3_store_62 : decode cX3_store 62 = .ok (.aload_n 0, 1) := by decide +kernel
theorem dX3_store_63 : decode cX3_store 63 = .ok (.getfield 9, 3) := by decide +kernel
theorem dX3_store_66 : decode cX3_store 66 = .ok (.iload_n 1, 1) := by decide +kernel
theorem dX3_store_67 : decode cX3_store 67 = .ok (.iload_n 2, 1) := by decide +kernel
theorem dX3_store_68 : decode cX3_store 68 = .ok (.iastore, 1) := by decide +kernel
theorem dX3_store_69 : decode cX3_store 69 = .ok (.return_, 1) := by decide +kernel
theorem dX4_init_0 : decode cX4_init 0 = .ok (.aload_n 0, 1) := by decide +kernel
theorem dX4_init_1 : decode cX4_init 1 = .ok (.invokespecial 3, 3) := by decide +kernel
theorem dX4_init_4 : decode cX4_init 4 = .ok (.aload_n 0, 1) := by decide +kernel
theorem dX4_init_5 : decode cX4_init 5 = .ok (.bipush 8, 2) := by decide +kernel
theorem dX4_init_7 : decode cX4_init 7 = .ok (.newarray .int, 2) := by decide +kernel
theorem dX4_init_9 : decode cX4_init 9 = .ok (.putfield 9, 3) := by decide +kernel
theorem dX4_init_12 : decode cX4_init 12 = .ok (.aload_n 0, 1) := by decide +kernel
theorem dX4_init_13 : decode cX4_init 13 = .ok (.bipush 8, 2) := by decide +kernel
theorem dX4_init_15 : decode cX4_init 15 = .ok (.newarray .int, 2) := by decide +kernel
theorem dX4_init_17 : decode cX4_init 17 = .ok (.putfield 15, 3) := by decide +kernel
theorem dX4_init_20 : decode cX4_init 20 = .ok (.aload_n 0, 1) := by decide +kernel
theorem dX4_init_21 : decode cX4_init 21 = .ok (.bipush 8, 2) := by decide +kernel
theorem dX4_init_23 : decode cX4_init 23 = .ok (.newarray .int, 2) := by decide +kernel
theorem dX4_init_25 : decode cX4_init 25 = .ok (.putfield 18, 3) := by decide +kernel
theorem dX4_init_28 : decode cX4_init 28 = .ok (.aload_n 0, 1) := by decide +kernel
theorem dX4_init_29 : decode cX4_init 29 = .ok (.iconst 0, 1) := by decide +kernel
theorem dX4_init_30 : decode cX4_init 30 = .ok (.putfield 21, 3) := by decide +kernel
theorem dX4_init_33 : decode cX4_init 33 = .ok (.return_, 1) := by decide +kernel
theorem dX4_hasSpace_0 : decode cX4_hasSpace 0 = .ok (.aload_n 0, 1) := by decide +kernel
theorem dX4_hasSpace_1 : decode cX4_hasSpace 1 = .ok (.getfield 21, 3) := by decide +kernel
theorem dX4_hasSpace_4 : decode cX4_hasSpace 4 = .ok (.bipush 8, 2) := by decide +kernel
theorem dX4_hasSpace_6 : decode cX4_hasSpace 6 = .ok (.if_icmp .ge 7, 3) := by decide +kernel
theorem dX4_hasSpace_9 : decode cX4_hasSpace 9 = .ok (.iconst 1, 1) := by decide +kernel
theorem dX4_hasSpace_10 : decode cX4_hasSpace 10 = .ok (.goto 4, 3) := by decide +kernel
theorem dX4_hasSpace_13 : decode cX4_hasSpace 13 = .ok (.iconst 0, 1) := by decide +kernel
theorem dX4_hasSpace_14 : decode cX4_hasSpace 14 = .ok (.ireturn, 1) := by decide +kernel
theorem dX4_append_0 : decode cX4_append 0 = .ok (.aload_n 0, 1) := by decide +kernel
theorem dX4_append_1 : decode cX4_append 1 = .ok (.invokevirtual 25, 3) := by decide +kernel
theorem dX4_append_4 : decode cX4_append 4 = .ok (.ifCond .eq 43, 3) := by decide +kernel
theorem dX4_append_7 : decode cX4_append 7 = .ok (.aload_n 0, 1) := by decide +kernel
theorem dX4_append_8 : decode cX4_append 8 = .ok (.getfield 9, 3) := by decide +kernel
theorem dX4_append_11 : decode cX4_append 11 = .ok (.aload_n 0, 1) := by decide +kernel
theorem dX4_append_12 : decode cX4_append 12 = .ok (.getfield 21, 3) := by decide +kernel
theorem dX4_append_15 : decode cX4_append 15 = .ok (.iload_n 1, 1) := by decide +kernel
theorem dX4_append_16 : decode cX4_append 16 = .ok (.iastore, 1) := by decide +kernel
theorem dX4_append_17 : decode cX4_append 17 = .ok (.aload_n 0, 1) := by decide +kernel
theorem dX4_append_18 : decode cX4_append 18 = .ok (.getfield 15, 3) := by decide +kernel
theorem dX4_append_21 : decode cX4_append 21 = .ok (.aload_n 0, 1) := by decide +kernel
theorem dX4_append_22 : decode cX4_append 22 = .ok (.getfield 21, 3) := by decide +kernel
theorem dX4_append_25 : decode cX4_append 25 = .ok (.iload_n 2, 1) := by decide +kernel
theorem dX4_append_26 : decode cX4_append 26 = .ok (.iastore, 1) := by decide +kernel
theorem dX4_append_27 : decode cX4_append 27 = .ok (.aload_n 0, 1) := by decide +kernel
theorem dX4_append_28 : decode cX4_append 28 = .ok (.getfield 18, 3) := by decide +kernel
theorem dX4_append_31 : decode cX4_append 31 = .ok (.aload_n 0, 1) := by decide +kernel
theorem dX4_append_32 : decode cX4_append 32 = .ok (.getfield 21, 3) := by decide +kernel
theorem dX4_append_35 : decode cX4_append 35 = .ok (.iload_n 3, 1) := by decide +kernel
theorem dX4_append_36 : decode cX4_append 36 = .ok (.iastore, 1) := by decide +kernel
theorem dX4_append_37 : decode cX4_append 37 = .ok (.aload_n 0, 1) := by decide +kernel
theorem dX4_append_38 : decode cX4_append 38 = .ok (.dup, 1) := by decide +kernel
theorem dX4_append_39 : decode cX4_append 39 = .ok (.getfield 21, 3) := by decide +kernel
theorem dX4_append_42 : decode cX4_append 42 = .ok (.iconst 1, 1) := by decide +kernel
theorem dX4_append_43 : decode cX4_append 43 = .ok (.iadd, 1) := by decide +kernel
theorem dX4_append_44 : decode cX4_append 44 = .ok (.putfield 21, 3) := by decide +kernel
theorem dX4_append_47 : decode cX4_append 47 = .ok (.return_, 1) := by decide +kernel
theorem dX4_agreeWith_0 : decode cX4_agreeWith 0 = .ok (.iconst 0, 1) := by decide +kernel
theorem dX4_agreeWith_1 : decode cX4_agreeWith 1 = .ok (.istore_n 2, 1) := by decide +kernel
theorem dX4_agreeWith_2 : decode cX4_agreeWith 2 = .ok (.iload_n 2, 1) := by decide +kernel
theorem dX4_agreeWith_3 : decode cX4_agreeWith 3 = .ok (.aload_n 0, 1) := by decide +kernel
theorem dX4_agreeWith_4 : decode cX4_agreeWith 4 = .ok (.getfield 21, 3) := by decide +kernel
theorem dX4_agreeWith_7 : decode cX4_agreeWith 7 = .ok (.if_icmp .ge 38, 3) := by decide +kernel
theorem dX4_agreeWith_10 : decode cX4_agreeWith 10 = .ok (.aload_n 1, 1) := by decide +kernel
theorem dX4_agreeWith_11 : decode cX4_agreeWith 11 = .ok (.getfield 29, 3) := by decide +kernel
theorem dX4_agreeWith_14 : decode cX4_agreeWith 14 = .ok (.aload_n 0, 1) := by decide +kernel
theorem dX4_agreeWith_15 : decode cX4_agreeWith 15 = .ok (.getfield 15, 3) := by decide +kernel
theorem dX4_agreeWith_18 : decode cX4_agreeWith 18 = .ok (.iload_n 2, 1) := by decide +kernel
theorem dX4_agreeWith_19 : decode cX4_agreeWith 19 = .ok (.iaload, 1) := by decide +kernel
theorem dX4_agreeWith_20 : decode cX4_agreeWith 20 = .ok (.aaload, 1) := by decide +kernel
theorem dX4_agreeWith_21 : decode cX4_agreeWith 21 = .ok (.aload_n 0, 1) := by decide +kernel
theorem dX4_agreeWith_22 : decode cX4_agreeWith 22 = .ok (.getfield 9, 3) := by decide +kernel
theorem dX4_agreeWith_25 : decode cX4_agreeWith 25 = .ok (.iload_n 2, 1) := by decide +kernel
theorem dX4_agreeWith_26 : decode cX4_agreeWith 26 = .ok (.iaload, 1) := by decide +kernel
theorem dX4_agreeWith_27 : decode cX4_agreeWith 27 = .ok (.iaload, 1) := by decide +kernel
theorem dX4_agreeWith_28 : decode cX4_agreeWith 28 = .ok (.aload_n 0, 1) := by decide +kernel
theorem dX4_agreeWith_29 : decode cX4_agreeWith 29 = .ok (.getfield 18, 3) := by decide +kernel
theorem dX4_agreeWith_32 : decode cX4_agreeWith 32 = .ok (.iload_n 2, 1) := by decide +kernel
theorem dX4_agreeWith_33 : decode cX4_agreeWith 33 = .ok (.iaload, 1) := by decide +kernel
theorem dX4_agreeWith_34 : decode cX4_agreeWith 34 = .ok (.if_icmp .eq 5, 3) := by decide +kernel
theorem dX4_agreeWith_37 : decode cX4_agreeWith 37 = .ok (.iconst 0, 1) := by decide +kernel
theorem dX4_agreeWith_38 : decode cX4_agreeWith 38 = .ok (.ireturn, 1) := by decide +kernel
theorem dX4_agreeWith_39 : decode cX4_agreeWith 39 = .ok (.iinc 2 1, 3) := by decide +kernel
theorem dX4_agreeWith_42 : decode cX4_agreeWith 42 = .ok (.goto (-40), 3) := by decide +kernel
theorem dX4_agreeWith_45 : decode cX4_agreeWith 45 = .ok (.iconst 1, 1) := by decide +kernel
theorem dX4_agreeWith_46 : decode cX4_agreeWith 46 = .ok (.ireturn, 1) := by decide +kernel
theorem dX5_init_0 : decode cX5_init 0 = .ok (.aload_n 0, 1) := by decide +kernel
theorem dX5_init_1 : decode cX5_init 1 = .ok (.invokespecial 3, 3) := by decide +kernel
theorem dX5_init_4 : decode cX5_init 4 = .ok (.aload_n 0, 1) := by decide +kernel
theorem dX5_init_5 : decode cX5_init 5 = .ok (.bipush 47, 2) := by decide +kernel
theorem dX5_init_7 : decode cX5_init 7 = .ok (.newarray .int, 2) := by decide +kernel
theorem dX5_init_9 : decode cX5_init 9 = .ok (.putfield 9, 3) := by decide +kernel
theorem dX5_init_12 : decode cX5_init 12 = .ok (.aload_n 0, 1) := by decide +kernel
theorem dX5_init_13 : decode cX5_init 13 = .ok (.iconst 0, 1) := by decide +kernel
theorem dX5_init_14 : decode cX5_init 14 = .ok (.putfield 15, 3) := by decide +kernel
theorem dX5_init_17 : decode cX5_init 17 = .ok (.aload_n 0, 1) := by decide +kernel
theorem dX5_init_18 : decode cX5_init 18 = .ok (.iload_n 1, 1) := by decide +kernel
theorem dX5_init_19 : decode cX5_init 19 = .ok (.bipush 47, 2) := by decide +kernel
theorem dX5_init_21 : decode cX5_init 21 = .ok (.invokestatic 19, 3) := by decide +kernel
theorem dX5_init_24 : decode cX5_init 24 = .ok (.putfield 25, 3) := by decide +kernel
theorem dX5_init_27 : decode cX5_init 27 = .ok (.return_, 1) := by decide +kernel
theorem dX5_hasSpace_0 : decode cX5_hasSpace 0 = .ok (.aload_n 0, 1) := by decide +kernel
theorem dX5_hasSpace_1 : decode cX5_hasSpace 1 = .ok (.getfield 15, 3) := by decide +kernel
theorem dX5_hasSpace_4 : decode cX5_hasSpace 4 = .ok (.aload_n 0, 1) := by decide +kernel
theorem dX5_hasSpace_5 : decode cX5_hasSpace 5 = .ok (.getfield 25, 3) := by decide +kernel
theorem dX5_hasSpace_8 : decode cX5_hasSpace 8 = .ok (.if_icmp .ge 7, 3) := by decide +kernel
theorem dX5_hasSpace_11 : decode cX5_hasSpace 11 = .ok (.iconst 1, 1) := by decide +kernel
theorem dX5_hasSpace_12 : decode cX5_hasSpace 12 = .ok (.goto 4, 3) := by decide +kernel
theorem dX5_hasSpace_15 : decode cX5_hasSpace 15 = .ok (.iconst 0, 1) := by decide +kernel
theorem dX5_hasSpace_16 : decode cX5_hasSpace 16 = .ok (.ireturn, 1) := by decide +kernel
theorem dX5_append_0 : decode cX5_append 0 = .ok (.aload_n 0, 1) := by decide +kernel
theorem dX5_append_1 : decode cX5_append 1 = .ok (.invokevirtual 28, 3) := by decide +kernel
theorem dX5_append_4 : decode cX5_append 4 = .ok (.ifCond .eq 23, 3) := by decide +kernel
theorem dX5_append_7 : decode cX5_append 7 = .ok (.aload_n 0, 1) := by decide +kernel
theorem dX5_append_8 : decode cX5_append 8 = .ok (.getfield 9, 3) := by decide +kernel
theorem dX5_append_11 : decode cX5_append 11 = .ok (.aload_n 0, 1) := by decide +kernel
theorem dX5_append_12 : decode cX5_append 12 = .ok (.getfield 15, 3) := by decide +kernel
theorem dX5_append_15 : decode cX5_append 15 = .ok (.iload_n 1, 1) := by decide +kernel
theorem dX5_append_16 : decode cX5_append 16 = .ok (.iastore, 1) := by decide +kernel
theorem dX5_append_17 : decode cX5_append 17 = .ok (.aload_n 0, 1) := by decide +kernel
theorem dX5_append_18 : decode cX5_append 18 = .ok (.dup, 1) := by decide +kernel
theorem dX5_append_19 : decode cX5_append 19 = .ok (.getfield 15, 3) := by decide +kernel
theorem dX5_append_22 : decode cX5_append 22 = .ok (.iconst 1, 1) := by decide +kernel
theorem dX5_append_23 : decode cX5_append 23 = .ok (.iadd, 1) := by decide +kernel
theorem dX5_append_24 : decode cX5_append 24 = .ok (.putfield 15, 3) := by decide +kernel
theorem dX5_append_27 : decode cX5_append 27 = .ok (.return_, 1) := by decide +kernel
theorem dX6_init_0 : decode cX6_init 0 = .ok (.aload_n 0, 1) := by decide +kernel
theorem dX6_init_1 : decode cX6_init 1 = .ok (.invokespecial 3, 3) := by decide +kernel
theorem dX6_init_4 : decode cX6_init 4 = .ok (.aload_n 0, 1) := by decide +kernel
theorem dX6_init_5 : decode cX6_init 5 = .ok (.bipush 12, 2) := by decide +kernel
theorem dX6_init_7 : decode cX6_init 7 = .ok (.newarray .int, 2) := by decide +kernel
theorem dX6_init_9 : decode cX6_init 9 = .ok (.putfield 9, 3) := by decide +kernel
theorem dX6_init_12 : decode cX6_init 12 = .ok (.aload_n 0, 1) := by decide +kernel
theorem dX6_init_13 : decode cX6_init 13 = .ok (.bipush 12, 2) := by decide +kernel
theorem dX6_init_15 : decode cX6_init 15 = .ok (.newarray .int, 2) := by decide +kernel
theorem dX6_init_17 : decode cX6_init 17 = .ok (.putfield 15, 3) := by decide +kernel
theorem dX6_init_20 : decode cX6_init 20 = .ok (.aload_n 0, 1) := by decide +kernel
theorem dX6_init_21 : decode cX6_init 21 = .ok (.bipush 12, 2) := by decide +kernel
theorem dX6_init_23 : decode cX6_init 23 = .ok (.newarray .int, 2) := by decide +kernel
theorem dX6_init_25 : decode cX6_init 25 = .ok (.putfield 18, 3) := by decide +kernel
theorem dX6_init_28 : decode cX6_init 28 = .ok (.aload_n 0, 1) := by decide +kernel
theorem dX6_init_29 : decode cX6_init 29 = .ok (.iconst 0, 1) := by decide +kernel
theorem dX6_init_30 : decode cX6_init 30 = .ok (.putfield 21, 3) := by decide +kernel
theorem dX6_init_33 : decode cX6_init 33 = .ok (.aload_n 0, 1) := by decide +kernel
theorem dX6_init_34 : decode cX6_init 34 = .ok (.iconst (-1), 1) := by decide +kernel
theorem dX6_init_35 : decode cX6_init 35 = .ok (.putfield 25, 3) := by decide +kernel
theorem dX6_init_38 : decode cX6_init 38 = .ok (.aload_n 0, 1) := by decide +kernel
theorem dX6_init_39 : decode cX6_init 39 = .ok (.aload_n 1, 1) := by decide +kernel
theorem dX6_init_40 : decode cX6_init 40 = .ok (.putfield 28, 3) := by decide +kernel
theorem dX6_init_43 : decode cX6_init 43 = .ok (.aload_n 0, 1) := by decide +kernel
theorem dX6_init_44 : decode cX6_init 44 = .ok (.iload_n 2, 1) := by decide +kernel
theorem dX6_init_45 : decode cX6_init 45 = .ok (.bipush 12, 2) := by decide +kernel
theorem dX6_init_47 : decode cX6_init 47 = .ok (.invokestatic 32, 3) := by decide +kernel
theorem dX6_init_50 : decode cX6_init 50 = .ok (.putfield 38, 3) := by decide +kernel
theorem dX6_init_53 : decode cX6_init 53 = .ok (.aload_n 0, 1) := by decide +kernel
theorem dX6_init_54 : decode cX6_init 54 = .ok (.iload_n 3, 1) := by decide +kernel
theorem dX6_init_55 : decode cX6_init 55 = .ok (.putfield 41, 3) := by decide +kernel
theorem dX6_init_58 : decode cX6_init 58 = .ok (.return_, 1) := by decide +kernel
theorem dX6_part_0 : decode cX6_part 0 = .ok (.iload_n 2, 1) := by decide +kernel
theorem dX6_part_1 : decode cX6_part 1 = .ok (.lookupswitch 41 #[(0, 27), (1, 34)], 27) := by decide +kernel
theorem dX6_part_28 : decode cX6_part 28 = .ok (.aload_n 0, 1) := by decide +kernel
theorem dX6_part_29 : decode cX6_part 29 = .ok (.getfield 9, 3) := by decide +kernel
theorem dX6_part_32 : decode cX6_part 32 = .ok (.iload_n 1, 1) := by decide +kernel
theorem dX6_part_33 : decode cX6_part 33 = .ok (.iaload, 1) := by decide +kernel
theorem dX6_part_34 : decode cX6_part 34 = .ok (.ireturn, 1) := by decide +kernel
theorem dX6_part_35 : decode cX6_part 35 = .ok (.aload_n 0, 1) := by decide +kernel
theorem dX6_part_36 : decode cX6_part 36 = .ok (.getfield 15, 3) := by decide +kernel
theorem dX6_part_39 : decode cX6_part 39 = .ok (.iload_n 1, 1) := by decide +kernel
theorem dX6_part_40 : decode cX6_part 40 = .ok (.iaload, 1) := by decide +kernel
theorem dX6_part_41 : decode cX6_part 41 = .ok (.ireturn, 1) := by decide +kernel
theorem dX6_part_42 : decode cX6_part 42 = .ok (.aload_n 0, 1) := by decide +kernel
theorem dX6_part_43 : decode cX6_part 43 = .ok (.getfield 18, 3) := by decide +kernel
theorem dX6_part_46 : decode cX6_part 46 = .ok (.iload_n 1, 1) := by decide +kernel
theorem dX6_part_47 : decode cX6_part 47 = .ok (.iaload, 1) := by decide +kernel
theorem dX6_part_48 : decode cX6_part 48 = .ok (.ireturn, 1) := by decide +kernel
theorem dX6_parse_0 : decode cX6_parse 0 = .ok (.aload_n 0, 1) := by decide +kernel
theorem dX6_parse_1 : decode cX6_parse 1 = .ok (.aload_n 0, 1) := by decide +kernel
theorem dX6_parse_2 : decode cX6_parse 2 = .ok (.aload_n 1, 1) := by decide +kernel
theorem dX6_parse_3 : decode cX6_parse 3 = .ok (.invokevirtual 45, 3) := by decide +kernel
theorem dX6_parse_6 : decode cX6_parse 6 = .ok (.putfield 25, 3) := by decide +kernel
theorem dX6_parse_9 : decode cX6_parse 9 = .ok (.aload_n 0, 1) := by decide +kernel
theorem dX6_parse_10 : decode cX6_parse 10 = .ok (.iconst 0, 1) := by decide +kernel
theorem dX6_parse_11 : decode cX6_parse 11 = .ok (.putfield 21, 3) := by decide +kernel
theorem dX6_parse_14 : decode cX6_parse 14 = .ok (.aload_n 0, 1) := by decide +kernel
theorem dX6_parse_15 : decode cX6_parse 15 = .ok (.getfield 25, 3) := by decide +kernel
theorem dX6_parse_18 : decode cX6_parse 18 = .ok (.iconst (-1), 1) := by decide +kernel
theorem dX6_parse_19 : decode cX6_parse 19 = .ok (.if_icmp .eq 4, 3) := by decide +kernel
theorem dX6_parse_22 : decode cX6_parse 22 = .ok (.return_, 1) := by decide +kernel
theorem dX6_parse_23 : decode cX6_parse 23 = .ok (.iconst 0, 1) := by decide +kernel
theorem dX6_parse_24 : decode cX6_parse 24 = .ok (.istore_n 2, 1) := by decide +kernel
theorem dX6_parse_25 : decode cX6_parse 25 = .ok (.iload_n 2, 1) := by decide +kernel
theorem dX6_parse_26 : decode cX6_parse 26 = .ok (.iconst 2, 1) := by decide +kernel
theorem dX6_parse_27 : decode cX6_parse 27 = .ok (.iadd, 1) := by decide +kernel
theorem dX6_parse_28 : decode cX6_parse 28 = .ok (.aload_n 1, 1) := by decide +kernel
theorem dX6_parse_29 : decode cX6_parse 29 = .ok (.getfield 49, 3) := by decide +kernel
theorem dX6_parse_32 : decode cX6_parse 32 = .ok (.if_icmp .ge 93, 3) := by decide +kernel
theorem dX6_parse_35 : decode cX6_parse 35 = .ok (.aload_n 0, 1) := by decide +kernel
theorem dX6_parse_36 : decode cX6_parse 36 = .ok (.getfield 21, 3) := by decide +kernel
theorem dX6_parse_39 : decode cX6_parse 39 = .ok (.aload_n 0, 1) := by decide +kernel
theorem dX6_parse_40 : decode cX6_parse 40 = .ok (.getfield 38, 3) := by decide +kernel
theorem dX6_parse_43 : decode cX6_parse 43 = .ok (.if_icmp .ge 82, 3) := by decide +kernel
theorem dX6_parse_46 : decode cX6_parse 46 = .ok (.aload_n 0, 1) := by decide +kernel
theorem dX6_parse_47 : decode cX6_parse 47 = .ok (.getfield 9, 3) := by decide +kernel
theorem dX6_parse_50 : decode cX6_parse 50 = .ok (.aload_n 0, 1) := by decide +kernel
theorem dX6_parse_51 : decode cX6_parse 51 = .ok (.getfield 21, 3) := by decide +kernel
theorem dX6_parse_54 : decode cX6_parse 54 = .ok (.aload_n 1, 1) := by decide +kernel
theorem dX6_parse_55 : decode cX6_parse 55 = .ok (.getfield 54, 3) := by decide +kernel
theorem dX6_parse_58 : decode cX6_parse 58 = .ok (.iload_n 2, 1) := by decide +kernel
theorem dX6_parse_59 : decode cX6_parse 59 = .ok (.iaload, 1) := by decide +kernel
theorem dX6_parse_60 : decode cX6_parse 60 = .ok (.bipush 97, 2) := by decide +kernel
theorem dX6_parse_62 : decode cX6_parse 62 = .ok (.isub, 1) := by decide +kernel
theorem dX6_parse_63 : decode cX6_parse 63 = .ok (.iastore, 1) := by decide +kernel
theorem dX6_parse_64 : decode cX6_parse 64 = .ok (.aload_n 0, 1) := by decide +kernel
theorem dX6_parse_65 : decode cX6_parse 65 = .ok (.getfield 15, 3) := by decide +kernel
theorem dX6_parse_68 : decode cX6_parse 68 = .ok (.aload_n 0, 1) := by decide +kernel
theorem dX6_parse_69 : decode cX6_parse 69 = .ok (.getfield 21, 3) := by decide +kernel
theorem dX6_parse_72 : decode cX6_parse 72 = .ok (.aload_n 0, 1) := by decide +kernel
theorem dX6_parse_73 : decode cX6_parse 73 = .ok (.getfield 28, 3) := by decide +kernel
theorem dX6_parse_76 : decode cX6_parse 76 = .ok (.aload_n 1, 1) := by decide +kernel
theorem dX6_parse_77 : decode cX6_parse 77 = .ok (.getfield 54, 3) := by decide +kernel
theorem dX6_parse_80 : decode cX6_parse 80 = .ok (.iload_n 2, 1) := by decide +kernel
theorem dX6_parse_81 : decode cX6_parse 81 = .ok (.iconst 1, 1) := by decide +kernel
theorem dX6_parse_82 : decode cX6_parse 82 = .ok (.iadd, 1) := by decide +kernel
theorem dX6_parse_83 : decode cX6_parse 83 = .ok (.iaload, 1) := by decide +kernel
theorem dX6_parse_84 : decode cX6_parse 84 = .ok (.i2c, 1) := by decide +kernel
theorem dX6_parse_85 : decode cX6_parse 85 = .ok (.invokevirtual 57, 3) := by decide +kernel
theorem dX6_parse_88 : decode cX6_parse 88 = .ok (.iastore, 1) := by decide +kernel
theorem dX6_parse_89 : decode cX6_parse 89 = .ok (.aload_n 0, 1) := by decide +kernel
theorem dX6_parse_90 : decode cX6_parse 90 = .ok (.getfield 18, 3) := by decide +kernel
theorem dX6_parse_93 : decode cX6_parse 93 = .ok (.aload_n 0, 1) := by decide +kernel
theorem dX6_parse_94 : decode cX6_parse 94 = .ok (.getfield 21, 3) := by decide +kernel
theorem dX6_parse_97 : decode cX6_parse 97 = .ok (.aload_n 1, 1) := by decide +kernel
theorem dX6_parse_98 : decode cX6_parse 98 = .ok (.getfield 54, 3) := by decide +kernel
theorem dX6_parse_101 : decode cX6_parse 101 = .ok (.iload_n 2, 1) := by decide +kernel
theorem dX6_parse_102 : decode cX6_parse 102 = .ok (.iconst 2, 1) := by decide +kernel
theorem dX6_parse_103 : decode cX6_parse 103 = .ok (.iadd, 1) := by decide +kernel
theorem dX6_parse_104 : decode cX6_parse 104 = .ok (.iaload, 1) := by decide +kernel
theorem dX6_parse_105 : decode cX6_parse 105 = .ok (.bipush 48, 2) := by decide +kernel
theorem dX6_parse_107 : decode cX6_parse 107 = .ok (.isub, 1) := by decide +kernel
theorem dX6_parse_108 : decode cX6_parse 108 = .ok (.iastore, 1) := by decide +kernel
theorem dX6_parse_109 : decode cX6_parse 109 = .ok (.aload_n 0, 1) := by decide +kernel
theorem dX6_parse_110 : decode cX6_parse 110 = .ok (.dup, 1) := by decide +kernel
theorem dX6_parse_111 : decode cX6_parse 111 = .ok (.getfield 21, 3) := by decide +kernel
theorem dX6_parse_114 : decode cX6_parse 114 = .ok (.iconst 1, 1) := by decide +kernel
theorem dX6_parse_115 : decode cX6_parse 115 = .ok (.iadd, 1) := by decide +kernel
theorem dX6_parse_116 : decode cX6_parse 116 = .ok (.putfield 21, 3) := by decide +kernel
theorem dX6_parse_119 : decode cX6_parse 119 = .ok (.iinc 2 4, 3) := by decide +kernel
theorem dX6_parse_122 : decode cX6_parse 122 = .ok (.goto (-97), 3) := by decide +kernel
theorem dX6_parse_125 : decode cX6_parse 125 = .ok (.return_, 1) := by decide +kernel
theorem dX6_faultIn_0 : decode cX6_faultIn 0 = .ok (.iconst 0, 1) := by decide +kernel
theorem dX6_faultIn_1 : decode cX6_faultIn 1 = .ok (.istore_n 2, 1) := by decide +kernel
theorem dX6_faultIn_2 : decode cX6_faultIn 2 = .ok (.iload_n 2, 1) := by decide +kernel
theorem dX6_faultIn_3 : decode cX6_faultIn 3 = .ok (.aload_n 1, 1) := by decide +kernel
theorem dX6_faultIn_4 : decode cX6_faultIn 4 = .ok (.getfield 49, 3) := by decide +kernel
theorem dX6_faultIn_7 : decode cX6_faultIn 7 = .ok (.if_icmp .ge 20, 3) := by decide +kernel
theorem dX6_faultIn_10 : decode cX6_faultIn 10 = .ok (.aload_n 0, 1) := by decide +kernel
theorem dX6_faultIn_11 : decode cX6_faultIn 11 = .ok (.aload_n 1, 1) := by decide +kernel
theorem dX6_faultIn_12 : decode cX6_faultIn 12 = .ok (.iload_n 2, 1) := by decide +kernel
theorem dX6_faultIn_13 : decode cX6_faultIn 13 = .ok (.invokevirtual 63, 3) := by decide +kernel
theorem dX6_faultIn_16 : decode cX6_faultIn 16 = .ok (.ifCond .ne 5, 3) := by decide +kernel
theorem dX6_faultIn_19 : decode cX6_faultIn 19 = .ok (.iload_n 2, 1) := by decide +kernel
theorem dX6_faultIn_20 : decode cX6_faultIn 20 = .ok (.ireturn, 1) := by decide +kernel
theorem dX6_faultIn_21 : decode cX6_faultIn 21 = .ok (.iinc 2 1, 3) := by decide +kernel
theorem dX6_faultIn_24 : decode cX6_faultIn 24 = .ok (.goto (-22), 3) := by decide +kernel
theorem dX6_faultIn_27 : decode cX6_faultIn 27 = .ok (.aload_n 1, 1) := by decide +kernel
theorem dX6_faultIn_28 : decode cX6_faultIn 28 = .ok (.getfield 49, 3) := by decide +kernel
theorem dX6_faultIn_31 : decode cX6_faultIn 31 = .ok (.ifCond .eq 13, 3) := by decide +kernel
theorem dX6_faultIn_34 : decode cX6_faultIn 34 = .ok (.aload_n 1, 1) := by decide +kernel
theorem dX6_faultIn_35 : decode cX6_faultIn 35 = .ok (.getfield 49, 3) := by decide +kernel
theorem dX6_faultIn_38 : decode cX6_faultIn 38 = .ok (.iconst 4, 1) := by decide +kernel
theorem dX6_faultIn_39 : decode cX6_faultIn 39 = .ok (.irem, 1) := by decide +kernel
theorem dX6_faultIn_40 : decode cX6_faultIn 40 = .ok (.iconst 3, 1) := by decide +kernel
theorem dX6_faultIn_41 : decode cX6_faultIn 41 = .ok (.if_icmp .ne 7, 3) := by decide +kernel
theorem dX6_faultIn_44 : decode cX6_faultIn 44 = .ok (.iconst (-1), 1) := by decide +kernel
theorem dX6_faultIn_45 : decode cX6_faultIn 45 = .ok (.goto 7, 3) := by decide +kernel
theorem dX6_faultIn_48 : decode cX6_faultIn 48 = .ok (.aload_n 1, 1) := by decide +kernel
theorem dX6_faultIn_49 : decode cX6_faultIn 49 = .ok (.getfield 49, 3) := by decide +kernel
theorem dX6_faultIn_52 : decode cX6_faultIn 52 = .ok (.ireturn, 1) := by decide +kernel
theorem dX6_goesOn_0 : decode cX6_goesOn 0 = .ok (.aload_n 1, 1) := by decide +kernel
theorem dX6_goesOn_1 : decode cX6_goesOn 1 = .ok (.getfield 54, 3) := by decide +kernel
theorem dX6_goesOn_4 : decode cX6_goesOn 4 = .ok (.iload_n 2, 1) := by decide +kernel
theorem dX6_goesOn_5 : decode cX6_goesOn 5 = .ok (.iaload, 1) := by decide +kernel
theorem dX6_goesOn_6 : decode cX6_goesOn 6 = .ok (.istore_n 3, 1) := by decide +kernel
theorem dX6_goesOn_7 : decode cX6_goesOn 7 = .ok (.iload_n 2, 1) := by decide +kernel
theorem dX6_goesOn_8 : decode cX6_goesOn 8 = .ok (.iconst 4, 1) := by decide +kernel
theorem dX6_goesOn_9 : decode cX6_goesOn 9 = .ok (.irem, 1) := by decide +kernel
theorem dX6_goesOn_10 : decode cX6_goesOn 10 = .ok (.tableswitch 96 0 2 #[26, 69, 87], 26) := by decide +kernel
theorem dX6_goesOn_36 : decode cX6_goesOn 36 = .ok (.iload_n 2, 1) := by decide +kernel
theorem dX6_goesOn_37 : decode cX6_goesOn 37 = .ok (.iconst 4, 1) := by decide +kernel
theorem dX6_goesOn_38 : decode cX6_goesOn 38 = .ok (.idiv, 1) := by decide +kernel
theorem dX6_goesOn_39 : decode cX6_goesOn 39 = .ok (.aload_n 0, 1) := by decide +kernel
theorem dX6_goesOn_40 : decode cX6_goesOn 40 = .ok (.getfield 38, 3) := by decide +kernel
theorem dX6_goesOn_43 : decode cX6_goesOn 43 = .ok (.if_icmp .ge 34, 3) := by decide +kernel
theorem dX6_goesOn_46 : decode cX6_goesOn 46 = .ok (.iload_n 3, 1) := by decide +kernel
theorem dX6_goesOn_47 : decode cX6_goesOn 47 = .ok (.bipush 97, 2) := by decide +kernel
theorem dX6_goesOn_49 : decode cX6_goesOn 49 = .ok (.bipush 120, 2) := by decide +kernel
theorem dX6_goesOn_51 : decode cX6_goesOn 51 = .ok (.invokestatic 67, 3) := by decide +kernel
theorem dX6_goesOn_54 : decode cX6_goesOn 54 = .ok (.ifCond .eq 23, 3) := by decide +kernel
theorem dX6_goesOn_57 : decode cX6_goesOn 57 = .ok (.aload_n 0, 1) := by decide +kernel
theorem dX6_goesOn_58 : decode cX6_goesOn 58 = .ok (.getfield 41, 3) := by decide +kernel
theorem dX6_goesOn_61 : decode cX6_goesOn 61 = .ok (.ifCond .eq 12, 3) := by decide +kernel
theorem dX6_goesOn_64 : decode cX6_goesOn 64 = .ok (.aload_n 0, 1) := by decide +kernel
theorem dX6_goesOn_65 : decode cX6_goesOn 65 = .ok (.aload_n 1, 1) := by decide +kernel
theorem dX6_goesOn_66 : decode cX6_goesOn 66 = .ok (.iload_n 2, 1) := by decide +kernel
theorem dX6_goesOn_67 : decode cX6_goesOn 67 = .ok (.invokevirtual 71, 3) := by decide +kernel
theorem dX6_goesOn_70 : decode cX6_goesOn 70 = .ok (.ifCond .ne 7, 3) := by decide +kernel
theorem dX6_goesOn_73 : decode cX6_goesOn 73 = .ok (.iconst 1, 1) := by decide +kernel
theorem dX6_goesOn_74 : decode cX6_goesOn 74 = .ok (.goto 4, 3) := by decide +kernel
theorem dX6_goesOn_77 : decode cX6_goesOn 77 = .ok (.iconst 0, 1) := by decide +kernel
theorem dX6_goesOn_78 : decode cX6_goesOn 78 = .ok (.ireturn, 1) := by decide +kernel
theorem dX6_goesOn_79 : decode cX6_goesOn 79 = .ok (.aload_n 0, 1) := by decide +kernel
theorem dX6_goesOn_80 : decode cX6_goesOn 80 = .ok (.getfield 28, 3) := by decide +kernel
theorem dX6_goesOn_83 : decode cX6_goesOn 83 = .ok (.iload_n 3, 1) := by decide +kernel
theorem dX6_goesOn_84 : decode cX6_goesOn 84 = .ok (.i2c, 1) := by decide +kernel
theorem dX6_goesOn_85 : decode cX6_goesOn 85 = .ok (.invokevirtual 57, 3) := by decide +kernel
theorem dX6_goesOn_88 : decode cX6_goesOn 88 = .ok (.ifCond .lt 7, 3) := by decide +kernel
theorem dX6_goesOn_91 : decode cX6_goesOn 91 = .ok (.iconst 1, 1) := by decide +kernel
theorem dX6_goesOn_92 : decode cX6_goesOn 92 = .ok (.goto 4, 3) := by decide +kernel
theorem dX6_goesOn_95 : decode cX6_goesOn 95 = .ok (.iconst 0, 1) := by decide +kernel
theorem dX6_goesOn_96 : decode cX6_goesOn 96 = .ok (.ireturn, 1) := by decide +kernel
theorem dX6_goesOn_97 : decode cX6_goesOn 97 = .ok (.iload_n 3, 1) := by decide +kernel
theorem dX6_goesOn_98 : decode cX6_goesOn 98 = .ok (.bipush 49, 2) := by decide +kernel
theorem dX6_goesOn_100 : decode cX6_goesOn 100 = .ok (.bipush 57, 2) := by decide +kernel
theorem dX6_goesOn_102 : decode cX6_goesOn 102 = .ok (.invokestatic 67, 3) := by decide +kernel
theorem dX6_goesOn_105 : decode cX6_goesOn 105 = .ok (.ireturn, 1) := by decide +kernel
theorem dX6_goesOn_106 : decode cX6_goesOn 106 = .ok (.iload_n 3, 1) := by decide +kernel
theorem dX6_goesOn_107 : decode cX6_goesOn 107 = .ok (.bipush 59, 2) := by decide +kernel
theorem dX6_goesOn_109 : decode cX6_goesOn 109 = .ok (.if_icmp .ne 7, 3) := by decide +kernel
theorem dX6_goesOn_112 : decode cX6_goesOn 112 = .ok (.iconst 1, 1) := by decide +kernel
theorem dX6_goesOn_113 : decode cX6_goesOn 113 = .ok (.goto 4, 3) := by decide +kernel
theorem dX6_goesOn_116 : decode cX6_goesOn 116 = .ok (.iconst 0, 1) := by decide +kernel
theorem dX6_goesOn_117 : decode cX6_goesOn 117 = .ok (.ireturn, 1) := by decide +kernel
theorem dX6_isTaken_0 : decode cX6_isTaken 0 = .ok (.iconst 0, 1) := by decide +kernel
theorem dX6_isTaken_1 : decode cX6_isTaken 1 = .ok (.istore_n 3, 1) := by decide +kernel
theorem dX6_isTaken_2 : decode cX6_isTaken 2 = .ok (.iload_n 3, 1) := by decide +kernel
theorem dX6_isTaken_3 : decode cX6_isTaken 3 = .ok (.iload_n 2, 1) := by decide +kernel
theorem dX6_isTaken_4 : decode cX6_isTaken 4 = .ok (.if_icmp .ge 26, 3) := by decide +kernel
theorem dX6_isTaken_7 : decode cX6_isTaken 7 = .ok (.aload_n 1, 1) := by decide +kernel
theorem dX6_isTaken_8 : decode cX6_isTaken 8 = .ok (.getfield 54, 3) := by decide +kernel
theorem dX6_isTaken_11 : decode cX6_isTaken 11 = .ok (.iload_n 3, 1) := by decide +kernel
theorem dX6_isTaken_12 : decode cX6_isTaken 12 = .ok (.iaload, 1) := by decide +kernel
theorem dX6_isTaken_13 : decode cX6_isTaken 13 = .ok (.aload_n 1, 1) := by decide +kernel
theorem dX6_isTaken_14 : decode cX6_isTaken 14 = .ok (.getfield 54, 3) := by decide +kernel
theorem dX6_isTaken_17 : decode cX6_isTaken 17 = .ok (.iload_n 2, 1) := by decide +kernel
theorem dX6_isTaken_18 : decode cX6_isTaken 18 = .ok (.iaload, 1) := by decide +kernel
theorem dX6_isTaken_19 : decode cX6_isTaken 19 = .ok (.if_icmp .ne 5, 3) := by decide +kernel
theorem dX6_isTaken_22 : decode cX6_isTaken 22 = .ok (.iconst 1, 1) := by decide +kernel
theorem dX6_isTaken_23 : decode cX6_isTaken 23 = .ok (.ireturn, 1) := by decide +kernel
theorem dX6_isTaken_24 : decode cX6_isTaken 24 = .ok (.iinc 3 4, 3) := by decide +kernel
theorem dX6_isTaken_27 : decode cX6_isTaken 27 = .ok (.goto (-25), 3) := by decide +kernel
theorem dX6_isTaken_30 : decode cX6_isTaken 30 = .ok (.iconst 0, 1) := by decide +kernel
theorem dX6_isTaken_31 : decode cX6_isTaken 31 = .ok (.ireturn, 1) := by decide +kernel
theorem dX7_init_0 : decode cX7_init 0 = .ok (.aload_n 0, 1) := by decide +kernel
theorem dX7_init_1 : decode cX7_init 1 = .ok (.invokespecial 1, 3) := by decide +kernel
theorem dX7_init_4 : decode cX7_init 4 = .ok (.aload_n 0, 1) := by decide +kernel
theorem dX7_init_5 : decode cX7_init 5 = .ok (.new 7, 3) := by decide +kernel
theorem dX7_init_8 : decode cX7_init 8 = .ok (.dup, 1) := by decide +kernel
theorem dX7_init_9 : decode cX7_init 9 = .ok (.bipush 23, 2) := by decide +kernel
theorem dX7_init_11 : decode cX7_init 11 = .ok (.invokespecial 11, 3) := by decide +kernel
theorem dX7_init_14 : decode cX7_init 14 = .ok (.putfield 14, 3) := by decide +kernel
theorem dX7_init_17 : decode cX7_init 17 = .ok (.aload_n 0, 1) := by decide +kernel
theorem dX7_init_18 : decode cX7_init 18 = .ok (.new 7, 3) := by decide +kernel
theorem dX7_init_21 : decode cX7_init 21 = .ok (.dup, 1) := by decide +kernel
theorem dX7_init_22 : decode cX7_init 22 = .ok (.bipush 47, 2) := by decide +kernel
theorem dX7_init_24 : decode cX7_init 24 = .ok (.invokespecial 11, 3) := by decide +kernel
theorem dX7_init_27 : decode cX7_init 27 = .ok (.putfield 18, 3) := by decide +kernel
theorem dX7_init_30 : decode cX7_init 30 = .ok (.aload_n 0, 1) := by decide +kernel
theorem dX7_init_31 : decode cX7_init 31 = .ok (.new 7, 3) := by decide +kernel
theorem dX7_init_34 : decode cX7_init 34 = .ok (.dup, 1) := by decide +kernel
theorem dX7_init_35 : decode cX7_init 35 = .ok (.bipush 24, 2) := by decide +kernel
theorem dX7_init_37 : decode cX7_init 37 = .ok (.invokespecial 11, 3) := by decide +kernel
theorem dX7_init_40 : decode cX7_init 40 = .ok (.putfield 21, 3) := by decide +kernel
theorem dX7_init_43 : decode cX7_init 43 = .ok (.aload_n 0, 1) := by decide +kernel
theorem dX7_init_44 : decode cX7_init 44 = .ok (.new 24, 3) := by decide +kernel
theorem dX7_init_47 : decode cX7_init 47 = .ok (.dup, 1) := by decide +kernel
theorem dX7_init_48 : decode cX7_init 48 = .ok (.ldc 26, 2) := by decide +kernel
theorem dX7_init_50 : decode cX7_init 50 = .ok (.bipush 6, 2) := by decide +kernel
theorem dX7_init_52 : decode cX7_init 52 = .ok (.iconst 1, 1) := by decide +kernel
theorem dX7_init_53 : decode cX7_init 53 = .ok (.invokespecial 28, 3) := by decide +kernel
theorem dX7_init_56 : decode cX7_init 56 = .ok (.putfield 31, 3) := by decide +kernel
theorem dX7_init_59 : decode cX7_init 59 = .ok (.aload_n 0, 1) := by decide +kernel
theorem dX7_init_60 : decode cX7_init 60 = .ok (.new 24, 3) := by decide +kernel
theorem dX7_init_63 : decode cX7_init 63 = .ok (.dup, 1) := by decide +kernel
theorem dX7_init_64 : decode cX7_init 64 = .ok (.ldc 35, 2) := by decide +kernel
theorem dX7_init_66 : decode cX7_init 66 = .ok (.bipush 12, 2) := by decide +kernel
theorem dX7_init_68 : decode cX7_init 68 = .ok (.iconst 0, 1) := by decide +kernel
theorem dX7_init_69 : decode cX7_init 69 = .ok (.invokespecial 28, 3) := by decide +kernel
theorem dX7_init_72 : decode cX7_init 72 = .ok (.putfield 37, 3) := by decide +kernel
theorem dX7_init_75 : decode cX7_init 75 = .ok (.aload_n 0, 1) := by decide +kernel
theorem dX7_init_76 : decode cX7_init 76 = .ok (.new 40, 3) := by decide +kernel
theorem dX7_init_79 : decode cX7_init 79 = .ok (.dup, 1) := by decide +kernel
theorem dX7_init_80 : decode cX7_init 80 = .ok (.invokespecial 42, 3) := by decide +kernel
theorem dX7_init_83 : decode cX7_init 83 = .ok (.putfield 43, 3) := by decide +kernel
theorem dX7_init_86 : decode cX7_init 86 = .ok (.aload_n 0, 1) := by decide +kernel
theorem dX7_init_87 : decode cX7_init 87 = .ok (.new 47, 3) := by decide +kernel
theorem dX7_init_90 : decode cX7_init 90 = .ok (.dup, 1) := by decide +kernel
theorem dX7_init_91 : decode cX7_init 91 = .ok (.invokespecial 49, 3) := by decide +kernel
theorem dX7_init_94 : decode cX7_init 94 = .ok (.putfield 50, 3) := by decide +kernel
theorem dX7_init_97 : decode cX7_init 97 = .ok (.aload_n 0, 1) := by decide +kernel
theorem dX7_init_98 : decode cX7_init 98 = .ok (.new 54, 3) := by decide +kernel
theorem dX7_init_101 : decode cX7_init 101 = .ok (.dup, 1) := by decide +kernel
theorem dX7_init_102 : decode cX7_init 102 = .ok (.invokespecial 56, 3) := by decide +kernel
theorem dX7_init_105 : decode cX7_init 105 = .ok (.putfield 57, 3) := by decide +kernel
theorem dX7_init_108 : decode cX7_init 108 = .ok (.aload_n 0, 1) := by decide +kernel
theorem dX7_init_109 : decode cX7_init 109 = .ok (.new 54, 3) := by decide +kernel
theorem dX7_init_112 : decode cX7_init 112 = .ok (.dup, 1) := by decide +kernel
theorem dX7_init_113 : decode cX7_init 113 = .ok (.invokespecial 56, 3) := by decide +kernel
theorem dX7_init_116 : decode cX7_init 116 = .ok (.putfield 61, 3) := by decide +kernel
theorem dX7_init_119 : decode cX7_init 119 = .ok (.aload_n 0, 1) := by decide +kernel
theorem dX7_init_120 : decode cX7_init 120 = .ok (.new 54, 3) := by decide +kernel
theorem dX7_init_123 : decode cX7_init 123 = .ok (.dup, 1) := by decide +kernel
theorem dX7_init_124 : decode cX7_init 124 = .ok (.invokespecial 56, 3) := by decide +kernel
theorem dX7_init_127 : decode cX7_init 127 = .ok (.putfield 64, 3) := by decide +kernel
theorem dX7_init_130 : decode cX7_init 130 = .ok (.aload_n 0, 1) := by decide +kernel
theorem dX7_init_131 : decode cX7_init 131 = .ok (.new 54, 3) := by decide +kernel
theorem dX7_init_134 : decode cX7_init 134 = .ok (.dup, 1) := by decide +kernel
theorem dX7_init_135 : decode cX7_init 135 = .ok (.invokespecial 56, 3) := by decide +kernel
theorem dX7_init_138 : decode cX7_init 138 = .ok (.putfield 67, 3) := by decide +kernel
theorem dX7_init_141 : decode cX7_init 141 = .ok (.aload_n 0, 1) := by decide +kernel
theorem dX7_init_142 : decode cX7_init 142 = .ok (.new 70, 3) := by decide +kernel
theorem dX7_init_145 : decode cX7_init 145 = .ok (.dup, 1) := by decide +kernel
theorem dX7_init_146 : decode cX7_init 146 = .ok (.invokespecial 72, 3) := by decide +kernel
theorem dX7_init_149 : decode cX7_init 149 = .ok (.putfield 73, 3) := by decide +kernel
theorem dX7_init_152 : decode cX7_init 152 = .ok (.aload_n 0, 1) := by decide +kernel
theorem dX7_init_153 : decode cX7_init 153 = .ok (.new 77, 3) := by decide +kernel
theorem dX7_init_156 : decode cX7_init 156 = .ok (.dup, 1) := by decide +kernel
theorem dX7_init_157 : decode cX7_init 157 = .ok (.invokespecial 79, 3) := by decide +kernel
theorem dX7_init_160 : decode cX7_init 160 = .ok (.putfield 80, 3) := by decide +kernel
theorem dX7_init_163 : decode cX7_init 163 = .ok (.aload_n 0, 1) := by decide +kernel
theorem dX7_init_164 : decode cX7_init 164 = .ok (.new 77, 3) := by decide +kernel
theorem dX7_init_167 : decode cX7_init 167 = .ok (.dup, 1) := by decide +kernel
theorem dX7_init_168 : decode cX7_init 168 = .ok (.invokespecial 79, 3) := by decide +kernel
theorem dX7_init_171 : decode cX7_init 171 = .ok (.putfield 84, 3) := by decide +kernel
theorem dX7_init_174 : decode cX7_init 174 = .ok (.aload_n 0, 1) := by decide +kernel
theorem dX7_init_175 : decode cX7_init 175 = .ok (.bipush 10, 2) := by decide +kernel
theorem dX7_init_177 : decode cX7_init 177 = .ok (.bipush 24, 2) := by decide +kernel
theorem dX7_init_179 : decode cX7_init 179 = .ok (.multianewarray 87 2, 4) := by decide +kernel
theorem dX7_init_183 : decode cX7_init 183 = .ok (.putfield 89, 3) := by decide +kernel
theorem dX7_init_186 : decode cX7_init 186 = .ok (.aload_n 0, 1) := by decide +kernel
theorem dX7_init_187 : decode cX7_init 187 = .ok (.iconst (-1), 1) := by decide +kernel
theorem dX7_init_188 : decode cX7_init 188 = .ok (.putfield 92, 3) := by decide +kernel
theorem dX7_init_191 : decode cX7_init 191 = .ok (.aload_n 0, 1) := by decide +kernel
theorem dX7_init_192 : decode cX7_init 192 = .ok (.iconst 1, 1) := by decide +kernel
theorem dX7_init_193 : decode cX7_init 193 = .ok (.putfield 96, 3) := by decide +kernel
theorem dX7_init_196 : decode cX7_init 196 = .ok (.aload_n 0, 1) := by decide +kernel
theorem dX7_init_197 : decode cX7_init 197 = .ok (.iconst 0, 1) := by decide +kernel
theorem dX7_init_198 : decode cX7_init 198 = .ok (.putfield 100, 3) := by decide +kernel
theorem dX7_init_201 : decode cX7_init 201 = .ok (.return_, 1) := by decide +kernel
theorem dX7_type_0 : decode cX7_type 0 = .ok (.aload_n 0, 1) := by decide +kernel
theorem dX7_type_1 : decode cX7_type 1 = .ok (.iload_n 1, 1) := by decide +kernel
theorem dX7_type_2 : decode cX7_type 2 = .ok (.invokevirtual 103, 3) := by decide +kernel
theorem dX7_type_5 : decode cX7_type 5 = .ok (.astore_n 3, 1) := by decide +kernel
theorem dX7_type_6 : decode cX7_type 6 = .ok (.aload_n 3, 1) := by decide +kernel
theorem dX7_type_7 : decode cX7_type 7 = .ok (.ifnull 14, 3) := by decide +kernel
theorem dX7_type_10 : decode cX7_type 10 = .ok (.iload_n 2, 1) := by decide +kernel
theorem dX7_type_11 : decode cX7_type 11 = .ok (.iconst 0, 1) := by decide +kernel
theorem dX7_type_12 : decode cX7_type 12 = .ok (.sipush 255, 3) := by decide +kernel
theorem dX7_type_15 : decode cX7_type 15 = .ok (.invokestatic 107, 3) := by decide +kernel
theorem dX7_type_18 : decode cX7_type 18 = .ok (.ifCond .ne 6, 3) := by decide +kernel
theorem dX7_type_21 : decode cX7_type 21 = .ok (.bipush (-2), 2) := by decide +kernel
theorem dX7_type_23 : decode cX7_type 23 = .ok (.ireturn, 1) := by decide +kernel
theorem dX7_type_24 : decode cX7_type 24 = .ok (.aload_n 3, 1) := by decide +kernel
theorem dX7_type_25 : decode cX7_type 25 = .ok (.invokevirtual 111, 3) := by decide +kernel
theorem dX7_type_28 : decode cX7_type 28 = .ok (.ifCond .ne 6, 3) := by decide +kernel
theorem dX7_type_31 : decode cX7_type 31 = .ok (.bipush (-4), 2) := by decide +kernel
theorem dX7_type_33 : decode cX7_type 33 = .ok (.ireturn, 1) := by decide +kernel
theorem dX7_type_34 : decode cX7_type 34 = .ok (.aload_n 3, 1) := by decide +kernel
theorem dX7_type_35 : decode cX7_type 35 = .ok (.iload_n 2, 1) := by decide +kernel
theorem dX7_type_36 : decode cX7_type 36 = .ok (.invokevirtual 115, 3) := by decide +kernel
theorem dX7_type_39 : decode cX7_type 39 = .ok (.aload_n 0, 1) := by decide +kernel
theorem dX7_type_40 : decode cX7_type 40 = .ok (.iload_n 1, 1) := by decide +kernel
theorem dX7_type_41 : decode cX7_type 41 = .ok (.invokevirtual 118, 3) := by decide +kernel
theorem dX7_type_44 : decode cX7_type 44 = .ok (.aload_n 3, 1) := by decide +kernel
theorem dX7_type_45 : decode cX7_type 45 = .ok (.getfield 121, 3) := by decide +kernel
theorem dX7_type_48 : decode cX7_type 48 = .ok (.ireturn, 1) := by decide +kernel
theorem dX7_wipe_0 : decode cX7_wipe 0 = .ok (.aload_n 0, 1) := by decide +kernel
theorem dX7_wipe_1 : decode cX7_wipe 1 = .ok (.iload_n 1, 1) := by decide +kernel
theorem dX7_wipe_2 : decode cX7_wipe 2 = .ok (.invokevirtual 103, 3) := by decide +kernel
theorem dX7_wipe_5 : decode cX7_wipe 5 = .ok (.astore_n 2, 1) := by decide +kernel
theorem dX7_wipe_6 : decode cX7_wipe 6 = .ok (.aload_n 2, 1) := by decide +kernel
theorem dX7_wipe_7 : decode cX7_wipe 7 = .ok (.ifnonnull 6, 3) := by decide +kernel
theorem dX7_wipe_10 : decode cX7_wipe 10 = .ok (.bipush (-2), 2) := by decide +kernel
theorem dX7_wipe_12 : decode cX7_wipe 12 = .ok (.ireturn, 1) := by decide +kernel
theorem dX7_wipe_13 : decode cX7_wipe 13 = .ok (.aload_n 2, 1) := by decide +kernel
theorem dX7_wipe_14 : decode cX7_wipe 14 = .ok (.getfield 121, 3) := by decide +kernel
theorem dX7_wipe_17 : decode cX7_wipe 17 = .ok (.istore_n 3, 1) := by decide +kernel
theorem dX7_wipe_18 : decode cX7_wipe 18 = .ok (.aload_n 2, 1) := by decide +kernel
theorem dX7_wipe_19 : decode cX7_wipe 19 = .ok (.iconst 0, 1) := by decide +kernel
theorem dX7_wipe_20 : decode cX7_wipe 20 = .ok (.putfield 121, 3) := by decide +kernel
theorem dX7_wipe_23 : decode cX7_wipe 23 = .ok (.aload_n 0, 1) := by decide +kernel
theorem dX7_wipe_24 : decode cX7_wipe 24 = .ok (.iload_n 1, 1) := by decide +kernel
theorem dX7_wipe_25 : decode cX7_wipe 25 = .ok (.invokevirtual 118, 3) := by decide +kernel
theorem dX7_wipe_28 : decode cX7_wipe 28 = .ok (.iload_n 3, 1) := by decide +kernel
theorem dX7_wipe_29 : decode cX7_wipe 29 = .ok (.ireturn, 1) := by decide +kernel
theorem dX7_undo_0 : decode cX7_undo 0 = .ok (.aload_n 0, 1) := by decide +kernel
theorem dX7_undo_1 : decode cX7_undo 1 = .ok (.iload_n 1, 1) := by decide +kernel
theorem dX7_undo_2 : decode cX7_undo 2 = .ok (.invokevirtual 103, 3) := by decide +kernel
theorem dX7_undo_5 : decode cX7_undo 5 = .ok (.astore_n 2, 1) := by decide +kernel
theorem dX7_undo_6 : decode cX7_undo 6 = .ok (.aload_n 2, 1) := by decide +kernel
theorem dX7_undo_7 : decode cX7_undo 7 = .ok (.ifnonnull 6, 3) := by decide +kernel
theorem dX7_undo_10 : decode cX7_undo 10 = .ok (.bipush (-2), 2) := by decide +kernel
theorem dX7_undo_12 : decode cX7_undo 12 = .ok (.ireturn, 1) := by decide +kernel
theorem dX7_undo_13 : decode cX7_undo 13 = .ok (.aload_n 2, 1) := by decide +kernel
theorem dX7_undo_14 : decode cX7_undo 14 = .ok (.getfield 121, 3) := by decide +kernel
theorem dX7_undo_17 : decode cX7_undo 17 = .ok (.ifCond .ne 6, 3) := by decide +kernel
theorem dX7_undo_20 : decode cX7_undo 20 = .ok (.bipush (-3), 2) := by decide +kernel
theorem dX7_undo_22 : decode cX7_undo 22 = .ok (.ireturn, 1) := by decide +kernel
theorem dX7_undo_23 : decode cX7_undo 23 = .ok (.aload_n 2, 1) := by decide +kernel
theorem dX7_undo_24 : decode cX7_undo 24 = .ok (.dup, 1) := by decide +kernel
theorem dX7_undo_25 : decode cX7_undo 25 = .ok (.getfield 121, 3) := by decide +kernel
theorem dX7_undo_28 : decode cX7_undo 28 = .ok (.iconst 1, 1) := by decide +kernel
theorem dX7_undo_29 : decode cX7_undo 29 = .ok (.isub, 1) := by decide +kernel
theorem dX7_undo_30 : decode cX7_undo 30 = .ok (.putfield 121, 3) := by decide +kernel
theorem dX7_undo_33 : decode cX7_undo 33 = .ok (.aload_n 0, 1) := by decide +kernel
theorem dX7_undo_34 : decode cX7_undo 34 = .ok (.iload_n 1, 1) := by decide +kernel
theorem dX7_undo_35 : decode cX7_undo 35 = .ok (.invokevirtual 118, 3) := by decide +kernel
theorem dX7_undo_38 : decode cX7_undo 38 = .ok (.aload_n 2, 1) := by decide +kernel
theorem dX7_undo_39 : decode cX7_undo 39 = .ok (.getfield 121, 3) := by decide +kernel
theorem dX7_undo_42 : decode cX7_undo 42 = .ok (.ireturn, 1) := by decide +kernel
theorem dX7_fault_0 : decode cX7_fault 0 = .ok (.iload_n 1, 1) := by decide +kernel
theorem dX7_fault_1 : decode cX7_fault 1 = .ok (.tableswitch 48 0 2 #[27, 35, 43], 27) := by decide +kernel
theorem dX7_fault_28 : decode cX7_fault 28 = .ok (.aload_n 0, 1) := by decide +kernel
theorem dX7_fault_29 : decode cX7_fault 29 = .ok (.getfield 31, 3) := by decide +kernel
theorem dX7_fault_32 : decode cX7_fault 32 = .ok (.getfield 124, 3) := by decide +kernel
theorem dX7_fault_35 : decode cX7_fault 35 = .ok (.ireturn, 1) := by decide +kernel
theorem dX7_fault_36 : decode cX7_fault 36 = .ok (.aload_n 0, 1) := by decide +kernel
theorem dX7_fault_37 : decode cX7_fault 37 = .ok (.getfield 37, 3) := by decide +kernel
theorem dX7_fault_40 : decode cX7_fault 40 = .ok (.getfield 124, 3) := by decide +kernel
theorem dX7_fault_43 : decode cX7_fault 43 = .ok (.ireturn, 1) := by decide +kernel
theorem dX7_fault_44 : decode cX7_fault 44 = .ok (.aload_n 0, 1) := by decide +kernel
theorem dX7_fault_45 : decode cX7_fault 45 = .ok (.getfield 92, 3) := by decide +kernel
theorem dX7_fault_48 : decode cX7_fault 48 = .ok (.ireturn, 1) := by decide +kernel
theorem dX7_fault_49 : decode cX7_fault 49 = .ok (.bipush (-2), 2) := by decide +kernel
theorem dX7_fault_51 : decode cX7_fault 51 = .ok (.ireturn, 1) := by decide +kernel
theorem dX7_car_0 : decode cX7_car 0 = .ok (.aload_n 0, 1) := by decide +kernel
theorem dX7_car_1 : decode cX7_car 1 = .ok (.iload_n 1, 1) := by decide +kernel
theorem dX7_car_2 : decode cX7_car 2 = .ok (.invokevirtual 127, 3) := by decide +kernel
theorem dX7_car_5 : decode cX7_car 5 = .ok (.ifCond .eq 12, 3) := by decide +kernel
theorem dX7_car_8 : decode cX7_car 8 = .ok (.iload_n 2, 1) := by decide +kernel
theorem dX7_car_9 : decode cX7_car 9 = .ok (.iconst 0, 1) := by decide +kernel
theorem dX7_car_10 : decode cX7_car 10 = .ok (.iconst 2, 1) := by decide +kernel
theorem dX7_car_11 : decode cX7_car 11 = .ok (.invokestatic 107, 3) := by decide +kernel
theorem dX7_car_14 : decode cX7_car 14 = .ok (.ifCond .ne 6, 3) := by decide +kernel
theorem dX7_car_17 : decode cX7_car 17 = .ok (.bipush (-2), 2) := by decide +kernel
theorem dX7_car_19 : decode cX7_car 19 = .ok (.ireturn, 1) := by decide +kernel
theorem dX7_car_20 : decode cX7_car 20 = .ok (.aload_n 0, 1) := by decide +kernel
theorem dX7_car_21 : decode cX7_car 21 = .ok (.getfield 31, 3) := by decide +kernel
theorem dX7_car_24 : decode cX7_car 24 = .ok (.iload_n 1, 1) := by decide +kernel
theorem dX7_car_25 : decode cX7_car 25 = .ok (.iload_n 2, 1) := by decide +kernel
theorem dX7_car_26 : decode cX7_car 26 = .ok (.invokevirtual 131, 3) := by decide +kernel
theorem dX7_car_29 : decode cX7_car 29 = .ok (.ireturn, 1) := by decide +kernel
theorem dX7_coming_0 : decode cX7_coming 0 = .ok (.iload_n 1, 1) := by decide +kernel
theorem dX7_coming_1 : decode cX7_coming 1 = .ok (.iconst 0, 1) := by decide +kernel
theorem dX7_coming_2 : decode cX7_coming 2 = .ok (.bipush 11, 2) := by decide +kernel
theorem dX7_coming_4 : decode cX7_coming 4 = .ok (.invokestatic 107, 3) := by decide +kernel
theorem dX7_coming_7 : decode cX7_coming 7 = .ok (.ifCond .eq 12, 3) := by decide +kernel
theorem dX7_coming_10 : decode cX7_coming 10 = .ok (.iload_n 2, 1) := by decide +kernel
theorem dX7_coming_11 : decode cX7_coming 11 = .ok (.iconst 0, 1) := by decide +kernel
theorem dX7_coming_12 : decode cX7_coming 12 = .ok (.iconst 2, 1) := by decide +kernel
theorem dX7_coming_13 : decode cX7_coming 13 = .ok (.invokestatic 107, 3) := by decide +kernel
theorem dX7_coming_16 : decode cX7_coming 16 = .ok (.ifCond .ne 6, 3) := by decide +kernel
theorem dX7_coming_19 : decode cX7_coming 19 = .ok (.bipush (-2), 2) := by decide +kernel
theorem dX7_coming_21 : decode cX7_coming 21 = .ok (.ireturn, 1) := by decide +kernel
theorem dX7_coming_22 : decode cX7_coming 22 = .ok (.iload_n 1, 1) := by decide +kernel
theorem dX7_coming_23 : decode cX7_coming 23 = .ok (.aload_n 0, 1) := by decide +kernel
theorem dX7_coming_24 : decode cX7_coming 24 = .ok (.getfield 37, 3) := by decide +kernel
theorem dX7_coming_27 : decode cX7_coming 27 = .ok (.getfield 135, 3) := by decide +kernel
theorem dX7_coming_30 : decode cX7_coming 30 = .ok (.if_icmp .ge 15, 3) := by decide +kernel
theorem dX7_coming_33 : decode cX7_coming 33 = .ok (.aload_n 0, 1) := by decide +kernel
theorem dX7_coming_34 : decode cX7_coming 34 = .ok (.getfield 37, 3) := by decide +kernel
theorem dX7_coming_37 : decode cX7_coming 37 = .ok (.iload_n 1, 1) := by decide +kernel
theorem dX7_coming_38 : decode cX7_coming 38 = .ok (.iload_n 2, 1) := by decide +kernel
theorem dX7_coming_39 : decode cX7_coming 39 = .ok (.invokevirtual 131, 3) := by decide +kernel
theorem dX7_coming_42 : decode cX7_coming 42 = .ok (.goto 4, 3) := by decide +kernel
theorem dX7_coming_45 : decode cX7_coming 45 = .ok (.iconst (-1), 1) := by decide +kernel
theorem dX7_coming_46 : decode cX7_coming 46 = .ok (.ireturn, 1) := by decide +kernel
theorem dX7_speed_0 : decode cX7_speed 0 = .ok (.iload_n 1, 1) := by decide +kernel
theorem dX7_speed_1 : decode cX7_speed 1 = .ok (.invokestatic 138, 3) := by decide +kernel
theorem dX7_speed_4 : decode cX7_speed 4 = .ok (.ifCond .eq 11, 3) := by decide +kernel
theorem dX7_speed_7 : decode cX7_speed 7 = .ok (.aload_n 0, 1) := by decide +kernel
theorem dX7_speed_8 : decode cX7_speed 8 = .ok (.iload_n 1, 1) := by decide +kernel
theorem dX7_speed_9 : decode cX7_speed 9 = .ok (.invokevirtual 141, 3) := by decide +kernel
theorem dX7_speed_12 : decode cX7_speed 12 = .ok (.goto 5, 3) := by decide +kernel
theorem dX7_speed_15 : decode cX7_speed 15 = .ok (.bipush (-2), 2) := by decide +kernel
theorem dX7_speed_17 : decode cX7_speed 17 = .ok (.ireturn, 1) := by decide +kernel
theorem dX7_event_0 : decode cX7_event 0 = .ok (.aload_n 0, 1) := by decide +kernel
theorem dX7_event_1 : decode cX7_event 1 = .ok (.getfield 43, 3) := by decide +kernel
theorem dX7_event_4 : decode cX7_event 4 = .ok (.iload_n 1, 1) := by decide +kernel
theorem dX7_event_5 : decode cX7_event 5 = .ok (.iload_n 2, 1) := by decide +kernel
theorem dX7_event_6 : decode cX7_event 6 = .ok (.iload_n 3, 1) := by decide +kernel
theorem dX7_event_7 : decode cX7_event 7 = .ok (.invokevirtual 145, 3) := by decide +kernel
theorem dX7_event_10 : decode cX7_event 10 = .ok (.ifCond .ne 6, 3) := by decide +kernel
theorem dX7_event_13 : decode cX7_event 13 = .ok (.bipush (-2), 2) := by decide +kernel
theorem dX7_event_15 : decode cX7_event 15 = .ok (.ireturn, 1) := by decide +kernel
theorem dX7_event_16 : decode cX7_event 16 = .ok (.aload_n 0, 1) := by decide +kernel
theorem dX7_event_17 : decode cX7_event 17 = .ok (.getfield 43, 3) := by decide +kernel
theorem dX7_event_20 : decode cX7_event 20 = .ok (.invokevirtual 148, 3) := by decide +kernel
theorem dX7_event_23 : decode cX7_event 23 = .ok (.ifCond .ne 6, 3) := by decide +kernel
theorem dX7_event_26 : decode cX7_event 26 = .ok (.bipush (-4), 2) := by decide +kernel
theorem dX7_event_28 : decode cX7_event 28 = .ok (.ireturn, 1) := by decide +kernel
theorem dX7_event_29 : decode cX7_event 29 = .ok (.aload_n 0, 1) := by decide +kernel
theorem dX7_event_30 : decode cX7_event 30 = .ok (.getfield 43, 3) := by decide +kernel
theorem dX7_event_33 : decode cX7_event 33 = .ok (.iload_n 1, 1) := by decide +kernel
theorem dX7_event_34 : decode cX7_event 34 = .ok (.iload_n 2, 1) := by decide +kernel
theorem dX7_event_35 : decode cX7_event 35 = .ok (.iload_n 3, 1) := by decide +kernel
theorem dX7_event_36 : decode cX7_event 36 = .ok (.invokevirtual 149, 3) := by decide +kernel
theorem dX7_event_39 : decode cX7_event 39 = .ok (.aload_n 0, 1) := by decide +kernel
theorem dX7_event_40 : decode cX7_event 40 = .ok (.iconst 1, 1) := by decide +kernel
theorem dX7_event_41 : decode cX7_event 41 = .ok (.putfield 96, 3) := by decide +kernel
theorem dX7_event_44 : decode cX7_event 44 = .ok (.aload_n 0, 1) := by decide +kernel
theorem dX7_event_45 : decode cX7_event 45 = .ok (.getfield 43, 3) := by decide +kernel
theorem dX7_event_48 : decode cX7_event 48 = .ok (.getfield 152, 3) := by decide +kernel
theorem dX7_event_51 : decode cX7_event 51 = .ok (.ireturn, 1) := by decide +kernel
theorem dX7_back_0 : decode cX7_back 0 = .ok (.aload_n 0, 1) := by decide +kernel
theorem dX7_back_1 : decode cX7_back 1 = .ok (.getfield 43, 3) := by decide +kernel
theorem dX7_back_4 : decode cX7_back 4 = .ok (.getfield 152, 3) := by decide +kernel
theorem dX7_back_7 : decode cX7_back 7 = .ok (.ifCond .ne 6, 3) := by decide +kernel
theorem dX7_back_10 : decode cX7_back 10 = .ok (.bipush (-3), 2) := by decide +kernel
theorem dX7_back_12 : decode cX7_back 12 = .ok (.ireturn, 1) := by decide +kernel
theorem dX7_back_13 : decode cX7_back 13 = .ok (.aload_n 0, 1) := by decide +kernel
theorem dX7_back_14 : decode cX7_back 14 = .ok (.getfield 43, 3) := by decide +kernel
theorem dX7_back_17 : decode cX7_back 17 = .ok (.dup, 1) := by decide +kernel
theorem dX7_back_18 : decode cX7_back 18 = .ok (.getfield 152, 3) := by decide +kernel
theorem dX7_back_21 : decode cX7_back 21 = .ok (.iconst 1, 1) := by decide +kernel
theorem dX7_back_22 : decode cX7_back 22 = .ok (.isub, 1) := by decide +kernel
theorem dX7_back_23 : decode cX7_back 23 = .ok (.putfield 152, 3) := by decide +kernel
theorem dX7_back_26 : decode cX7_back 26 = .ok (.aload_n 0, 1) := by decide +kernel
theorem dX7_back_27 : decode cX7_back 27 = .ok (.iconst 1, 1) := by decide +kernel
theorem dX7_back_28 : decode cX7_back 28 = .ok (.putfield 96, 3) := by decide +kernel
theorem dX7_back_31 : decode cX7_back 31 = .ok (.aload_n 0, 1) := by decide +kernel
theorem dX7_back_32 : decode cX7_back 32 = .ok (.getfield 43, 3) := by decide +kernel
theorem dX7_back_35 : decode cX7_back 35 = .ok (.getfield 152, 3) := by decide +kernel
theorem dX7_back_38 : decode cX7_back 38 = .ok (.ireturn, 1) := by decide +kernel
theorem dX7_read_0 : decode cX7_read 0 = .ok (.aload_n 0, 1) := by decide +kernel
theorem dX7_read_1 : decode cX7_read 1 = .ok (.iload_n 1, 1) := by decide +kernel
theorem dX7_read_2 : decode cX7_read 2 = .ok (.invokevirtual 153, 3) := by decide +kernel
theorem dX7_read_5 : decode cX7_read 5 = .ok (.astore_n 2, 1) := by decide +kernel
theorem dX7_read_6 : decode cX7_read 6 = .ok (.aload_n 2, 1) := by decide +kernel
theorem dX7_read_7 : decode cX7_read 7 = .ok (.ifnonnull 6, 3) := by decide +kernel
theorem dX7_read_10 : decode cX7_read 10 = .ok (.bipush (-2), 2) := by decide +kernel
theorem dX7_read_12 : decode cX7_read 12 = .ok (.ireturn, 1) := by decide +kernel
theorem dX7_read_13 : decode cX7_read 13 = .ok (.aload_n 2, 1) := by decide +kernel
theorem dX7_read_14 : decode cX7_read 14 = .ok (.getfield 157, 3) := by decide +kernel
theorem dX7_read_17 : decode cX7_read 17 = .ok (.ifCond .eq 9, 3) := by decide +kernel
theorem dX7_read_20 : decode cX7_read 20 = .ok (.aload_n 0, 1) := by decide +kernel
theorem dX7_read_21 : decode cX7_read 21 = .ok (.iconst 1, 1) := by decide +kernel
theorem dX7_read_22 : decode cX7_read 22 = .ok (.invokevirtual 160, 3) := by decide +kernel
theorem dX7_read_25 : decode cX7_read 25 = .ok (.ireturn, 1) := by decide +kernel
theorem dX7_read_26 : decode cX7_read 26 = .ok (.iconst 0, 1) := by decide +kernel
theorem dX7_read_27 : decode cX7_read 27 = .ok (.istore_n 3, 1) := by decide +kernel
theorem dX7_read_28 : decode cX7_read 28 = .ok (.iconst 0, 1) := by decide +kernel
theorem dX7_read_29 : decode cX7_read 29 = .ok (.istore 4, 2) := by decide +kernel
theorem dX7_read_31 : decode cX7_read 31 = .ok (.iload 4, 2) := by decide +kernel
theorem dX7_read_33 : decode cX7_read 33 = .ok (.iconst 2, 1) := by decide +kernel
theorem dX7_read_34 : decode cX7_read 34 = .ok (.iadd, 1) := by decide +kernel
theorem dX7_read_35 : decode cX7_read 35 = .ok (.aload_n 2, 1) := by decide +kernel
theorem dX7_read_36 : decode cX7_read 36 = .ok (.getfield 163, 3) := by decide +kernel
theorem dX7_read_39 : decode cX7_read 39 = .ok (.if_icmp .ge 47, 3) := by decide +kernel
theorem dX7_read_42 : decode cX7_read 42 = .ok (.aload_n 0, 1) := by decide +kernel
theorem dX7_read_43 : decode cX7_read 43 = .ok (.aload_n 2, 1) := by decide +kernel
theorem dX7_read_44 : decode cX7_read 44 = .ok (.getfield 164, 3) := by decide +kernel
theorem dX7_read_47 : decode cX7_read 47 = .ok (.iload 4, 2) := by decide +kernel
theorem dX7_read_49 : decode cX7_read 49 = .ok (.iaload, 1) := by decide +kernel
theorem dX7_read_50 : decode cX7_read 50 = .ok (.aload_n 2, 1) := by decide +kernel
theorem dX7_read_51 : decode cX7_read 51 = .ok (.getfield 164, 3) := by decide +kernel
theorem dX7_read_54 : decode cX7_read 54 = .ok (.iload 4, 2) := by decide +kernel
theorem dX7_read_56 : decode cX7_read 56 = .ok (.iconst 1, 1) := by decide +kernel
theorem dX7_read_57 : decode cX7_read 57 = .ok (.iadd, 1) := by decide +kernel
theorem dX7_read_58 : decode cX7_read 58 = .ok (.iaload, 1) := by decide +kernel
theorem dX7_read_59 : decode cX7_read 59 = .ok (.aload_n 2, 1) := by decide +kernel
theorem dX7_read_60 : decode cX7_read 60 = .ok (.getfield 164, 3) := by decide +kernel
theorem dX7_read_63 : decode cX7_read 63 = .ok (.iload 4, 2) := by decide +kernel
theorem dX7_read_65 : decode cX7_read 65 = .ok (.iconst 2, 1) := by decide +kernel
theorem dX7_read_66 : decode cX7_read 66 = .ok (.iadd, 1) := by decide +kernel
theorem dX7_read_67 : decode cX7_read 67 = .ok (.iaload, 1) := by decide +kernel
theorem dX7_read_68 : decode cX7_read 68 = .ok (.invokevirtual 168, 3) := by decide +kernel
theorem dX7_read_71 : decode cX7_read 71 = .ok (.ifCond .ge 6, 3) := by decide +kernel
theorem dX7_read_74 : decode cX7_read 74 = .ok (.goto 12, 3) := by decide +kernel
theorem dX7_read_77 : decode cX7_read 77 = .ok (.iinc 3 1, 3) := by decide +kernel
theorem dX7_read_80 : decode cX7_read 80 = .ok (.iinc 4 3, 3) := by decide +kernel
theorem dX7_read_83 : decode cX7_read 83 = .ok (.goto (-52), 3) := by decide +kernel
theorem dX7_read_86 : decode cX7_read 86 = .ok (.iload_n 3, 1) := by decide +kernel
theorem dX7_read_87 : decode cX7_read 87 = .ok (.ireturn, 1) := by decide +kernel
theorem dX7_at_0 : decode cX7_at 0 = .ok (.iload_n 1, 1) := by decide +kernel
theorem dX7_at_1 : decode cX7_at 1 = .ok (.invokestatic 138, 3) := by decide +kernel
theorem dX7_at_4 : decode cX7_at 4 = .ok (.ifCond .eq 20, 3) := by decide +kernel
theorem dX7_at_7 : decode cX7_at 7 = .ok (.aload_n 0, 1) := by decide +kernel
theorem dX7_at_8 : decode cX7_at 8 = .ok (.iload_n 2, 1) := by decide +kernel
theorem dX7_at_9 : decode cX7_at 9 = .ok (.invokevirtual 127, 3) := by decide +kernel
theorem dX7_at_12 : decode cX7_at 12 = .ok (.ifCond .eq 12, 3) := by decide +kernel
theorem dX7_at_15 : decode cX7_at 15 = .ok (.iload_n 3, 1) := by decide +kernel
theorem dX7_at_16 : decode cX7_at 16 = .ok (.iconst 0, 1) := by decide +kernel
theorem dX7_at_17 : decode cX7_at 17 = .ok (.iconst 1, 1) := by decide +kernel
theorem dX7_at_18 : decode cX7_at 18 = .ok (.invokestatic 107, 3) := by decide +kernel
theorem dX7_at_21 : decode cX7_at 21 = .ok (.ifCond .ne 6, 3) := by decide +kernel
theorem dX7_at_24 : decode cX7_at 24 = .ok (.bipush (-2), 2) := by decide +kernel
theorem dX7_at_26 : decode cX7_at 26 = .ok (.ireturn, 1) := by decide +kernel
theorem dX7_at_27 : decode cX7_at 27 = .ok (.aload_n 0, 1) := by decide +kernel
theorem dX7_at_28 : decode cX7_at 28 = .ok (.invokevirtual 172, 3) := by decide +kernel
theorem dX7_at_31 : decode cX7_at 31 = .ok (.astore 4, 2) := by decide +kernel
theorem dX7_at_33 : decode cX7_at 33 = .ok (.iload_n 3, 1) := by decide +kernel
theorem dX7_at_34 : decode cX7_at 34 = .ok (.ifCond .ne 15, 3) := by decide +kernel
theorem dX7_at_37 : decode cX7_at 37 = .ok (.aload 4, 2) := by decide +kernel
theorem dX7_at_39 : decode cX7_at 39 = .ok (.getfield 176, 3) := by decide +kernel
theorem dX7_at_42 : decode cX7_at 42 = .ok (.iload_n 2, 1) := by decide +kernel
theorem dX7_at_43 : decode cX7_at 43 = .ok (.aaload, 1) := by decide +kernel
theorem dX7_at_44 : decode cX7_at 44 = .ok (.iload_n 1, 1) := by decide +kernel
theorem dX7_at_45 : decode cX7_at 45 = .ok (.iaload, 1) := by decide +kernel
theorem dX7_at_46 : decode cX7_at 46 = .ok (.goto 12, 3) := by decide +kernel
theorem dX7_at_49 : decode cX7_at 49 = .ok (.aload 4, 2) := by decide +kernel
theorem dX7_at_51 : decode cX7_at 51 = .ok (.getfield 179, 3) := by decide +kernel
theorem dX7_at_54 : decode cX7_at 54 = .ok (.iload_n 2, 1) := by decide +kernel
theorem dX7_at_55 : decode cX7_at 55 = .ok (.aaload, 1) := by decide +kernel
theorem dX7_at_56 : decode cX7_at 56 = .ok (.iload_n 1, 1) := by decide +kernel
theorem dX7_at_57 : decode cX7_at 57 = .ok (.iaload, 1) := by decide +kernel
theorem dX7_at_58 : decode cX7_at 58 = .ok (.ireturn, 1) := by decide +kernel
theorem dX7_waits_0 : decode cX7_waits 0 = .ok (.iload_n 1, 1) := by decide +kernel
theorem dX7_waits_1 : decode cX7_waits 1 = .ok (.invokestatic 138, 3) := by decide +kernel
theorem dX7_waits_4 : decode cX7_waits 4 = .ok (.ifCond .eq 12, 3) := by decide +kernel
theorem dX7_waits_7 : decode cX7_waits 7 = .ok (.iload_n 2, 1) := by decide +kernel
theorem dX7_waits_8 : decode cX7_waits 8 = .ok (.iconst 0, 1) := by decide +kernel
theorem dX7_waits_9 : decode cX7_waits 9 = .ok (.iconst 3, 1) := by decide +kernel
theorem dX7_waits_10 : decode cX7_waits 10 = .ok (.invokestatic 107, 3) := by decide +kernel
theorem dX7_waits_13 : decode cX7_waits 13 = .ok (.ifCond .ne 6, 3) := by decide +kernel
theorem dX7_waits_16 : decode cX7_waits 16 = .ok (.bipush (-2), 2) := by decide +kernel
theorem dX7_waits_18 : decode cX7_waits 18 = .ok (.ireturn, 1) := by decide +kernel
theorem dX7_waits_19 : decode cX7_waits 19 = .ok (.aload_n 0, 1) := by decide +kernel
theorem dX7_waits_20 : decode cX7_waits 20 = .ok (.invokevirtual 172, 3) := by decide +kernel
theorem dX7_waits_23 : decode cX7_waits 23 = .ok (.astore_n 3, 1) := by decide +kernel
theorem dX7_waits_24 : decode cX7_waits 24 = .ok (.iload_n 2, 1) := by decide +kernel
theorem dX7_waits_25 : decode cX7_waits 25 = .ok (.tableswitch 51 0 2 #[27, 36, 45], 27) := by decide +kernel
theorem dX7_waits_52 : decode cX7_waits 52 = .ok (.aload_n 3, 1) := by decide +kernel
theorem dX7_waits_53 : decode cX7_waits 53 = .ok (.getfield 182, 3) := by decide +kernel
theorem dX7_waits_56 : decode cX7_waits 56 = .ok (.iconst 0, 1) := by decide +kernel
theorem dX7_waits_57 : decode cX7_waits 57 = .ok (.aaload, 1) := by decide +kernel
theorem dX7_waits_58 : decode cX7_waits 58 = .ok (.iload_n 1, 1) := by decide +kernel
theorem dX7_waits_59 : decode cX7_waits 59 = .ok (.iaload, 1) := by decide +kernel
theorem dX7_waits_60 : decode cX7_waits 60 = .ok (.ireturn, 1) := by decide +kernel
theorem dX7_waits_61 : decode cX7_waits 61 = .ok (.aload_n 3, 1) := by decide +kernel
theorem dX7_waits_62 : decode cX7_waits 62 = .ok (.getfield 182, 3) := by decide +kernel
theorem dX7_waits_65 : decode cX7_waits 65 = .ok (.iconst 1, 1) := by decide +kernel
theorem dX7_waits_66 : decode cX7_waits 66 = .ok (.aaload, 1) := by decide +kernel
theorem dX7_waits_67 : decode cX7_waits 67 = .ok (.iload_n 1, 1) := by decide +kernel
theorem dX7_waits_68 : decode cX7_waits 68 = .ok (.iaload, 1) := by decide +kernel
theorem dX7_waits_69 : decode cX7_waits 69 = .ok (.ireturn, 1) := by decide +kernel
theorem dX7_waits_70 : decode cX7_waits 70 = .ok (.aload_n 3, 1) := by decide +kernel
theorem dX7_waits_71 : decode cX7_waits 71 = .ok (.iload_n 1, 1) := by decide +kernel
theorem dX7_waits_72 : decode cX7_waits 72 = .ok (.invokevirtual 185, 3) := by decide +kernel
theorem dX7_waits_75 : decode cX7_waits 75 = .ok (.ireturn, 1) := by decide +kernel
theorem dX7_waits_76 : decode cX7_waits 76 = .ok (.aload_n 3, 1) := by decide +kernel
theorem dX7_waits_77 : decode cX7_waits 77 = .ok (.getfield 188, 3) := by decide +kernel
theorem dX7_waits_80 : decode cX7_waits 80 = .ok (.iload_n 1, 1) := by decide +kernel
theorem dX7_waits_81 : decode cX7_waits 81 = .ok (.iaload, 1) := by decide +kernel
theorem dX7_waits_82 : decode cX7_waits 82 = .ok (.ireturn, 1) := by decide +kernel
theorem dX7_over_0 : decode cX7_over 0 = .ok (.iload_n 1, 1) := by decide +kernel
theorem dX7_over_1 : decode cX7_over 1 = .ok (.invokestatic 191, 3) := by decide +kernel
theorem dX7_over_4 : decode cX7_over 4 = .ok (.ifCond .eq 15, 3) := by decide +kernel
theorem dX7_over_7 : decode cX7_over 7 = .ok (.aload_n 0, 1) := by decide +kernel
theorem dX7_over_8 : decode cX7_over 8 = .ok (.invokevirtual 172, 3) := by decide +kernel
theorem dX7_over_11 : decode cX7_over 11 = .ok (.getfield 194, 3) := by decide +kernel
theorem dX7_over_14 : decode cX7_over 14 = .ok (.iload_n 1, 1) := by decide +kernel
theorem dX7_over_15 : decode cX7_over 15 = .ok (.iaload, 1) := by decide +kernel
theorem dX7_over_16 : decode cX7_over 16 = .ok (.goto 5, 3) := by decide +kernel
theorem dX7_over_19 : decode cX7_over 19 = .ok (.bipush (-2), 2) := by decide +kernel
theorem dX7_over_21 : decode cX7_over 21 = .ok (.ireturn, 1) := by decide +kernel
theorem dX7_sum_0 : decode cX7_sum 0 = .ok (.aload_n 0, 1) := by decide +kernel
theorem dX7_sum_1 : decode cX7_sum 1 = .ok (.invokevirtual 172, 3) := by decide +kernel
theorem dX7_sum_4 : decode cX7_sum 4 = .ok (.invokevirtual 197, 3) := by decide +kernel
theorem dX7_sum_7 : decode cX7_sum 7 = .ok (.ireturn, 1) := by decide +kernel
theorem dX7_crowd_0 : decode cX7_crowd 0 = .ok (.iload_n 1, 1) := by decide +kernel
theorem dX7_crowd_1 : decode cX7_crowd 1 = .ok (.invokestatic 191, 3) := by decide +kernel
theorem dX7_crowd_4 : decode cX7_crowd 4 = .ok (.ifCond .eq 12, 3) := by decide +kernel
theorem dX7_crowd_7 : decode cX7_crowd 7 = .ok (.iload_n 2, 1) := by decide +kernel
theorem dX7_crowd_8 : decode cX7_crowd 8 = .ok (.iconst 0, 1) := by decide +kernel
theorem dX7_crowd_9 : decode cX7_crowd 9 = .ok (.iconst 1, 1) := by decide +kernel
theorem dX7_crowd_10 : decode cX7_crowd 10 = .ok (.invokestatic 107, 3) := by decide +kernel
theorem dX7_crowd_13 : decode cX7_crowd 13 = .ok (.ifCond .ne 6, 3) := by decide +kernel
theorem dX7_crowd_16 : decode cX7_crowd 16 = .ok (.bipush (-2), 2) := by decide +kernel
theorem dX7_crowd_18 : decode cX7_crowd 18 = .ok (.ireturn, 1) := by decide +kernel
theorem dX7_crowd_19 : decode cX7_crowd 19 = .ok (.aload_n 0, 1) := by decide +kernel
theorem dX7_crowd_20 : decode cX7_crowd 20 = .ok (.invokevirtual 172, 3) := by decide +kernel
theorem dX7_crowd_23 : decode cX7_crowd 23 = .ok (.getfield 182, 3) := by decide +kernel
theorem dX7_crowd_26 : decode cX7_crowd 26 = .ok (.iload_n 1, 1) := by decide +kernel
theorem dX7_crowd_27 : decode cX7_crowd 27 = .ok (.aaload, 1) := by decide +kernel
theorem dX7_crowd_28 : decode cX7_crowd 28 = .ok (.astore_n 3, 1) := by decide +kernel
theorem dX7_crowd_29 : decode cX7_crowd 29 = .ok (.iconst 0, 1) := by decide +kernel
theorem dX7_crowd_30 : decode cX7_crowd 30 = .ok (.istore 4, 2) := by decide +kernel
theorem dX7_crowd_32 : decode cX7_crowd 32 = .ok (.iconst 1, 1) := by decide +kernel
theorem dX7_crowd_33 : decode cX7_crowd 33 = .ok (.istore 5, 2) := by decide +kernel
theorem dX7_crowd_35 : decode cX7_crowd 35 = .ok (.iload 5, 2) := by decide +kernel
theorem dX7_crowd_37 : decode cX7_crowd 37 = .ok (.bipush 24, 2) := by decide +kernel
theorem dX7_crowd_39 : decode cX7_crowd 39 = .ok (.if_icmp .ge 24, 3) := by decide +kernel
theorem dX7_crowd_42 : decode cX7_crowd 42 = .ok (.aload_n 3, 1) := by decide +kernel
theorem dX7_crowd_43 : decode cX7_crowd 43 = .ok (.iload 5, 2) := by decide +kernel
theorem dX7_crowd_45 : decode cX7_crowd 45 = .ok (.iaload, 1) := by decide +kernel
theorem dX7_crowd_46 : decode cX7_crowd 46 = .ok (.aload_n 3, 1) := by decide +kernel
theorem dX7_crowd_47 : decode cX7_crowd 47 = .ok (.iload 4, 2) := by decide +kernel
theorem dX7_crowd_49 : decode cX7_crowd 49 = .ok (.iaload, 1) := by decide +kernel
theorem dX7_crowd_50 : decode cX7_crowd 50 = .ok (.if_icmp .le 7, 3) := by decide +kernel
theorem dX7_crowd_53 : decode cX7_crowd 53 = .ok (.iload 5, 2) := by decide +kernel
theorem dX7_crowd_55 : decode cX7_crowd 55 = .ok (.istore 4, 2) := by decide +kernel
theorem dX7_crowd_57 : decode cX7_crowd 57 = .ok (.iinc 5 1, 3) := by decide +kernel
theorem dX7_crowd_60 : decode cX7_crowd 60 = .ok (.goto (-25), 3) := by decide +kernel
theorem dX7_crowd_63 : decode cX7_crowd 63 = .ok (.iload_n 2, 1) := by decide +kernel
theorem dX7_crowd_64 : decode cX7_crowd 64 = .ok (.ifCond .ne 8, 3) := by decide +kernel
theorem dX7_crowd_67 : decode cX7_crowd 67 = .ok (.iload 4, 2) := by decide +kernel
theorem dX7_crowd_69 : decode cX7_crowd 69 = .ok (.goto 7, 3) := by decide +kernel
theorem dX7_crowd_72 : decode cX7_crowd 72 = .ok (.aload_n 3, 1) := by decide +kernel
theorem dX7_crowd_73 : decode cX7_crowd 73 = .ok (.iload 4, 2) := by decide +kernel
theorem dX7_crowd_75 : decode cX7_crowd 75 = .ok (.iaload, 1) := by decide +kernel
theorem dX7_crowd_76 : decode cX7_crowd 76 = .ok (.ireturn, 1) := by decide +kernel
theorem dX7_first_0 : decode cX7_first 0 = .ok (.iload_n 1, 1) := by decide +kernel
theorem dX7_first_1 : decode cX7_first 1 = .ok (.lookupswitch 43 #[(0, 27), (1, 35)], 27) := by decide +kernel
theorem dX7_first_28 : decode cX7_first 28 = .ok (.aload_n 0, 1) := by decide +kernel
theorem dX7_first_29 : decode cX7_first 29 = .ok (.invokevirtual 172, 3) := by decide +kernel
theorem dX7_first_32 : decode cX7_first 32 = .ok (.getfield 201, 3) := by decide +kernel
theorem dX7_first_35 : decode cX7_first 35 = .ok (.ireturn, 1) := by decide +kernel
theorem dX7_first_36 : decode cX7_first 36 = .ok (.aload_n 0, 1) := by decide +kernel
theorem dX7_first_37 : decode cX7_first 37 = .ok (.invokevirtual 172, 3) := by decide +kernel
theorem dX7_first_40 : decode cX7_first 40 = .ok (.getfield 204, 3) := by decide +kernel
theorem dX7_first_43 : decode cX7_first 43 = .ok (.ireturn, 1) := by decide +kernel
theorem dX7_first_44 : decode cX7_first 44 = .ok (.bipush (-2), 2) := by decide +kernel
theorem dX7_first_46 : decode cX7_first 46 = .ok (.ireturn, 1) := by decide +kernel
theorem dX7_carried_0 : decode cX7_carried 0 = .ok (.aload_n 0, 1) := by decide +kernel
theorem dX7_carried_1 : decode cX7_carried 1 = .ok (.iload_n 1, 1) := by decide +kernel
theorem dX7_carried_2 : decode cX7_carried 2 = .ok (.invokevirtual 127, 3) := by decide +kernel
theorem dX7_carried_5 : decode cX7_carried 5 = .ok (.ifCond .eq 15, 3) := by decide +kernel
theorem dX7_carried_8 : decode cX7_carried 8 = .ok (.aload_n 0, 1) := by decide +kernel
theorem dX7_carried_9 : decode cX7_carried 9 = .ok (.invokevirtual 172, 3) := by decide +kernel
theorem dX7_carried_12 : decode cX7_carried 12 = .ok (.getfield 207, 3) := by decide +kernel
theorem dX7_carried_15 : decode cX7_carried 15 = .ok (.iload_n 1, 1) := by decide +kernel
theorem dX7_carried_16 : decode cX7_carried 16 = .ok (.iaload, 1) := by decide +kernel
theorem dX7_carried_17 : decode cX7_carried 17 = .ok (.goto 5, 3) := by decide +kernel
theorem dX7_carried_20 : decode cX7_carried 20 = .ok (.bipush (-2), 2) := by decide +kernel
theorem dX7_carried_22 : decode cX7_carried 22 = .ok (.ireturn, 1) := by decide +kernel
theorem dX7_idle_0 : decode cX7_idle 0 = .ok (.iconst 1, 1) := by decide +kernel
theorem dX7_idle_1 : decode cX7_idle 1 = .ok (.aload_n 0, 1) := by decide +kernel
theorem dX7_idle_2 : decode cX7_idle 2 = .ok (.getfield 31, 3) := by decide +kernel
theorem dX7_idle_5 : decode cX7_idle 5 = .ok (.getfield 135, 3) := by decide +kernel
theorem dX7_idle_8 : decode cX7_idle 8 = .ok (.ishl, 1) := by decide +kernel
theorem dX7_idle_9 : decode cX7_idle 9 = .ok (.iconst 1, 1) := by decide +kernel
theorem dX7_idle_10 : decode cX7_idle 10 = .ok (.isub, 1) := by decide +kernel
theorem dX7_idle_11 : decode cX7_idle 11 = .ok (.aload_n 0, 1) := by decide +kernel
theorem dX7_idle_12 : decode cX7_idle 12 = .ok (.invokevirtual 172, 3) := by decide +kernel
theorem dX7_idle_15 : decode cX7_idle 15 = .ok (.getfield 210, 3) := by decide +kernel
theorem dX7_idle_18 : decode cX7_idle 18 = .ok (.iconst (-1), 1) := by decide +kernel
theorem dX7_idle_19 : decode cX7_idle 19 = .ok (.ixor, 1) := by decide +kernel
theorem dX7_idle_20 : decode cX7_idle 20 = .ok (.iand, 1) := by decide +kernel
theorem dX7_idle_21 : decode cX7_idle 21 = .ok (.ireturn, 1) := by decide +kernel
theorem dX7_left_0 : decode cX7_left 0 = .ok (.aload_n 0, 1) := by decide +kernel
theorem dX7_left_1 : decode cX7_left 1 = .ok (.aload_n 0, 1) := by decide +kernel
theorem dX7_left_2 : decode cX7_left 2 = .ok (.invokevirtual 172, 3) := by decide +kernel
theorem dX7_left_5 : decode cX7_left 5 = .ok (.invokevirtual 213, 3) := by decide +kernel
theorem dX7_left_8 : decode cX7_left 8 = .ok (.ireturn, 1) := by decide +kernel
theorem dX7_hang_0 : decode cX7_hang 0 = .ok (.aload_n 0, 1) := by decide +kernel
theorem dX7_hang_1 : decode cX7_hang 1 = .ok (.iload_n 1, 1) := by decide +kernel
theorem dX7_hang_2 : decode cX7_hang 2 = .ok (.invokevirtual 127, 3) := by decide +kernel
theorem dX7_hang_5 : decode cX7_hang 5 = .ok (.ifCond .eq 12, 3) := by decide +kernel
theorem dX7_hang_8 : decode cX7_hang 8 = .ok (.iload_n 2, 1) := by decide +kernel
theorem dX7_hang_9 : decode cX7_hang 9 = .ok (.iconst 0, 1) := by decide +kernel
theorem dX7_hang_10 : decode cX7_hang 10 = .ok (.iconst 1, 1) := by decide +kernel
theorem dX7_hang_11 : decode cX7_hang 11 = .ok (.invokestatic 107, 3) := by decide +kernel
theorem dX7_hang_14 : decode cX7_hang 14 = .ok (.ifCond .ne 6, 3) := by decide +kernel
theorem dX7_hang_17 : decode cX7_hang 17 = .ok (.bipush (-2), 2) := by decide +kernel
theorem dX7_hang_19 : decode cX7_hang 19 = .ok (.ireturn, 1) := by decide +kernel
theorem dX7_hang_20 : decode cX7_hang 20 = .ok (.aload_n 0, 1) := by decide +kernel
theorem dX7_hang_21 : decode cX7_hang 21 = .ok (.invokevirtual 217, 3) := by decide +kernel
theorem dX7_hang_24 : decode cX7_hang 24 = .ok (.iconst (-1), 1) := by decide +kernel
theorem dX7_hang_25 : decode cX7_hang 25 = .ok (.istore_n 3, 1) := by decide +kernel
theorem dX7_hang_26 : decode cX7_hang 26 = .ok (.iconst (-1), 1) := by decide +kernel
theorem dX7_hang_27 : decode cX7_hang 27 = .ok (.istore 4, 2) := by decide +kernel
theorem dX7_hang_29 : decode cX7_hang 29 = .ok (.iconst 0, 1) := by decide +kernel
theorem dX7_hang_30 : decode cX7_hang 30 = .ok (.istore 5, 2) := by decide +kernel
theorem dX7_hang_32 : decode cX7_hang 32 = .ok (.iload 5, 2) := by decide +kernel
theorem dX7_hang_34 : decode cX7_hang 34 = .ok (.bipush 24, 2) := by decide +kernel
theorem dX7_hang_36 : decode cX7_hang 36 = .ok (.if_icmp .ge 70, 3) := by decide +kernel
theorem dX7_hang_39 : decode cX7_hang 39 = .ok (.aload_n 0, 1) := by decide +kernel
theorem dX7_hang_40 : decode cX7_hang 40 = .ok (.iload 5, 2) := by decide +kernel
theorem dX7_hang_42 : decode cX7_hang 42 = .ok (.iload_n 1, 1) := by decide +kernel
theorem dX7_hang_43 : decode cX7_hang 43 = .ok (.invokevirtual 220, 3) := by decide +kernel
theorem dX7_hang_46 : decode cX7_hang 46 = .ok (.ifCond .eq 6, 3) := by decide +kernel
theorem dX7_hang_49 : decode cX7_hang 49 = .ok (.goto 51, 3) := by decide +kernel
theorem dX7_hang_52 : decode cX7_hang 52 = .ok (.aload_n 0, 1) := by decide +kernel
theorem dX7_hang_53 : decode cX7_hang 53 = .ok (.getfield 73, 3) := by decide +kernel
theorem dX7_hang_56 : decode cX7_hang 56 = .ok (.getfield 224, 3) := by decide +kernel
theorem dX7_hang_59 : decode cX7_hang 59 = .ok (.iload_n 1, 1) := by decide +kernel
theorem dX7_hang_60 : decode cX7_hang 60 = .ok (.iload 5, 2) := by decide +kernel
theorem dX7_hang_62 : decode cX7_hang 62 = .ok (.iastore, 1) := by decide +kernel
theorem dX7_hang_63 : decode cX7_hang 63 = .ok (.aload_n 0, 1) := by decide +kernel
theorem dX7_hang_64 : decode cX7_hang 64 = .ok (.getfield 84, 3) := by decide +kernel
theorem dX7_hang_67 : decode cX7_hang 67 = .ok (.aload_n 0, 1) := by decide +kernel
theorem dX7_hang_68 : decode cX7_hang 68 = .ok (.getfield 73, 3) := by decide +kernel
theorem dX7_hang_71 : decode cX7_hang 71 = .ok (.bipush 23, 2) := by decide +kernel
theorem dX7_hang_73 : decode cX7_hang 73 = .ok (.invokevirtual 227, 3) := by decide +kernel
theorem dX7_hang_76 : decode cX7_hang 76 = .ok (.aload_n 0, 1) := by decide +kernel
theorem dX7_hang_77 : decode cX7_hang 77 = .ok (.getfield 84, 3) := by decide +kernel
theorem dX7_hang_80 : decode cX7_hang 80 = .ok (.invokevirtual 231, 3) := by decide +kernel
theorem dX7_hang_83 : decode cX7_hang 83 = .ok (.iload 4, 2) := by decide +kernel
theorem dX7_hang_85 : decode cX7_hang 85 = .ok (.if_icmp .le 15, 3) := by decide +kernel
theorem dX7_hang_88 : decode cX7_hang 88 = .ok (.iload 5, 2) := by decide +kernel
theorem dX7_hang_90 : decode cX7_hang 90 = .ok (.istore_n 3, 1) := by decide +kernel
theorem dX7_hang_91 : decode cX7_hang 91 = .ok (.aload_n 0, 1) := by decide +kernel
theorem dX7_hang_92 : decode cX7_hang 92 = .ok (.getfield 84, 3) := by decide +kernel
theorem dX7_hang_95 : decode cX7_hang 95 = .ok (.invokevirtual 231, 3) := by decide +kernel
theorem dX7_hang_98 : decode cX7_hang 98 = .ok (.istore 4, 2) := by decide +kernel
theorem dX7_hang_100 : decode cX7_hang 100 = .ok (.iinc 5 1, 3) := by decide +kernel
theorem dX7_hang_103 : decode cX7_hang 103 = .ok (.goto (-71), 3) := by decide +kernel
theorem dX7_hang_106 : decode cX7_hang 106 = .ok (.iload_n 2, 1) := by decide +kernel
theorem dX7_hang_107 : decode cX7_hang 107 = .ok (.ifCond .ne 7, 3) := by decide +kernel
theorem dX7_hang_110 : decode cX7_hang 110 = .ok (.iload_n 3, 1) := by decide +kernel
theorem dX7_hang_111 : decode cX7_hang 111 = .ok (.goto 5, 3) := by decide +kernel
theorem dX7_hang_114 : decode cX7_hang 114 = .ok (.iload 4, 2) := by decide +kernel
theorem dX7_hang_116 : decode cX7_hang 116 = .ok (.ireturn, 1) := by decide +kernel
theorem dX7_pace_0 : decode cX7_pace 0 = .ok (.iload_n 1, 1) := by decide +kernel
theorem dX7_pace_1 : decode cX7_pace 1 = .ok (.invokestatic 138, 3) := by decide +kernel
theorem dX7_pace_4 : decode cX7_pace 4 = .ok (.ifCond .eq 12, 3) := by decide +kernel
theorem dX7_pace_7 : decode cX7_pace 7 = .ok (.iload_n 2, 1) := by decide +kernel
theorem dX7_pace_8 : decode cX7_pace 8 = .ok (.iconst 0, 1) := by decide +kernel
theorem dX7_pace_9 : decode cX7_pace 9 = .ok (.iconst 1, 1) := by decide +kernel
theorem dX7_pace_10 : decode cX7_pace 10 = .ok (.invokestatic 107, 3) := by decide +kernel
theorem dX7_pace_13 : decode cX7_pace 13 = .ok (.ifCond .ne 6, 3) := by decide +kernel
theorem dX7_pace_16 : decode cX7_pace 16 = .ok (.bipush (-2), 2) := by decide +kernel
theorem dX7_pace_18 : decode cX7_pace 18 = .ok (.ireturn, 1) := by decide +kernel
theorem dX7_pace_19 : decode cX7_pace 19 = .ok (.aload_n 0, 1) := by decide +kernel
theorem dX7_pace_20 : decode cX7_pace 20 = .ok (.invokevirtual 217, 3) := by decide +kernel
theorem dX7_pace_23 : decode cX7_pace 23 = .ok (.iconst (-1), 1) := by decide +kernel
theorem dX7_pace_24 : decode cX7_pace 24 = .ok (.istore_n 3, 1) := by decide +kernel
theorem dX7_pace_25 : decode cX7_pace 25 = .ok (.iconst (-1), 1) := by decide +kernel
theorem dX7_pace_26 : decode cX7_pace 26 = .ok (.istore 4, 2) := by decide +kernel
theorem dX7_pace_28 : decode cX7_pace 28 = .ok (.iconst 0, 1) := by decide +kernel
theorem dX7_pace_29 : decode cX7_pace 29 = .ok (.istore 5, 2) := by decide +kernel
theorem dX7_pace_31 : decode cX7_pace 31 = .ok (.iload 5, 2) := by decide +kernel
theorem dX7_pace_33 : decode cX7_pace 33 = .ok (.iconst 3, 1) := by decide +kernel
theorem dX7_pace_34 : decode cX7_pace 34 = .ok (.if_icmp .gt 57, 3) := by decide +kernel
theorem dX7_pace_37 : decode cX7_pace 37 = .ok (.aload_n 0, 1) := by decide +kernel
theorem dX7_pace_38 : decode cX7_pace 38 = .ok (.getfield 73, 3) := by decide +kernel
theorem dX7_pace_41 : decode cX7_pace 41 = .ok (.getfield 234, 3) := by decide +kernel
theorem dX7_pace_44 : decode cX7_pace 44 = .ok (.iload_n 1, 1) := by decide +kernel
theorem dX7_pace_45 : decode cX7_pace 45 = .ok (.iload 5, 2) := by decide +kernel
theorem dX7_pace_47 : decode cX7_pace 47 = .ok (.iastore, 1) := by decide +kernel
theorem dX7_pace_48 : decode cX7_pace 48 = .ok (.aload_n 0, 1) := by decide +kernel
theorem dX7_pace_49 : decode cX7_pace 49 = .ok (.getfield 84, 3) := by decide +kernel
theorem dX7_pace_52 : decode cX7_pace 52 = .ok (.aload_n 0, 1) := by decide +kernel
theorem dX7_pace_53 : decode cX7_pace 53 = .ok (.getfield 73, 3) := by decide +kernel
theorem dX7_pace_56 : decode cX7_pace 56 = .ok (.bipush 23, 2) := by decide +kernel
theorem dX7_pace_58 : decode cX7_pace 58 = .ok (.invokevirtual 227, 3) := by decide +kernel
theorem dX7_pace_61 : decode cX7_pace 61 = .ok (.aload_n 0, 1) := by decide +kernel
theorem dX7_pace_62 : decode cX7_pace 62 = .ok (.getfield 84, 3) := by decide +kernel
theorem dX7_pace_65 : decode cX7_pace 65 = .ok (.invokevirtual 231, 3) := by decide +kernel
theorem dX7_pace_68 : decode cX7_pace 68 = .ok (.iload 4, 2) := by decide +kernel
theorem dX7_pace_70 : decode cX7_pace 70 = .ok (.if_icmp .le 15, 3) := by decide +kernel
theorem dX7_pace_73 : decode cX7_pace 73 = .ok (.iload 5, 2) := by decide +kernel
theorem dX7_pace_75 : decode cX7_pace 75 = .ok (.istore_n 3, 1) := by decide +kernel
theorem dX7_pace_76 : decode cX7_pace 76 = .ok (.aload_n 0, 1) := by decide +kernel
theorem dX7_pace_77 : decode cX7_pace 77 = .ok (.getfield 84, 3) := by decide +kernel
theorem dX7_pace_80 : decode cX7_pace 80 = .ok (.invokevirtual 231, 3) := by decide +kernel
theorem dX7_pace_83 : decode cX7_pace 83 = .ok (.istore 4, 2) := by decide +kernel
theorem dX7_pace_85 : decode cX7_pace 85 = .ok (.iinc 5 1, 3) := by decide +kernel
theorem dX7_pace_88 : decode cX7_pace 88 = .ok (.goto (-57), 3) := by decide +kernel
theorem dX7_pace_91 : decode cX7_pace 91 = .ok (.iload_n 2, 1) := by decide +kernel
theorem dX7_pace_92 : decode cX7_pace 92 = .ok (.ifCond .ne 7, 3) := by decide +kernel
theorem dX7_pace_95 : decode cX7_pace 95 = .ok (.iload_n 3, 1) := by decide +kernel
theorem dX7_pace_96 : decode cX7_pace 96 = .ok (.goto 5, 3) := by decide +kernel
theorem dX7_pace_99 : decode cX7_pace 99 = .ok (.iload 4, 2) := by decide +kernel
theorem dX7_pace_101 : decode cX7_pace 101 = .ok (.ireturn, 1) := by decide +kernel
theorem dX7_cheap_0 : decode cX7_cheap 0 = .ok (.iload_n 1, 1) := by decide +kernel
theorem dX7_cheap_1 : decode cX7_cheap 1 = .ok (.invokestatic 138, 3) := by decide +kernel
theorem dX7_cheap_4 : decode cX7_cheap 4 = .ok (.ifCond .eq 12, 3) := by decide +kernel
theorem dX7_cheap_7 : decode cX7_cheap 7 = .ok (.iload_n 2, 1) := by decide +kernel
theorem dX7_cheap_8 : decode cX7_cheap 8 = .ok (.iconst 0, 1) := by decide +kernel
theorem dX7_cheap_9 : decode cX7_cheap 9 = .ok (.iconst 1, 1) := by decide +kernel
theorem dX7_cheap_10 : decode cX7_cheap 10 = .ok (.invokestatic 107, 3) := by decide +kernel
theorem dX7_cheap_13 : decode cX7_cheap 13 = .ok (.ifCond .ne 6, 3) := by decide +kernel
theorem dX7_cheap_16 : decode cX7_cheap 16 = .ok (.bipush (-2), 2) := by decide +kernel
theorem dX7_cheap_18 : decode cX7_cheap 18 = .ok (.ireturn, 1) := by decide +kernel
theorem dX7_cheap_19 : decode cX7_cheap 19 = .ok (.aload_n 0, 1) := by decide +kernel
theorem dX7_cheap_20 : decode cX7_cheap 20 = .ok (.invokevirtual 217, 3) := by decide +kernel
theorem dX7_cheap_23 : decode cX7_cheap 23 = .ok (.iconst (-1), 1) := by decide +kernel
theorem dX7_cheap_24 : decode cX7_cheap 24 = .ok (.istore_n 3, 1) := by decide +kernel
theorem dX7_cheap_25 : decode cX7_cheap 25 = .ok (.ldc 239, 2) := by decide +kernel
theorem dX7_cheap_27 : decode cX7_cheap 27 = .ok (.istore 4, 2) := by decide +kernel
theorem dX7_cheap_29 : decode cX7_cheap 29 = .ok (.iconst 0, 1) := by decide +kernel
theorem dX7_cheap_30 : decode cX7_cheap 30 = .ok (.istore 5, 2) := by decide +kernel
theorem dX7_cheap_32 : decode cX7_cheap 32 = .ok (.iload 5, 2) := by decide +kernel
theorem dX7_cheap_34 : decode cX7_cheap 34 = .ok (.iconst 3, 1) := by decide +kernel
theorem dX7_cheap_35 : decode cX7_cheap 35 = .ok (.if_icmp .gt 56, 3) := by decide +kernel
theorem dX7_cheap_38 : decode cX7_cheap 38 = .ok (.aload_n 0, 1) := by decide +kernel
theorem dX7_cheap_39 : decode cX7_cheap 39 = .ok (.getfield 73, 3) := by decide +kernel
theorem dX7_cheap_42 : decode cX7_cheap 42 = .ok (.getfield 234, 3) := by decide +kernel
theorem dX7_cheap_45 : decode cX7_cheap 45 = .ok (.iload_n 1, 1) := by decide +kernel
theorem dX7_cheap_46 : decode cX7_cheap 46 = .ok (.iload 5, 2) := by decide +kernel
theorem dX7_cheap_48 : decode cX7_cheap 48 = .ok (.iastore, 1) := by decide +kernel
theorem dX7_cheap_49 : decode cX7_cheap 49 = .ok (.aload_n 0, 1) := by decide +kernel
theorem dX7_cheap_50 : decode cX7_cheap 50 = .ok (.getfield 84, 3) := by decide +kernel
theorem dX7_cheap_53 : decode cX7_cheap 53 = .ok (.aload_n 0, 1) := by decide +kernel
theorem dX7_cheap_54 : decode cX7_cheap 54 = .ok (.getfield 73, 3) := by decide +kernel
theorem dX7_cheap_57 : decode cX7_cheap 57 = .ok (.bipush 23, 2) := by decide +kernel
theorem dX7_cheap_59 : decode cX7_cheap 59 = .ok (.invokevirtual 227, 3) := by decide +kernel
theorem dX7_cheap_62 : decode cX7_cheap 62 = .ok (.aload_n 0, 1) := by decide +kernel
theorem dX7_cheap_63 : decode cX7_cheap 63 = .ok (.getfield 84, 3) := by decide +kernel
theorem dX7_cheap_66 : decode cX7_cheap 66 = .ok (.invokevirtual 197, 3) := by decide +kernel
theorem dX7_cheap_69 : decode cX7_cheap 69 = .ok (.istore 6, 2) := by decide +kernel
theorem dX7_cheap_71 : decode cX7_cheap 71 = .ok (.iload 6, 2) := by decide +kernel
theorem dX7_cheap_73 : decode cX7_cheap 73 = .ok (.iload 4, 2) := by decide +kernel
theorem dX7_cheap_75 : decode cX7_cheap 75 = .ok (.if_icmp .ge 10, 3) := by decide +kernel
theorem dX7_cheap_78 : decode cX7_cheap 78 = .ok (.iload 5, 2) := by decide +kernel
theorem dX7_cheap_80 : decode cX7_cheap 80 = .ok (.istore_n 3, 1) := by decide +kernel
theorem dX7_cheap_81 : decode cX7_cheap 81 = .ok (.iload 6, 2) := by decide +kernel
theorem dX7_cheap_83 : decode cX7_cheap 83 = .ok (.istore 4, 2) := by decide +kernel
theorem dX7_cheap_85 : decode cX7_cheap 85 = .ok (.iinc 5 1, 3) := by decide +kernel
theorem dX7_cheap_88 : decode cX7_cheap 88 = .ok (.goto (-56), 3) := by decide +kernel
theorem dX7_cheap_91 : decode cX7_cheap 91 = .ok (.iload_n 2, 1) := by decide +kernel
theorem dX7_cheap_92 : decode cX7_cheap 92 = .ok (.ifCond .ne 7, 3) := by decide +kernel
theorem dX7_cheap_95 : decode cX7_cheap 95 = .ok (.iload_n 3, 1) := by decide +kernel
theorem dX7_cheap_96 : decode cX7_cheap 96 = .ok (.goto 5, 3) := by decide +kernel
theorem dX7_cheap_99 : decode cX7_cheap 99 = .ok (.iload 4, 2) := by decide +kernel
theorem dX7_cheap_101 : decode cX7_cheap 101 = .ok (.ireturn, 1) := by decide +kernel
theorem dX7_spare_0 : decode cX7_spare 0 = .ok (.iload_n 1, 1) := by decide +kernel
theorem dX7_spare_1 : decode cX7_spare 1 = .ok (.iconst (-1), 1) := by decide +kernel
theorem dX7_spare_2 : decode cX7_spare 2 = .ok (.iconst 1, 1) := by decide +kernel
theorem dX7_spare_3 : decode cX7_spare 3 = .ok (.invokestatic 107, 3) := by decide +kernel
theorem dX7_spare_6 : decode cX7_spare 6 = .ok (.ifCond .ne 6, 3) := by decide +kernel
theorem dX7_spare_9 : decode cX7_spare 9 = .ok (.bipush (-2), 2) := by decide +kernel
theorem dX7_spare_11 : decode cX7_spare 11 = .ok (.ireturn, 1) := by decide +kernel
theorem dX7_spare_12 : decode cX7_spare 12 = .ok (.aload_n 0, 1) := by decide +kernel
theorem dX7_spare_13 : decode cX7_spare 13 = .ok (.invokevirtual 240, 3) := by decide +kernel
theorem dX7_spare_16 : decode cX7_spare 16 = .ok (.istore_n 2, 1) := by decide +kernel
theorem dX7_spare_17 : decode cX7_spare 17 = .ok (.iload_n 2, 1) := by decide +kernel
theorem dX7_spare_18 : decode cX7_spare 18 = .ok (.iconst (-1), 1) := by decide +kernel
theorem dX7_spare_19 : decode cX7_spare 19 = .ok (.if_icmp .ne 5, 3) := by decide +kernel
theorem dX7_spare_22 : decode cX7_spare 22 = .ok (.iconst (-1), 1) := by decide +kernel
theorem dX7_spare_23 : decode cX7_spare 23 = .ok (.ireturn, 1) := by decide +kernel
theorem dX7_spare_24 : decode cX7_spare 24 = .ok (.iload_n 1, 1) := by decide +kernel
theorem dX7_spare_25 : decode cX7_spare 25 = .ok (.iconst (-1), 1) := by decide +kernel
theorem dX7_spare_26 : decode cX7_spare 26 = .ok (.if_icmp .ne 10, 3) := by decide +kernel
theorem dX7_spare_29 : decode cX7_spare 29 = .ok (.iload_n 2, 1) := by decide +kernel
theorem dX7_spare_30 : decode cX7_spare 30 = .ok (.invokestatic 243, 3) := by decide +kernel
theorem dX7_spare_33 : decode cX7_spare 33 = .ok (.goto 8, 3) := by decide +kernel
theorem dX7_spare_36 : decode cX7_spare 36 = .ok (.iload_n 2, 1) := by decide +kernel
theorem dX7_spare_37 : decode cX7_spare 37 = .ok (.iload_n 1, 1) := by decide +kernel
theorem dX7_spare_38 : decode cX7_spare 38 = .ok (.invokestatic 246, 3) := by decide +kernel
theorem dX7_spare_41 : decode cX7_spare 41 = .ok (.ireturn, 1) := by decide +kernel
theorem dX7_seen_0 : decode cX7_seen 0 = .ok (.iload_n 1, 1) := by decide +kernel
theorem dX7_seen_1 : decode cX7_seen 1 = .ok (.invokestatic 138, 3) := by decide +kernel
theorem dX7_seen_4 : decode cX7_seen 4 = .ok (.ifCond .eq 20, 3) := by decide +kernel
theorem dX7_seen_7 : decode cX7_seen 7 = .ok (.iload_n 2, 1) := by decide +kernel
theorem dX7_seen_8 : decode cX7_seen 8 = .ok (.invokestatic 191, 3) := by decide +kernel
theorem dX7_seen_11 : decode cX7_seen 11 = .ok (.ifCond .eq 13, 3) := by decide +kernel
theorem dX7_seen_14 : decode cX7_seen 14 = .ok (.iload_n 3, 1) := by decide +kernel
theorem dX7_seen_15 : decode cX7_seen 15 = .ok (.iconst 0, 1) := by decide +kernel
theorem dX7_seen_16 : decode cX7_seen 16 = .ok (.bipush 108, 2) := by decide +kernel
theorem dX7_seen_18 : decode cX7_seen 18 = .ok (.invokestatic 107, 3) := by decide +kernel
theorem dX7_seen_21 : decode cX7_seen 21 = .ok (.ifCond .ne 6, 3) := by decide +kernel
theorem dX7_seen_24 : decode cX7_seen 24 = .ok (.bipush (-2), 2) := by decide +kernel
theorem dX7_seen_26 : decode cX7_seen 26 = .ok (.ireturn, 1) := by decide +kernel
theorem dX7_seen_27 : decode cX7_seen 27 = .ok (.aload_n 0, 1) := by decide +kernel
theorem dX7_seen_28 : decode cX7_seen 28 = .ok (.getfield 50, 3) := by decide +kernel
theorem dX7_seen_31 : decode cX7_seen 31 = .ok (.invokevirtual 249, 3) := by decide +kernel
theorem dX7_seen_34 : decode cX7_seen 34 = .ok (.ifCond .ne 6, 3) := by decide +kernel
theorem dX7_seen_37 : decode cX7_seen 37 = .ok (.bipush (-4), 2) := by decide +kernel
theorem dX7_seen_39 : decode cX7_seen 39 = .ok (.ireturn, 1) := by decide +kernel
theorem dX7_seen_40 : decode cX7_seen 40 = .ok (.aload_n 0, 1) := by decide +kernel
theorem dX7_seen_41 : decode cX7_seen 41 = .ok (.getfield 50, 3) := by decide +kernel
theorem dX7_seen_44 : decode cX7_seen 44 = .ok (.iload_n 1, 1) := by decide +kernel
theorem dX7_seen_45 : decode cX7_seen 45 = .ok (.iload_n 2, 1) := by decide +kernel
theorem dX7_seen_46 : decode cX7_seen 46 = .ok (.iload_n 3, 1) := by decide +kernel
theorem dX7_seen_47 : decode cX7_seen 47 = .ok (.invokevirtual 250, 3) := by decide +kernel
theorem dX7_seen_50 : decode cX7_seen 50 = .ok (.aload_n 0, 1) := by decide +kernel
theorem dX7_seen_51 : decode cX7_seen 51 = .ok (.getfield 50, 3) := by decide +kernel
theorem dX7_seen_54 : decode cX7_seen 54 = .ok (.getfield 251, 3) := by decide +kernel
theorem dX7_seen_57 : decode cX7_seen 57 = .ok (.ireturn, 1) := by decide +kernel
theorem dX7_forget_0 : decode cX7_forget 0 = .ok (.aload_n 0, 1) := by decide +kernel
theorem dX7_forget_1 : decode cX7_forget 1 = .ok (.getfield 50, 3) := by decide +kernel
theorem dX7_forget_4 : decode cX7_forget 4 = .ok (.getfield 251, 3) := by decide +kernel
theorem dX7_forget_7 : decode cX7_forget 7 = .ok (.istore_n 1, 1) := by decide +kernel
theorem dX7_forget_8 : decode cX7_forget 8 = .ok (.aload_n 0, 1) := by decide +kernel
theorem dX7_forget_9 : decode cX7_forget 9 = .ok (.getfield 50, 3) := by decide +kernel
theorem dX7_forget_12 : decode cX7_forget 12 = .ok (.iconst 0, 1) := by decide +kernel
theorem dX7_forget_13 : decode cX7_forget 13 = .ok (.putfield 251, 3) := by decide +kernel
theorem dX7_forget_16 : decode cX7_forget 16 = .ok (.iload_n 1, 1) := by decide +kernel
theorem dX7_forget_17 : decode cX7_forget 17 = .ok (.ireturn, 1) := by decide +kernel
theorem dX7_never_0 : decode cX7_never 0 = .ok (.aload_n 0, 1) := by decide +kernel
theorem dX7_never_1 : decode cX7_never 1 = .ok (.invokevirtual 217, 3) := by decide +kernel
theorem dX7_never_4 : decode cX7_never 4 = .ok (.iconst 0, 1) := by decide +kernel
theorem dX7_never_5 : decode cX7_never 5 = .ok (.istore_n 1, 1) := by decide +kernel
theorem dX7_never_6 : decode cX7_never 6 = .ok (.iconst 0, 1) := by decide +kernel
theorem dX7_never_7 : decode cX7_never 7 = .ok (.istore_n 2, 1) := by decide +kernel
theorem dX7_never_8 : decode cX7_never 8 = .ok (.iload_n 2, 1) := by decide +kernel
theorem dX7_never_9 : decode cX7_never 9 = .ok (.aload_n 0, 1) := by decide +kernel
theorem dX7_never_10 : decode cX7_never 10 = .ok (.getfield 43, 3) := by decide +kernel
theorem dX7_never_13 : decode cX7_never 13 = .ok (.getfield 152, 3) := by decide +kernel
theorem dX7_never_16 : decode cX7_never 16 = .ok (.if_icmp .ge 42, 3) := by decide +kernel
theorem dX7_never_19 : decode cX7_never 19 = .ok (.aload_n 0, 1) := by decide +kernel
theorem dX7_never_20 : decode cX7_never 20 = .ok (.getfield 73, 3) := by decide +kernel
theorem dX7_never_23 : decode cX7_never 23 = .ok (.aload_n 0, 1) := by decide +kernel
theorem dX7_never_24 : decode cX7_never 24 = .ok (.getfield 43, 3) := by decide +kernel
theorem dX7_never_27 : decode cX7_never 27 = .ok (.sipush 255, 3) := by decide +kernel
theorem dX7_never_30 : decode cX7_never 30 = .ok (.iconst 1, 1) := by decide +kernel
theorem dX7_never_31 : decode cX7_never 31 = .ok (.iload_n 2, 1) := by decide +kernel
theorem dX7_never_32 : decode cX7_never 32 = .ok (.ishl, 1) := by decide +kernel
theorem dX7_never_33 : decode cX7_never 33 = .ok (.iconst (-1), 1) := by decide +kernel
theorem dX7_never_34 : decode cX7_never 34 = .ok (.ixor, 1) := by decide +kernel
theorem dX7_never_35 : decode cX7_never 35 = .ok (.iand, 1) := by decide +kernel
theorem dX7_never_36 : decode cX7_never 36 = .ok (.invokevirtual 252, 3) := by decide +kernel
theorem dX7_never_39 : decode cX7_never 39 = .ok (.aload_n 0, 1) := by decide +kernel
theorem dX7_never_40 : decode cX7_never 40 = .ok (.invokevirtual 256, 3) := by decide +kernel
theorem dX7_never_43 : decode cX7_never 43 = .ok (.ifCond .eq 9, 3) := by decide +kernel
theorem dX7_never_46 : decode cX7_never 46 = .ok (.iload_n 1, 1) := by decide +kernel
theorem dX7_never_47 : decode cX7_never 47 = .ok (.iconst 1, 1) := by decide +kernel
theorem dX7_never_48 : decode cX7_never 48 = .ok (.iload_n 2, 1) := by decide +kernel
theorem dX7_never_49 : decode cX7_never 49 = .ok (.ishl, 1) := by decide +kernel
theorem dX7_never_50 : decode cX7_never 50 = .ok (.ior, 1) := by decide +kernel
theorem dX7_never_51 : decode cX7_never 51 = .ok (.istore_n 1, 1) := by decide +kernel
theorem dX7_never_52 : decode cX7_never 52 = .ok (.iinc 2 1, 3) := by decide +kernel
theorem dX7_never_55 : decode cX7_never 55 = .ok (.goto (-47), 3) := by decide +kernel
theorem dX7_never_58 : decode cX7_never 58 = .ok (.iload_n 1, 1) := by decide +kernel
theorem dX7_never_59 : decode cX7_never 59 = .ok (.ireturn, 1) := by decide +kernel
theorem dX7_was_0 : decode cX7_was 0 = .ok (.aload_n 0, 1) := by decide +kernel
theorem dX7_was_1 : decode cX7_was 1 = .ok (.iload_n 1, 1) := by decide +kernel
theorem dX7_was_2 : decode cX7_was 2 = .ok (.invokevirtual 127, 3) := by decide +kernel
theorem dX7_was_5 : decode cX7_was 5 = .ok (.ifCond .eq 12, 3) := by decide +kernel
theorem dX7_was_8 : decode cX7_was 8 = .ok (.iload_n 2, 1) := by decide +kernel
theorem dX7_was_9 : decode cX7_was 9 = .ok (.iconst 0, 1) := by decide +kernel
theorem dX7_was_10 : decode cX7_was 10 = .ok (.iconst 1, 1) := by decide +kernel
theorem dX7_was_11 : decode cX7_was 11 = .ok (.invokestatic 107, 3) := by decide +kernel
theorem dX7_was_14 : decode cX7_was 14 = .ok (.ifCond .ne 6, 3) := by decide +kernel
theorem dX7_was_17 : decode cX7_was 17 = .ok (.bipush (-2), 2) := by decide +kernel
theorem dX7_was_19 : decode cX7_was 19 = .ok (.ireturn, 1) := by decide +kernel
theorem dX7_was_20 : decode cX7_was 20 = .ok (.iload_n 2, 1) := by decide +kernel
theorem dX7_was_21 : decode cX7_was 21 = .ok (.ifCond .ne 11, 3) := by decide +kernel
theorem dX7_was_24 : decode cX7_was 24 = .ok (.aload_n 0, 1) := by decide +kernel
theorem dX7_was_25 : decode cX7_was 25 = .ok (.iload_n 1, 1) := by decide +kernel
theorem dX7_was_26 : decode cX7_was 26 = .ok (.invokevirtual 259, 3) := by decide +kernel
theorem dX7_was_29 : decode cX7_was 29 = .ok (.goto 8, 3) := by decide +kernel
theorem dX7_was_32 : decode cX7_was 32 = .ok (.aload_n 0, 1) := by decide +kernel
theorem dX7_was_33 : decode cX7_was 33 = .ok (.iload_n 1, 1) := by decide +kernel
theorem dX7_was_34 : decode cX7_was 34 = .ok (.invokevirtual 262, 3) := by decide +kernel
theorem dX7_was_37 : decode cX7_was 37 = .ok (.ireturn, 1) := by decide +kernel
theorem dX7_ask_0 : decode cX7_ask 0 = .ok (.aload_n 0, 1) := by decide +kernel
theorem dX7_ask_1 : decode cX7_ask 1 = .ok (.iload_n 1, 1) := by decide +kernel
theorem dX7_ask_2 : decode cX7_ask 2 = .ok (.invokevirtual 127, 3) := by decide +kernel
theorem dX7_ask_5 : decode cX7_ask 5 = .ok (.ifCond .ne 6, 3) := by decide +kernel
theorem dX7_ask_8 : decode cX7_ask 8 = .ok (.bipush (-2), 2) := by decide +kernel
theorem dX7_ask_10 : decode cX7_ask 10 = .ok (.ireturn, 1) := by decide +kernel
theorem dX7_ask_11 : decode cX7_ask 11 = .ok (.aload_n 0, 1) := by decide +kernel
theorem dX7_ask_12 : decode cX7_ask 12 = .ok (.iload_n 1, 1) := by decide +kernel
theorem dX7_ask_13 : decode cX7_ask 13 = .ok (.invokevirtual 265, 3) := by decide +kernel
theorem dX7_ask_16 : decode cX7_ask 16 = .ok (.iconst 0, 1) := by decide +kernel
theorem dX7_ask_17 : decode cX7_ask 17 = .ok (.istore_n 2, 1) := by decide +kernel
theorem dX7_ask_18 : decode cX7_ask 18 = .ok (.aload_n 0, 1) := by decide +kernel
theorem dX7_ask_19 : decode cX7_ask 19 = .ok (.iconst 0, 1) := by decide +kernel
theorem dX7_ask_20 : decode cX7_ask 20 = .ok (.invokevirtual 268, 3) := by decide +kernel
theorem dX7_ask_23 : decode cX7_ask 23 = .ok (.istore_n 3, 1) := by decide +kernel
theorem dX7_ask_24 : decode cX7_ask 24 = .ok (.iconst 1, 1) := by decide +kernel
theorem dX7_ask_25 : decode cX7_ask 25 = .ok (.istore 4, 2) := by decide +kernel
theorem dX7_ask_27 : decode cX7_ask 27 = .ok (.iload 4, 2) := by decide +kernel
theorem dX7_ask_29 : decode cX7_ask 29 = .ok (.bipush 24, 2) := by decide +kernel
theorem dX7_ask_31 : decode cX7_ask 31 = .ok (.if_icmp .ge 29, 3) := by decide +kernel
theorem dX7_ask_34 : decode cX7_ask 34 = .ok (.aload_n 0, 1) := by decide +kernel
theorem dX7_ask_35 : decode cX7_ask 35 = .ok (.iload 4, 2) := by decide +kernel
theorem dX7_ask_37 : decode cX7_ask 37 = .ok (.invokevirtual 268, 3) := by decide +kernel
theorem dX7_ask_40 : decode cX7_ask 40 = .ok (.istore 5, 2) := by decide +kernel
theorem dX7_ask_42 : decode cX7_ask 42 = .ok (.iload 5, 2) := by decide +kernel
theorem dX7_ask_44 : decode cX7_ask 44 = .ok (.iload_n 3, 1) := by decide +kernel
theorem dX7_ask_45 : decode cX7_ask 45 = .ok (.if_icmp .ge 9, 3) := by decide +kernel
theorem dX7_ask_48 : decode cX7_ask 48 = .ok (.iload 4, 2) := by decide +kernel
theorem dX7_ask_50 : decode cX7_ask 50 = .ok (.istore_n 2, 1) := by decide +kernel
theorem dX7_ask_51 : decode cX7_ask 51 = .ok (.iload 5, 2) := by decide +kernel
theorem dX7_ask_53 : decode cX7_ask 53 = .ok (.istore_n 3, 1) := by decide +kernel
theorem dX7_ask_54 : decode cX7_ask 54 = .ok (.iinc 4 1, 3) := by decide +kernel
theorem dX7_ask_57 : decode cX7_ask 57 = .ok (.goto (-30), 3) := by decide +kernel
theorem dX7_ask_60 : decode cX7_ask 60 = .ok (.iload_n 2, 1) := by decide +kernel
theorem dX7_ask_61 : decode cX7_ask 61 = .ok (.ireturn, 1) := by decide +kernel
theorem dX7_chance_0 : decode cX7_chance 0 = .ok (.iload_n 1, 1) := by decide +kernel
theorem dX7_chance_1 : decode cX7_chance 1 = .ok (.iconst 0, 1) := by decide +kernel
theorem dX7_chance_2 : decode cX7_chance 2 = .ok (.bipush 16, 2) := by decide +kernel
theorem dX7_chance_4 : decode cX7_chance 4 = .ok (.invokestatic 107, 3) := by decide +kernel
theorem dX7_chance_7 : decode cX7_chance 7 = .ok (.ifCond .eq 19, 3) := by decide +kernel
theorem dX7_chance_10 : decode cX7_chance 10 = .ok (.iload_n 2, 1) := by decide +kernel
theorem dX7_chance_11 : decode cX7_chance 11 = .ok (.invokestatic 138, 3) := by decide +kernel
theorem dX7_chance_14 : decode cX7_chance 14 = .ok (.ifCond .eq 12, 3) := by decide +kernel
theorem dX7_chance_17 : decode cX7_chance 17 = .ok (.iload_n 3, 1) := by decide +kernel
theorem dX7_chance_18 : decode cX7_chance 18 = .ok (.iconst 0, 1) := by decide +kernel
theorem dX7_chance_19 : decode cX7_chance 19 = .ok (.iconst 1, 1) := by decide +kernel
theorem dX7_chance_20 : decode cX7_chance 20 = .ok (.invokestatic 107, 3) := by decide +kernel
theorem dX7_chance_23 : decode cX7_chance 23 = .ok (.ifCond .ne 7, 3) := by decide +kernel
theorem dX7_chance_26 : decode cX7_chance 26 = .ok (.ldc2_w 273, 3) := by decide +kernel
theorem dX7_chance_29 : decode cX7_chance 29 = .ok (.lreturn, 1) := by decide +kernel
theorem dX7_chance_30 : decode cX7_chance 30 = .ok (.aload_n 0, 1) := by decide +kernel
theorem dX7_chance_31 : decode cX7_chance 31 = .ok (.iload_n 1, 1) := by decide +kernel
theorem dX7_chance_32 : decode cX7_chance 32 = .ok (.iload_n 2, 1) := by decide +kernel
theorem dX7_chance_33 : decode cX7_chance 33 = .ok (.invokevirtual 275, 3) := by decide +kernel
theorem dX7_chance_36 : decode cX7_chance 36 = .ok (.lstore 4, 2) := by decide +kernel
theorem dX7_chance_38 : decode cX7_chance 38 = .ok (.lconst 1, 1) := by decide +kernel
theorem dX7_chance_39 : decode cX7_chance 39 = .ok (.iconst 4, 1) := by decide +kernel
theorem dX7_chance_40 : decode cX7_chance 40 = .ok (.aload_n 0, 1) := by decide +kernel
theorem dX7_chance_41 : decode cX7_chance 41 = .ok (.getfield 43, 3) := by decide +kernel
theorem dX7_chance_44 : decode cX7_chance 44 = .ok (.getfield 152, 3) := by decide +kernel
theorem dX7_chance_47 : decode cX7_chance 47 = .ok (.imul, 1) := by decide +kernel
theorem dX7_chance_48 : decode cX7_chance 48 = .ok (.lshl, 1) := by decide +kernel
theorem dX7_chance_49 : decode cX7_chance 49 = .ok (.lstore 6, 2) := by decide +kernel
theorem dX7_chance_51 : decode cX7_chance 51 = .ok (.lload 4, 2) := by decide +kernel
theorem dX7_chance_53 : decode cX7_chance 53 = .ok (.lconst 0, 1) := by decide +kernel
theorem dX7_chance_54 : decode cX7_chance 54 = .ok (.lcmp, 1) := by decide +kernel
theorem dX7_chance_55 : decode cX7_chance 55 = .ok (.ifCond .ne 13, 3) := by decide +kernel
theorem dX7_chance_58 : decode cX7_chance 58 = .ok (.iload_n 3, 1) := by decide +kernel
theorem dX7_chance_59 : decode cX7_chance 59 = .ok (.ifCond .ne 7, 3) := by decide +kernel
theorem dX7_chance_62 : decode cX7_chance 62 = .ok (.lconst 0, 1) := by decide +kernel
theorem dX7_chance_63 : decode cX7_chance 63 = .ok (.goto 4, 3) := by decide +kernel
theorem dX7_chance_66 : decode cX7_chance 66 = .ok (.lconst 1, 1) := by decide +kernel
theorem dX7_chance_67 : decode cX7_chance 67 = .ok (.lreturn, 1) := by decide +kernel
theorem dX7_chance_68 : decode cX7_chance 68 = .ok (.iconst 0, 1) := by decide +kernel
theorem dX7_chance_69 : decode cX7_chance 69 = .ok (.istore 8, 2) := by decide +kernel
theorem dX7_chance_71 : decode cX7_chance 71 = .ok (.iload 8, 2) := by decide +kernel
theorem dX7_chance_73 : decode cX7_chance 73 = .ok (.bipush 32, 2) := by decide +kernel
theorem dX7_chance_75 : decode cX7_chance 75 = .ok (.if_icmp .ge 43, 3) := by decide +kernel
theorem dX7_chance_78 : decode cX7_chance 78 = .ok (.lload 4, 2) := by decide +kernel
theorem dX7_chance_80 : decode cX7_chance 80 = .ok (.ldc2_w 279, 3) := by decide +kernel
theorem dX7_chance_83 : decode cX7_chance 83 = .ok (.lrem, 1) := by decide +kernel
theorem dX7_chance_84 : decode cX7_chance 84 = .ok (.lconst 0, 1) := by decide +kernel
theorem dX7_chance_85 : decode cX7_chance 85 = .ok (.lcmp, 1) := by decide +kernel
theorem dX7_chance_86 : decode cX7_chance 86 = .ok (.ifCond .ne 32, 3) := by decide +kernel
theorem dX7_chance_89 : decode cX7_chance 89 = .ok (.lload 6, 2) := by decide +kernel
theorem dX7_chance_91 : decode cX7_chance 91 = .ok (.lconst 1, 1) := by decide +kernel
theorem dX7_chance_92 : decode cX7_chance 92 = .ok (.lcmp, 1) := by decide +kernel
theorem dX7_chance_93 : decode cX7_chance 93 = .ok (.ifCond .le 25, 3) := by decide +kernel
theorem dX7_chance_96 : decode cX7_chance 96 = .ok (.lload 4, 2) := by decide +kernel
theorem dX7_chance_98 : decode cX7_chance 98 = .ok (.ldc2_w 279, 3) := by decide +kernel
theorem dX7_chance_101 : decode cX7_chance 101 = .ok (.ldiv, 1) := by decide +kernel
theorem dX7_chance_102 : decode cX7_chance 102 = .ok (.lstore 4, 2) := by decide +kernel
theorem dX7_chance_104 : decode cX7_chance 104 = .ok (.lload 6, 2) := by decide +kernel
theorem dX7_chance_106 : decode cX7_chance 106 = .ok (.ldc2_w 279, 3) := by decide +kernel
theorem dX7_chance_109 : decode cX7_chance 109 = .ok (.ldiv, 1) := by decide +kernel
theorem dX7_chance_110 : decode cX7_chance 110 = .ok (.lstore 6, 2) := by decide +kernel
theorem dX7_chance_112 : decode cX7_chance 112 = .ok (.iinc 8 1, 3) := by decide +kernel
theorem dX7_chance_115 : decode cX7_chance 115 = .ok (.goto (-44), 3) := by decide +kernel
theorem dX7_chance_118 : decode cX7_chance 118 = .ok (.iload_n 3, 1) := by decide +kernel
theorem dX7_chance_119 : decode cX7_chance 119 = .ok (.ifCond .ne 8, 3) := by decide +kernel
theorem dX7_chance_122 : decode cX7_chance 122 = .ok (.lload 4, 2) := by decide +kernel
theorem dX7_chance_124 : decode cX7_chance 124 = .ok (.goto 5, 3) := by decide +kernel
theorem dX7_chance_127 : decode cX7_chance 127 = .ok (.lload 6, 2) := by decide +kernel
theorem dX7_chance_129 : decode cX7_chance 129 = .ok (.lreturn, 1) := by decide +kernel
theorem dX7_years_0 : decode cX7_years 0 = .ok (.iload_n 2, 1) := by decide +kernel
theorem dX7_years_1 : decode cX7_years 1 = .ok (.iconst 0, 1) := by decide +kernel
theorem dX7_years_2 : decode cX7_years 2 = .ok (.bipush 24, 2) := by decide +kernel
theorem dX7_years_4 : decode cX7_years 4 = .ok (.invokestatic 107, 3) := by decide +kernel
theorem dX7_years_7 : decode cX7_years 7 = .ok (.ifCond .eq 12, 3) := by decide +kernel
theorem dX7_years_10 : decode cX7_years 10 = .ok (.iload_n 3, 1) := by decide +kernel
theorem dX7_years_11 : decode cX7_years 11 = .ok (.iconst 0, 1) := by decide +kernel
theorem dX7_years_12 : decode cX7_years 12 = .ok (.iconst 1, 1) := by decide +kernel
theorem dX7_years_13 : decode cX7_years 13 = .ok (.invokestatic 107, 3) := by decide +kernel
theorem dX7_years_16 : decode cX7_years 16 = .ok (.ifCond .ne 6, 3) := by decide +kernel
theorem dX7_years_19 : decode cX7_years 19 = .ok (.bipush (-2), 2) := by decide +kernel
theorem dX7_years_21 : decode cX7_years 21 = .ok (.ireturn, 1) := by decide +kernel
theorem dX7_years_22 : decode cX7_years 22 = .ok (.aload_n 0, 1) := by decide +kernel
theorem dX7_years_23 : decode cX7_years 23 = .ok (.invokevirtual 217, 3) := by decide +kernel
theorem dX7_years_26 : decode cX7_years 26 = .ok (.iload_n 1, 1) := by decide +kernel
theorem dX7_years_27 : decode cX7_years 27 = .ok (.istore 4, 2) := by decide +kernel
theorem dX7_years_29 : decode cX7_years 29 = .ok (.iconst 0, 1) := by decide +kernel
theorem dX7_years_30 : decode cX7_years 30 = .ok (.istore 5, 2) := by decide +kernel
theorem dX7_years_32 : decode cX7_years 32 = .ok (.iload 5, 2) := by decide +kernel
theorem dX7_years_34 : decode cX7_years 34 = .ok (.iload_n 2, 1) := by decide +kernel
theorem dX7_years_35 : decode cX7_years 35 = .ok (.if_icmp .ge 38, 3) := by decide +kernel
theorem dX7_years_38 : decode cX7_years 38 = .ok (.ldc_w 281, 3) := by decide +kernel
theorem dX7_years_41 : decode cX7_years 41 = .ok (.iload 4, 2) := by decide +kernel
theorem dX7_years_43 : decode cX7_years 43 = .ok (.imul, 1) := by decide +kernel
theorem dX7_years_44 : decode cX7_years 44 = .ok (.sipush 12345, 3) := by decide +kernel
theorem dX7_years_47 : decode cX7_years 47 = .ok (.iadd, 1) := by decide +kernel
theorem dX7_years_48 : decode cX7_years 48 = .ok (.istore 4, 2) := by decide +kernel
theorem dX7_years_50 : decode cX7_years 50 = .ok (.aload_n 0, 1) := by decide +kernel
theorem dX7_years_51 : decode cX7_years 51 = .ok (.getfield 73, 3) := by decide +kernel
theorem dX7_years_54 : decode cX7_years 54 = .ok (.getfield 234, 3) := by decide +kernel
theorem dX7_years_57 : decode cX7_years 57 = .ok (.iload 5, 2) := by decide +kernel
theorem dX7_years_59 : decode cX7_years 59 = .ok (.iload 4, 2) := by decide +kernel
theorem dX7_years_61 : decode cX7_years 61 = .ok (.bipush 16, 2) := by decide +kernel
theorem dX7_years_63 : decode cX7_years 63 = .ok (.iushr, 1) := by decide +kernel
theorem dX7_years_64 : decode cX7_years 64 = .ok (.iconst 4, 1) := by decide +kernel
theorem dX7_years_65 : decode cX7_years 65 = .ok (.irem, 1) := by decide +kernel
theorem dX7_years_66 : decode cX7_years 66 = .ok (.iastore, 1) := by decide +kernel
theorem dX7_years_67 : decode cX7_years 67 = .ok (.iinc 5 1, 3) := by decide +kernel
theorem dX7_years_70 : decode cX7_years 70 = .ok (.goto (-38), 3) := by decide +kernel
theorem dX7_years_73 : decode cX7_years 73 = .ok (.iload_n 2, 1) := by decide +kernel
theorem dX7_years_74 : decode cX7_years 74 = .ok (.istore 5, 2) := by decide +kernel
theorem dX7_years_76 : decode cX7_years 76 = .ok (.iload 5, 2) := by decide +kernel
theorem dX7_years_78 : decode cX7_years 78 = .ok (.bipush 24, 2) := by decide +kernel
theorem dX7_years_80 : decode cX7_years 80 = .ok (.if_icmp .ge 20, 3) := by decide +kernel
theorem dX7_years_83 : decode cX7_years 83 = .ok (.aload_n 0, 1) := by decide +kernel
theorem dX7_years_84 : decode cX7_years 84 = .ok (.getfield 73, 3) := by decide +kernel
theorem dX7_years_87 : decode cX7_years 87 = .ok (.getfield 234, 3) := by decide +kernel
theorem dX7_years_90 : decode cX7_years 90 = .ok (.iload 5, 2) := by decide +kernel
theorem dX7_years_92 : decode cX7_years 92 = .ok (.iconst 1, 1) := by decide +kernel
theorem dX7_years_93 : decode cX7_years 93 = .ok (.iastore, 1) := by decide +kernel
theorem dX7_years_94 : decode cX7_years 94 = .ok (.iinc 5 1, 3) := by decide +kernel
theorem dX7_years_97 : decode cX7_years 97 = .ok (.goto (-21), 3) := by decide +kernel
theorem dX7_years_100 : decode cX7_years 100 = .ok (.aload_n 0, 1) := by decide +kernel
theorem dX7_years_101 : decode cX7_years 101 = .ok (.getfield 84, 3) := by decide +kernel
theorem dX7_years_104 : decode cX7_years 104 = .ok (.aload_n 0, 1) := by decide +kernel
theorem dX7_years_105 : decode cX7_years 105 = .ok (.getfield 73, 3) := by decide +kernel
theorem dX7_years_108 : decode cX7_years 108 = .ok (.bipush 23, 2) := by decide +kernel
theorem dX7_years_110 : decode cX7_years 110 = .ok (.invokevirtual 227, 3) := by decide +kernel
theorem dX7_years_113 : decode cX7_years 113 = .ok (.iload_n 3, 1) := by decide +kernel
theorem dX7_years_114 : decode cX7_years 114 = .ok (.ifCond .ne 13, 3) := by decide +kernel
theorem dX7_years_117 : decode cX7_years 117 = .ok (.aload_n 0, 1) := by decide +kernel
theorem dX7_years_118 : decode cX7_years 118 = .ok (.getfield 84, 3) := by decide +kernel
theorem dX7_years_121 : decode cX7_years 121 = .ok (.invokevirtual 231, 3) := by decide +kernel
theorem dX7_years_124 : decode cX7_years 124 = .ok (.goto 10, 3) := by decide +kernel
theorem dX7_years_127 : decode cX7_years 127 = .ok (.aload_n 0, 1) := by decide +kernel
theorem dX7_years_128 : decode cX7_years 128 = .ok (.getfield 84, 3) := by decide +kernel
theorem dX7_years_131 : decode cX7_years 131 = .ok (.invokevirtual 197, 3) := by decide +kernel
theorem dX7_years_134 : decode cX7_years 134 = .ok (.ireturn, 1) := by decide +kernel
theorem dX7_sheet_0 : decode cX7_sheet 0 = .ok (.aload_n 0, 1) := by decide +kernel
theorem dX7_sheet_1 : decode cX7_sheet 1 = .ok (.iload_n 1, 1) := by decide +kernel
theorem dX7_sheet_2 : decode cX7_sheet 2 = .ok (.invokevirtual 153, 3) := by decide +kernel
theorem dX7_sheet_5 : decode cX7_sheet 5 = .ok (.astore 4, 2) := by decide +kernel
theorem dX7_sheet_7 : decode cX7_sheet 7 = .ok (.aload 4, 2) := by decide +kernel
theorem dX7_sheet_9 : decode cX7_sheet 9 = .ok (.ifnull 16, 3) := by decide +kernel
theorem dX7_sheet_12 : decode cX7_sheet 12 = .ok (.iload_n 2, 1) := by decide +kernel
theorem dX7_sheet_13 : decode cX7_sheet 13 = .ok (.invokestatic 282, 3) := by decide +kernel
theorem dX7_sheet_16 : decode cX7_sheet 16 = .ok (.ifCond .eq 9, 3) := by decide +kernel
theorem dX7_sheet_19 : decode cX7_sheet 19 = .ok (.iload_n 3, 1) := by decide +kernel
theorem dX7_sheet_20 : decode cX7_sheet 20 = .ok (.bipush 60, 2) := by decide +kernel
theorem dX7_sheet_22 : decode cX7_sheet 22 = .ok (.if_icmp .le 6, 3) := by decide +kernel
theorem dX7_sheet_25 : decode cX7_sheet 25 = .ok (.bipush (-2), 2) := by decide +kernel
theorem dX7_sheet_27 : decode cX7_sheet 27 = .ok (.ireturn, 1) := by decide +kernel
theorem dX7_sheet_28 : decode cX7_sheet 28 = .ok (.iload_n 3, 1) := by decide +kernel
theorem dX7_sheet_29 : decode cX7_sheet 29 = .ok (.ifCond .ge 9, 3) := by decide +kernel
theorem dX7_sheet_32 : decode cX7_sheet 32 = .ok (.aload_n 0, 1) := by decide +kernel
theorem dX7_sheet_33 : decode cX7_sheet 33 = .ok (.iconst 5, 1) := by decide +kernel
theorem dX7_sheet_34 : decode cX7_sheet 34 = .ok (.invokevirtual 160, 3) := by decide +kernel
theorem dX7_sheet_37 : decode cX7_sheet 37 = .ok (.ireturn, 1) := by decide +kernel
theorem dX7_sheet_38 : decode cX7_sheet 38 = .ok (.aload 4, 2) := by decide +kernel
theorem dX7_sheet_40 : decode cX7_sheet 40 = .ok (.iload_n 2, 1) := by decide +kernel
theorem dX7_sheet_41 : decode cX7_sheet 41 = .ok (.iload_n 3, 1) := by decide +kernel
theorem dX7_sheet_42 : decode cX7_sheet 42 = .ok (.invokevirtual 285, 3) := by decide +kernel
theorem dX7_sheet_45 : decode cX7_sheet 45 = .ok (.iload_n 3, 1) := by decide +kernel
theorem dX7_sheet_46 : decode cX7_sheet 46 = .ok (.ireturn, 1) := by decide +kernel
theorem dX7_lose_0 : decode cX7_lose 0 = .ok (.aload_n 0, 1) := by decide +kernel
theorem dX7_lose_1 : decode cX7_lose 1 = .ok (.iload_n 1, 1) := by decide +kernel
theorem dX7_lose_2 : decode cX7_lose 2 = .ok (.invokevirtual 153, 3) := by decide +kernel
theorem dX7_lose_5 : decode cX7_lose 5 = .ok (.astore_n 2, 1) := by decide +kernel
theorem dX7_lose_6 : decode cX7_lose 6 = .ok (.aload_n 2, 1) := by decide +kernel
theorem dX7_lose_7 : decode cX7_lose 7 = .ok (.ifnonnull 6, 3) := by decide +kernel
theorem dX7_lose_10 : decode cX7_lose 10 = .ok (.bipush (-2), 2) := by decide +kernel
theorem dX7_lose_12 : decode cX7_lose 12 = .ok (.ireturn, 1) := by decide +kernel
theorem dX7_lose_13 : decode cX7_lose 13 = .ok (.aload_n 2, 1) := by decide +kernel
theorem dX7_lose_14 : decode cX7_lose 14 = .ok (.getfield 157, 3) := by decide +kernel
theorem dX7_lose_17 : decode cX7_lose 17 = .ok (.ifCond .eq 9, 3) := by decide +kernel
theorem dX7_lose_20 : decode cX7_lose 20 = .ok (.aload_n 0, 1) := by decide +kernel
theorem dX7_lose_21 : decode cX7_lose 21 = .ok (.iconst 1, 1) := by decide +kernel
theorem dX7_lose_22 : decode cX7_lose 22 = .ok (.invokevirtual 160, 3) := by decide +kernel
theorem dX7_lose_25 : decode cX7_lose 25 = .ok (.ireturn, 1) := by decide +kernel
theorem dX7_lose_26 : decode cX7_lose 26 = .ok (.aload_n 2, 1) := by decide +kernel
theorem dX7_lose_27 : decode cX7_lose 27 = .ok (.iconst 1, 1) := by decide +kernel
theorem dX7_lose_28 : decode cX7_lose 28 = .ok (.putfield 157, 3) := by decide +kernel
theorem dX7_lose_31 : decode cX7_lose 31 = .ok (.aload_n 2, 1) := by decide +kernel
theorem dX7_lose_32 : decode cX7_lose 32 = .ok (.getfield 163, 3) := by decide +kernel
theorem dX7_lose_35 : decode cX7_lose 35 = .ok (.ireturn, 1) := by decide +kernel
theorem dX7_put_0 : decode cX7_put 0 = .ok (.aload_n 0, 1) := by decide +kernel
theorem dX7_put_1 : decode cX7_put 1 = .ok (.iload_n 1, 1) := by decide +kernel
theorem dX7_put_2 : decode cX7_put 2 = .ok (.invokevirtual 153, 3) := by decide +kernel
theorem dX7_put_5 : decode cX7_put 5 = .ok (.astore 5, 2) := by decide +kernel
theorem dX7_put_7 : decode cX7_put 7 = .ok (.aload 5, 2) := by decide +kernel
theorem dX7_put_9 : decode cX7_put 9 = .ok (.ifnull 10, 3) := by decide +kernel
theorem dX7_put_12 : decode cX7_put 12 = .ok (.iload_n 2, 1) := by decide +kernel
theorem dX7_put_13 : decode cX7_put 13 = .ok (.invokestatic 282, 3) := by decide +kernel
theorem dX7_put_16 : decode cX7_put 16 = .ok (.ifCond .ne 6, 3) := by decide +kernel
theorem dX7_put_19 : decode cX7_put 19 = .ok (.bipush (-2), 2) := by decide +kernel
theorem dX7_put_21 : decode cX7_put 21 = .ok (.ireturn, 1) := by decide +kernel
theorem dX7_put_22 : decode cX7_put 22 = .ok (.aload 5, 2) := by decide +kernel
theorem dX7_put_24 : decode cX7_put 24 = .ok (.iload_n 2, 1) := by decide +kernel
theorem dX7_put_25 : decode cX7_put 25 = .ok (.iload_n 3, 1) := by decide +kernel
theorem dX7_put_26 : decode cX7_put 26 = .ok (.invokevirtual 289, 3) := by decide +kernel
theorem dX7_put_29 : decode cX7_put 29 = .ok (.istore 6, 2) := by decide +kernel
theorem dX7_put_31 : decode cX7_put 31 = .ok (.iload 6, 2) := by decide +kernel
theorem dX7_put_33 : decode cX7_put 33 = .ok (.ifCond .eq 10, 3) := by decide +kernel
theorem dX7_put_36 : decode cX7_put 36 = .ok (.aload_n 0, 1) := by decide +kernel
theorem dX7_put_37 : decode cX7_put 37 = .ok (.iload 6, 2) := by decide +kernel
theorem dX7_put_39 : decode cX7_put 39 = .ok (.invokevirtual 160, 3) := by decide +kernel
theorem dX7_put_42 : decode cX7_put 42 = .ok (.ireturn, 1) := by decide +kernel
theorem dX7_put_43 : decode cX7_put 43 = .ok (.aload 5, 2) := by decide +kernel
theorem dX7_put_45 : decode cX7_put 45 = .ok (.iload_n 3, 1) := by decide +kernel
theorem dX7_put_46 : decode cX7_put 46 = .ok (.iload 4, 2) := by decide +kernel
theorem dX7_put_48 : decode cX7_put 48 = .ok (.invokevirtual 292, 3) := by decide +kernel
theorem dX7_put_51 : decode cX7_put 51 = .ok (.iconst 1, 1) := by decide +kernel
theorem dX7_put_52 : decode cX7_put 52 = .ok (.ireturn, 1) := by decide +kernel
theorem dX7_get_0 : decode cX7_get 0 = .ok (.aload_n 0, 1) := by decide +kernel
theorem dX7_get_1 : decode cX7_get 1 = .ok (.iload_n 1, 1) := by decide +kernel
theorem dX7_get_2 : decode cX7_get 2 = .ok (.invokevirtual 153, 3) := by decide +kernel
theorem dX7_get_5 : decode cX7_get 5 = .ok (.astore 4, 2) := by decide +kernel
theorem dX7_get_7 : decode cX7_get 7 = .ok (.aload 4, 2) := by decide +kernel
theorem dX7_get_9 : decode cX7_get 9 = .ok (.ifnull 10, 3) := by decide +kernel
theorem dX7_get_12 : decode cX7_get 12 = .ok (.iload_n 2, 1) := by decide +kernel
theorem dX7_get_13 : decode cX7_get 13 = .ok (.invokestatic 282, 3) := by decide +kernel
theorem dX7_get_16 : decode cX7_get 16 = .ok (.ifCond .ne 7, 3) := by decide +kernel
theorem dX7_get_19 : decode cX7_get 19 = .ok (.ldc_w 295, 3) := by decide +kernel
theorem dX7_get_22 : decode cX7_get 22 = .ok (.ireturn, 1) := by decide +kernel
theorem dX7_get_23 : decode cX7_get 23 = .ok (.aload 4, 2) := by decide +kernel
theorem dX7_get_25 : decode cX7_get 25 = .ok (.iload_n 2, 1) := by decide +kernel
theorem dX7_get_26 : decode cX7_get 26 = .ok (.iload_n 3, 1) := by decide +kernel
theorem dX7_get_27 : decode cX7_get 27 = .ok (.invokevirtual 289, 3) := by decide +kernel
theorem dX7_get_30 : decode cX7_get 30 = .ok (.istore 5, 2) := by decide +kernel
theorem dX7_get_32 : decode cX7_get 32 = .ok (.iload 5, 2) := by decide +kernel
theorem dX7_get_34 : decode cX7_get 34 = .ok (.ifCond .eq 13, 3) := by decide +kernel
theorem dX7_get_37 : decode cX7_get 37 = .ok (.aload_n 0, 1) := by decide +kernel
theorem dX7_get_38 : decode cX7_get 38 = .ok (.iload 5, 2) := by decide +kernel
theorem dX7_get_40 : decode cX7_get 40 = .ok (.putfield 100, 3) := by decide +kernel
theorem dX7_get_43 : decode cX7_get 43 = .ok (.ldc_w 295, 3) := by decide +kernel
theorem dX7_get_46 : decode cX7_get 46 = .ok (.ireturn, 1) := by decide +kernel
theorem dX7_get_47 : decode cX7_get 47 = .ok (.aload 4, 2) := by decide +kernel
theorem dX7_get_49 : decode cX7_get 49 = .ok (.getfield 164, 3) := by decide +kernel
theorem dX7_get_52 : decode cX7_get 52 = .ok (.iload_n 3, 1) := by decide +kernel
theorem dX7_get_53 : decode cX7_get 53 = .ok (.iaload, 1) := by decide +kernel
theorem dX7_get_54 : decode cX7_get 54 = .ok (.ireturn, 1) := by decide +kernel
theorem dX7_copy_0 : decode cX7_copy 0 = .ok (.aload_n 0, 1) := by decide +kernel
theorem dX7_copy_1 : decode cX7_copy 1 = .ok (.iload_n 1, 1) := by decide +kernel
theorem dX7_copy_2 : decode cX7_copy 2 = .ok (.invokevirtual 153, 3) := by decide +kernel
theorem dX7_copy_5 : decode cX7_copy 5 = .ok (.astore 6, 2) := by decide +kernel
theorem dX7_copy_7 : decode cX7_copy 7 = .ok (.aload_n 0, 1) := by decide +kernel
theorem dX7_copy_8 : decode cX7_copy 8 = .ok (.iload_n 3, 1) := by decide +kernel
theorem dX7_copy_9 : decode cX7_copy 9 = .ok (.invokevirtual 153, 3) := by decide +kernel
theorem dX7_copy_12 : decode cX7_copy 12 = .ok (.astore 7, 2) := by decide +kernel
theorem dX7_copy_14 : decode cX7_copy 14 = .ok (.aload 6, 2) := by decide +kernel
theorem dX7_copy_16 : decode cX7_copy 16 = .ok (.ifnull 8, 3) := by decide +kernel
theorem dX7_copy_19 : decode cX7_copy 19 = .ok (.aload 7, 2) := by decide +kernel
theorem dX7_copy_21 : decode cX7_copy 21 = .ok (.ifnonnull 6, 3) := by decide +kernel
theorem dX7_copy_24 : decode cX7_copy 24 = .ok (.bipush (-2), 2) := by decide +kernel
theorem dX7_copy_26 : decode cX7_copy 26 = .ok (.ireturn, 1) := by decide +kernel
theorem dX7_copy_27 : decode cX7_copy 27 = .ok (.aload 6, 2) := by decide +kernel
theorem dX7_copy_29 : decode cX7_copy 29 = .ok (.getfield 157, 3) := by decide +kernel
theorem dX7_copy_32 : decode cX7_copy 32 = .ok (.ifCond .ne 11, 3) := by decide +kernel
theorem dX7_copy_35 : decode cX7_copy 35 = .ok (.aload 7, 2) := by decide +kernel
theorem dX7_copy_37 : decode cX7_copy 37 = .ok (.getfield 157, 3) := by decide +kernel
theorem dX7_copy_40 : decode cX7_copy 40 = .ok (.ifCond .eq 9, 3) := by decide +kernel
theorem dX7_copy_43 : decode cX7_copy 43 = .ok (.aload_n 0, 1) := by decide +kernel
theorem dX7_copy_44 : decode cX7_copy 44 = .ok (.iconst 1, 1) := by decide +kernel
theorem dX7_copy_45 : decode cX7_copy 45 = .ok (.invokevirtual 160, 3) := by decide +kernel
theorem dX7_copy_48 : decode cX7_copy 48 = .ok (.ireturn, 1) := by decide +kernel
theorem dX7_copy_49 : decode cX7_copy 49 = .ok (.aload 6, 2) := by decide +kernel
theorem dX7_copy_51 : decode cX7_copy 51 = .ok (.getfield 296, 3) := by decide +kernel
theorem dX7_copy_54 : decode cX7_copy 54 = .ok (.aload 7, 2) := by decide +kernel
theorem dX7_copy_56 : decode cX7_copy 56 = .ok (.getfield 296, 3) := by decide +kernel
theorem dX7_copy_59 : decode cX7_copy 59 = .ok (.if_icmp .eq 9, 3) := by decide +kernel
theorem dX7_copy_62 : decode cX7_copy 62 = .ok (.aload_n 0, 1) := by decide +kernel
theorem dX7_copy_63 : decode cX7_copy 63 = .ok (.iconst 4, 1) := by decide +kernel
theorem dX7_copy_64 : decode cX7_copy 64 = .ok (.invokevirtual 160, 3) := by decide +kernel
theorem dX7_copy_67 : decode cX7_copy 67 = .ok (.ireturn, 1) := by decide +kernel
theorem dX7_copy_68 : decode cX7_copy 68 = .ok (.aload 6, 2) := by decide +kernel
theorem dX7_copy_70 : decode cX7_copy 70 = .ok (.iload_n 2, 1) := by decide +kernel
theorem dX7_copy_71 : decode cX7_copy 71 = .ok (.iload 5, 2) := by decide +kernel
theorem dX7_copy_73 : decode cX7_copy 73 = .ok (.invokevirtual 299, 3) := by decide +kernel
theorem dX7_copy_76 : decode cX7_copy 76 = .ok (.ifCond .eq 15, 3) := by decide +kernel
theorem dX7_copy_79 : decode cX7_copy 79 = .ok (.aload 7, 2) := by decide +kernel
theorem dX7_copy_81 : decode cX7_copy 81 = .ok (.iload 4, 2) := by decide +kernel
theorem dX7_copy_83 : decode cX7_copy 83 = .ok (.iload 5, 2) := by decide +kernel
theorem dX7_copy_85 : decode cX7_copy 85 = .ok (.invokevirtual 299, 3) := by decide +kernel
theorem dX7_copy_88 : decode cX7_copy 88 = .ok (.ifCond .ne 9, 3) := by decide +kernel
theorem dX7_copy_91 : decode cX7_copy 91 = .ok (.aload_n 0, 1) := by decide +kernel
theorem dX7_copy_92 : decode cX7_copy 92 = .ok (.iconst 2, 1) := by decide +kernel
theorem dX7_copy_93 : decode cX7_copy 93 = .ok (.invokevirtual 160, 3) := by decide +kernel
theorem dX7_copy_96 : decode cX7_copy 96 = .ok (.ireturn, 1) := by decide +kernel
theorem dX7_copy_97 : decode cX7_copy 97 = .ok (.aload 6, 2) := by decide +kernel
theorem dX7_copy_99 : decode cX7_copy 99 = .ok (.getfield 164, 3) := by decide +kernel
theorem dX7_copy_102 : decode cX7_copy 102 = .ok (.iload_n 2, 1) := by decide +kernel
theorem dX7_copy_103 : decode cX7_copy 103 = .ok (.aload 7, 2) := by decide +kernel
theorem dX7_copy_105 : decode cX7_copy 105 = .ok (.getfield 164, 3) := by decide +kernel
theorem dX7_copy_108 : decode cX7_copy 108 = .ok (.iload 4, 2) := by decide +kernel
theorem dX7_copy_110 : decode cX7_copy 110 = .ok (.iload 5, 2) := by decide +kernel
theorem dX7_copy_112 : decode cX7_copy 112 = .ok (.invokestatic 302, 3) := by decide +kernel
theorem dX7_copy_115 : decode cX7_copy 115 = .ok (.iconst 1, 1) := by decide +kernel
theorem dX7_copy_116 : decode cX7_copy 116 = .ok (.ireturn, 1) := by decide +kernel
theorem dX7_write_0 : decode cX7_write 0 = .ok (.aload_n 0, 1) := by decide +kernel
theorem dX7_write_1 : decode cX7_write 1 = .ok (.iload_n 2, 1) := by decide +kernel
theorem dX7_write_2 : decode cX7_write 2 = .ok (.invokevirtual 153, 3) := by decide +kernel
theorem dX7_write_5 : decode cX7_write 5 = .ok (.astore_n 3, 1) := by decide +kernel
theorem dX7_write_6 : decode cX7_write 6 = .ok (.iload_n 1, 1) := by decide +kernel
theorem dX7_write_7 : decode cX7_write 7 = .ok (.invokestatic 191, 3) := by decide +kernel
theorem dX7_write_10 : decode cX7_write 10 = .ok (.ifCond .eq 7, 3) := by decide +kernel
theorem dX7_write_13 : decode cX7_write 13 = .ok (.aload_n 3, 1) := by decide +kernel
theorem dX7_write_14 : decode cX7_write 14 = .ok (.ifnonnull 6, 3) := by decide +kernel
theorem dX7_write_17 : decode cX7_write 17 = .ok (.bipush (-2), 2) := by decide +kernel
theorem dX7_write_19 : decode cX7_write 19 = .ok (.ireturn, 1) := by decide +kernel
theorem dX7_write_20 : decode cX7_write 20 = .ok (.aload_n 3, 1) := by decide +kernel
theorem dX7_write_21 : decode cX7_write 21 = .ok (.getfield 157, 3) := by decide +kernel
theorem dX7_write_24 : decode cX7_write 24 = .ok (.ifCond .eq 9, 3) := by decide +kernel
theorem dX7_write_27 : decode cX7_write 27 = .ok (.aload_n 0, 1) := by decide +kernel
theorem dX7_write_28 : decode cX7_write 28 = .ok (.iconst 1, 1) := by decide +kernel
theorem dX7_write_29 : decode cX7_write 29 = .ok (.invokevirtual 160, 3) := by decide +kernel
theorem dX7_write_32 : decode cX7_write 32 = .ok (.ireturn, 1) := by decide +kernel
theorem dX7_write_33 : decode cX7_write 33 = .ok (.aload_n 0, 1) := by decide +kernel
theorem dX7_write_34 : decode cX7_write 34 = .ok (.invokevirtual 172, 3) := by decide +kernel
theorem dX7_write_37 : decode cX7_write 37 = .ok (.getfield 182, 3) := by decide +kernel
theorem dX7_write_40 : decode cX7_write 40 = .ok (.iload_n 1, 1) := by decide +kernel
theorem dX7_write_41 : decode cX7_write 41 = .ok (.aaload, 1) := by decide +kernel
theorem dX7_write_42 : decode cX7_write 42 = .ok (.astore 4, 2) := by decide +kernel
theorem dX7_write_44 : decode cX7_write 44 = .ok (.aload_n 3, 1) := by decide +kernel
theorem dX7_write_45 : decode cX7_write 45 = .ok (.getfield 163, 3) := by decide +kernel
theorem dX7_write_48 : decode cX7_write 48 = .ok (.bipush 24, 2) := by decide +kernel
theorem dX7_write_50 : decode cX7_write 50 = .ok (.invokestatic 308, 3) := by decide +kernel
theorem dX7_write_53 : decode cX7_write 53 = .ok (.istore 5, 2) := by decide +kernel
theorem dX7_write_55 : decode cX7_write 55 = .ok (.iconst 0, 1) := by decide +kernel
theorem dX7_write_56 : decode cX7_write 56 = .ok (.istore 6, 2) := by decide +kernel
theorem dX7_write_58 : decode cX7_write 58 = .ok (.iload 6, 2) := by decide +kernel
theorem dX7_write_60 : decode cX7_write 60 = .ok (.iload 5, 2) := by decide +kernel
theorem dX7_write_62 : decode cX7_write 62 = .ok (.if_icmp .ge 20, 3) := by decide +kernel
theorem dX7_write_65 : decode cX7_write 65 = .ok (.aload_n 3, 1) := by decide +kernel
theorem dX7_write_66 : decode cX7_write 66 = .ok (.iload 6, 2) := by decide +kernel
theorem dX7_write_68 : decode cX7_write 68 = .ok (.aload 4, 2) := by decide +kernel
theorem dX7_write_70 : decode cX7_write 70 = .ok (.iload 6, 2) := by decide +kernel
theorem dX7_write_72 : decode cX7_write 72 = .ok (.iaload, 1) := by decide +kernel
theorem dX7_write_73 : decode cX7_write 73 = .ok (.invokevirtual 292, 3) := by decide +kernel
theorem dX7_write_76 : decode cX7_write 76 = .ok (.iinc 6 1, 3) := by decide +kernel
theorem dX7_write_79 : decode cX7_write 79 = .ok (.goto (-21), 3) := by decide +kernel
theorem dX7_write_82 : decode cX7_write 82 = .ok (.iload 5, 2) := by decide +kernel
theorem dX7_write_84 : decode cX7_write 84 = .ok (.ireturn, 1) := by decide +kernel
theorem dX7_count_0 : decode cX7_count 0 = .ok (.iload_n 1, 1) := by decide +kernel
theorem dX7_count_1 : decode cX7_count 1 = .ok (.tableswitch 132 0 8 #[51, 59, 67, 87, 95, 103, 111, 119, 127], 51) := by decide +kernel
theorem dX7_count_52 : decode cX7_count 52 = .ok (.aload_n 0, 1) := by decide +kernel
theorem dX7_count_53 : decode cX7_count 53 = .ok (.getfield 31, 3) := by decide +kernel
theorem dX7_count_56 : decode cX7_count 56 = .ok (.getfield 135, 3) := by decide +kernel
theorem dX7_count_59 : decode cX7_count 59 = .ok (.ireturn, 1) := by decide +kernel
theorem dX7_count_60 : decode cX7_count 60 = .ok (.aload_n 0, 1) := by decide +kernel
theorem dX7_count_61 : decode cX7_count 61 = .ok (.getfield 37, 3) := by decide +kernel
theorem dX7_count_64 : decode cX7_count 64 = .ok (.getfield 135, 3) := by decide +kernel
theorem dX7_count_67 : decode cX7_count 67 = .ok (.ireturn, 1) := by decide +kernel
theorem dX7_count_68 : decode cX7_count 68 = .ok (.aload_n 0, 1) := by decide +kernel
theorem dX7_count_69 : decode cX7_count 69 = .ok (.getfield 92, 3) := by decide +kernel
theorem dX7_count_72 : decode cX7_count 72 = .ok (.iconst (-1), 1) := by decide +kernel
theorem dX7_count_73 : decode cX7_count 73 = .ok (.if_icmp .ne 13, 3) := by decide +kernel
theorem dX7_count_76 : decode cX7_count 76 = .ok (.aload_n 0, 1) := by decide +kernel
theorem dX7_count_77 : decode cX7_count 77 = .ok (.getfield 21, 3) := by decide +kernel
theorem dX7_count_80 : decode cX7_count 80 = .ok (.getfield 121, 3) := by decide +kernel
theorem dX7_count_83 : decode cX7_count 83 = .ok (.goto 4, 3) := by decide +kernel
theorem dX7_count_86 : decode cX7_count 86 = .ok (.iconst 0, 1) := by decide +kernel
theorem dX7_count_87 : decode cX7_count 87 = .ok (.ireturn, 1) := by decide +kernel
theorem dX7_count_88 : decode cX7_count 88 = .ok (.aload_n 0, 1) := by decide +kernel
theorem dX7_count_89 : decode cX7_count 89 = .ok (.getfield 14, 3) := by decide +kernel
theorem dX7_count_92 : decode cX7_count 92 = .ok (.getfield 121, 3) := by decide +kernel
theorem dX7_count_95 : decode cX7_count 95 = .ok (.ireturn, 1) := by decide +kernel
theorem dX7_count_96 : decode cX7_count 96 = .ok (.aload_n 0, 1) := by decide +kernel
theorem dX7_count_97 : decode cX7_count 97 = .ok (.getfield 18, 3) := by decide +kernel
theorem dX7_count_100 : decode cX7_count 100 = .ok (.getfield 121, 3) := by decide +kernel
theorem dX7_count_103 : decode cX7_count 103 = .ok (.ireturn, 1) := by decide +kernel
theorem dX7_count_104 : decode cX7_count 104 = .ok (.aload_n 0, 1) := by decide +kernel
theorem dX7_count_105 : decode cX7_count 105 = .ok (.getfield 21, 3) := by decide +kernel
theorem dX7_count_108 : decode cX7_count 108 = .ok (.getfield 121, 3) := by decide +kernel
theorem dX7_count_111 : decode cX7_count 111 = .ok (.ireturn, 1) := by decide +kernel
theorem dX7_count_112 : decode cX7_count 112 = .ok (.aload_n 0, 1) := by decide +kernel
theorem dX7_count_113 : decode cX7_count 113 = .ok (.getfield 43, 3) := by decide +kernel
theorem dX7_count_116 : decode cX7_count 116 = .ok (.getfield 152, 3) := by decide +kernel
theorem dX7_count_119 : decode cX7_count 119 = .ok (.ireturn, 1) := by decide +kernel
theorem dX7_count_120 : decode cX7_count 120 = .ok (.aload_n 0, 1) := by decide +kernel
theorem dX7_count_121 : decode cX7_count 121 = .ok (.getfield 50, 3) := by decide +kernel
theorem dX7_count_124 : decode cX7_count 124 = .ok (.getfield 251, 3) := by decide +kernel
theorem dX7_count_127 : decode cX7_count 127 = .ok (.ireturn, 1) := by decide +kernel
theorem dX7_count_128 : decode cX7_count 128 = .ok (.aload_n 0, 1) := by decide +kernel
theorem dX7_count_129 : decode cX7_count 129 = .ok (.getfield 100, 3) := by decide +kernel
theorem dX7_count_132 : decode cX7_count 132 = .ok (.ireturn, 1) := by decide +kernel
theorem dX7_count_133 : decode cX7_count 133 = .ok (.bipush (-2), 2) := by decide +kernel
theorem dX7_count_135 : decode cX7_count 135 = .ok (.ireturn, 1) := by decide +kernel
theorem dX7_digest_0 : decode cX7_digest 0 = .ok (.aload_n 0, 1) := by decide +kernel
theorem dX7_digest_1 : decode cX7_digest 1 = .ok (.ldc2_w 313, 3) := by decide +kernel
theorem dX7_digest_4 : decode cX7_digest 4 = .ok (.invokevirtual 315, 3) := by decide +kernel
theorem dX7_digest_7 : decode cX7_digest 7 = .ok (.lstore_n 1, 1) := by decide +kernel
theorem dX7_digest_8 : decode cX7_digest 8 = .ok (.iconst 0, 1) := by decide +kernel
theorem dX7_digest_9 : decode cX7_digest 9 = .ok (.istore_n 3, 1) := by decide +kernel
theorem dX7_digest_10 : decode cX7_digest 10 = .ok (.iload_n 3, 1) := by decide +kernel
theorem dX7_digest_11 : decode cX7_digest 11 = .ok (.aload_n 0, 1) := by decide +kernel
theorem dX7_digest_12 : decode cX7_digest 12 = .ok (.getfield 31, 3) := by decide +kernel
theorem dX7_digest_15 : decode cX7_digest 15 = .ok (.getfield 135, 3) := by decide +kernel
theorem dX7_digest_18 : decode cX7_digest 18 = .ok (.if_icmp .ge 168, 3) := by decide +kernel
theorem dX7_digest_21 : decode cX7_digest 21 = .ok (.iconst 0, 1) := by decide +kernel
theorem dX7_digest_22 : decode cX7_digest 22 = .ok (.istore 4, 2) := by decide +kernel
theorem dX7_digest_24 : decode cX7_digest 24 = .ok (.iload 4, 2) := by decide +kernel
theorem dX7_digest_26 : decode cX7_digest 26 = .ok (.iconst 2, 1) := by decide +kernel
theorem dX7_digest_27 : decode cX7_digest 27 = .ok (.if_icmp .gt 22, 3) := by decide +kernel
theorem dX7_digest_30 : decode cX7_digest 30 = .ok (.lload_n 1, 1) := by decide +kernel
theorem dX7_digest_31 : decode cX7_digest 31 = .ok (.aload_n 0, 1) := by decide +kernel
theorem dX7_digest_32 : decode cX7_digest 32 = .ok (.iload_n 3, 1) := by decide +kernel
theorem dX7_digest_33 : decode cX7_digest 33 = .ok (.iload 4, 2) := by decide +kernel
theorem dX7_digest_35 : decode cX7_digest 35 = .ok (.invokevirtual 319, 3) := by decide +kernel
theorem dX7_digest_38 : decode cX7_digest 38 = .ok (.i2l, 1) := by decide +kernel
theorem dX7_digest_39 : decode cX7_digest 39 = .ok (.invokestatic 322, 3) := by decide +kernel
theorem dX7_digest_42 : decode cX7_digest 42 = .ok (.lstore_n 1, 1) := by decide +kernel
theorem dX7_digest_43 : decode cX7_digest 43 = .ok (.iinc 4 1, 3) := by decide +kernel
theorem dX7_digest_46 : decode cX7_digest 46 = .ok (.goto (-22), 3) := by decide +kernel
theorem dX7_digest_49 : decode cX7_digest 49 = .ok (.getstatic 326, 3) := by decide +kernel
theorem dX7_digest_52 : decode cX7_digest 52 = .ok (.astore 4, 2) := by decide +kernel
theorem dX7_digest_54 : decode cX7_digest 54 = .ok (.aload 4, 2) := by decide +kernel
theorem dX7_digest_56 : decode cX7_digest 56 = .ok (.arraylength, 1) := by decide +kernel
theorem dX7_digest_57 : decode cX7_digest 57 = .ok (.istore 5, 2) := by decide +kernel
theorem dX7_digest_59 : decode cX7_digest 59 = .ok (.iconst 0, 1) := by decide +kernel
theorem dX7_digest_60 : decode cX7_digest 60 = .ok (.istore 6, 2) := by decide +kernel
theorem dX7_digest_62 : decode cX7_digest 62 = .ok (.iload 6, 2) := by decide +kernel
theorem dX7_digest_64 : decode cX7_digest 64 = .ok (.iload 5, 2) := by decide +kernel
theorem dX7_digest_66 : decode cX7_digest 66 = .ok (.if_icmp .ge 44, 3) := by decide +kernel
theorem dX7_digest_69 : decode cX7_digest 69 = .ok (.aload 4, 2) := by decide +kernel
theorem dX7_digest_71 : decode cX7_digest 71 = .ok (.iload 6, 2) := by decide +kernel
theorem dX7_digest_73 : decode cX7_digest 73 = .ok (.iaload, 1) := by decide +kernel
theorem dX7_digest_74 : decode cX7_digest 74 = .ok (.istore 7, 2) := by decide +kernel
theorem dX7_digest_76 : decode cX7_digest 76 = .ok (.lload_n 1, 1) := by decide +kernel
theorem dX7_digest_77 : decode cX7_digest 77 = .ok (.aload_n 0, 1) := by decide +kernel
theorem dX7_digest_78 : decode cX7_digest 78 = .ok (.iload 7, 2) := by decide +kernel
theorem dX7_digest_80 : decode cX7_digest 80 = .ok (.iload_n 3, 1) := by decide +kernel
theorem dX7_digest_81 : decode cX7_digest 81 = .ok (.iconst 0, 1) := by decide +kernel
theorem dX7_digest_82 : decode cX7_digest 82 = .ok (.invokevirtual 329, 3) := by decide +kernel
theorem dX7_digest_85 : decode cX7_digest 85 = .ok (.i2l, 1) := by decide +kernel
theorem dX7_digest_86 : decode cX7_digest 86 = .ok (.invokestatic 322, 3) := by decide +kernel
theorem dX7_digest_89 : decode cX7_digest 89 = .ok (.lstore_n 1, 1) := by decide +kernel
theorem dX7_digest_90 : decode cX7_digest 90 = .ok (.lload_n 1, 1) := by decide +kernel
theorem dX7_digest_91 : decode cX7_digest 91 = .ok (.aload_n 0, 1) := by decide +kernel
theorem dX7_digest_92 : decode cX7_digest 92 = .ok (.iload 7, 2) := by decide +kernel
theorem dX7_digest_94 : decode cX7_digest 94 = .ok (.iload_n 3, 1) := by decide +kernel
theorem dX7_digest_95 : decode cX7_digest 95 = .ok (.iconst 1, 1) := by decide +kernel
theorem dX7_digest_96 : decode cX7_digest 96 = .ok (.invokevirtual 329, 3) := by decide +kernel
theorem dX7_digest_99 : decode cX7_digest 99 = .ok (.i2l, 1) := by decide +kernel
theorem dX7_digest_100 : decode cX7_digest 100 = .ok (.invokestatic 322, 3) := by decide +kernel
theorem dX7_digest_103 : decode cX7_digest 103 = .ok (.lstore_n 1, 1) := by decide +kernel
theorem dX7_digest_104 : decode cX7_digest 104 = .ok (.iinc 6 1, 3) := by decide +kernel
theorem dX7_digest_107 : decode cX7_digest 107 = .ok (.goto (-45), 3) := by decide +kernel
theorem dX7_digest_110 : decode cX7_digest 110 = .ok (.lload_n 1, 1) := by decide +kernel
theorem dX7_digest_111 : decode cX7_digest 111 = .ok (.aload_n 0, 1) := by decide +kernel
theorem dX7_digest_112 : decode cX7_digest 112 = .ok (.iload_n 3, 1) := by decide +kernel
theorem dX7_digest_113 : decode cX7_digest 113 = .ok (.invokevirtual 332, 3) := by decide +kernel
theorem dX7_digest_116 : decode cX7_digest 116 = .ok (.i2l, 1) := by decide +kernel
theorem dX7_digest_117 : decode cX7_digest 117 = .ok (.invokestatic 322, 3) := by decide +kernel
theorem dX7_digest_120 : decode cX7_digest 120 = .ok (.lstore_n 1, 1) := by decide +kernel
theorem dX7_digest_121 : decode cX7_digest 121 = .ok (.lload_n 1, 1) := by decide +kernel
theorem dX7_digest_122 : decode cX7_digest 122 = .ok (.aload_n 0, 1) := by decide +kernel
theorem dX7_digest_123 : decode cX7_digest 123 = .ok (.iload_n 3, 1) := by decide +kernel
theorem dX7_digest_124 : decode cX7_digest 124 = .ok (.iconst 0, 1) := by decide +kernel
theorem dX7_digest_125 : decode cX7_digest 125 = .ok (.invokevirtual 335, 3) := by decide +kernel
theorem dX7_digest_128 : decode cX7_digest 128 = .ok (.i2l, 1) := by decide +kernel
theorem dX7_digest_129 : decode cX7_digest 129 = .ok (.invokestatic 322, 3) := by decide +kernel
theorem dX7_digest_132 : decode cX7_digest 132 = .ok (.lstore_n 1, 1) := by decide +kernel
theorem dX7_digest_133 : decode cX7_digest 133 = .ok (.lload_n 1, 1) := by decide +kernel
theorem dX7_digest_134 : decode cX7_digest 134 = .ok (.aload_n 0, 1) := by decide +kernel
theorem dX7_digest_135 : decode cX7_digest 135 = .ok (.iload_n 3, 1) := by decide +kernel
theorem dX7_digest_136 : decode cX7_digest 136 = .ok (.iconst 1, 1) := by decide +kernel
theorem dX7_digest_137 : decode cX7_digest 137 = .ok (.invokevirtual 335, 3) := by decide +kernel
theorem dX7_digest_140 : decode cX7_digest 140 = .ok (.i2l, 1) := by decide +kernel
theorem dX7_digest_141 : decode cX7_digest 141 = .ok (.invokestatic 322, 3) := by decide +kernel
theorem dX7_digest_144 : decode cX7_digest 144 = .ok (.lstore_n 1, 1) := by decide +kernel
theorem dX7_digest_145 : decode cX7_digest 145 = .ok (.lload_n 1, 1) := by decide +kernel
theorem dX7_digest_146 : decode cX7_digest 146 = .ok (.aload_n 0, 1) := by decide +kernel
theorem dX7_digest_147 : decode cX7_digest 147 = .ok (.iload_n 3, 1) := by decide +kernel
theorem dX7_digest_148 : decode cX7_digest 148 = .ok (.iconst 0, 1) := by decide +kernel
theorem dX7_digest_149 : decode cX7_digest 149 = .ok (.invokevirtual 338, 3) := by decide +kernel
theorem dX7_digest_152 : decode cX7_digest 152 = .ok (.i2l, 1) := by decide +kernel
theorem dX7_digest_153 : decode cX7_digest 153 = .ok (.invokestatic 322, 3) := by decide +kernel
theorem dX7_digest_156 : decode cX7_digest 156 = .ok (.lstore_n 1, 1) := by decide +kernel
theorem dX7_digest_157 : decode cX7_digest 157 = .ok (.lload_n 1, 1) := by decide +kernel
theorem dX7_digest_158 : decode cX7_digest 158 = .ok (.aload_n 0, 1) := by decide +kernel
theorem dX7_digest_159 : decode cX7_digest 159 = .ok (.iload_n 3, 1) := by decide +kernel
theorem dX7_digest_160 : decode cX7_digest 160 = .ok (.iconst 1, 1) := by decide +kernel
theorem dX7_digest_161 : decode cX7_digest 161 = .ok (.invokevirtual 338, 3) := by decide +kernel
theorem dX7_digest_164 : decode cX7_digest 164 = .ok (.i2l, 1) := by decide +kernel
theorem dX7_digest_165 : decode cX7_digest 165 = .ok (.invokestatic 322, 3) := by decide +kernel
theorem dX7_digest_168 : decode cX7_digest 168 = .ok (.lstore_n 1, 1) := by decide +kernel
theorem dX7_digest_169 : decode cX7_digest 169 = .ok (.lload_n 1, 1) := by decide +kernel
theorem dX7_digest_170 : decode cX7_digest 170 = .ok (.aload_n 0, 1) := by decide +kernel
theorem dX7_digest_171 : decode cX7_digest 171 = .ok (.iload_n 3, 1) := by decide +kernel
theorem dX7_digest_172 : decode cX7_digest 172 = .ok (.invokevirtual 341, 3) := by decide +kernel
theorem dX7_digest_175 : decode cX7_digest 175 = .ok (.i2l, 1) := by decide +kernel
theorem dX7_digest_176 : decode cX7_digest 176 = .ok (.invokestatic 322, 3) := by decide +kernel
theorem dX7_digest_179 : decode cX7_digest 179 = .ok (.lstore_n 1, 1) := by decide +kernel
theorem dX7_digest_180 : decode cX7_digest 180 = .ok (.iinc 3 1, 3) := by decide +kernel
theorem dX7_digest_183 : decode cX7_digest 183 = .ok (.goto (-173), 3) := by decide +kernel
theorem dX7_digest_186 : decode cX7_digest 186 = .ok (.iconst 0, 1) := by decide +kernel
theorem dX7_digest_187 : decode cX7_digest 187 = .ok (.istore_n 3, 1) := by decide +kernel
theorem dX7_digest_188 : decode cX7_digest 188 = .ok (.iload_n 3, 1) := by decide +kernel
theorem dX7_digest_189 : decode cX7_digest 189 = .ok (.iconst 2, 1) := by decide +kernel
theorem dX7_digest_190 : decode cX7_digest 190 = .ok (.if_icmp .ge 44, 3) := by decide +kernel
theorem dX7_digest_193 : decode cX7_digest 193 = .ok (.lload_n 1, 1) := by decide +kernel
theorem dX7_digest_194 : decode cX7_digest 194 = .ok (.aload_n 0, 1) := by decide +kernel
theorem dX7_digest_195 : decode cX7_digest 195 = .ok (.iload_n 3, 1) := by decide +kernel
theorem dX7_digest_196 : decode cX7_digest 196 = .ok (.invokevirtual 344, 3) := by decide +kernel
theorem dX7_digest_199 : decode cX7_digest 199 = .ok (.i2l, 1) := by decide +kernel
theorem dX7_digest_200 : decode cX7_digest 200 = .ok (.invokestatic 322, 3) := by decide +kernel
theorem dX7_digest_203 : decode cX7_digest 203 = .ok (.lstore_n 1, 1) := by decide +kernel
theorem dX7_digest_204 : decode cX7_digest 204 = .ok (.lload_n 1, 1) := by decide +kernel
theorem dX7_digest_205 : decode cX7_digest 205 = .ok (.aload_n 0, 1) := by decide +kernel
theorem dX7_digest_206 : decode cX7_digest 206 = .ok (.iload_n 3, 1) := by decide +kernel
theorem dX7_digest_207 : decode cX7_digest 207 = .ok (.iconst 0, 1) := by decide +kernel
theorem dX7_digest_208 : decode cX7_digest 208 = .ok (.invokevirtual 347, 3) := by decide +kernel
theorem dX7_digest_211 : decode cX7_digest 211 = .ok (.i2l, 1) := by decide +kernel
theorem dX7_digest_212 : decode cX7_digest 212 = .ok (.invokestatic 322, 3) := by decide +kernel
theorem dX7_digest_215 : decode cX7_digest 215 = .ok (.lstore_n 1, 1) := by decide +kernel
theorem dX7_digest_216 : decode cX7_digest 216 = .ok (.lload_n 1, 1) := by decide +kernel
theorem dX7_digest_217 : decode cX7_digest 217 = .ok (.aload_n 0, 1) := by decide +kernel
theorem dX7_digest_218 : decode cX7_digest 218 = .ok (.iload_n 3, 1) := by decide +kernel
theorem dX7_digest_219 : decode cX7_digest 219 = .ok (.iconst 1, 1) := by decide +kernel
theorem dX7_digest_220 : decode cX7_digest 220 = .ok (.invokevirtual 347, 3) := by decide +kernel
theorem dX7_digest_223 : decode cX7_digest 223 = .ok (.i2l, 1) := by decide +kernel
theorem dX7_digest_224 : decode cX7_digest 224 = .ok (.invokestatic 322, 3) := by decide +kernel
theorem dX7_digest_227 : decode cX7_digest 227 = .ok (.lstore_n 1, 1) := by decide +kernel
theorem dX7_digest_228 : decode cX7_digest 228 = .ok (.iinc 3 1, 3) := by decide +kernel
theorem dX7_digest_231 : decode cX7_digest 231 = .ok (.goto (-43), 3) := by decide +kernel
theorem dX7_digest_234 : decode cX7_digest 234 = .ok (.lload_n 1, 1) := by decide +kernel
theorem dX7_digest_235 : decode cX7_digest 235 = .ok (.aload_n 0, 1) := by decide +kernel
theorem dX7_digest_236 : decode cX7_digest 236 = .ok (.invokevirtual 350, 3) := by decide +kernel
theorem dX7_digest_239 : decode cX7_digest 239 = .ok (.i2l, 1) := by decide +kernel
theorem dX7_digest_240 : decode cX7_digest 240 = .ok (.invokestatic 322, 3) := by decide +kernel
theorem dX7_digest_243 : decode cX7_digest 243 = .ok (.lstore_n 1, 1) := by decide +kernel
theorem dX7_digest_244 : decode cX7_digest 244 = .ok (.lload_n 1, 1) := by decide +kernel
theorem dX7_digest_245 : decode cX7_digest 245 = .ok (.aload_n 0, 1) := by decide +kernel
theorem dX7_digest_246 : decode cX7_digest 246 = .ok (.iconst 0, 1) := by decide +kernel
theorem dX7_digest_247 : decode cX7_digest 247 = .ok (.invokevirtual 353, 3) := by decide +kernel
theorem dX7_digest_250 : decode cX7_digest 250 = .ok (.i2l, 1) := by decide +kernel
theorem dX7_digest_251 : decode cX7_digest 251 = .ok (.invokestatic 322, 3) := by decide +kernel
theorem dX7_digest_254 : decode cX7_digest 254 = .ok (.lstore_n 1, 1) := by decide +kernel
theorem dX7_digest_255 : decode cX7_digest 255 = .ok (.lload_n 1, 1) := by decide +kernel
theorem dX7_digest_256 : decode cX7_digest 256 = .ok (.aload_n 0, 1) := by decide +kernel
theorem dX7_digest_257 : decode cX7_digest 257 = .ok (.iconst 1, 1) := by decide +kernel
theorem dX7_digest_258 : decode cX7_digest 258 = .ok (.invokevirtual 353, 3) := by decide +kernel
theorem dX7_digest_261 : decode cX7_digest 261 = .ok (.i2l, 1) := by decide +kernel
theorem dX7_digest_262 : decode cX7_digest 262 = .ok (.invokestatic 322, 3) := by decide +kernel
theorem dX7_digest_265 : decode cX7_digest 265 = .ok (.lstore_n 1, 1) := by decide +kernel
theorem dX7_digest_266 : decode cX7_digest 266 = .ok (.lload_n 1, 1) := by decide +kernel
theorem dX7_digest_267 : decode cX7_digest 267 = .ok (.aload_n 0, 1) := by decide +kernel
theorem dX7_digest_268 : decode cX7_digest 268 = .ok (.invokevirtual 356, 3) := by decide +kernel
theorem dX7_digest_271 : decode cX7_digest 271 = .ok (.i2l, 1) := by decide +kernel
theorem dX7_digest_272 : decode cX7_digest 272 = .ok (.invokestatic 322, 3) := by decide +kernel
theorem dX7_digest_275 : decode cX7_digest 275 = .ok (.lstore_n 1, 1) := by decide +kernel
theorem dX7_digest_276 : decode cX7_digest 276 = .ok (.lload_n 1, 1) := by decide +kernel
theorem dX7_digest_277 : decode cX7_digest 277 = .ok (.aload_n 0, 1) := by decide +kernel
theorem dX7_digest_278 : decode cX7_digest 278 = .ok (.invokevirtual 359, 3) := by decide +kernel
theorem dX7_digest_281 : decode cX7_digest 281 = .ok (.i2l, 1) := by decide +kernel
theorem dX7_digest_282 : decode cX7_digest 282 = .ok (.invokestatic 322, 3) := by decide +kernel
theorem dX7_digest_285 : decode cX7_digest 285 = .ok (.lstore_n 1, 1) := by decide +kernel
theorem dX7_digest_286 : decode cX7_digest 286 = .ok (.lload_n 1, 1) := by decide +kernel
theorem dX7_digest_287 : decode cX7_digest 287 = .ok (.aload_n 0, 1) := by decide +kernel
theorem dX7_digest_288 : decode cX7_digest 288 = .ok (.bipush 8, 2) := by decide +kernel
theorem dX7_digest_290 : decode cX7_digest 290 = .ok (.iconst 0, 1) := by decide +kernel
theorem dX7_digest_291 : decode cX7_digest 291 = .ok (.invokevirtual 362, 3) := by decide +kernel
theorem dX7_digest_294 : decode cX7_digest 294 = .ok (.i2l, 1) := by decide +kernel
theorem dX7_digest_295 : decode cX7_digest 295 = .ok (.invokestatic 322, 3) := by decide +kernel
theorem dX7_digest_298 : decode cX7_digest 298 = .ok (.lstore_n 1, 1) := by decide +kernel
theorem dX7_digest_299 : decode cX7_digest 299 = .ok (.lload_n 1, 1) := by decide +kernel
theorem dX7_digest_300 : decode cX7_digest 300 = .ok (.aload_n 0, 1) := by decide +kernel
theorem dX7_digest_301 : decode cX7_digest 301 = .ok (.bipush 8, 2) := by decide +kernel
theorem dX7_digest_303 : decode cX7_digest 303 = .ok (.iconst 1, 1) := by decide +kernel
theorem dX7_digest_304 : decode cX7_digest 304 = .ok (.invokevirtual 362, 3) := by decide +kernel
theorem dX7_digest_307 : decode cX7_digest 307 = .ok (.i2l, 1) := by decide +kernel
theorem dX7_digest_308 : decode cX7_digest 308 = .ok (.invokestatic 322, 3) := by decide +kernel
theorem dX7_digest_311 : decode cX7_digest 311 = .ok (.lstore_n 1, 1) := by decide +kernel
theorem dX7_digest_312 : decode cX7_digest 312 = .ok (.lload_n 1, 1) := by decide +kernel
theorem dX7_digest_313 : decode cX7_digest 313 = .ok (.aload_n 0, 1) := by decide +kernel
theorem dX7_digest_314 : decode cX7_digest 314 = .ok (.bipush 8, 2) := by decide +kernel
theorem dX7_digest_316 : decode cX7_digest 316 = .ok (.iconst 0, 1) := by decide +kernel
theorem dX7_digest_317 : decode cX7_digest 317 = .ok (.invokevirtual 364, 3) := by decide +kernel
theorem dX7_digest_320 : decode cX7_digest 320 = .ok (.i2l, 1) := by decide +kernel
theorem dX7_digest_321 : decode cX7_digest 321 = .ok (.invokestatic 322, 3) := by decide +kernel
theorem dX7_digest_324 : decode cX7_digest 324 = .ok (.lstore_n 1, 1) := by decide +kernel
theorem dX7_digest_325 : decode cX7_digest 325 = .ok (.lload_n 1, 1) := by decide +kernel
theorem dX7_digest_326 : decode cX7_digest 326 = .ok (.aload_n 0, 1) := by decide +kernel
theorem dX7_digest_327 : decode cX7_digest 327 = .ok (.bipush 8, 2) := by decide +kernel
theorem dX7_digest_329 : decode cX7_digest 329 = .ok (.iconst 1, 1) := by decide +kernel
theorem dX7_digest_330 : decode cX7_digest 330 = .ok (.invokevirtual 364, 3) := by decide +kernel
theorem dX7_digest_333 : decode cX7_digest 333 = .ok (.i2l, 1) := by decide +kernel
theorem dX7_digest_334 : decode cX7_digest 334 = .ok (.invokestatic 322, 3) := by decide +kernel
theorem dX7_digest_337 : decode cX7_digest 337 = .ok (.lstore_n 1, 1) := by decide +kernel
theorem dX7_digest_338 : decode cX7_digest 338 = .ok (.lload_n 1, 1) := by decide +kernel
theorem dX7_digest_339 : decode cX7_digest 339 = .ok (.aload_n 0, 1) := by decide +kernel
theorem dX7_digest_340 : decode cX7_digest 340 = .ok (.iconst 5, 1) := by decide +kernel
theorem dX7_digest_341 : decode cX7_digest 341 = .ok (.bipush 17, 2) := by decide +kernel
theorem dX7_digest_343 : decode cX7_digest 343 = .ok (.iconst 0, 1) := by decide +kernel
theorem dX7_digest_344 : decode cX7_digest 344 = .ok (.invokevirtual 367, 3) := by decide +kernel
theorem dX7_digest_347 : decode cX7_digest 347 = .ok (.invokestatic 322, 3) := by decide +kernel
theorem dX7_digest_350 : decode cX7_digest 350 = .ok (.lstore_n 1, 1) := by decide +kernel
theorem dX7_digest_351 : decode cX7_digest 351 = .ok (.lload_n 1, 1) := by decide +kernel
theorem dX7_digest_352 : decode cX7_digest 352 = .ok (.aload_n 0, 1) := by decide +kernel
theorem dX7_digest_353 : decode cX7_digest 353 = .ok (.iconst 5, 1) := by decide +kernel
end
section
theorem dX7_digest_354 : decode cX7_digest 354 = .ok (.bipush 17, 2) := by decide +kernel
theorem dX7_digest_356 : decode cX7_digest 356 = .ok (.iconst 1, 1) := by decide +kernel
theorem dX7_digest_357 : decode cX7_digest 357 = .ok (.invokevirtual 367, 3) := by decide +kernel
theorem dX7_digest_360 : decode cX7_digest 360 = .ok (.invokestatic 322, 3) := by decide +kernel
theorem dX7_digest_363 : decode cX7_digest 363 = .ok (.lstore_n 1, 1) := by decide +kernel
theorem dX7_digest_364 : decode cX7_digest 364 = .ok (.lload_n 1, 1) := by decide +kernel
theorem dX7_digest_365 : decode cX7_digest 365 = .ok (.aload_n 0, 1) := by decide +kernel
theorem dX7_digest_366 : decode cX7_digest 366 = .ok (.iconst (-1), 1) := by decide +kernel
theorem dX7_digest_367 : decode cX7_digest 367 = .ok (.invokevirtual 371, 3) := by decide +kernel
theorem dX7_digest_370 : decode cX7_digest 370 = .ok (.i2l, 1) := by decide +kernel
theorem dX7_digest_371 : decode cX7_digest 371 = .ok (.invokestatic 322, 3) := by decide +kernel
theorem dX7_digest_374 : decode cX7_digest 374 = .ok (.lstore_n 1, 1) := by decide +kernel
theorem dX7_digest_375 : decode cX7_digest 375 = .ok (.lload_n 1, 1) := by decide +kernel
theorem dX7_digest_376 : decode cX7_digest 376 = .ok (.aload_n 0, 1) := by decide +kernel
theorem dX7_digest_377 : decode cX7_digest 377 = .ok (.iconst 0, 1) := by decide +kernel
theorem dX7_digest_378 : decode cX7_digest 378 = .ok (.invokevirtual 371, 3) := by decide +kernel
theorem dX7_digest_381 : decode cX7_digest 381 = .ok (.i2l, 1) := by decide +kernel
theorem dX7_digest_382 : decode cX7_digest 382 = .ok (.invokestatic 322, 3) := by decide +kernel
theorem dX7_digest_385 : decode cX7_digest 385 = .ok (.lstore_n 1, 1) := by decide +kernel
theorem dX7_digest_386 : decode cX7_digest 386 = .ok (.lload_n 1, 1) := by decide +kernel
theorem dX7_digest_387 : decode cX7_digest 387 = .ok (.aload_n 0, 1) := by decide +kernel
theorem dX7_digest_388 : decode cX7_digest 388 = .ok (.invokevirtual 374, 3) := by decide +kernel
theorem dX7_digest_391 : decode cX7_digest 391 = .ok (.i2l, 1) := by decide +kernel
theorem dX7_digest_392 : decode cX7_digest 392 = .ok (.invokestatic 322, 3) := by decide +kernel
theorem dX7_digest_395 : decode cX7_digest 395 = .ok (.lstore_n 1, 1) := by decide +kernel
theorem dX7_digest_396 : decode cX7_digest 396 = .ok (.lload_n 1, 1) := by decide +kernel
theorem dX7_digest_397 : decode cX7_digest 397 = .ok (.aload_n 0, 1) := by decide +kernel
theorem dX7_digest_398 : decode cX7_digest 398 = .ok (.bipush 7, 2) := by decide +kernel
theorem dX7_digest_400 : decode cX7_digest 400 = .ok (.bipush 18, 2) := by decide +kernel
theorem dX7_digest_402 : decode cX7_digest 402 = .ok (.iconst 0, 1) := by decide +kernel
theorem dX7_digest_403 : decode cX7_digest 403 = .ok (.invokevirtual 377, 3) := by decide +kernel
theorem dX7_digest_406 : decode cX7_digest 406 = .ok (.i2l, 1) := by decide +kernel
theorem dX7_digest_407 : decode cX7_digest 407 = .ok (.invokestatic 322, 3) := by decide +kernel
theorem dX7_digest_410 : decode cX7_digest 410 = .ok (.lstore_n 1, 1) := by decide +kernel
theorem dX7_digest_411 : decode cX7_digest 411 = .ok (.lload_n 1, 1) := by decide +kernel
theorem dX7_digest_412 : decode cX7_digest 412 = .ok (.aload_n 0, 1) := by decide +kernel
theorem dX7_digest_413 : decode cX7_digest 413 = .ok (.bipush 7, 2) := by decide +kernel
theorem dX7_digest_415 : decode cX7_digest 415 = .ok (.bipush 18, 2) := by decide +kernel
theorem dX7_digest_417 : decode cX7_digest 417 = .ok (.iconst 1, 1) := by decide +kernel
theorem dX7_digest_418 : decode cX7_digest 418 = .ok (.invokevirtual 377, 3) := by decide +kernel
theorem dX7_digest_421 : decode cX7_digest 421 = .ok (.i2l, 1) := by decide +kernel
theorem dX7_digest_422 : decode cX7_digest 422 = .ok (.invokestatic 322, 3) := by decide +kernel
theorem dX7_digest_425 : decode cX7_digest 425 = .ok (.lreturn, 1) := by decide +kernel
theorem dX7_digestTold_0 : decode cX7_digestTold 0 = .ok (.lload_n 1, 1) := by decide +kernel
theorem dX7_digestTold_1 : decode cX7_digestTold 1 = .ok (.lstore_n 3, 1) := by decide +kernel
theorem dX7_digestTold_2 : decode cX7_digestTold 2 = .ok (.iconst 0, 1) := by decide +kernel
theorem dX7_digestTold_3 : decode cX7_digestTold 3 = .ok (.istore 5, 2) := by decide +kernel
theorem dX7_digestTold_5 : decode cX7_digestTold 5 = .ok (.iload 5, 2) := by decide +kernel
theorem dX7_digestTold_7 : decode cX7_digestTold 7 = .ok (.bipush 7, 2) := by decide +kernel
theorem dX7_digestTold_9 : decode cX7_digestTold 9 = .ok (.if_icmp .gt 21, 3) := by decide +kernel
theorem dX7_digestTold_12 : decode cX7_digestTold 12 = .ok (.lload_n 3, 1) := by decide +kernel
theorem dX7_digestTold_13 : decode cX7_digestTold 13 = .ok (.aload_n 0, 1) := by decide +kernel
theorem dX7_digestTold_14 : decode cX7_digestTold 14 = .ok (.iload 5, 2) := by decide +kernel
theorem dX7_digestTold_16 : decode cX7_digestTold 16 = .ok (.invokevirtual 380, 3) := by decide +kernel
theorem dX7_digestTold_19 : decode cX7_digestTold 19 = .ok (.i2l, 1) := by decide +kernel
theorem dX7_digestTold_20 : decode cX7_digestTold 20 = .ok (.invokestatic 322, 3) := by decide +kernel
theorem dX7_digestTold_23 : decode cX7_digestTold 23 = .ok (.lstore_n 3, 1) := by decide +kernel
theorem dX7_digestTold_24 : decode cX7_digestTold 24 = .ok (.iinc 5 1, 3) := by decide +kernel
theorem dX7_digestTold_27 : decode cX7_digestTold 27 = .ok (.goto (-22), 3) := by decide +kernel
theorem dX7_digestTold_30 : decode cX7_digestTold 30 = .ok (.iconst 0, 1) := by decide +kernel
theorem dX7_digestTold_31 : decode cX7_digestTold 31 = .ok (.istore 5, 2) := by decide +kernel
theorem dX7_digestTold_33 : decode cX7_digestTold 33 = .ok (.iload 5, 2) := by decide +kernel
theorem dX7_digestTold_35 : decode cX7_digestTold 35 = .ok (.iconst 2, 1) := by decide +kernel
theorem dX7_digestTold_36 : decode cX7_digestTold 36 = .ok (.if_icmp .gt 21, 3) := by decide +kernel
theorem dX7_digestTold_39 : decode cX7_digestTold 39 = .ok (.lload_n 3, 1) := by decide +kernel
theorem dX7_digestTold_40 : decode cX7_digestTold 40 = .ok (.aload_n 0, 1) := by decide +kernel
theorem dX7_digestTold_41 : decode cX7_digestTold 41 = .ok (.iload 5, 2) := by decide +kernel
theorem dX7_digestTold_43 : decode cX7_digestTold 43 = .ok (.invokevirtual 383, 3) := by decide +kernel
theorem dX7_digestTold_46 : decode cX7_digestTold 46 = .ok (.i2l, 1) := by decide +kernel
theorem dX7_digestTold_47 : decode cX7_digestTold 47 = .ok (.invokestatic 322, 3) := by decide +kernel
theorem dX7_digestTold_50 : decode cX7_digestTold 50 = .ok (.lstore_n 3, 1) := by decide +kernel
theorem dX7_digestTold_51 : decode cX7_digestTold 51 = .ok (.iinc 5 1, 3) := by decide +kernel
theorem dX7_digestTold_54 : decode cX7_digestTold 54 = .ok (.goto (-21), 3) := by decide +kernel
theorem dX7_digestTold_57 : decode cX7_digestTold 57 = .ok (.iconst 0, 1) := by decide +kernel
theorem dX7_digestTold_58 : decode cX7_digestTold 58 = .ok (.istore 5, 2) := by decide +kernel
theorem dX7_digestTold_60 : decode cX7_digestTold 60 = .ok (.iload 5, 2) := by decide +kernel
theorem dX7_digestTold_62 : decode cX7_digestTold 62 = .ok (.bipush 12, 2) := by decide +kernel
theorem dX7_digestTold_64 : decode cX7_digestTold 64 = .ok (.if_icmp .ge 38, 3) := by decide +kernel
theorem dX7_digestTold_67 : decode cX7_digestTold 67 = .ok (.iconst 0, 1) := by decide +kernel
theorem dX7_digestTold_68 : decode cX7_digestTold 68 = .ok (.istore 6, 2) := by decide +kernel
theorem dX7_digestTold_70 : decode cX7_digestTold 70 = .ok (.iload 6, 2) := by decide +kernel
theorem dX7_digestTold_72 : decode cX7_digestTold 72 = .ok (.iconst 2, 1) := by decide +kernel
theorem dX7_digestTold_73 : decode cX7_digestTold 73 = .ok (.if_icmp .gt 23, 3) := by decide +kernel
theorem dX7_digestTold_76 : decode cX7_digestTold 76 = .ok (.lload_n 3, 1) := by decide +kernel
theorem dX7_digestTold_77 : decode cX7_digestTold 77 = .ok (.aload_n 0, 1) := by decide +kernel
theorem dX7_digestTold_78 : decode cX7_digestTold 78 = .ok (.iload 5, 2) := by decide +kernel
theorem dX7_digestTold_80 : decode cX7_digestTold 80 = .ok (.iload 6, 2) := by decide +kernel
theorem dX7_digestTold_82 : decode cX7_digestTold 82 = .ok (.invokevirtual 385, 3) := by decide +kernel
theorem dX7_digestTold_85 : decode cX7_digestTold 85 = .ok (.i2l, 1) := by decide +kernel
theorem dX7_digestTold_86 : decode cX7_digestTold 86 = .ok (.invokestatic 322, 3) := by decide +kernel
theorem dX7_digestTold_89 : decode cX7_digestTold 89 = .ok (.lstore_n 3, 1) := by decide +kernel
theorem dX7_digestTold_90 : decode cX7_digestTold 90 = .ok (.iinc 6 1, 3) := by decide +kernel
theorem dX7_digestTold_93 : decode cX7_digestTold 93 = .ok (.goto (-23), 3) := by decide +kernel
theorem dX7_digestTold_96 : decode cX7_digestTold 96 = .ok (.iinc 5 1, 3) := by decide +kernel
theorem dX7_digestTold_99 : decode cX7_digestTold 99 = .ok (.goto (-39), 3) := by decide +kernel
theorem dX7_digestTold_102 : decode cX7_digestTold 102 = .ok (.iconst 0, 1) := by decide +kernel
theorem dX7_digestTold_103 : decode cX7_digestTold 103 = .ok (.istore 5, 2) := by decide +kernel
theorem dX7_digestTold_105 : decode cX7_digestTold 105 = .ok (.iload 5, 2) := by decide +kernel
theorem dX7_digestTold_107 : decode cX7_digestTold 107 = .ok (.bipush 24, 2) := by decide +kernel
theorem dX7_digestTold_109 : decode cX7_digestTold 109 = .ok (.if_icmp .ge 50, 3) := by decide +kernel
theorem dX7_digestTold_112 : decode cX7_digestTold 112 = .ok (.lload_n 3, 1) := by decide +kernel
theorem dX7_digestTold_113 : decode cX7_digestTold 113 = .ok (.aload_n 0, 1) := by decide +kernel
theorem dX7_digestTold_114 : decode cX7_digestTold 114 = .ok (.iload 5, 2) := by decide +kernel
theorem dX7_digestTold_116 : decode cX7_digestTold 116 = .ok (.invokevirtual 388, 3) := by decide +kernel
theorem dX7_digestTold_119 : decode cX7_digestTold 119 = .ok (.i2l, 1) := by decide +kernel
theorem dX7_digestTold_120 : decode cX7_digestTold 120 = .ok (.invokestatic 322, 3) := by decide +kernel
theorem dX7_digestTold_123 : decode cX7_digestTold 123 = .ok (.lstore_n 3, 1) := by decide +kernel
theorem dX7_digestTold_124 : decode cX7_digestTold 124 = .ok (.iconst 0, 1) := by decide +kernel
theorem dX7_digestTold_125 : decode cX7_digestTold 125 = .ok (.istore 6, 2) := by decide +kernel
theorem dX7_digestTold_127 : decode cX7_digestTold 127 = .ok (.iload 6, 2) := by decide +kernel
theorem dX7_digestTold_129 : decode cX7_digestTold 129 = .ok (.iconst 3, 1) := by decide +kernel
theorem dX7_digestTold_130 : decode cX7_digestTold 130 = .ok (.if_icmp .gt 23, 3) := by decide +kernel
theorem dX7_digestTold_133 : decode cX7_digestTold 133 = .ok (.lload_n 3, 1) := by decide +kernel
theorem dX7_digestTold_134 : decode cX7_digestTold 134 = .ok (.aload_n 0, 1) := by decide +kernel
theorem dX7_digestTold_135 : decode cX7_digestTold 135 = .ok (.iload 5, 2) := by decide +kernel
theorem dX7_digestTold_137 : decode cX7_digestTold 137 = .ok (.iload 6, 2) := by decide +kernel
theorem dX7_digestTold_139 : decode cX7_digestTold 139 = .ok (.invokevirtual 391, 3) := by decide +kernel
theorem dX7_digestTold_142 : decode cX7_digestTold 142 = .ok (.i2l, 1) := by decide +kernel
theorem dX7_digestTold_143 : decode cX7_digestTold 143 = .ok (.invokestatic 322, 3) := by decide +kernel
theorem dX7_digestTold_146 : decode cX7_digestTold 146 = .ok (.lstore_n 3, 1) := by decide +kernel
theorem dX7_digestTold_147 : decode cX7_digestTold 147 = .ok (.iinc 6 1, 3) := by decide +kernel
theorem dX7_digestTold_150 : decode cX7_digestTold 150 = .ok (.goto (-23), 3) := by decide +kernel
theorem dX7_digestTold_153 : decode cX7_digestTold 153 = .ok (.iinc 5 1, 3) := by decide +kernel
theorem dX7_digestTold_156 : decode cX7_digestTold 156 = .ok (.goto (-51), 3) := by decide +kernel
theorem dX7_digestTold_159 : decode cX7_digestTold 159 = .ok (.lload_n 3, 1) := by decide +kernel
theorem dX7_digestTold_160 : decode cX7_digestTold 160 = .ok (.lreturn, 1) := by decide +kernel
theorem dX7_mix_0 : decode cX7_mix 0 = .ok (.ldc2_w 394, 3) := by decide +kernel
theorem dX7_mix_3 : decode cX7_mix 3 = .ok (.lload_n 0, 1) := by decide +kernel
theorem dX7_mix_4 : decode cX7_mix 4 = .ok (.lmul, 1) := by decide +kernel
theorem dX7_mix_5 : decode cX7_mix 5 = .ok (.lload_n 2, 1) := by decide +kernel
theorem dX7_mix_6 : decode cX7_mix 6 = .ok (.ladd, 1) := by decide +kernel
theorem dX7_mix_7 : decode cX7_mix 7 = .ok (.lreturn, 1) := by decide +kernel
theorem dX7_within_0 : decode cX7_within 0 = .ok (.iload_n 0, 1) := by decide +kernel
theorem dX7_within_1 : decode cX7_within 1 = .ok (.iload_n 1, 1) := by decide +kernel
theorem dX7_within_2 : decode cX7_within 2 = .ok (.if_icmp .lt 12, 3) := by decide +kernel
theorem dX7_within_5 : decode cX7_within 5 = .ok (.iload_n 0, 1) := by decide +kernel
theorem dX7_within_6 : decode cX7_within 6 = .ok (.iload_n 2, 1) := by decide +kernel
theorem dX7_within_7 : decode cX7_within 7 = .ok (.if_icmp .gt 7, 3) := by decide +kernel
theorem dX7_within_10 : decode cX7_within 10 = .ok (.iconst 1, 1) := by decide +kernel
theorem dX7_within_11 : decode cX7_within 11 = .ok (.goto 4, 3) := by decide +kernel
theorem dX7_within_14 : decode cX7_within 14 = .ok (.iconst 0, 1) := by decide +kernel
theorem dX7_within_15 : decode cX7_within 15 = .ok (.ireturn, 1) := by decide +kernel
theorem dX7_isMoment_0 : decode cX7_isMoment 0 = .ok (.iload_n 0, 1) := by decide +kernel
theorem dX7_isMoment_1 : decode cX7_isMoment 1 = .ok (.iconst 0, 1) := by decide +kernel
theorem dX7_isMoment_2 : decode cX7_isMoment 2 = .ok (.bipush 23, 2) := by decide +kernel
theorem dX7_isMoment_4 : decode cX7_isMoment 4 = .ok (.invokestatic 107, 3) := by decide +kernel
theorem dX7_isMoment_7 : decode cX7_isMoment 7 = .ok (.ireturn, 1) := by decide +kernel
theorem dX7_isStation_0 : decode cX7_isStation 0 = .ok (.iload_n 0, 1) := by decide +kernel
theorem dX7_isStation_1 : decode cX7_isStation 1 = .ok (.iconst 0, 1) := by decide +kernel
theorem dX7_isStation_2 : decode cX7_isStation 2 = .ok (.iconst 1, 1) := by decide +kernel
theorem dX7_isStation_3 : decode cX7_isStation 3 = .ok (.invokestatic 107, 3) := by decide +kernel
theorem dX7_isStation_6 : decode cX7_isStation 6 = .ok (.ireturn, 1) := by decide +kernel
theorem dX7_isForm_0 : decode cX7_isForm 0 = .ok (.iload_n 0, 1) := by decide +kernel
theorem dX7_isForm_1 : decode cX7_isForm 1 = .ok (.iconst 0, 1) := by decide +kernel
theorem dX7_isForm_2 : decode cX7_isForm 2 = .ok (.iconst 2, 1) := by decide +kernel
theorem dX7_isForm_3 : decode cX7_isForm 3 = .ok (.invokestatic 107, 3) := by decide +kernel
theorem dX7_isForm_6 : decode cX7_isForm 6 = .ok (.ireturn, 1) := by decide +kernel
theorem dX7_isCar_0 : decode cX7_isCar 0 = .ok (.iload_n 1, 1) := by decide +kernel
theorem dX7_isCar_1 : decode cX7_isCar 1 = .ok (.iconst 0, 1) := by decide +kernel
theorem dX7_isCar_2 : decode cX7_isCar 2 = .ok (.aload_n 0, 1) := by decide +kernel
theorem dX7_isCar_3 : decode cX7_isCar 3 = .ok (.getfield 31, 3) := by decide +kernel
theorem dX7_isCar_6 : decode cX7_isCar 6 = .ok (.getfield 135, 3) := by decide +kernel
theorem dX7_isCar_9 : decode cX7_isCar 9 = .ok (.iconst 1, 1) := by decide +kernel
theorem dX7_isCar_10 : decode cX7_isCar 10 = .ok (.isub, 1) := by decide +kernel
theorem dX7_isCar_11 : decode cX7_isCar 11 = .ok (.invokestatic 107, 3) := by decide +kernel
theorem dX7_isCar_14 : decode cX7_isCar 14 = .ok (.ireturn, 1) := by decide +kernel
theorem dX7_found_0 : decode cX7_found 0 = .ok (.aload_n 0, 1) := by decide +kernel
theorem dX7_found_1 : decode cX7_found 1 = .ok (.iload_n 1, 1) := by decide +kernel
theorem dX7_found_2 : decode cX7_found 2 = .ok (.putfield 100, 3) := by decide +kernel
theorem dX7_found_5 : decode cX7_found 5 = .ok (.bipush (-10), 2) := by decide +kernel
theorem dX7_found_7 : decode cX7_found 7 = .ok (.iload_n 1, 1) := by decide +kernel
theorem dX7_found_8 : decode cX7_found 8 = .ok (.isub, 1) := by decide +kernel
theorem dX7_found_9 : decode cX7_found 9 = .ok (.ireturn, 1) := by decide +kernel
theorem dX7_textOf_0 : decode cX7_textOf 0 = .ok (.iload_n 1, 1) := by decide +kernel
theorem dX7_textOf_1 : decode cX7_textOf 1 = .ok (.tableswitch 42 0 2 #[27, 32, 37], 27) := by decide +kernel
theorem dX7_textOf_28 : decode cX7_textOf 28 = .ok (.aload_n 0, 1) := by decide +kernel
theorem dX7_textOf_29 : decode cX7_textOf 29 = .ok (.getfield 14, 3) := by decide +kernel
theorem dX7_textOf_32 : decode cX7_textOf 32 = .ok (.areturn, 1) := by decide +kernel
theorem dX7_textOf_33 : decode cX7_textOf 33 = .ok (.aload_n 0, 1) := by decide +kernel
theorem dX7_textOf_34 : decode cX7_textOf 34 = .ok (.getfield 18, 3) := by decide +kernel
theorem dX7_textOf_37 : decode cX7_textOf 37 = .ok (.areturn, 1) := by decide +kernel
theorem dX7_textOf_38 : decode cX7_textOf 38 = .ok (.aload_n 0, 1) := by decide +kernel
theorem dX7_textOf_39 : decode cX7_textOf 39 = .ok (.getfield 21, 3) := by decide +kernel
theorem dX7_textOf_42 : decode cX7_textOf 42 = .ok (.areturn, 1) := by decide +kernel
theorem dX7_textOf_43 : decode cX7_textOf 43 = .ok (.aconst_null, 1) := by decide +kernel
theorem dX7_textOf_44 : decode cX7_textOf 44 = .ok (.areturn, 1) := by decide +kernel
theorem dX7_sheetOf_0 : decode cX7_sheetOf 0 = .ok (.iload_n 1, 1) := by decide +kernel
theorem dX7_sheetOf_1 : decode cX7_sheetOf 1 = .ok (.tableswitch 51 0 3 #[31, 36, 41, 46], 31) := by decide +kernel
theorem dX7_sheetOf_32 : decode cX7_sheetOf 32 = .ok (.aload_n 0, 1) := by decide +kernel
theorem dX7_sheetOf_33 : decode cX7_sheetOf 33 = .ok (.getfield 57, 3) := by decide +kernel
theorem dX7_sheetOf_36 : decode cX7_sheetOf 36 = .ok (.areturn, 1) := by decide +kernel
theorem dX7_sheetOf_37 : decode cX7_sheetOf 37 = .ok (.aload_n 0, 1) := by decide +kernel
theorem dX7_sheetOf_38 : decode cX7_sheetOf 38 = .ok (.getfield 61, 3) := by decide +kernel
theorem dX7_sheetOf_41 : decode cX7_sheetOf 41 = .ok (.areturn, 1) := by decide +kernel
theorem dX7_sheetOf_42 : decode cX7_sheetOf 42 = .ok (.aload_n 0, 1) := by decide +kernel
theorem dX7_sheetOf_43 : decode cX7_sheetOf 43 = .ok (.getfield 64, 3) := by decide +kernel
theorem dX7_sheetOf_46 : decode cX7_sheetOf 46 = .ok (.areturn, 1) := by decide +kernel
theorem dX7_sheetOf_47 : decode cX7_sheetOf 47 = .ok (.aload_n 0, 1) := by decide +kernel
theorem dX7_sheetOf_48 : decode cX7_sheetOf 48 = .ok (.getfield 67, 3) := by decide +kernel
theorem dX7_sheetOf_51 : decode cX7_sheetOf 51 = .ok (.areturn, 1) := by decide +kernel
theorem dX7_sheetOf_52 : decode cX7_sheetOf 52 = .ok (.aconst_null, 1) := by decide +kernel
theorem dX7_sheetOf_53 : decode cX7_sheetOf 53 = .ok (.areturn, 1) := by decide +kernel
theorem dX7_readAgain_0 : decode cX7_readAgain 0 = .ok (.iload_n 1, 1) := by decide +kernel
theorem dX7_readAgain_1 : decode cX7_readAgain 1 = .ok (.ifCond .ne 14, 3) := by decide +kernel
theorem dX7_readAgain_4 : decode cX7_readAgain 4 = .ok (.aload_n 0, 1) := by decide +kernel
theorem dX7_readAgain_5 : decode cX7_readAgain 5 = .ok (.getfield 31, 3) := by decide +kernel
theorem dX7_readAgain_8 : decode cX7_readAgain 8 = .ok (.aload_n 0, 1) := by decide +kernel
theorem dX7_readAgain_9 : decode cX7_readAgain 9 = .ok (.getfield 14, 3) := by decide +kernel
theorem dX7_readAgain_12 : decode cX7_readAgain 12 = .ok (.invokevirtual 396, 3) := by decide +kernel
theorem dX7_readAgain_15 : decode cX7_readAgain 15 = .ok (.iload_n 1, 1) := by decide +kernel
theorem dX7_readAgain_16 : decode cX7_readAgain 16 = .ok (.iconst 1, 1) := by decide +kernel
theorem dX7_readAgain_17 : decode cX7_readAgain 17 = .ok (.if_icmp .ne 14, 3) := by decide +kernel
theorem dX7_readAgain_20 : decode cX7_readAgain 20 = .ok (.aload_n 0, 1) := by decide +kernel
theorem dX7_readAgain_21 : decode cX7_readAgain 21 = .ok (.getfield 37, 3) := by decide +kernel
theorem dX7_readAgain_24 : decode cX7_readAgain 24 = .ok (.aload_n 0, 1) := by decide +kernel
theorem dX7_readAgain_25 : decode cX7_readAgain 25 = .ok (.getfield 18, 3) := by decide +kernel
theorem dX7_readAgain_28 : decode cX7_readAgain 28 = .ok (.invokevirtual 396, 3) := by decide +kernel
theorem dX7_readAgain_31 : decode cX7_readAgain 31 = .ok (.iload_n 1, 1) := by decide +kernel
theorem dX7_readAgain_32 : decode cX7_readAgain 32 = .ok (.iconst 2, 1) := by decide +kernel
theorem dX7_readAgain_33 : decode cX7_readAgain 33 = .ok (.if_icmp .ne 11, 3) := by decide +kernel
theorem dX7_readAgain_36 : decode cX7_readAgain 36 = .ok (.aload_n 0, 1) := by decide +kernel
theorem dX7_readAgain_37 : decode cX7_readAgain 37 = .ok (.aload_n 0, 1) := by decide +kernel
theorem dX7_readAgain_38 : decode cX7_readAgain 38 = .ok (.invokevirtual 400, 3) := by decide +kernel
theorem dX7_readAgain_41 : decode cX7_readAgain 41 = .ok (.putfield 92, 3) := by decide +kernel
theorem dX7_readAgain_44 : decode cX7_readAgain 44 = .ok (.aload_n 0, 1) := by decide +kernel
theorem dX7_readAgain_45 : decode cX7_readAgain 45 = .ok (.iconst 1, 1) := by decide +kernel
theorem dX7_readAgain_46 : decode cX7_readAgain 46 = .ok (.putfield 96, 3) := by decide +kernel
theorem dX7_readAgain_49 : decode cX7_readAgain 49 = .ok (.return_, 1) := by decide +kernel
theorem dX7_faultOfSpeed_0 : decode cX7_faultOfSpeed 0 = .ok (.iconst 0, 1) := by decide +kernel
theorem dX7_faultOfSpeed_1 : decode cX7_faultOfSpeed 1 = .ok (.istore_n 1, 1) := by decide +kernel
theorem dX7_faultOfSpeed_2 : decode cX7_faultOfSpeed 2 = .ok (.iload_n 1, 1) := by decide +kernel
theorem dX7_faultOfSpeed_3 : decode cX7_faultOfSpeed 3 = .ok (.aload_n 0, 1) := by decide +kernel
theorem dX7_faultOfSpeed_4 : decode cX7_faultOfSpeed 4 = .ok (.getfield 21, 3) := by decide +kernel
theorem dX7_faultOfSpeed_7 : decode cX7_faultOfSpeed 7 = .ok (.getfield 121, 3) := by decide +kernel
theorem dX7_faultOfSpeed_10 : decode cX7_faultOfSpeed 10 = .ok (.if_icmp .ge 30, 3) := by decide +kernel
theorem dX7_faultOfSpeed_13 : decode cX7_faultOfSpeed 13 = .ok (.aload_n 0, 1) := by decide +kernel
theorem dX7_faultOfSpeed_14 : decode cX7_faultOfSpeed 14 = .ok (.getfield 21, 3) := by decide +kernel
theorem dX7_faultOfSpeed_17 : decode cX7_faultOfSpeed 17 = .ok (.getfield 403, 3) := by decide +kernel
theorem dX7_faultOfSpeed_20 : decode cX7_faultOfSpeed 20 = .ok (.iload_n 1, 1) := by decide +kernel
theorem dX7_faultOfSpeed_21 : decode cX7_faultOfSpeed 21 = .ok (.iaload, 1) := by decide +kernel
theorem dX7_faultOfSpeed_22 : decode cX7_faultOfSpeed 22 = .ok (.bipush 48, 2) := by decide +kernel
theorem dX7_faultOfSpeed_24 : decode cX7_faultOfSpeed 24 = .ok (.bipush 51, 2) := by decide +kernel
theorem dX7_faultOfSpeed_26 : decode cX7_faultOfSpeed 26 = .ok (.invokestatic 107, 3) := by decide +kernel
theorem dX7_faultOfSpeed_29 : decode cX7_faultOfSpeed 29 = .ok (.ifCond .ne 5, 3) := by decide +kernel
theorem dX7_faultOfSpeed_32 : decode cX7_faultOfSpeed 32 = .ok (.iload_n 1, 1) := by decide +kernel
theorem dX7_faultOfSpeed_33 : decode cX7_faultOfSpeed 33 = .ok (.ireturn, 1) := by decide +kernel
theorem dX7_faultOfSpeed_34 : decode cX7_faultOfSpeed 34 = .ok (.iinc 1 1, 3) := by decide +kernel
theorem dX7_faultOfSpeed_37 : decode cX7_faultOfSpeed 37 = .ok (.goto (-35), 3) := by decide +kernel
theorem dX7_faultOfSpeed_40 : decode cX7_faultOfSpeed 40 = .ok (.iconst (-1), 1) := by decide +kernel
theorem dX7_faultOfSpeed_41 : decode cX7_faultOfSpeed 41 = .ok (.ireturn, 1) := by decide +kernel
theorem dX7_toldSpeed_0 : decode cX7_toldSpeed 0 = .ok (.aload_n 0, 1) := by decide +kernel
theorem dX7_toldSpeed_1 : decode cX7_toldSpeed 1 = .ok (.getfield 92, 3) := by decide +kernel
theorem dX7_toldSpeed_4 : decode cX7_toldSpeed 4 = .ok (.iconst (-1), 1) := by decide +kernel
theorem dX7_toldSpeed_5 : decode cX7_toldSpeed 5 = .ok (.if_icmp .ne 14, 3) := by decide +kernel
theorem dX7_toldSpeed_8 : decode cX7_toldSpeed 8 = .ok (.iload_n 1, 1) := by decide +kernel
theorem dX7_toldSpeed_9 : decode cX7_toldSpeed 9 = .ok (.aload_n 0, 1) := by decide +kernel
theorem dX7_toldSpeed_10 : decode cX7_toldSpeed 10 = .ok (.getfield 21, 3) := by decide +kernel
theorem dX7_toldSpeed_13 : decode cX7_toldSpeed 13 = .ok (.getfield 121, 3) := by decide +kernel
theorem dX7_toldSpeed_16 : decode cX7_toldSpeed 16 = .ok (.if_icmp .lt 5, 3) := by decide +kernel
theorem dX7_toldSpeed_19 : decode cX7_toldSpeed 19 = .ok (.iconst 1, 1) := by decide +kernel
theorem dX7_toldSpeed_20 : decode cX7_toldSpeed 20 = .ok (.ireturn, 1) := by decide +kernel
theorem dX7_toldSpeed_21 : decode cX7_toldSpeed 21 = .ok (.aload_n 0, 1) := by decide +kernel
theorem dX7_toldSpeed_22 : decode cX7_toldSpeed 22 = .ok (.getfield 21, 3) := by decide +kernel
theorem dX7_toldSpeed_25 : decode cX7_toldSpeed 25 = .ok (.getfield 403, 3) := by decide +kernel
theorem dX7_toldSpeed_28 : decode cX7_toldSpeed 28 = .ok (.iload_n 1, 1) := by decide +kernel
theorem dX7_toldSpeed_29 : decode cX7_toldSpeed 29 = .ok (.iaload, 1) := by decide +kernel
theorem dX7_toldSpeed_30 : decode cX7_toldSpeed 30 = .ok (.bipush 48, 2) := by decide +kernel
theorem dX7_toldSpeed_32 : decode cX7_toldSpeed 32 = .ok (.isub, 1) := by decide +kernel
theorem dX7_toldSpeed_33 : decode cX7_toldSpeed 33 = .ok (.ireturn, 1) := by decide +kernel
theorem dX7_anotherHangsAt_0 : decode cX7_anotherHangsAt 0 = .ok (.iconst 0, 1) := by decide +kernel
theorem dX7_anotherHangsAt_1 : decode cX7_anotherHangsAt 1 = .ok (.istore_n 3, 1) := by decide +kernel
theorem dX7_anotherHangsAt_2 : decode cX7_anotherHangsAt 2 = .ok (.iload_n 3, 1) := by decide +kernel
theorem dX7_anotherHangsAt_3 : decode cX7_anotherHangsAt 3 = .ok (.aload_n 0, 1) := by decide +kernel
theorem dX7_anotherHangsAt_4 : decode cX7_anotherHangsAt 4 = .ok (.getfield 31, 3) := by decide +kernel
theorem dX7_anotherHangsAt_7 : decode cX7_anotherHangsAt 7 = .ok (.getfield 135, 3) := by decide +kernel
theorem dX7_anotherHangsAt_10 : decode cX7_anotherHangsAt 10 = .ok (.if_icmp .ge 29, 3) := by decide +kernel
theorem dX7_anotherHangsAt_13 : decode cX7_anotherHangsAt 13 = .ok (.iload_n 3, 1) := by decide +kernel
theorem dX7_anotherHangsAt_14 : decode cX7_anotherHangsAt 14 = .ok (.iload_n 2, 1) := by decide +kernel
theorem dX7_anotherHangsAt_15 : decode cX7_anotherHangsAt 15 = .ok (.if_icmp .eq 18, 3) := by decide +kernel
theorem dX7_anotherHangsAt_18 : decode cX7_anotherHangsAt 18 = .ok (.aload_n 0, 1) := by decide +kernel
theorem dX7_anotherHangsAt_19 : decode cX7_anotherHangsAt 19 = .ok (.getfield 31, 3) := by decide +kernel
theorem dX7_anotherHangsAt_22 : decode cX7_anotherHangsAt 22 = .ok (.getfield 406, 3) := by decide +kernel
theorem dX7_anotherHangsAt_25 : decode cX7_anotherHangsAt 25 = .ok (.iload_n 3, 1) := by decide +kernel
theorem dX7_anotherHangsAt_26 : decode cX7_anotherHangsAt 26 = .ok (.iaload, 1) := by decide +kernel
theorem dX7_anotherHangsAt_27 : decode cX7_anotherHangsAt 27 = .ok (.iload_n 1, 1) := by decide +kernel
theorem dX7_anotherHangsAt_28 : decode cX7_anotherHangsAt 28 = .ok (.if_icmp .ne 5, 3) := by decide +kernel
theorem dX7_anotherHangsAt_31 : decode cX7_anotherHangsAt 31 = .ok (.iconst 1, 1) := by decide +kernel
theorem dX7_anotherHangsAt_32 : decode cX7_anotherHangsAt 32 = .ok (.ireturn, 1) := by decide +kernel
theorem dX7_anotherHangsAt_33 : decode cX7_anotherHangsAt 33 = .ok (.iinc 3 1, 3) := by decide +kernel
theorem dX7_anotherHangsAt_36 : decode cX7_anotherHangsAt 36 = .ok (.goto (-34), 3) := by decide +kernel
theorem dX7_anotherHangsAt_39 : decode cX7_anotherHangsAt 39 = .ok (.iconst 0, 1) := by decide +kernel
theorem dX7_anotherHangsAt_40 : decode cX7_anotherHangsAt 40 = .ok (.ireturn, 1) := by decide +kernel
theorem dX7_planAsTold_0 : decode cX7_planAsTold 0 = .ok (.aload_n 0, 1) := by decide +kernel
theorem dX7_planAsTold_1 : decode cX7_planAsTold 1 = .ok (.getfield 73, 3) := by decide +kernel
theorem dX7_planAsTold_4 : decode cX7_planAsTold 4 = .ok (.aload_n 0, 1) := by decide +kernel
theorem dX7_planAsTold_5 : decode cX7_planAsTold 5 = .ok (.getfield 31, 3) := by decide +kernel
theorem dX7_planAsTold_8 : decode cX7_planAsTold 8 = .ok (.invokevirtual 409, 3) := by decide +kernel
theorem dX7_planAsTold_11 : decode cX7_planAsTold 11 = .ok (.aload_n 0, 1) := by decide +kernel
theorem dX7_planAsTold_12 : decode cX7_planAsTold 12 = .ok (.getfield 73, 3) := by decide +kernel
theorem dX7_planAsTold_15 : decode cX7_planAsTold 15 = .ok (.aload_n 0, 1) := by decide +kernel
theorem dX7_planAsTold_16 : decode cX7_planAsTold 16 = .ok (.getfield 37, 3) := by decide +kernel
theorem dX7_planAsTold_19 : decode cX7_planAsTold 19 = .ok (.invokevirtual 413, 3) := by decide +kernel
theorem dX7_planAsTold_22 : decode cX7_planAsTold 22 = .ok (.iconst 0, 1) := by decide +kernel
theorem dX7_planAsTold_23 : decode cX7_planAsTold 23 = .ok (.istore_n 1, 1) := by decide +kernel
theorem dX7_planAsTold_24 : decode cX7_planAsTold 24 = .ok (.iload_n 1, 1) := by decide +kernel
theorem dX7_planAsTold_25 : decode cX7_planAsTold 25 = .ok (.bipush 24, 2) := by decide +kernel
theorem dX7_planAsTold_27 : decode cX7_planAsTold 27 = .ok (.if_icmp .ge 23, 3) := by decide +kernel
theorem dX7_planAsTold_30 : decode cX7_planAsTold 30 = .ok (.aload_n 0, 1) := by decide +kernel
theorem dX7_planAsTold_31 : decode cX7_planAsTold 31 = .ok (.getfield 73, 3) := by decide +kernel
theorem dX7_planAsTold_34 : decode cX7_planAsTold 34 = .ok (.getfield 234, 3) := by decide +kernel
theorem dX7_planAsTold_37 : decode cX7_planAsTold 37 = .ok (.iload_n 1, 1) := by decide +kernel
theorem dX7_planAsTold_38 : decode cX7_planAsTold 38 = .ok (.aload_n 0, 1) := by decide +kernel
theorem dX7_planAsTold_39 : decode cX7_planAsTold 39 = .ok (.iload_n 1, 1) := by decide +kernel
theorem dX7_planAsTold_40 : decode cX7_planAsTold 40 = .ok (.invokevirtual 141, 3) := by decide +kernel
theorem dX7_planAsTold_43 : decode cX7_planAsTold 43 = .ok (.iastore, 1) := by decide +kernel
theorem dX7_planAsTold_44 : decode cX7_planAsTold 44 = .ok (.iinc 1 1, 3) := by decide +kernel
theorem dX7_planAsTold_47 : decode cX7_planAsTold 47 = .ok (.goto (-23), 3) := by decide +kernel
theorem dX7_planAsTold_50 : decode cX7_planAsTold 50 = .ok (.aload_n 0, 1) := by decide +kernel
theorem dX7_planAsTold_51 : decode cX7_planAsTold 51 = .ok (.getfield 73, 3) := by decide +kernel
theorem dX7_planAsTold_54 : decode cX7_planAsTold 54 = .ok (.aload_n 0, 1) := by decide +kernel
theorem dX7_planAsTold_55 : decode cX7_planAsTold 55 = .ok (.getfield 43, 3) := by decide +kernel
theorem dX7_planAsTold_58 : decode cX7_planAsTold 58 = .ok (.sipush 255, 3) := by decide +kernel
theorem dX7_planAsTold_61 : decode cX7_planAsTold 61 = .ok (.invokevirtual 252, 3) := by decide +kernel
theorem dX7_planAsTold_64 : decode cX7_planAsTold 64 = .ok (.return_, 1) := by decide +kernel
theorem dX7_asTold_0 : decode cX7_asTold 0 = .ok (.aload_n 0, 1) := by decide +kernel
theorem dX7_asTold_1 : decode cX7_asTold 1 = .ok (.getfield 96, 3) := by decide +kernel
theorem dX7_asTold_4 : decode cX7_asTold 4 = .ok (.ifCond .eq 25, 3) := by decide +kernel
theorem dX7_asTold_7 : decode cX7_asTold 7 = .ok (.aload_n 0, 1) := by decide +kernel
theorem dX7_asTold_8 : decode cX7_asTold 8 = .ok (.invokevirtual 217, 3) := by decide +kernel
theorem dX7_asTold_11 : decode cX7_asTold 11 = .ok (.aload_n 0, 1) := by decide +kernel
theorem dX7_asTold_12 : decode cX7_asTold 12 = .ok (.getfield 80, 3) := by decide +kernel
theorem dX7_asTold_15 : decode cX7_asTold 15 = .ok (.aload_n 0, 1) := by decide +kernel
theorem dX7_asTold_16 : decode cX7_asTold 16 = .ok (.getfield 73, 3) := by decide +kernel
theorem dX7_asTold_19 : decode cX7_asTold 19 = .ok (.bipush 23, 2) := by decide +kernel
theorem dX7_asTold_21 : decode cX7_asTold 21 = .ok (.invokevirtual 227, 3) := by decide +kernel
theorem dX7_asTold_24 : decode cX7_asTold 24 = .ok (.aload_n 0, 1) := by decide +kernel
theorem dX7_asTold_25 : decode cX7_asTold 25 = .ok (.iconst 0, 1) := by decide +kernel
theorem dX7_asTold_26 : decode cX7_asTold 26 = .ok (.putfield 96, 3) := by decide +kernel
theorem dX7_asTold_29 : decode cX7_asTold 29 = .ok (.aload_n 0, 1) := by decide +kernel
theorem dX7_asTold_30 : decode cX7_asTold 30 = .ok (.getfield 80, 3) := by decide +kernel
theorem dX7_asTold_33 : decode cX7_asTold 33 = .ok (.areturn, 1) := by decide +kernel
theorem dX7_leftBehind_0 : decode cX7_leftBehind 0 = .ok (.iconst 0, 1) := by decide +kernel
theorem dX7_leftBehind_1 : decode cX7_leftBehind 1 = .ok (.istore_n 2, 1) := by decide +kernel
theorem dX7_leftBehind_2 : decode cX7_leftBehind 2 = .ok (.iconst 0, 1) := by decide +kernel
theorem dX7_leftBehind_3 : decode cX7_leftBehind 3 = .ok (.istore_n 3, 1) := by decide +kernel
theorem dX7_leftBehind_4 : decode cX7_leftBehind 4 = .ok (.iload_n 3, 1) := by decide +kernel
theorem dX7_leftBehind_5 : decode cX7_leftBehind 5 = .ok (.aload_n 0, 1) := by decide +kernel
theorem dX7_leftBehind_6 : decode cX7_leftBehind 6 = .ok (.getfield 37, 3) := by decide +kernel
theorem dX7_leftBehind_9 : decode cX7_leftBehind 9 = .ok (.getfield 135, 3) := by decide +kernel
theorem dX7_leftBehind_12 : decode cX7_leftBehind 12 = .ok (.if_icmp .ge 21, 3) := by decide +kernel
theorem dX7_leftBehind_15 : decode cX7_leftBehind 15 = .ok (.iload_n 2, 1) := by decide +kernel
theorem dX7_leftBehind_16 : decode cX7_leftBehind 16 = .ok (.aload_n 0, 1) := by decide +kernel
theorem dX7_leftBehind_17 : decode cX7_leftBehind 17 = .ok (.getfield 37, 3) := by decide +kernel
theorem dX7_leftBehind_20 : decode cX7_leftBehind 20 = .ok (.getfield 416, 3) := by decide +kernel
theorem dX7_leftBehind_23 : decode cX7_leftBehind 23 = .ok (.iload_n 3, 1) := by decide +kernel
theorem dX7_leftBehind_24 : decode cX7_leftBehind 24 = .ok (.iaload, 1) := by decide +kernel
theorem dX7_leftBehind_25 : decode cX7_leftBehind 25 = .ok (.iadd, 1) := by decide +kernel
theorem dX7_leftBehind_26 : decode cX7_leftBehind 26 = .ok (.istore_n 2, 1) := by decide +kernel
theorem dX7_leftBehind_27 : decode cX7_leftBehind 27 = .ok (.iinc 3 1, 3) := by decide +kernel
theorem dX7_leftBehind_30 : decode cX7_leftBehind 30 = .ok (.goto (-26), 3) := by decide +kernel
theorem dX7_leftBehind_33 : decode cX7_leftBehind 33 = .ok (.iload_n 2, 1) := by decide +kernel
theorem dX7_leftBehind_34 : decode cX7_leftBehind 34 = .ok (.aload_n 1, 1) := by decide +kernel
theorem dX7_leftBehind_35 : decode cX7_leftBehind 35 = .ok (.invokevirtual 231, 3) := by decide +kernel
theorem dX7_leftBehind_38 : decode cX7_leftBehind 38 = .ok (.isub, 1) := by decide +kernel
theorem dX7_leftBehind_39 : decode cX7_leftBehind 39 = .ok (.ireturn, 1) := by decide +kernel
theorem dX7_leastSpared_0 : decode cX7_leastSpared 0 = .ok (.aload_n 0, 1) := by decide +kernel
theorem dX7_leastSpared_1 : decode cX7_leastSpared 1 = .ok (.invokevirtual 217, 3) := by decide +kernel
theorem dX7_leastSpared_4 : decode cX7_leastSpared 4 = .ok (.aload_n 0, 1) := by decide +kernel
theorem dX7_leastSpared_5 : decode cX7_leastSpared 5 = .ok (.iconst 0, 1) := by decide +kernel
theorem dX7_leastSpared_6 : decode cX7_leastSpared 6 = .ok (.invokevirtual 419, 3) := by decide +kernel
theorem dX7_leastSpared_9 : decode cX7_leastSpared 9 = .ok (.ifCond .eq 5, 3) := by decide +kernel
theorem dX7_leastSpared_12 : decode cX7_leastSpared 12 = .ok (.iconst 0, 1) := by decide +kernel
theorem dX7_leastSpared_13 : decode cX7_leastSpared 13 = .ok (.ireturn, 1) := by decide +kernel
theorem dX7_leastSpared_14 : decode cX7_leastSpared 14 = .ok (.iconst 0, 1) := by decide +kernel
theorem dX7_leastSpared_15 : decode cX7_leastSpared 15 = .ok (.istore_n 1, 1) := by decide +kernel
theorem dX7_leastSpared_16 : decode cX7_leastSpared 16 = .ok (.iload_n 1, 1) := by decide +kernel
theorem dX7_leastSpared_17 : decode cX7_leastSpared 17 = .ok (.aload_n 0, 1) := by decide +kernel
theorem dX7_leastSpared_18 : decode cX7_leastSpared 18 = .ok (.getfield 43, 3) := by decide +kernel
theorem dX7_leastSpared_21 : decode cX7_leastSpared 21 = .ok (.getfield 152, 3) := by decide +kernel
theorem dX7_leastSpared_24 : decode cX7_leastSpared 24 = .ok (.if_icmp .ge 23, 3) := by decide +kernel
theorem dX7_leastSpared_27 : decode cX7_leastSpared 27 = .ok (.aload_n 0, 1) := by decide +kernel
theorem dX7_leastSpared_28 : decode cX7_leastSpared 28 = .ok (.iconst 1, 1) := by decide +kernel
theorem dX7_leastSpared_29 : decode cX7_leastSpared 29 = .ok (.iload_n 1, 1) := by decide +kernel
theorem dX7_leastSpared_30 : decode cX7_leastSpared 30 = .ok (.ishl, 1) := by decide +kernel
theorem dX7_leastSpared_31 : decode cX7_leastSpared 31 = .ok (.invokevirtual 419, 3) := by decide +kernel
theorem dX7_leastSpared_34 : decode cX7_leastSpared 34 = .ok (.ifCond .eq 7, 3) := by decide +kernel
theorem dX7_leastSpared_37 : decode cX7_leastSpared 37 = .ok (.iconst 1, 1) := by decide +kernel
theorem dX7_leastSpared_38 : decode cX7_leastSpared 38 = .ok (.iload_n 1, 1) := by decide +kernel
theorem dX7_leastSpared_39 : decode cX7_leastSpared 39 = .ok (.ishl, 1) := by decide +kernel
theorem dX7_leastSpared_40 : decode cX7_leastSpared 40 = .ok (.ireturn, 1) := by decide +kernel
theorem dX7_leastSpared_41 : decode cX7_leastSpared 41 = .ok (.iinc 1 1, 3) := by decide +kernel
theorem dX7_leastSpared_44 : decode cX7_leastSpared 44 = .ok (.goto (-28), 3) := by decide +kernel
theorem dX7_leastSpared_47 : decode cX7_leastSpared 47 = .ok (.iconst 0, 1) := by decide +kernel
theorem dX7_leastSpared_48 : decode cX7_leastSpared 48 = .ok (.istore_n 1, 1) := by decide +kernel
theorem dX7_leastSpared_49 : decode cX7_leastSpared 49 = .ok (.iload_n 1, 1) := by decide +kernel
theorem dX7_leastSpared_50 : decode cX7_leastSpared 50 = .ok (.aload_n 0, 1) := by decide +kernel
theorem dX7_leastSpared_51 : decode cX7_leastSpared 51 = .ok (.getfield 43, 3) := by decide +kernel
theorem dX7_leastSpared_54 : decode cX7_leastSpared 54 = .ok (.getfield 152, 3) := by decide +kernel
theorem dX7_leastSpared_57 : decode cX7_leastSpared 57 = .ok (.if_icmp .ge 52, 3) := by decide +kernel
theorem dX7_leastSpared_60 : decode cX7_leastSpared 60 = .ok (.iload_n 1, 1) := by decide +kernel
theorem dX7_leastSpared_61 : decode cX7_leastSpared 61 = .ok (.iconst 1, 1) := by decide +kernel
theorem dX7_leastSpared_62 : decode cX7_leastSpared 62 = .ok (.iadd, 1) := by decide +kernel
theorem dX7_leastSpared_63 : decode cX7_leastSpared 63 = .ok (.istore_n 2, 1) := by decide +kernel
theorem dX7_leastSpared_64 : decode cX7_leastSpared 64 = .ok (.iload_n 2, 1) := by decide +kernel
theorem dX7_leastSpared_65 : decode cX7_leastSpared 65 = .ok (.aload_n 0, 1) := by decide +kernel
theorem dX7_leastSpared_66 : decode cX7_leastSpared 66 = .ok (.getfield 43, 3) := by decide +kernel
theorem dX7_leastSpared_69 : decode cX7_leastSpared 69 = .ok (.getfield 152, 3) := by decide +kernel
theorem dX7_leastSpared_72 : decode cX7_leastSpared 72 = .ok (.if_icmp .ge 31, 3) := by decide +kernel
theorem dX7_leastSpared_75 : decode cX7_leastSpared 75 = .ok (.aload_n 0, 1) := by decide +kernel
theorem dX7_leastSpared_76 : decode cX7_leastSpared 76 = .ok (.iconst 1, 1) := by decide +kernel
theorem dX7_leastSpared_77 : decode cX7_leastSpared 77 = .ok (.iload_n 1, 1) := by decide +kernel
theorem dX7_leastSpared_78 : decode cX7_leastSpared 78 = .ok (.ishl, 1) := by decide +kernel
theorem dX7_leastSpared_79 : decode cX7_leastSpared 79 = .ok (.iconst 1, 1) := by decide +kernel
theorem dX7_leastSpared_80 : decode cX7_leastSpared 80 = .ok (.iload_n 2, 1) := by decide +kernel
theorem dX7_leastSpared_81 : decode cX7_leastSpared 81 = .ok (.ishl, 1) := by decide +kernel
theorem dX7_leastSpared_82 : decode cX7_leastSpared 82 = .ok (.ior, 1) := by decide +kernel
theorem dX7_leastSpared_83 : decode cX7_leastSpared 83 = .ok (.invokevirtual 419, 3) := by decide +kernel
theorem dX7_leastSpared_86 : decode cX7_leastSpared 86 = .ok (.ifCond .eq 11, 3) := by decide +kernel
theorem dX7_leastSpared_89 : decode cX7_leastSpared 89 = .ok (.iconst 1, 1) := by decide +kernel
theorem dX7_leastSpared_90 : decode cX7_leastSpared 90 = .ok (.iload_n 1, 1) := by decide +kernel
theorem dX7_leastSpared_91 : decode cX7_leastSpared 91 = .ok (.ishl, 1) := by decide +kernel
theorem dX7_leastSpared_92 : decode cX7_leastSpared 92 = .ok (.iconst 1, 1) := by decide +kernel
theorem dX7_leastSpared_93 : decode cX7_leastSpared 93 = .ok (.iload_n 2, 1) := by decide +kernel
theorem dX7_leastSpared_94 : decode cX7_leastSpared 94 = .ok (.ishl, 1) := by decide +kernel
theorem dX7_leastSpared_95 : decode cX7_leastSpared 95 = .ok (.ior, 1) := by decide +kernel
theorem dX7_leastSpared_96 : decode cX7_leastSpared 96 = .ok (.ireturn, 1) := by decide +kernel
theorem dX7_leastSpared_97 : decode cX7_leastSpared 97 = .ok (.iinc 2 1, 3) := by decide +kernel
theorem dX7_leastSpared_100 : decode cX7_leastSpared 100 = .ok (.goto (-36), 3) := by decide +kernel
theorem dX7_leastSpared_103 : decode cX7_leastSpared 103 = .ok (.iinc 1 1, 3) := by decide +kernel
theorem dX7_leastSpared_106 : decode cX7_leastSpared 106 = .ok (.goto (-57), 3) := by decide +kernel
theorem dX7_leastSpared_109 : decode cX7_leastSpared 109 = .ok (.iconst (-1), 1) := by decide +kernel
theorem dX7_leastSpared_110 : decode cX7_leastSpared 110 = .ok (.ireturn, 1) := by decide +kernel
theorem dX7_nobodyLeftWithout_0 : decode cX7_nobodyLeftWithout 0 = .ok (.aload_n 0, 1) := by decide +kernel
theorem dX7_nobodyLeftWithout_1 : decode cX7_nobodyLeftWithout 1 = .ok (.getfield 73, 3) := by decide +kernel
theorem dX7_nobodyLeftWithout_4 : decode cX7_nobodyLeftWithout 4 = .ok (.aload_n 0, 1) := by decide +kernel
theorem dX7_nobodyLeftWithout_5 : decode cX7_nobodyLeftWithout 5 = .ok (.getfield 43, 3) := by decide +kernel
theorem dX7_nobodyLeftWithout_8 : decode cX7_nobodyLeftWithout 8 = .ok (.sipush 255, 3) := by decide +kernel
theorem dX7_nobodyLeftWithout_11 : decode cX7_nobodyLeftWithout 11 = .ok (.iload_n 1, 1) := by decide +kernel
theorem dX7_nobodyLeftWithout_12 : decode cX7_nobodyLeftWithout 12 = .ok (.iconst (-1), 1) := by decide +kernel
theorem dX7_nobodyLeftWithout_13 : decode cX7_nobodyLeftWithout 13 = .ok (.ixor, 1) := by decide +kernel
theorem dX7_nobodyLeftWithout_14 : decode cX7_nobodyLeftWithout 14 = .ok (.iand, 1) := by decide +kernel
theorem dX7_nobodyLeftWithout_15 : decode cX7_nobodyLeftWithout 15 = .ok (.invokevirtual 252, 3) := by decide +kernel
theorem dX7_nobodyLeftWithout_18 : decode cX7_nobodyLeftWithout 18 = .ok (.aload_n 0, 1) := by decide +kernel
theorem dX7_nobodyLeftWithout_19 : decode cX7_nobodyLeftWithout 19 = .ok (.getfield 84, 3) := by decide +kernel
theorem dX7_nobodyLeftWithout_22 : decode cX7_nobodyLeftWithout 22 = .ok (.aload_n 0, 1) := by decide +kernel
theorem dX7_nobodyLeftWithout_23 : decode cX7_nobodyLeftWithout 23 = .ok (.getfield 73, 3) := by decide +kernel
theorem dX7_nobodyLeftWithout_26 : decode cX7_nobodyLeftWithout 26 = .ok (.bipush 23, 2) := by decide +kernel
theorem dX7_nobodyLeftWithout_28 : decode cX7_nobodyLeftWithout 28 = .ok (.invokevirtual 227, 3) := by decide +kernel
theorem dX7_nobodyLeftWithout_31 : decode cX7_nobodyLeftWithout 31 = .ok (.aload_n 0, 1) := by decide +kernel
theorem dX7_nobodyLeftWithout_32 : decode cX7_nobodyLeftWithout 32 = .ok (.aload_n 0, 1) := by decide +kernel
theorem dX7_nobodyLeftWithout_33 : decode cX7_nobodyLeftWithout 33 = .ok (.getfield 84, 3) := by decide +kernel
theorem dX7_nobodyLeftWithout_36 : decode cX7_nobodyLeftWithout 36 = .ok (.invokevirtual 213, 3) := by decide +kernel
theorem dX7_nobodyLeftWithout_39 : decode cX7_nobodyLeftWithout 39 = .ok (.ifCond .ne 7, 3) := by decide +kernel
theorem dX7_nobodyLeftWithout_42 : decode cX7_nobodyLeftWithout 42 = .ok (.iconst 1, 1) := by decide +kernel
theorem dX7_nobodyLeftWithout_43 : decode cX7_nobodyLeftWithout 43 = .ok (.goto 4, 3) := by decide +kernel
theorem dX7_nobodyLeftWithout_46 : decode cX7_nobodyLeftWithout 46 = .ok (.iconst 0, 1) := by decide +kernel
theorem dX7_nobodyLeftWithout_47 : decode cX7_nobodyLeftWithout 47 = .ok (.ireturn, 1) := by decide +kernel
theorem dX7_numberOfBit_0 : decode cX7_numberOfBit 0 = .ok (.iconst 0, 1) := by decide +kernel
theorem dX7_numberOfBit_1 : decode cX7_numberOfBit 1 = .ok (.istore_n 2, 1) := by decide +kernel
theorem dX7_numberOfBit_2 : decode cX7_numberOfBit 2 = .ok (.iconst 0, 1) := by decide +kernel
theorem dX7_numberOfBit_3 : decode cX7_numberOfBit 3 = .ok (.istore_n 3, 1) := by decide +kernel
theorem dX7_numberOfBit_4 : decode cX7_numberOfBit 4 = .ok (.iload_n 3, 1) := by decide +kernel
theorem dX7_numberOfBit_5 : decode cX7_numberOfBit 5 = .ok (.bipush 8, 2) := by decide +kernel
theorem dX7_numberOfBit_7 : decode cX7_numberOfBit 7 = .ok (.if_icmp .ge 28, 3) := by decide +kernel
theorem dX7_numberOfBit_10 : decode cX7_numberOfBit 10 = .ok (.iload_n 0, 1) := by decide +kernel
theorem dX7_numberOfBit_11 : decode cX7_numberOfBit 11 = .ok (.iload_n 3, 1) := by decide +kernel
theorem dX7_numberOfBit_12 : decode cX7_numberOfBit 12 = .ok (.ishr, 1) := by decide +kernel
theorem dX7_numberOfBit_13 : decode cX7_numberOfBit 13 = .ok (.iconst 1, 1) := by decide +kernel
theorem dX7_numberOfBit_14 : decode cX7_numberOfBit 14 = .ok (.iand, 1) := by decide +kernel
theorem dX7_numberOfBit_15 : decode cX7_numberOfBit 15 = .ok (.iconst 1, 1) := by decide +kernel
theorem dX7_numberOfBit_16 : decode cX7_numberOfBit 16 = .ok (.if_icmp .ne 13, 3) := by decide +kernel
theorem dX7_numberOfBit_19 : decode cX7_numberOfBit 19 = .ok (.iload_n 2, 1) := by decide +kernel
theorem dX7_numberOfBit_20 : decode cX7_numberOfBit 20 = .ok (.iload_n 1, 1) := by decide +kernel
theorem dX7_numberOfBit_21 : decode cX7_numberOfBit 21 = .ok (.if_icmp .ne 5, 3) := by decide +kernel
theorem dX7_numberOfBit_24 : decode cX7_numberOfBit 24 = .ok (.iload_n 3, 1) := by decide +kernel
theorem dX7_numberOfBit_25 : decode cX7_numberOfBit 25 = .ok (.ireturn, 1) := by decide +kernel
theorem dX7_numberOfBit_26 : decode cX7_numberOfBit 26 = .ok (.iinc 2 1, 3) := by decide +kernel
theorem dX7_numberOfBit_29 : decode cX7_numberOfBit 29 = .ok (.iinc 3 1, 3) := by decide +kernel
theorem dX7_numberOfBit_32 : decode cX7_numberOfBit 32 = .ok (.goto (-28), 3) := by decide +kernel
theorem dX7_numberOfBit_35 : decode cX7_numberOfBit 35 = .ok (.iconst (-1), 1) := by decide +kernel
theorem dX7_numberOfBit_36 : decode cX7_numberOfBit 36 = .ok (.ireturn, 1) := by decide +kernel
theorem dX7_comesOutAsSeen_0 : decode cX7_comesOutAsSeen 0 = .ok (.aload_n 0, 1) := by decide +kernel
theorem dX7_comesOutAsSeen_1 : decode cX7_comesOutAsSeen 1 = .ok (.getfield 84, 3) := by decide +kernel
theorem dX7_comesOutAsSeen_4 : decode cX7_comesOutAsSeen 4 = .ok (.aload_n 0, 1) := by decide +kernel
theorem dX7_comesOutAsSeen_5 : decode cX7_comesOutAsSeen 5 = .ok (.getfield 73, 3) := by decide +kernel
theorem dX7_comesOutAsSeen_8 : decode cX7_comesOutAsSeen 8 = .ok (.bipush 23, 2) := by decide +kernel
theorem dX7_comesOutAsSeen_10 : decode cX7_comesOutAsSeen 10 = .ok (.invokevirtual 227, 3) := by decide +kernel
theorem dX7_comesOutAsSeen_13 : decode cX7_comesOutAsSeen 13 = .ok (.aload_n 0, 1) := by decide +kernel
theorem dX7_comesOutAsSeen_14 : decode cX7_comesOutAsSeen 14 = .ok (.getfield 50, 3) := by decide +kernel
theorem dX7_comesOutAsSeen_17 : decode cX7_comesOutAsSeen 17 = .ok (.aload_n 0, 1) := by decide +kernel
theorem dX7_comesOutAsSeen_18 : decode cX7_comesOutAsSeen 18 = .ok (.getfield 84, 3) := by decide +kernel
theorem dX7_comesOutAsSeen_21 : decode cX7_comesOutAsSeen 21 = .ok (.invokevirtual 422, 3) := by decide +kernel
theorem dX7_comesOutAsSeen_24 : decode cX7_comesOutAsSeen 24 = .ok (.ireturn, 1) := by decide +kernel
theorem dX7_likelyRooms_0 : decode cX7_likelyRooms 0 = .ok (.aload_n 0, 1) := by decide +kernel
theorem dX7_likelyRooms_1 : decode cX7_likelyRooms 1 = .ok (.invokevirtual 217, 3) := by decide +kernel
theorem dX7_likelyRooms_4 : decode cX7_likelyRooms 4 = .ok (.iconst 0, 1) := by decide +kernel
theorem dX7_likelyRooms_5 : decode cX7_likelyRooms 5 = .ok (.istore_n 2, 1) := by decide +kernel
theorem dX7_likelyRooms_6 : decode cX7_likelyRooms 6 = .ok (.iconst 1, 1) := by decide +kernel
theorem dX7_likelyRooms_7 : decode cX7_likelyRooms 7 = .ok (.istore_n 3, 1) := by decide +kernel
theorem dX7_likelyRooms_8 : decode cX7_likelyRooms 8 = .ok (.iload_n 3, 1) := by decide +kernel
theorem dX7_likelyRooms_9 : decode cX7_likelyRooms 9 = .ok (.bipush 9, 2) := by decide +kernel
theorem dX7_likelyRooms_11 : decode cX7_likelyRooms 11 = .ok (.if_icmp .gt 32, 3) := by decide +kernel
theorem dX7_likelyRooms_14 : decode cX7_likelyRooms 14 = .ok (.aload_n 0, 1) := by decide +kernel
theorem dX7_likelyRooms_15 : decode cX7_likelyRooms 15 = .ok (.getfield 73, 3) := by decide +kernel
theorem dX7_likelyRooms_18 : decode cX7_likelyRooms 18 = .ok (.getfield 426, 3) := by decide +kernel
theorem dX7_likelyRooms_21 : decode cX7_likelyRooms 21 = .ok (.iload_n 1, 1) := by decide +kernel
theorem dX7_likelyRooms_22 : decode cX7_likelyRooms 22 = .ok (.iload_n 3, 1) := by decide +kernel
theorem dX7_likelyRooms_23 : decode cX7_likelyRooms 23 = .ok (.iastore, 1) := by decide +kernel
theorem dX7_likelyRooms_24 : decode cX7_likelyRooms 24 = .ok (.aload_n 0, 1) := by decide +kernel
theorem dX7_likelyRooms_25 : decode cX7_likelyRooms 25 = .ok (.invokevirtual 256, 3) := by decide +kernel
theorem dX7_likelyRooms_28 : decode cX7_likelyRooms 28 = .ok (.ifCond .eq 9, 3) := by decide +kernel
theorem dX7_likelyRooms_31 : decode cX7_likelyRooms 31 = .ok (.iload_n 2, 1) := by decide +kernel
theorem dX7_likelyRooms_32 : decode cX7_likelyRooms 32 = .ok (.iconst 1, 1) := by decide +kernel
theorem dX7_likelyRooms_33 : decode cX7_likelyRooms 33 = .ok (.iload_n 3, 1) := by decide +kernel
theorem dX7_likelyRooms_34 : decode cX7_likelyRooms 34 = .ok (.ishl, 1) := by decide +kernel
theorem dX7_likelyRooms_35 : decode cX7_likelyRooms 35 = .ok (.ior, 1) := by decide +kernel
theorem dX7_likelyRooms_36 : decode cX7_likelyRooms 36 = .ok (.istore_n 2, 1) := by decide +kernel
theorem dX7_likelyRooms_37 : decode cX7_likelyRooms 37 = .ok (.iinc 3 1, 3) := by decide +kernel
theorem dX7_likelyRooms_40 : decode cX7_likelyRooms 40 = .ok (.goto (-32), 3) := by decide +kernel
theorem dX7_likelyRooms_43 : decode cX7_likelyRooms 43 = .ok (.iload_n 2, 1) := by decide +kernel
theorem dX7_likelyRooms_44 : decode cX7_likelyRooms 44 = .ok (.ireturn, 1) := by decide +kernel
theorem dX7_likelySorts_0 : decode cX7_likelySorts 0 = .ok (.aload_n 0, 1) := by decide +kernel
theorem dX7_likelySorts_1 : decode cX7_likelySorts 1 = .ok (.invokevirtual 217, 3) := by decide +kernel
theorem dX7_likelySorts_4 : decode cX7_likelySorts 4 = .ok (.iconst 0, 1) := by decide +kernel
theorem dX7_likelySorts_5 : decode cX7_likelySorts 5 = .ok (.istore_n 2, 1) := by decide +kernel
theorem dX7_likelySorts_6 : decode cX7_likelySorts 6 = .ok (.iconst 0, 1) := by decide +kernel
theorem dX7_likelySorts_7 : decode cX7_likelySorts 7 = .ok (.istore_n 3, 1) := by decide +kernel
theorem dX7_likelySorts_8 : decode cX7_likelySorts 8 = .ok (.iload_n 3, 1) := by decide +kernel
theorem dX7_likelySorts_9 : decode cX7_likelySorts 9 = .ok (.iconst 2, 1) := by decide +kernel
theorem dX7_likelySorts_10 : decode cX7_likelySorts 10 = .ok (.if_icmp .gt 32, 3) := by decide +kernel
theorem dX7_likelySorts_13 : decode cX7_likelySorts 13 = .ok (.aload_n 0, 1) := by decide +kernel
theorem dX7_likelySorts_14 : decode cX7_likelySorts 14 = .ok (.getfield 73, 3) := by decide +kernel
theorem dX7_likelySorts_17 : decode cX7_likelySorts 17 = .ok (.getfield 429, 3) := by decide +kernel
theorem dX7_likelySorts_20 : decode cX7_likelySorts 20 = .ok (.iload_n 1, 1) := by decide +kernel
theorem dX7_likelySorts_21 : decode cX7_likelySorts 21 = .ok (.iload_n 3, 1) := by decide +kernel
theorem dX7_likelySorts_22 : decode cX7_likelySorts 22 = .ok (.iastore, 1) := by decide +kernel
theorem dX7_likelySorts_23 : decode cX7_likelySorts 23 = .ok (.aload_n 0, 1) := by decide +kernel
theorem dX7_likelySorts_24 : decode cX7_likelySorts 24 = .ok (.invokevirtual 256, 3) := by decide +kernel
theorem dX7_likelySorts_27 : decode cX7_likelySorts 27 = .ok (.ifCond .eq 9, 3) := by decide +kernel
theorem dX7_likelySorts_30 : decode cX7_likelySorts 30 = .ok (.iload_n 2, 1) := by decide +kernel
theorem dX7_likelySorts_31 : decode cX7_likelySorts 31 = .ok (.iconst 1, 1) := by decide +kernel
theorem dX7_likelySorts_32 : decode cX7_likelySorts 32 = .ok (.iload_n 3, 1) := by decide +kernel
theorem dX7_likelySorts_33 : decode cX7_likelySorts 33 = .ok (.ishl, 1) := by decide +kernel
theorem dX7_likelySorts_34 : decode cX7_likelySorts 34 = .ok (.ior, 1) := by decide +kernel
theorem dX7_likelySorts_35 : decode cX7_likelySorts 35 = .ok (.istore_n 2, 1) := by decide +kernel
theorem dX7_likelySorts_36 : decode cX7_likelySorts 36 = .ok (.iinc 3 1, 3) := by decide +kernel
theorem dX7_likelySorts_39 : decode cX7_likelySorts 39 = .ok (.goto (-31), 3) := by decide +kernel
theorem dX7_likelySorts_42 : decode cX7_likelySorts 42 = .ok (.iload_n 2, 1) := by decide +kernel
theorem dX7_likelySorts_43 : decode cX7_likelySorts 43 = .ok (.ireturn, 1) := by decide +kernel
theorem dX7_noteCrowdsByRoom_0 : decode cX7_noteCrowdsByRoom 0 = .ok (.aload_n 0, 1) := by decide +kernel
theorem dX7_noteCrowdsByRoom_1 : decode cX7_noteCrowdsByRoom 1 = .ok (.invokevirtual 217, 3) := by decide +kernel
theorem dX7_noteCrowdsByRoom_4 : decode cX7_noteCrowdsByRoom 4 = .ok (.iconst 1, 1) := by decide +kernel
theorem dX7_noteCrowdsByRoom_5 : decode cX7_noteCrowdsByRoom 5 = .ok (.istore_n 2, 1) := by decide +kernel
theorem dX7_noteCrowdsByRoom_6 : decode cX7_noteCrowdsByRoom 6 = .ok (.iload_n 2, 1) := by decide +kernel
theorem dX7_noteCrowdsByRoom_7 : decode cX7_noteCrowdsByRoom 7 = .ok (.bipush 9, 2) := by decide +kernel
theorem dX7_noteCrowdsByRoom_9 : decode cX7_noteCrowdsByRoom 9 = .ok (.if_icmp .gt 66, 3) := by decide +kernel
theorem dX7_noteCrowdsByRoom_12 : decode cX7_noteCrowdsByRoom 12 = .ok (.aload_n 0, 1) := by decide +kernel
theorem dX7_noteCrowdsByRoom_13 : decode cX7_noteCrowdsByRoom 13 = .ok (.getfield 73, 3) := by decide +kernel
theorem dX7_noteCrowdsByRoom_16 : decode cX7_noteCrowdsByRoom 16 = .ok (.getfield 426, 3) := by decide +kernel
theorem dX7_noteCrowdsByRoom_19 : decode cX7_noteCrowdsByRoom 19 = .ok (.iload_n 1, 1) := by decide +kernel
theorem dX7_noteCrowdsByRoom_20 : decode cX7_noteCrowdsByRoom 20 = .ok (.iload_n 2, 1) := by decide +kernel
theorem dX7_noteCrowdsByRoom_21 : decode cX7_noteCrowdsByRoom 21 = .ok (.iastore, 1) := by decide +kernel
theorem dX7_noteCrowdsByRoom_22 : decode cX7_noteCrowdsByRoom 22 = .ok (.aload_n 0, 1) := by decide +kernel
theorem dX7_noteCrowdsByRoom_23 : decode cX7_noteCrowdsByRoom 23 = .ok (.invokevirtual 256, 3) := by decide +kernel
theorem dX7_noteCrowdsByRoom_26 : decode cX7_noteCrowdsByRoom 26 = .ok (.istore_n 3, 1) := by decide +kernel
theorem dX7_noteCrowdsByRoom_27 : decode cX7_noteCrowdsByRoom 27 = .ok (.iconst 0, 1) := by decide +kernel
theorem dX7_noteCrowdsByRoom_28 : decode cX7_noteCrowdsByRoom 28 = .ok (.istore 4, 2) := by decide +kernel
theorem dX7_noteCrowdsByRoom_30 : decode cX7_noteCrowdsByRoom 30 = .ok (.iload 4, 2) := by decide +kernel
theorem dX7_noteCrowdsByRoom_32 : decode cX7_noteCrowdsByRoom 32 = .ok (.bipush 24, 2) := by decide +kernel
theorem dX7_noteCrowdsByRoom_34 : decode cX7_noteCrowdsByRoom 34 = .ok (.if_icmp .ge 35, 3) := by decide +kernel
theorem dX7_noteCrowdsByRoom_37 : decode cX7_noteCrowdsByRoom 37 = .ok (.aload_n 0, 1) := by decide +kernel
theorem dX7_noteCrowdsByRoom_38 : decode cX7_noteCrowdsByRoom 38 = .ok (.getfield 89, 3) := by decide +kernel
theorem dX7_noteCrowdsByRoom_41 : decode cX7_noteCrowdsByRoom 41 = .ok (.iload_n 2, 1) := by decide +kernel
theorem dX7_noteCrowdsByRoom_42 : decode cX7_noteCrowdsByRoom 42 = .ok (.aaload, 1) := by decide +kernel
theorem dX7_noteCrowdsByRoom_43 : decode cX7_noteCrowdsByRoom 43 = .ok (.iload 4, 2) := by decide +kernel
theorem dX7_noteCrowdsByRoom_45 : decode cX7_noteCrowdsByRoom 45 = .ok (.iload_n 3, 1) := by decide +kernel
theorem dX7_noteCrowdsByRoom_46 : decode cX7_noteCrowdsByRoom 46 = .ok (.ifCond .eq 15, 3) := by decide +kernel
theorem dX7_noteCrowdsByRoom_49 : decode cX7_noteCrowdsByRoom 49 = .ok (.aload_n 0, 1) := by decide +kernel
theorem dX7_noteCrowdsByRoom_50 : decode cX7_noteCrowdsByRoom 50 = .ok (.getfield 84, 3) := by decide +kernel
theorem dX7_noteCrowdsByRoom_53 : decode cX7_noteCrowdsByRoom 53 = .ok (.iload 4, 2) := by decide +kernel
theorem dX7_noteCrowdsByRoom_55 : decode cX7_noteCrowdsByRoom 55 = .ok (.invokevirtual 432, 3) := by decide +kernel
theorem dX7_noteCrowdsByRoom_58 : decode cX7_noteCrowdsByRoom 58 = .ok (.goto 4, 3) := by decide +kernel
theorem dX7_noteCrowdsByRoom_61 : decode cX7_noteCrowdsByRoom 61 = .ok (.iconst (-1), 1) := by decide +kernel
theorem dX7_noteCrowdsByRoom_62 : decode cX7_noteCrowdsByRoom 62 = .ok (.iastore, 1) := by decide +kernel
theorem dX7_noteCrowdsByRoom_63 : decode cX7_noteCrowdsByRoom 63 = .ok (.iinc 4 1, 3) := by decide +kernel
theorem dX7_noteCrowdsByRoom_66 : decode cX7_noteCrowdsByRoom 66 = .ok (.goto (-36), 3) := by decide +kernel
theorem dX7_noteCrowdsByRoom_69 : decode cX7_noteCrowdsByRoom 69 = .ok (.iinc 2 1, 3) := by decide +kernel
theorem dX7_noteCrowdsByRoom_72 : decode cX7_noteCrowdsByRoom 72 = .ok (.goto (-66), 3) := by decide +kernel
theorem dX7_noteCrowdsByRoom_75 : decode cX7_noteCrowdsByRoom 75 = .ok (.return_, 1) := by decide +kernel
theorem dX7_mostAlike_0 : decode cX7_mostAlike 0 = .ok (.iconst 0, 1) := by decide +kernel
theorem dX7_mostAlike_1 : decode cX7_mostAlike 1 = .ok (.istore_n 2, 1) := by decide +kernel
theorem dX7_mostAlike_2 : decode cX7_mostAlike 2 = .ok (.iconst 1, 1) := by decide +kernel
theorem dX7_mostAlike_3 : decode cX7_mostAlike 3 = .ok (.istore_n 3, 1) := by decide +kernel
theorem dX7_mostAlike_4 : decode cX7_mostAlike 4 = .ok (.iload_n 3, 1) := by decide +kernel
theorem dX7_mostAlike_5 : decode cX7_mostAlike 5 = .ok (.bipush 9, 2) := by decide +kernel
theorem dX7_mostAlike_7 : decode cX7_mostAlike 7 = .ok (.if_icmp .gt 68, 3) := by decide +kernel
theorem dX7_mostAlike_10 : decode cX7_mostAlike 10 = .ok (.aload_n 0, 1) := by decide +kernel
theorem dX7_mostAlike_11 : decode cX7_mostAlike 11 = .ok (.getfield 89, 3) := by decide +kernel
theorem dX7_mostAlike_14 : decode cX7_mostAlike 14 = .ok (.iload_n 3, 1) := by decide +kernel
theorem dX7_mostAlike_15 : decode cX7_mostAlike 15 = .ok (.aaload, 1) := by decide +kernel
theorem dX7_mostAlike_16 : decode cX7_mostAlike 16 = .ok (.iload_n 1, 1) := by decide +kernel
theorem dX7_mostAlike_17 : decode cX7_mostAlike 17 = .ok (.iaload, 1) := by decide +kernel
theorem dX7_mostAlike_18 : decode cX7_mostAlike 18 = .ok (.istore 4, 2) := by decide +kernel
theorem dX7_mostAlike_20 : decode cX7_mostAlike 20 = .ok (.iconst 0, 1) := by decide +kernel
theorem dX7_mostAlike_21 : decode cX7_mostAlike 21 = .ok (.istore 5, 2) := by decide +kernel
theorem dX7_mostAlike_23 : decode cX7_mostAlike 23 = .ok (.iconst 1, 1) := by decide +kernel
theorem dX7_mostAlike_24 : decode cX7_mostAlike 24 = .ok (.istore 6, 2) := by decide +kernel
theorem dX7_mostAlike_26 : decode cX7_mostAlike 26 = .ok (.iload 6, 2) := by decide +kernel
theorem dX7_mostAlike_28 : decode cX7_mostAlike 28 = .ok (.bipush 9, 2) := by decide +kernel
theorem dX7_mostAlike_30 : decode cX7_mostAlike 30 = .ok (.if_icmp .gt 32, 3) := by decide +kernel
theorem dX7_mostAlike_33 : decode cX7_mostAlike 33 = .ok (.iload 4, 2) := by decide +kernel
theorem dX7_mostAlike_35 : decode cX7_mostAlike 35 = .ok (.iconst (-1), 1) := by decide +kernel
theorem dX7_mostAlike_36 : decode cX7_mostAlike 36 = .ok (.if_icmp .eq 20, 3) := by decide +kernel
theorem dX7_mostAlike_39 : decode cX7_mostAlike 39 = .ok (.aload_n 0, 1) := by decide +kernel
theorem dX7_mostAlike_40 : decode cX7_mostAlike 40 = .ok (.getfield 89, 3) := by decide +kernel
theorem dX7_mostAlike_43 : decode cX7_mostAlike 43 = .ok (.iload 6, 2) := by decide +kernel
theorem dX7_mostAlike_45 : decode cX7_mostAlike 45 = .ok (.aaload, 1) := by decide +kernel
theorem dX7_mostAlike_46 : decode cX7_mostAlike 46 = .ok (.iload_n 1, 1) := by decide +kernel
theorem dX7_mostAlike_47 : decode cX7_mostAlike 47 = .ok (.iaload, 1) := by decide +kernel
theorem dX7_mostAlike_48 : decode cX7_mostAlike 48 = .ok (.iload 4, 2) := by decide +kernel
theorem dX7_mostAlike_50 : decode cX7_mostAlike 50 = .ok (.if_icmp .ne 6, 3) := by decide +kernel
theorem dX7_mostAlike_53 : decode cX7_mostAlike 53 = .ok (.iinc 5 1, 3) := by decide +kernel
theorem dX7_mostAlike_56 : decode cX7_mostAlike 56 = .ok (.iinc 6 1, 3) := by decide +kernel
theorem dX7_mostAlike_59 : decode cX7_mostAlike 59 = .ok (.goto (-33), 3) := by decide +kernel
theorem dX7_mostAlike_62 : decode cX7_mostAlike 62 = .ok (.iload_n 2, 1) := by decide +kernel
theorem dX7_mostAlike_63 : decode cX7_mostAlike 63 = .ok (.iload 5, 2) := by decide +kernel
theorem dX7_mostAlike_65 : decode cX7_mostAlike 65 = .ok (.invokestatic 435, 3) := by decide +kernel
theorem dX7_mostAlike_68 : decode cX7_mostAlike 68 = .ok (.istore_n 2, 1) := by decide +kernel
theorem dX7_mostAlike_69 : decode cX7_mostAlike 69 = .ok (.iinc 3 1, 3) := by decide +kernel
theorem dX7_mostAlike_72 : decode cX7_mostAlike 72 = .ok (.goto (-68), 3) := by decide +kernel
theorem dX7_mostAlike_75 : decode cX7_mostAlike 75 = .ok (.iload_n 2, 1) := by decide +kernel
theorem dX7_mostAlike_76 : decode cX7_mostAlike 76 = .ok (.ireturn, 1) := by decide +kernel
theorem dX7_sharesWithNobodyWaiting_0 : decode cX7_sharesWithNobodyWaiting 0 = .ok (.aload_n 0, 1) := by decide +kernel
theorem dX7_sharesWithNobodyWaiting_1 : decode cX7_sharesWithNobodyWaiting 1 = .ok (.invokevirtual 217, 3) := by decide +kernel
theorem dX7_sharesWithNobodyWaiting_4 : decode cX7_sharesWithNobodyWaiting 4 = .ok (.lconst 0, 1) := by decide +kernel
theorem dX7_sharesWithNobodyWaiting_5 : decode cX7_sharesWithNobodyWaiting 5 = .ok (.lstore_n 3, 1) := by decide +kernel
theorem dX7_sharesWithNobodyWaiting_6 : decode cX7_sharesWithNobodyWaiting 6 = .ok (.iconst 0, 1) := by decide +kernel
theorem dX7_sharesWithNobodyWaiting_7 : decode cX7_sharesWithNobodyWaiting 7 = .ok (.istore 5, 2) := by decide +kernel
theorem dX7_sharesWithNobodyWaiting_9 : decode cX7_sharesWithNobodyWaiting 9 = .ok (.iload 5, 2) := by decide +kernel
theorem dX7_sharesWithNobodyWaiting_11 : decode cX7_sharesWithNobodyWaiting 11 = .ok (.iconst 1, 1) := by decide +kernel
theorem dX7_sharesWithNobodyWaiting_12 : decode cX7_sharesWithNobodyWaiting 12 = .ok (.aload_n 0, 1) := by decide +kernel
theorem dX7_sharesWithNobodyWaiting_13 : decode cX7_sharesWithNobodyWaiting 13 = .ok (.getfield 43, 3) := by decide +kernel
theorem dX7_sharesWithNobodyWaiting_16 : decode cX7_sharesWithNobodyWaiting 16 = .ok (.getfield 152, 3) := by decide +kernel
theorem dX7_sharesWithNobodyWaiting_19 : decode cX7_sharesWithNobodyWaiting 19 = .ok (.ishl, 1) := by decide +kernel
theorem dX7_sharesWithNobodyWaiting_20 : decode cX7_sharesWithNobodyWaiting 20 = .ok (.if_icmp .ge 69, 3) := by decide +kernel
theorem dX7_sharesWithNobodyWaiting_23 : decode cX7_sharesWithNobodyWaiting 23 = .ok (.aload_n 0, 1) := by decide +kernel
theorem dX7_sharesWithNobodyWaiting_24 : decode cX7_sharesWithNobodyWaiting 24 = .ok (.iload 5, 2) := by decide +kernel
theorem dX7_sharesWithNobodyWaiting_26 : decode cX7_sharesWithNobodyWaiting 26 = .ok (.iload_n 1, 1) := by decide +kernel
theorem dX7_sharesWithNobodyWaiting_27 : decode cX7_sharesWithNobodyWaiting 27 = .ok (.invokevirtual 438, 3) := by decide +kernel
theorem dX7_sharesWithNobodyWaiting_30 : decode cX7_sharesWithNobodyWaiting 30 = .ok (.lstore 6, 2) := by decide +kernel
theorem dX7_sharesWithNobodyWaiting_32 : decode cX7_sharesWithNobodyWaiting 32 = .ok (.lload 6, 2) := by decide +kernel
theorem dX7_sharesWithNobodyWaiting_34 : decode cX7_sharesWithNobodyWaiting 34 = .ok (.lconst 0, 1) := by decide +kernel
theorem dX7_sharesWithNobodyWaiting_35 : decode cX7_sharesWithNobodyWaiting 35 = .ok (.lcmp, 1) := by decide +kernel
theorem dX7_sharesWithNobodyWaiting_36 : decode cX7_sharesWithNobodyWaiting 36 = .ok (.ifCond .ne 6, 3) := by decide +kernel
theorem dX7_sharesWithNobodyWaiting_39 : decode cX7_sharesWithNobodyWaiting 39 = .ok (.goto 44, 3) := by decide +kernel
theorem dX7_sharesWithNobodyWaiting_42 : decode cX7_sharesWithNobodyWaiting 42 = .ok (.aload_n 0, 1) := by decide +kernel
theorem dX7_sharesWithNobodyWaiting_43 : decode cX7_sharesWithNobodyWaiting 43 = .ok (.getfield 73, 3) := by decide +kernel
theorem dX7_sharesWithNobodyWaiting_46 : decode cX7_sharesWithNobodyWaiting 46 = .ok (.aload_n 0, 1) := by decide +kernel
theorem dX7_sharesWithNobodyWaiting_47 : decode cX7_sharesWithNobodyWaiting 47 = .ok (.getfield 43, 3) := by decide +kernel
theorem dX7_sharesWithNobodyWaiting_50 : decode cX7_sharesWithNobodyWaiting 50 = .ok (.iload 5, 2) := by decide +kernel
theorem dX7_sharesWithNobodyWaiting_52 : decode cX7_sharesWithNobodyWaiting 52 = .ok (.invokevirtual 252, 3) := by decide +kernel
theorem dX7_sharesWithNobodyWaiting_55 : decode cX7_sharesWithNobodyWaiting 55 = .ok (.aload_n 0, 1) := by decide +kernel
theorem dX7_sharesWithNobodyWaiting_56 : decode cX7_sharesWithNobodyWaiting 56 = .ok (.getfield 84, 3) := by decide +kernel
theorem dX7_sharesWithNobodyWaiting_59 : decode cX7_sharesWithNobodyWaiting 59 = .ok (.aload_n 0, 1) := by decide +kernel
theorem dX7_sharesWithNobodyWaiting_60 : decode cX7_sharesWithNobodyWaiting 60 = .ok (.getfield 73, 3) := by decide +kernel
theorem dX7_sharesWithNobodyWaiting_63 : decode cX7_sharesWithNobodyWaiting 63 = .ok (.iload_n 2, 1) := by decide +kernel
theorem dX7_sharesWithNobodyWaiting_64 : decode cX7_sharesWithNobodyWaiting 64 = .ok (.invokevirtual 227, 3) := by decide +kernel
theorem dX7_sharesWithNobodyWaiting_67 : decode cX7_sharesWithNobodyWaiting 67 = .ok (.aload_n 0, 1) := by decide +kernel
theorem dX7_sharesWithNobodyWaiting_68 : decode cX7_sharesWithNobodyWaiting 68 = .ok (.getfield 84, 3) := by decide +kernel
theorem dX7_sharesWithNobodyWaiting_71 : decode cX7_sharesWithNobodyWaiting 71 = .ok (.iload_n 2, 1) := by decide +kernel
theorem dX7_sharesWithNobodyWaiting_72 : decode cX7_sharesWithNobodyWaiting 72 = .ok (.invokevirtual 432, 3) := by decide +kernel
theorem dX7_sharesWithNobodyWaiting_75 : decode cX7_sharesWithNobodyWaiting 75 = .ok (.ifCond .ne 8, 3) := by decide +kernel
theorem dX7_sharesWithNobodyWaiting_78 : decode cX7_sharesWithNobodyWaiting 78 = .ok (.lload_n 3, 1) := by decide +kernel
theorem dX7_sharesWithNobodyWaiting_79 : decode cX7_sharesWithNobodyWaiting 79 = .ok (.lload 6, 2) := by decide +kernel
theorem dX7_sharesWithNobodyWaiting_81 : decode cX7_sharesWithNobodyWaiting 81 = .ok (.ladd, 1) := by decide +kernel
theorem dX7_sharesWithNobodyWaiting_82 : decode cX7_sharesWithNobodyWaiting 82 = .ok (.lstore_n 3, 1) := by decide +kernel
theorem dX7_sharesWithNobodyWaiting_83 : decode cX7_sharesWithNobodyWaiting 83 = .ok (.iinc 5 1, 3) := by decide +kernel
theorem dX7_sharesWithNobodyWaiting_86 : decode cX7_sharesWithNobodyWaiting 86 = .ok (.goto (-77), 3) := by decide +kernel
theorem dX7_sharesWithNobodyWaiting_89 : decode cX7_sharesWithNobodyWaiting 89 = .ok (.lload_n 3, 1) := by decide +kernel
theorem dX7_sharesWithNobodyWaiting_90 : decode cX7_sharesWithNobodyWaiting 90 = .ok (.lreturn, 1) := by decide +kernel
theorem dX7_sharesOf_0 : decode cX7_sharesOf 0 = .ok (.lconst 1, 1) := by decide +kernel
theorem dX7_sharesOf_1 : decode cX7_sharesOf 1 = .ok (.lstore_n 3, 1) := by decide +kernel
theorem dX7_sharesOf_2 : decode cX7_sharesOf 2 = .ok (.iconst 0, 1) := by decide +kernel
theorem dX7_sharesOf_3 : decode cX7_sharesOf 3 = .ok (.istore 5, 2) := by decide +kernel
theorem dX7_sharesOf_5 : decode cX7_sharesOf 5 = .ok (.iload 5, 2) := by decide +kernel
theorem dX7_sharesOf_7 : decode cX7_sharesOf 7 = .ok (.aload_n 0, 1) := by decide +kernel
theorem dX7_sharesOf_8 : decode cX7_sharesOf 8 = .ok (.getfield 43, 3) := by decide +kernel
theorem dX7_sharesOf_11 : decode cX7_sharesOf 11 = .ok (.getfield 152, 3) := by decide +kernel
theorem dX7_sharesOf_14 : decode cX7_sharesOf 14 = .ok (.if_icmp .ge 32, 3) := by decide +kernel
theorem dX7_sharesOf_17 : decode cX7_sharesOf 17 = .ok (.lload_n 3, 1) := by decide +kernel
theorem dX7_sharesOf_18 : decode cX7_sharesOf 18 = .ok (.iload_n 1, 1) := by decide +kernel
theorem dX7_sharesOf_19 : decode cX7_sharesOf 19 = .ok (.iload 5, 2) := by decide +kernel
theorem dX7_sharesOf_21 : decode cX7_sharesOf 21 = .ok (.ishr, 1) := by decide +kernel
theorem dX7_sharesOf_22 : decode cX7_sharesOf 22 = .ok (.iconst 1, 1) := by decide +kernel
theorem dX7_sharesOf_23 : decode cX7_sharesOf 23 = .ok (.iand, 1) := by decide +kernel
theorem dX7_sharesOf_24 : decode cX7_sharesOf 24 = .ok (.iconst 1, 1) := by decide +kernel
theorem dX7_sharesOf_25 : decode cX7_sharesOf 25 = .ok (.if_icmp .ne 8, 3) := by decide +kernel
theorem dX7_sharesOf_28 : decode cX7_sharesOf 28 = .ok (.iload_n 2, 1) := by decide +kernel
theorem dX7_sharesOf_29 : decode cX7_sharesOf 29 = .ok (.i2l, 1) := by decide +kernel
theorem dX7_sharesOf_30 : decode cX7_sharesOf 30 = .ok (.goto 8, 3) := by decide +kernel
theorem dX7_sharesOf_33 : decode cX7_sharesOf 33 = .ok (.bipush 16, 2) := by decide +kernel
theorem dX7_sharesOf_35 : decode cX7_sharesOf 35 = .ok (.iload_n 2, 1) := by decide +kernel
theorem dX7_sharesOf_36 : decode cX7_sharesOf 36 = .ok (.isub, 1) := by decide +kernel
theorem dX7_sharesOf_37 : decode cX7_sharesOf 37 = .ok (.i2l, 1) := by decide +kernel
theorem dX7_sharesOf_38 : decode cX7_sharesOf 38 = .ok (.lmul, 1) := by decide +kernel
theorem dX7_sharesOf_39 : decode cX7_sharesOf 39 = .ok (.lstore_n 3, 1) := by decide +kernel
theorem dX7_sharesOf_40 : decode cX7_sharesOf 40 = .ok (.iinc 5 1, 3) := by decide +kernel
theorem dX7_sharesOf_43 : decode cX7_sharesOf 43 = .ok (.goto (-38), 3) := by decide +kernel
theorem dX7_sharesOf_46 : decode cX7_sharesOf 46 = .ok (.lload_n 3, 1) := by decide +kernel
theorem dX7_sharesOf_47 : decode cX7_sharesOf 47 = .ok (.lreturn, 1) := by decide +kernel
theorem dX8_init_0 : decode cX8_init 0 = .ok (.aload_n 0, 1) := by decide +kernel
theorem dX8_init_1 : decode cX8_init 1 = .ok (.invokespecial 1, 3) := by decide +kernel
theorem dX8_init_4 : decode cX8_init 4 = .ok (.aload_n 0, 1) := by decide +kernel
theorem dX8_init_5 : decode cX8_init 5 = .ok (.iconst 3, 1) := by decide +kernel
theorem dX8_init_6 : decode cX8_init 6 = .ok (.newarray .int, 2) := by decide +kernel
theorem dX8_init_8 : decode cX8_init 8 = .ok (.putfield 7, 3) := by decide +kernel
theorem dX8_init_11 : decode cX8_init 11 = .ok (.aload_n 0, 1) := by decide +kernel
theorem dX8_init_12 : decode cX8_init 12 = .ok (.sipush 141, 3) := by decide +kernel
theorem dX8_init_15 : decode cX8_init 15 = .ok (.newarray .int, 2) := by decide +kernel
theorem dX8_init_17 : decode cX8_init 17 = .ok (.putfield 13, 3) := by decide +kernel
theorem dX8_init_20 : decode cX8_init 20 = .ok (.aload_n 0, 1) := by decide +kernel
theorem dX8_init_21 : decode cX8_init 21 = .ok (.bipush 7, 2) := by decide +kernel
theorem dX8_init_23 : decode cX8_init 23 = .ok (.newarray .int, 2) := by decide +kernel
theorem dX8_init_25 : decode cX8_init 25 = .ok (.putfield 16, 3) := by decide +kernel
theorem dX8_init_28 : decode cX8_init 28 = .ok (.aload_n 0, 1) := by decide +kernel
theorem dX8_init_29 : decode cX8_init 29 = .ok (.bipush 7, 2) := by decide +kernel
theorem dX8_init_31 : decode cX8_init 31 = .ok (.newarray .int, 2) := by decide +kernel
theorem dX8_init_33 : decode cX8_init 33 = .ok (.putfield 19, 3) := by decide +kernel
theorem dX8_init_36 : decode cX8_init 36 = .ok (.aload_n 0, 1) := by decide +kernel
theorem dX8_init_37 : decode cX8_init 37 = .ok (.bipush 7, 2) := by decide +kernel
theorem dX8_init_39 : decode cX8_init 39 = .ok (.newarray .int, 2) := by decide +kernel
theorem dX8_init_41 : decode cX8_init 41 = .ok (.putfield 22, 3) := by decide +kernel
theorem dX8_init_44 : decode cX8_init 44 = .ok (.aload_n 0, 1) := by decide +kernel
theorem dX8_init_45 : decode cX8_init 45 = .ok (.bipush 13, 2) := by decide +kernel
theorem dX8_init_47 : decode cX8_init 47 = .ok (.newarray .int, 2) := by decide +kernel
theorem dX8_init_49 : decode cX8_init 49 = .ok (.putfield 25, 3) := by decide +kernel
theorem dX8_init_52 : decode cX8_init 52 = .ok (.aload_n 0, 1) := by decide +kernel
theorem dX8_init_53 : decode cX8_init 53 = .ok (.bipush 13, 2) := by decide +kernel
theorem dX8_init_55 : decode cX8_init 55 = .ok (.newarray .int, 2) := by decide +kernel
theorem dX8_init_57 : decode cX8_init 57 = .ok (.putfield 28, 3) := by decide +kernel
theorem dX8_init_60 : decode cX8_init 60 = .ok (.aload_n 0, 1) := by decide +kernel
theorem dX8_init_61 : decode cX8_init 61 = .ok (.bipush 13, 2) := by decide +kernel
theorem dX8_init_63 : decode cX8_init 63 = .ok (.newarray .int, 2) := by decide +kernel
theorem dX8_init_65 : decode cX8_init 65 = .ok (.putfield 31, 3) := by decide +kernel
theorem dX8_init_68 : decode cX8_init 68 = .ok (.aload_n 0, 1) := by decide +kernel
theorem dX8_init_69 : decode cX8_init 69 = .ok (.bipush 24, 2) := by decide +kernel
theorem dX8_init_71 : decode cX8_init 71 = .ok (.newarray .int, 2) := by decide +kernel
theorem dX8_init_73 : decode cX8_init 73 = .ok (.putfield 34, 3) := by decide +kernel
theorem dX8_init_76 : decode cX8_init 76 = .ok (.aload_n 0, 1) := by decide +kernel
theorem dX8_init_77 : decode cX8_init 77 = .ok (.bipush 8, 2) := by decide +kernel
theorem dX8_init_79 : decode cX8_init 79 = .ok (.newarray .int, 2) := by decide +kernel
theorem dX8_init_81 : decode cX8_init 81 = .ok (.putfield 37, 3) := by decide +kernel
theorem dX8_init_84 : decode cX8_init 84 = .ok (.aload_n 0, 1) := by decide +kernel
theorem dX8_init_85 : decode cX8_init 85 = .ok (.bipush 8, 2) := by decide +kernel
theorem dX8_init_87 : decode cX8_init 87 = .ok (.newarray .int, 2) := by decide +kernel
theorem dX8_init_89 : decode cX8_init 89 = .ok (.putfield 40, 3) := by decide +kernel
theorem dX8_init_92 : decode cX8_init 92 = .ok (.aload_n 0, 1) := by decide +kernel
theorem dX8_init_93 : decode cX8_init 93 = .ok (.bipush 8, 2) := by decide +kernel
theorem dX8_init_95 : decode cX8_init 95 = .ok (.newarray .int, 2) := by decide +kernel
theorem dX8_init_97 : decode cX8_init 97 = .ok (.putfield 43, 3) := by decide +kernel
theorem dX8_init_100 : decode cX8_init 100 = .ok (.aload_n 0, 1) := by decide +kernel
theorem dX8_init_101 : decode cX8_init 101 = .ok (.bipush 24, 2) := by decide +kernel
theorem dX8_init_103 : decode cX8_init 103 = .ok (.newarray .int, 2) := by decide +kernel
theorem dX8_init_105 : decode cX8_init 105 = .ok (.putfield 46, 3) := by decide +kernel
theorem dX8_init_108 : decode cX8_init 108 = .ok (.aload_n 0, 1) := by decide +kernel
theorem dX8_init_109 : decode cX8_init 109 = .ok (.bipush 6, 2) := by decide +kernel
theorem dX8_init_111 : decode cX8_init 111 = .ok (.newarray .int, 2) := by decide +kernel
theorem dX8_init_113 : decode cX8_init 113 = .ok (.putfield 49, 3) := by decide +kernel
theorem dX8_init_116 : decode cX8_init 116 = .ok (.aload_n 0, 1) := by decide +kernel
theorem dX8_init_117 : decode cX8_init 117 = .ok (.bipush 6, 2) := by decide +kernel
theorem dX8_init_119 : decode cX8_init 119 = .ok (.newarray .int, 2) := by decide +kernel
theorem dX8_init_121 : decode cX8_init 121 = .ok (.putfield 52, 3) := by decide +kernel
theorem dX8_init_124 : decode cX8_init 124 = .ok (.aload_n 0, 1) := by decide +kernel
theorem dX8_init_125 : decode cX8_init 125 = .ok (.bipush 6, 2) := by decide +kernel
theorem dX8_init_127 : decode cX8_init 127 = .ok (.newarray .int, 2) := by decide +kernel
theorem dX8_init_129 : decode cX8_init 129 = .ok (.putfield 55, 3) := by decide +kernel
theorem dX8_init_132 : decode cX8_init 132 = .ok (.aload_n 0, 1) := by decide +kernel
theorem dX8_init_133 : decode cX8_init 133 = .ok (.iconst 2, 1) := by decide +kernel
theorem dX8_init_134 : decode cX8_init 134 = .ok (.newarray .int, 2) := by decide +kernel
theorem dX8_init_136 : decode cX8_init 136 = .ok (.putfield 58, 3) := by decide +kernel
theorem dX8_init_139 : decode cX8_init 139 = .ok (.aload_n 0, 1) := by decide +kernel
theorem dX8_init_140 : decode cX8_init 140 = .ok (.iconst 2, 1) := by decide +kernel
theorem dX8_init_141 : decode cX8_init 141 = .ok (.newarray .int, 2) := by decide +kernel
theorem dX8_init_143 : decode cX8_init 143 = .ok (.putfield 61, 3) := by decide +kernel
theorem dX8_init_146 : decode cX8_init 146 = .ok (.aload_n 0, 1) := by decide +kernel
theorem dX8_init_147 : decode cX8_init 147 = .ok (.bipush 48, 2) := by decide +kernel
theorem dX8_init_149 : decode cX8_init 149 = .ok (.newarray .int, 2) := by decide +kernel
theorem dX8_init_151 : decode cX8_init 151 = .ok (.putfield 64, 3) := by decide +kernel
theorem dX8_init_154 : decode cX8_init 154 = .ok (.aload_n 0, 1) := by decide +kernel
theorem dX8_init_155 : decode cX8_init 155 = .ok (.bipush 24, 2) := by decide +kernel
theorem dX8_init_157 : decode cX8_init 157 = .ok (.newarray .int, 2) := by decide +kernel
theorem dX8_init_159 : decode cX8_init 159 = .ok (.putfield 67, 3) := by decide +kernel
theorem dX8_init_162 : decode cX8_init 162 = .ok (.aload_n 0, 1) := by decide +kernel
theorem dX8_init_163 : decode cX8_init 163 = .ok (.bipush 24, 2) := by decide +kernel
theorem dX8_init_165 : decode cX8_init 165 = .ok (.newarray .int, 2) := by decide +kernel
theorem dX8_init_167 : decode cX8_init 167 = .ok (.putfield 70, 3) := by decide +kernel
theorem dX8_init_170 : decode cX8_init 170 = .ok (.aload_n 0, 1) := by decide +kernel
theorem dX8_init_171 : decode cX8_init 171 = .ok (.sipush 144, 3) := by decide +kernel
theorem dX8_init_174 : decode cX8_init 174 = .ok (.newarray .int, 2) := by decide +kernel
theorem dX8_init_176 : decode cX8_init 176 = .ok (.putfield 73, 3) := by decide +kernel
theorem dX8_init_179 : decode cX8_init 179 = .ok (.aload_n 0, 1) := by decide +kernel
theorem dX8_init_180 : decode cX8_init 180 = .ok (.sipush 144, 3) := by decide +kernel
theorem dX8_init_183 : decode cX8_init 183 = .ok (.newarray .int, 2) := by decide +kernel
theorem dX8_init_185 : decode cX8_init 185 = .ok (.putfield 76, 3) := by decide +kernel
theorem dX8_init_188 : decode cX8_init 188 = .ok (.aload_n 0, 1) := by decide +kernel
theorem dX8_init_189 : decode cX8_init 189 = .ok (.iconst 2, 1) := by decide +kernel
theorem dX8_init_190 : decode cX8_init 190 = .ok (.newarray .int, 2) := by decide +kernel
theorem dX8_init_192 : decode cX8_init 192 = .ok (.putfield 79, 3) := by decide +kernel
theorem dX8_init_195 : decode cX8_init 195 = .ok (.aload_n 0, 1) := by decide +kernel
theorem dX8_init_196 : decode cX8_init 196 = .ok (.bipush 8, 2) := by decide +kernel
theorem dX8_init_198 : decode cX8_init 198 = .ok (.newarray .int, 2) := by decide +kernel
theorem dX8_init_200 : decode cX8_init 200 = .ok (.putfield 82, 3) := by decide +kernel
theorem dX8_init_203 : decode cX8_init 203 = .ok (.aload_n 0, 1) := by decide +kernel
theorem dX8_init_204 : decode cX8_init 204 = .ok (.bipush 8, 2) := by decide +kernel
theorem dX8_init_206 : decode cX8_init 206 = .ok (.newarray .int, 2) := by decide +kernel
theorem dX8_init_208 : decode cX8_init 208 = .ok (.putfield 85, 3) := by decide +kernel
theorem dX8_init_211 : decode cX8_init 211 = .ok (.aload_n 0, 1) := by decide +kernel
theorem dX8_init_212 : decode cX8_init 212 = .ok (.bipush 8, 2) := by decide +kernel
theorem dX8_init_214 : decode cX8_init 214 = .ok (.newarray .int, 2) := by decide +kernel
theorem dX8_init_216 : decode cX8_init 216 = .ok (.putfield 88, 3) := by decide +kernel
theorem dX8_init_219 : decode cX8_init 219 = .ok (.aload_n 0, 1) := by decide +kernel
theorem dX8_init_220 : decode cX8_init 220 = .ok (.sipush 240, 3) := by decide +kernel
theorem dX8_init_223 : decode cX8_init 223 = .ok (.newarray .int, 2) := by decide +kernel
theorem dX8_init_225 : decode cX8_init 225 = .ok (.putfield 91, 3) := by decide +kernel
theorem dX8_init_228 : decode cX8_init 228 = .ok (.aload_n 0, 1) := by decide +kernel
theorem dX8_init_229 : decode cX8_init 229 = .ok (.iconst 4, 1) := by decide +kernel
theorem dX8_init_230 : decode cX8_init 230 = .ok (.newarray .boolean, 2) := by decide +kernel
theorem dX8_init_232 : decode cX8_init 232 = .ok (.putfield 94, 3) := by decide +kernel
theorem dX8_init_235 : decode cX8_init 235 = .ok (.aload_n 0, 1) := by decide +kernel
theorem dX8_init_236 : decode cX8_init 236 = .ok (.iconst 4, 1) := by decide +kernel
theorem dX8_init_237 : decode cX8_init 237 = .ok (.newarray .int, 2) := by decide +kernel
theorem dX8_init_239 : decode cX8_init 239 = .ok (.putfield 98, 3) := by decide +kernel
theorem dX8_init_242 : decode cX8_init 242 = .ok (.aload_n 0, 1) := by decide +kernel
theorem dX8_init_243 : decode cX8_init 243 = .ok (.iconst 4, 1) := by decide +kernel
theorem dX8_init_244 : decode cX8_init 244 = .ok (.newarray .int, 2) := by decide +kernel
theorem dX8_init_246 : decode cX8_init 246 = .ok (.putfield 101, 3) := by decide +kernel
theorem dX8_init_249 : decode cX8_init 249 = .ok (.aload_n 0, 1) := by decide +kernel
theorem dX8_init_250 : decode cX8_init 250 = .ok (.sipush 240, 3) := by decide +kernel
theorem dX8_init_253 : decode cX8_init 253 = .ok (.newarray .int, 2) := by decide +kernel
theorem dX8_init_255 : decode cX8_init 255 = .ok (.putfield 104, 3) := by decide +kernel
theorem dX8_init_258 : decode cX8_init 258 = .ok (.aload_n 0, 1) := by decide +kernel
theorem dX8_init_259 : decode cX8_init 259 = .ok (.bipush 60, 2) := by decide +kernel
theorem dX8_init_261 : decode cX8_init 261 = .ok (.newarray .int, 2) := by decide +kernel
theorem dX8_init_263 : decode cX8_init 263 = .ok (.putfield 107, 3) := by decide +kernel
theorem dX8_init_266 : decode cX8_init 266 = .ok (.return_, 1) := by decide +kernel
theorem dX8_in_0 : decode cX8_in 0 = .ok (.iload_n 0, 1) := by decide +kernel
theorem dX8_in_1 : decode cX8_in 1 = .ok (.iload_n 1, 1) := by decide +kernel
theorem dX8_in_2 : decode cX8_in 2 = .ok (.if_icmp .lt 12, 3) := by decide +kernel
theorem dX8_in_5 : decode cX8_in 5 = .ok (.iload_n 0, 1) := by decide +kernel
theorem dX8_in_6 : decode cX8_in 6 = .ok (.iload_n 2, 1) := by decide +kernel
theorem dX8_in_7 : decode cX8_in 7 = .ok (.if_icmp .gt 7, 3) := by decide +kernel
theorem dX8_in_10 : decode cX8_in 10 = .ok (.iconst 1, 1) := by decide +kernel
theorem dX8_in_11 : decode cX8_in 11 = .ok (.goto 4, 3) := by decide +kernel
theorem dX8_in_14 : decode cX8_in 14 = .ok (.iconst 0, 1) := by decide +kernel
theorem dX8_in_15 : decode cX8_in 15 = .ok (.ireturn, 1) := by decide +kernel
theorem dX8_isIn_0 : decode cX8_isIn 0 = .ok (.iload_n 0, 1) := by decide +kernel
theorem dX8_isIn_1 : decode cX8_isIn 1 = .ok (.iload_n 1, 1) := by decide +kernel
theorem dX8_isIn_2 : decode cX8_isIn 2 = .ok (.ishr, 1) := by decide +kernel
theorem dX8_isIn_3 : decode cX8_isIn 3 = .ok (.iconst 1, 1) := by decide +kernel
theorem dX8_isIn_4 : decode cX8_isIn 4 = .ok (.iand, 1) := by decide +kernel
theorem dX8_isIn_5 : decode cX8_isIn 5 = .ok (.iconst 1, 1) := by decide +kernel
theorem dX8_isIn_6 : decode cX8_isIn 6 = .ok (.if_icmp .ne 7, 3) := by decide +kernel
theorem dX8_isIn_9 : decode cX8_isIn 9 = .ok (.iconst 1, 1) := by decide +kernel
theorem dX8_isIn_10 : decode cX8_isIn 10 = .ok (.goto 4, 3) := by decide +kernel
theorem dX8_isIn_13 : decode cX8_isIn 13 = .ok (.iconst 0, 1) := by decide +kernel
theorem dX8_isIn_14 : decode cX8_isIn 14 = .ok (.ireturn, 1) := by decide +kernel
theorem dX8_no_0 : decode cX8_no 0 = .ok (.ldc2_w 110, 3) := by decide +kernel
theorem dX8_no_3 : decode cX8_no 3 = .ok (.iload_n 0, 1) := by decide +kernel
theorem dX8_no_4 : decode cX8_no 4 = .ok (.i2l, 1) := by decide +kernel
theorem dX8_no_5 : decode cX8_no 5 = .ok (.lsub, 1) := by decide +kernel
theorem dX8_no_6 : decode cX8_no 6 = .ok (.lreturn, 1) := by decide +kernel
theorem dX8_lowest_0 : decode cX8_lowest 0 = .ok (.lload_n 0, 1) := by decide +kernel
theorem dX8_lowest_1 : decode cX8_lowest 1 = .ok (.lstore 5, 2) := by decide +kernel
theorem dX8_lowest_3 : decode cX8_lowest 3 = .ok (.lload_n 2, 1) := by decide +kernel
theorem dX8_lowest_4 : decode cX8_lowest 4 = .ok (.lstore 7, 2) := by decide +kernel
theorem dX8_lowest_6 : decode cX8_lowest 6 = .ok (.lload 7, 2) := by decide +kernel
theorem dX8_lowest_8 : decode cX8_lowest 8 = .ok (.lconst 0, 1) := by decide +kernel
theorem dX8_lowest_9 : decode cX8_lowest 9 = .ok (.lcmp, 1) := by decide +kernel
theorem dX8_lowest_10 : decode cX8_lowest 10 = .ok (.ifCond .eq 21, 3) := by decide +kernel
theorem dX8_lowest_13 : decode cX8_lowest 13 = .ok (.lload 5, 2) := by decide +kernel
theorem dX8_lowest_15 : decode cX8_lowest 15 = .ok (.lload 7, 2) := by decide +kernel
theorem dX8_lowest_17 : decode cX8_lowest 17 = .ok (.lrem, 1) := by decide +kernel
theorem dX8_lowest_18 : decode cX8_lowest 18 = .ok (.lstore 9, 2) := by decide +kernel
theorem dX8_lowest_20 : decode cX8_lowest 20 = .ok (.lload 7, 2) := by decide +kernel
theorem dX8_lowest_22 : decode cX8_lowest 22 = .ok (.lstore 5, 2) := by decide +kernel
theorem dX8_lowest_24 : decode cX8_lowest 24 = .ok (.lload 9, 2) := by decide +kernel
theorem dX8_lowest_26 : decode cX8_lowest 26 = .ok (.lstore 7, 2) := by decide +kernel
theorem dX8_lowest_28 : decode cX8_lowest 28 = .ok (.goto (-22), 3) := by decide +kernel
theorem dX8_lowest_31 : decode cX8_lowest 31 = .ok (.iload 4, 2) := by decide +kernel
theorem dX8_lowest_33 : decode cX8_lowest 33 = .ok (.ifCond .ne 10, 3) := by decide +kernel
theorem dX8_lowest_36 : decode cX8_lowest 36 = .ok (.lload_n 0, 1) := by decide +kernel
theorem dX8_lowest_37 : decode cX8_lowest 37 = .ok (.lload 5, 2) := by decide +kernel
theorem dX8_lowest_39 : decode cX8_lowest 39 = .ok (.ldiv, 1) := by decide +kernel
theorem dX8_lowest_40 : decode cX8_lowest 40 = .ok (.goto 7, 3) := by decide +kernel
theorem dX8_lowest_43 : decode cX8_lowest 43 = .ok (.lload_n 2, 1) := by decide +kernel
theorem dX8_lowest_44 : decode cX8_lowest 44 = .ok (.lload 5, 2) := by decide +kernel
theorem dX8_lowest_46 : decode cX8_lowest 46 = .ok (.ldiv, 1) := by decide +kernel
theorem dX8_lowest_47 : decode cX8_lowest 47 = .ok (.lreturn, 1) := by decide +kernel
theorem dX8_isText_0 : decode cX8_isText 0 = .ok (.iload_n 0, 1) := by decide +kernel
theorem dX8_isText_1 : decode cX8_isText 1 = .ok (.iconst 0, 1) := by decide +kernel
theorem dX8_isText_2 : decode cX8_isText 2 = .ok (.iconst 2, 1) := by decide +kernel
theorem dX8_isText_3 : decode cX8_isText 3 = .ok (.invokestatic 112, 3) := by decide +kernel
theorem dX8_isText_6 : decode cX8_isText 6 = .ok (.ireturn, 1) := by decide +kernel
theorem dX8_isMoment_0 : decode cX8_isMoment 0 = .ok (.iload_n 0, 1) := by decide +kernel
theorem dX8_isMoment_1 : decode cX8_isMoment 1 = .ok (.iconst 0, 1) := by decide +kernel
theorem dX8_isMoment_2 : decode cX8_isMoment 2 = .ok (.bipush 23, 2) := by decide +kernel
theorem dX8_isMoment_4 : decode cX8_isMoment 4 = .ok (.invokestatic 112, 3) := by decide +kernel
theorem dX8_isMoment_7 : decode cX8_isMoment 7 = .ok (.ireturn, 1) := by decide +kernel
theorem dX8_isTwo_0 : decode cX8_isTwo 0 = .ok (.iload_n 0, 1) := by decide +kernel
theorem dX8_isTwo_1 : decode cX8_isTwo 1 = .ok (.iconst 0, 1) := by decide +kernel
theorem dX8_isTwo_2 : decode cX8_isTwo 2 = .ok (.iconst 1, 1) := by decide +kernel
theorem dX8_isTwo_3 : decode cX8_isTwo 3 = .ok (.invokestatic 112, 3) := by decide +kernel
theorem dX8_isTwo_6 : decode cX8_isTwo 6 = .ok (.ireturn, 1) := by decide +kernel
theorem dX8_isThree_0 : decode cX8_isThree 0 = .ok (.iload_n 0, 1) := by decide +kernel
theorem dX8_isThree_1 : decode cX8_isThree 1 = .ok (.iconst 0, 1) := by decide +kernel
theorem dX8_isThree_2 : decode cX8_isThree 2 = .ok (.iconst 2, 1) := by decide +kernel
theorem dX8_isThree_3 : decode cX8_isThree 3 = .ok (.invokestatic 112, 3) := by decide +kernel
theorem dX8_isThree_6 : decode cX8_isThree 6 = .ok (.ireturn, 1) := by decide +kernel
theorem dX8_roomOf_0 : decode cX8_roomOf 0 = .ok (.iload_n 0, 1) := by decide +kernel
theorem dX8_roomOf_1 : decode cX8_roomOf 1 = .ok (.ifCond .ne 8, 3) := by decide +kernel
theorem dX8_roomOf_4 : decode cX8_roomOf 4 = .ok (.bipush 23, 2) := by decide +kernel
theorem dX8_roomOf_6 : decode cX8_roomOf 6 = .ok (.goto 15, 3) := by decide +kernel
theorem dX8_roomOf_9 : decode cX8_roomOf 9 = .ok (.iload_n 0, 1) := by decide +kernel
theorem dX8_roomOf_10 : decode cX8_roomOf 10 = .ok (.iconst 1, 1) := by decide +kernel
theorem dX8_roomOf_11 : decode cX8_roomOf 11 = .ok (.if_icmp .ne 8, 3) := by decide +kernel
theorem dX8_roomOf_14 : decode cX8_roomOf 14 = .ok (.bipush 47, 2) := by decide +kernel
theorem dX8_roomOf_16 : decode cX8_roomOf 16 = .ok (.goto 5, 3) := by decide +kernel
theorem dX8_roomOf_19 : decode cX8_roomOf 19 = .ok (.bipush 24, 2) := by decide +kernel
theorem dX8_roomOf_21 : decode cX8_roomOf 21 = .ok (.ireturn, 1) := by decide +kernel
theorem dX8_type_0 : decode cX8_type 0 = .ok (.iload_n 1, 1) := by decide +kernel
theorem dX8_type_1 : decode cX8_type 1 = .ok (.invokestatic 116, 3) := by decide +kernel
theorem dX8_type_4 : decode cX8_type 4 = .ok (.ifCond .eq 14, 3) := by decide +kernel
theorem dX8_type_7 : decode cX8_type 7 = .ok (.iload_n 2, 1) := by decide +kernel
theorem dX8_type_8 : decode cX8_type 8 = .ok (.iconst 0, 1) := by decide +kernel
theorem dX8_type_9 : decode cX8_type 9 = .ok (.sipush 255, 3) := by decide +kernel
theorem dX8_type_12 : decode cX8_type 12 = .ok (.invokestatic 112, 3) := by decide +kernel
theorem dX8_type_15 : decode cX8_type 15 = .ok (.ifCond .ne 6, 3) := by decide +kernel
theorem dX8_type_18 : decode cX8_type 18 = .ok (.bipush (-2), 2) := by decide +kernel
theorem dX8_type_20 : decode cX8_type 20 = .ok (.ireturn, 1) := by decide +kernel
theorem dX8_type_21 : decode cX8_type 21 = .ok (.aload_n 0, 1) := by decide +kernel
theorem dX8_type_22 : decode cX8_type 22 = .ok (.getfield 7, 3) := by decide +kernel
theorem dX8_type_25 : decode cX8_type 25 = .ok (.iload_n 1, 1) := by decide +kernel
theorem dX8_type_26 : decode cX8_type 26 = .ok (.iaload, 1) := by decide +kernel
theorem dX8_type_27 : decode cX8_type 27 = .ok (.iload_n 1, 1) := by decide +kernel
theorem dX8_type_28 : decode cX8_type 28 = .ok (.invokestatic 120, 3) := by decide +kernel
theorem dX8_type_31 : decode cX8_type 31 = .ok (.if_icmp .ne 6, 3) := by decide +kernel
theorem dX8_type_34 : decode cX8_type 34 = .ok (.bipush (-4), 2) := by decide +kernel
theorem dX8_type_36 : decode cX8_type 36 = .ok (.ireturn, 1) := by decide +kernel
theorem dX8_type_37 : decode cX8_type 37 = .ok (.aload_n 0, 1) := by decide +kernel
theorem dX8_type_38 : decode cX8_type 38 = .ok (.getfield 13, 3) := by decide +kernel
theorem dX8_type_41 : decode cX8_type 41 = .ok (.bipush 47, 2) := by decide +kernel
theorem dX8_type_43 : decode cX8_type 43 = .ok (.iload_n 1, 1) := by decide +kernel
theorem dX8_type_44 : decode cX8_type 44 = .ok (.imul, 1) := by decide +kernel
theorem dX8_type_45 : decode cX8_type 45 = .ok (.aload_n 0, 1) := by decide +kernel
theorem dX8_type_46 : decode cX8_type 46 = .ok (.getfield 7, 3) := by decide +kernel
theorem dX8_type_49 : decode cX8_type 49 = .ok (.iload_n 1, 1) := by decide +kernel
theorem dX8_type_50 : decode cX8_type 50 = .ok (.iaload, 1) := by decide +kernel
theorem dX8_type_51 : decode cX8_type 51 = .ok (.iadd, 1) := by decide +kernel
theorem dX8_type_52 : decode cX8_type 52 = .ok (.iload_n 2, 1) := by decide +kernel
theorem dX8_type_53 : decode cX8_type 53 = .ok (.iastore, 1) := by decide +kernel
theorem dX8_type_54 : decode cX8_type 54 = .ok (.aload_n 0, 1) := by decide +kernel
theorem dX8_type_55 : decode cX8_type 55 = .ok (.getfield 7, 3) := by decide +kernel
theorem dX8_type_58 : decode cX8_type 58 = .ok (.iload_n 1, 1) := by decide +kernel
theorem dX8_type_59 : decode cX8_type 59 = .ok (.dup2, 1) := by decide +kernel
theorem dX8_type_60 : decode cX8_type 60 = .ok (.iaload, 1) := by decide +kernel
theorem dX8_type_61 : decode cX8_type 61 = .ok (.iconst 1, 1) := by decide +kernel
theorem dX8_type_62 : decode cX8_type 62 = .ok (.iadd, 1) := by decide +kernel
theorem dX8_type_63 : decode cX8_type 63 = .ok (.iastore, 1) := by decide +kernel
theorem dX8_type_64 : decode cX8_type 64 = .ok (.aload_n 0, 1) := by decide +kernel
theorem dX8_type_65 : decode cX8_type 65 = .ok (.getfield 7, 3) := by decide +kernel
theorem dX8_type_68 : decode cX8_type 68 = .ok (.iload_n 1, 1) := by decide +kernel
theorem dX8_type_69 : decode cX8_type 69 = .ok (.iaload, 1) := by decide +kernel
theorem dX8_type_70 : decode cX8_type 70 = .ok (.ireturn, 1) := by decide +kernel
theorem dX8_wipe_0 : decode cX8_wipe 0 = .ok (.iload_n 1, 1) := by decide +kernel
theorem dX8_wipe_1 : decode cX8_wipe 1 = .ok (.invokestatic 116, 3) := by decide +kernel
theorem dX8_wipe_4 : decode cX8_wipe 4 = .ok (.ifCond .ne 6, 3) := by decide +kernel
theorem dX8_wipe_7 : decode cX8_wipe 7 = .ok (.bipush (-2), 2) := by decide +kernel
theorem dX8_wipe_9 : decode cX8_wipe 9 = .ok (.ireturn, 1) := by decide +kernel
theorem dX8_wipe_10 : decode cX8_wipe 10 = .ok (.aload_n 0, 1) := by decide +kernel
theorem dX8_wipe_11 : decode cX8_wipe 11 = .ok (.getfield 7, 3) := by decide +kernel
theorem dX8_wipe_14 : decode cX8_wipe 14 = .ok (.iload_n 1, 1) := by decide +kernel
theorem dX8_wipe_15 : decode cX8_wipe 15 = .ok (.iaload, 1) := by decide +kernel
theorem dX8_wipe_16 : decode cX8_wipe 16 = .ok (.istore_n 2, 1) := by decide +kernel
theorem dX8_wipe_17 : decode cX8_wipe 17 = .ok (.aload_n 0, 1) := by decide +kernel
theorem dX8_wipe_18 : decode cX8_wipe 18 = .ok (.getfield 7, 3) := by decide +kernel
theorem dX8_wipe_21 : decode cX8_wipe 21 = .ok (.iload_n 1, 1) := by decide +kernel
theorem dX8_wipe_22 : decode cX8_wipe 22 = .ok (.iconst 0, 1) := by decide +kernel
theorem dX8_wipe_23 : decode cX8_wipe 23 = .ok (.iastore, 1) := by decide +kernel
theorem dX8_wipe_24 : decode cX8_wipe 24 = .ok (.iload_n 2, 1) := by decide +kernel
theorem dX8_wipe_25 : decode cX8_wipe 25 = .ok (.ireturn, 1) := by decide +kernel
theorem dX8_undo_0 : decode cX8_undo 0 = .ok (.iload_n 1, 1) := by decide +kernel
theorem dX8_undo_1 : decode cX8_undo 1 = .ok (.invokestatic 116, 3) := by decide +kernel
theorem dX8_undo_4 : decode cX8_undo 4 = .ok (.ifCond .ne 6, 3) := by decide +kernel
theorem dX8_undo_7 : decode cX8_undo 7 = .ok (.bipush (-2), 2) := by decide +kernel
theorem dX8_undo_9 : decode cX8_undo 9 = .ok (.ireturn, 1) := by decide +kernel
theorem dX8_undo_10 : decode cX8_undo 10 = .ok (.aload_n 0, 1) := by decide +kernel
theorem dX8_undo_11 : decode cX8_undo 11 = .ok (.getfield 7, 3) := by decide +kernel
theorem dX8_undo_14 : decode cX8_undo 14 = .ok (.iload_n 1, 1) := by decide +kernel
theorem dX8_undo_15 : decode cX8_undo 15 = .ok (.iaload, 1) := by decide +kernel
theorem dX8_undo_16 : decode cX8_undo 16 = .ok (.ifCond .ne 6, 3) := by decide +kernel
theorem dX8_undo_19 : decode cX8_undo 19 = .ok (.bipush (-3), 2) := by decide +kernel
theorem dX8_undo_21 : decode cX8_undo 21 = .ok (.ireturn, 1) := by decide +kernel
theorem dX8_undo_22 : decode cX8_undo 22 = .ok (.aload_n 0, 1) := by decide +kernel
theorem dX8_undo_23 : decode cX8_undo 23 = .ok (.getfield 7, 3) := by decide +kernel
theorem dX8_undo_26 : decode cX8_undo 26 = .ok (.iload_n 1, 1) := by decide +kernel
theorem dX8_undo_27 : decode cX8_undo 27 = .ok (.dup2, 1) := by decide +kernel
theorem dX8_undo_28 : decode cX8_undo 28 = .ok (.iaload, 1) := by decide +kernel
theorem dX8_undo_29 : decode cX8_undo 29 = .ok (.iconst 1, 1) := by decide +kernel
theorem dX8_undo_30 : decode cX8_undo 30 = .ok (.isub, 1) := by decide +kernel
theorem dX8_undo_31 : decode cX8_undo 31 = .ok (.iastore, 1) := by decide +kernel
theorem dX8_undo_32 : decode cX8_undo 32 = .ok (.aload_n 0, 1) := by decide +kernel
theorem dX8_undo_33 : decode cX8_undo 33 = .ok (.getfield 7, 3) := by decide +kernel
theorem dX8_undo_36 : decode cX8_undo 36 = .ok (.iload_n 1, 1) := by decide +kernel
theorem dX8_undo_37 : decode cX8_undo 37 = .ok (.iaload, 1) := by decide +kernel
theorem dX8_undo_38 : decode cX8_undo 38 = .ok (.ireturn, 1) := by decide +kernel
theorem dX8_byteAt_0 : decode cX8_byteAt 0 = .ok (.iload_n 2, 1) := by decide +kernel
theorem dX8_byteAt_1 : decode cX8_byteAt 1 = .ok (.aload_n 0, 1) := by decide +kernel
theorem dX8_byteAt_2 : decode cX8_byteAt 2 = .ok (.getfield 7, 3) := by decide +kernel
theorem dX8_byteAt_5 : decode cX8_byteAt 5 = .ok (.iload_n 1, 1) := by decide +kernel
theorem dX8_byteAt_6 : decode cX8_byteAt 6 = .ok (.iaload, 1) := by decide +kernel
theorem dX8_byteAt_7 : decode cX8_byteAt 7 = .ok (.if_icmp .ge 17, 3) := by decide +kernel
theorem dX8_byteAt_10 : decode cX8_byteAt 10 = .ok (.aload_n 0, 1) := by decide +kernel
theorem dX8_byteAt_11 : decode cX8_byteAt 11 = .ok (.getfield 13, 3) := by decide +kernel
theorem dX8_byteAt_14 : decode cX8_byteAt 14 = .ok (.bipush 47, 2) := by decide +kernel
theorem dX8_byteAt_16 : decode cX8_byteAt 16 = .ok (.iload_n 1, 1) := by decide +kernel
theorem dX8_byteAt_17 : decode cX8_byteAt 17 = .ok (.imul, 1) := by decide +kernel
theorem dX8_byteAt_18 : decode cX8_byteAt 18 = .ok (.iload_n 2, 1) := by decide +kernel
theorem dX8_byteAt_19 : decode cX8_byteAt 19 = .ok (.iadd, 1) := by decide +kernel
theorem dX8_byteAt_20 : decode cX8_byteAt 20 = .ok (.iaload, 1) := by decide +kernel
theorem dX8_byteAt_21 : decode cX8_byteAt 21 = .ok (.goto 4, 3) := by decide +kernel
theorem dX8_byteAt_24 : decode cX8_byteAt 24 = .ok (.iconst (-1), 1) := by decide +kernel
theorem dX8_byteAt_25 : decode cX8_byteAt 25 = .ok (.ireturn, 1) := by decide +kernel
theorem dX8_isTaken_0 : decode cX8_isTaken 0 = .ok (.iconst 0, 1) := by decide +kernel
theorem dX8_isTaken_1 : decode cX8_isTaken 1 = .ok (.istore_n 3, 1) := by decide +kernel
theorem dX8_isTaken_2 : decode cX8_isTaken 2 = .ok (.iconst 0, 1) := by decide +kernel
theorem dX8_isTaken_3 : decode cX8_isTaken 3 = .ok (.istore 4, 2) := by decide +kernel
theorem dX8_isTaken_5 : decode cX8_isTaken 5 = .ok (.iload 4, 2) := by decide +kernel
theorem dX8_isTaken_7 : decode cX8_isTaken 7 = .ok (.iload_n 1, 1) := by decide +kernel
theorem dX8_isTaken_8 : decode cX8_isTaken 8 = .ok (.if_icmp .ge 30, 3) := by decide +kernel
theorem dX8_isTaken_11 : decode cX8_isTaken 11 = .ok (.iload_n 3, 1) := by decide +kernel
theorem dX8_isTaken_12 : decode cX8_isTaken 12 = .ok (.ifCond .ne 14, 3) := by decide +kernel
theorem dX8_isTaken_15 : decode cX8_isTaken 15 = .ok (.aload_n 0, 1) := by decide +kernel
theorem dX8_isTaken_16 : decode cX8_isTaken 16 = .ok (.getfield 16, 3) := by decide +kernel
theorem dX8_isTaken_19 : decode cX8_isTaken 19 = .ok (.iload 4, 2) := by decide +kernel
theorem dX8_isTaken_21 : decode cX8_isTaken 21 = .ok (.iaload, 1) := by decide +kernel
theorem dX8_isTaken_22 : decode cX8_isTaken 22 = .ok (.iload_n 2, 1) := by decide +kernel
theorem dX8_isTaken_23 : decode cX8_isTaken 23 = .ok (.if_icmp .ne 7, 3) := by decide +kernel
theorem dX8_isTaken_26 : decode cX8_isTaken 26 = .ok (.iconst 1, 1) := by decide +kernel
theorem dX8_isTaken_27 : decode cX8_isTaken 27 = .ok (.goto 4, 3) := by decide +kernel
theorem dX8_isTaken_30 : decode cX8_isTaken 30 = .ok (.iconst 0, 1) := by decide +kernel
theorem dX8_isTaken_31 : decode cX8_isTaken 31 = .ok (.istore_n 3, 1) := by decide +kernel
theorem dX8_isTaken_32 : decode cX8_isTaken 32 = .ok (.iinc 4 1, 3) := by decide +kernel
theorem dX8_isTaken_35 : decode cX8_isTaken 35 = .ok (.goto (-30), 3) := by decide +kernel
theorem dX8_isTaken_38 : decode cX8_isTaken 38 = .ok (.iload_n 3, 1) := by decide +kernel
theorem dX8_isTaken_39 : decode cX8_isTaken 39 = .ok (.ireturn, 1) := by decide +kernel
theorem dX8_readsCar_0 : decode cX8_readsCar 0 = .ok (.aload_n 0, 1) := by decide +kernel
theorem dX8_readsCar_1 : decode cX8_readsCar 1 = .ok (.iconst 0, 1) := by decide +kernel
theorem dX8_readsCar_2 : decode cX8_readsCar 2 = .ok (.iload_n 2, 1) := by decide +kernel
theorem dX8_readsCar_3 : decode cX8_readsCar 3 = .ok (.invokevirtual 124, 3) := by decide +kernel
theorem dX8_readsCar_6 : decode cX8_readsCar 6 = .ok (.bipush 97, 2) := by decide +kernel
theorem dX8_readsCar_8 : decode cX8_readsCar 8 = .ok (.isub, 1) := by decide +kernel
theorem dX8_readsCar_9 : decode cX8_readsCar 9 = .ok (.istore_n 3, 1) := by decide +kernel
theorem dX8_readsCar_10 : decode cX8_readsCar 10 = .ok (.aload_n 0, 1) := by decide +kernel
theorem dX8_readsCar_11 : decode cX8_readsCar 11 = .ok (.iconst 0, 1) := by decide +kernel
theorem dX8_readsCar_12 : decode cX8_readsCar 12 = .ok (.iload_n 2, 1) := by decide +kernel
theorem dX8_readsCar_13 : decode cX8_readsCar 13 = .ok (.iconst 1, 1) := by decide +kernel
theorem dX8_readsCar_14 : decode cX8_readsCar 14 = .ok (.iadd, 1) := by decide +kernel
theorem dX8_readsCar_15 : decode cX8_readsCar 15 = .ok (.invokevirtual 124, 3) := by decide +kernel
theorem dX8_readsCar_18 : decode cX8_readsCar 18 = .ok (.istore 4, 2) := by decide +kernel
theorem dX8_readsCar_20 : decode cX8_readsCar 20 = .ok (.iload 4, 2) := by decide +kernel
theorem dX8_readsCar_22 : decode cX8_readsCar 22 = .ok (.bipush 111, 2) := by decide +kernel
theorem dX8_readsCar_24 : decode cX8_readsCar 24 = .ok (.if_icmp .ne 7, 3) := by decide +kernel
theorem dX8_readsCar_27 : decode cX8_readsCar 27 = .ok (.iconst 0, 1) := by decide +kernel
theorem dX8_readsCar_28 : decode cX8_readsCar 28 = .ok (.goto 26, 3) := by decide +kernel
theorem dX8_readsCar_31 : decode cX8_readsCar 31 = .ok (.iload 4, 2) := by decide +kernel
theorem dX8_readsCar_33 : decode cX8_readsCar 33 = .ok (.bipush 115, 2) := by decide +kernel
theorem dX8_readsCar_35 : decode cX8_readsCar 35 = .ok (.if_icmp .ne 7, 3) := by decide +kernel
theorem dX8_readsCar_38 : decode cX8_readsCar 38 = .ok (.iconst 1, 1) := by decide +kernel
theorem dX8_readsCar_39 : decode cX8_readsCar 39 = .ok (.goto 15, 3) := by decide +kernel
theorem dX8_readsCar_42 : decode cX8_readsCar 42 = .ok (.iload 4, 2) := by decide +kernel
theorem dX8_readsCar_44 : decode cX8_readsCar 44 = .ok (.bipush 103, 2) := by decide +kernel
theorem dX8_readsCar_46 : decode cX8_readsCar 46 = .ok (.if_icmp .ne 7, 3) := by decide +kernel
theorem dX8_readsCar_49 : decode cX8_readsCar 49 = .ok (.iconst 2, 1) := by decide +kernel
theorem dX8_readsCar_50 : decode cX8_readsCar 50 = .ok (.goto 4, 3) := by decide +kernel
theorem dX8_readsCar_53 : decode cX8_readsCar 53 = .ok (.iconst (-1), 1) := by decide +kernel
theorem dX8_readsCar_54 : decode cX8_readsCar 54 = .ok (.istore 5, 2) := by decide +kernel
theorem dX8_readsCar_56 : decode cX8_readsCar 56 = .ok (.aload_n 0, 1) := by decide +kernel
theorem dX8_readsCar_57 : decode cX8_readsCar 57 = .ok (.iconst 0, 1) := by decide +kernel
theorem dX8_readsCar_58 : decode cX8_readsCar 58 = .ok (.iload_n 2, 1) := by decide +kernel
theorem dX8_readsCar_59 : decode cX8_readsCar 59 = .ok (.iconst 2, 1) := by decide +kernel
theorem dX8_readsCar_60 : decode cX8_readsCar 60 = .ok (.iadd, 1) := by decide +kernel
theorem dX8_readsCar_61 : decode cX8_readsCar 61 = .ok (.invokevirtual 124, 3) := by decide +kernel
theorem dX8_readsCar_64 : decode cX8_readsCar 64 = .ok (.bipush 48, 2) := by decide +kernel
theorem dX8_readsCar_66 : decode cX8_readsCar 66 = .ok (.isub, 1) := by decide +kernel
theorem dX8_readsCar_67 : decode cX8_readsCar 67 = .ok (.istore 6, 2) := by decide +kernel
theorem dX8_readsCar_69 : decode cX8_readsCar 69 = .ok (.iload_n 1, 1) := by decide +kernel
theorem dX8_readsCar_70 : decode cX8_readsCar 70 = .ok (.bipush 6, 2) := by decide +kernel
theorem dX8_readsCar_72 : decode cX8_readsCar 72 = .ok (.if_icmp .eq 22, 3) := by decide +kernel
theorem dX8_readsCar_75 : decode cX8_readsCar 75 = .ok (.iload_n 3, 1) := by decide +kernel
theorem dX8_readsCar_76 : decode cX8_readsCar 76 = .ok (.iconst 0, 1) := by decide +kernel
theorem dX8_readsCar_77 : decode cX8_readsCar 77 = .ok (.bipush 23, 2) := by decide +kernel
theorem dX8_readsCar_79 : decode cX8_readsCar 79 = .ok (.invokestatic 112, 3) := by decide +kernel
theorem dX8_readsCar_82 : decode cX8_readsCar 82 = .ok (.ifCond .eq 12, 3) := by decide +kernel
theorem dX8_readsCar_85 : decode cX8_readsCar 85 = .ok (.aload_n 0, 1) := by decide +kernel
theorem dX8_readsCar_86 : decode cX8_readsCar 86 = .ok (.iload_n 1, 1) := by decide +kernel
theorem dX8_readsCar_87 : decode cX8_readsCar 87 = .ok (.iload_n 3, 1) := by decide +kernel
theorem dX8_readsCar_88 : decode cX8_readsCar 88 = .ok (.invokevirtual 128, 3) := by decide +kernel
theorem dX8_readsCar_91 : decode cX8_readsCar 91 = .ok (.ifCond .eq 5, 3) := by decide +kernel
theorem dX8_readsCar_94 : decode cX8_readsCar 94 = .ok (.iconst 0, 1) := by decide +kernel
theorem dX8_readsCar_95 : decode cX8_readsCar 95 = .ok (.ireturn, 1) := by decide +kernel
theorem dX8_readsCar_96 : decode cX8_readsCar 96 = .ok (.iload 5, 2) := by decide +kernel
theorem dX8_readsCar_98 : decode cX8_readsCar 98 = .ok (.iconst (-1), 1) := by decide +kernel
theorem dX8_readsCar_99 : decode cX8_readsCar 99 = .ok (.if_icmp .ne 5, 3) := by decide +kernel
theorem dX8_readsCar_102 : decode cX8_readsCar 102 = .ok (.iconst 1, 1) := by decide +kernel
theorem dX8_readsCar_103 : decode cX8_readsCar 103 = .ok (.ireturn, 1) := by decide +kernel
theorem dX8_readsCar_104 : decode cX8_readsCar 104 = .ok (.iload 6, 2) := by decide +kernel
theorem dX8_readsCar_106 : decode cX8_readsCar 106 = .ok (.iconst 1, 1) := by decide +kernel
theorem dX8_readsCar_107 : decode cX8_readsCar 107 = .ok (.bipush 9, 2) := by decide +kernel
theorem dX8_readsCar_109 : decode cX8_readsCar 109 = .ok (.invokestatic 112, 3) := by decide +kernel
theorem dX8_readsCar_112 : decode cX8_readsCar 112 = .ok (.ifCond .ne 5, 3) := by decide +kernel
theorem dX8_readsCar_115 : decode cX8_readsCar 115 = .ok (.iconst 2, 1) := by decide +kernel
theorem dX8_readsCar_116 : decode cX8_readsCar 116 = .ok (.ireturn, 1) := by decide +kernel
theorem dX8_readsCar_117 : decode cX8_readsCar 117 = .ok (.aload_n 0, 1) := by decide +kernel
theorem dX8_readsCar_118 : decode cX8_readsCar 118 = .ok (.getfield 16, 3) := by decide +kernel
theorem dX8_readsCar_121 : decode cX8_readsCar 121 = .ok (.iload_n 1, 1) := by decide +kernel
theorem dX8_readsCar_122 : decode cX8_readsCar 122 = .ok (.iload_n 3, 1) := by decide +kernel
theorem dX8_readsCar_123 : decode cX8_readsCar 123 = .ok (.iastore, 1) := by decide +kernel
theorem dX8_readsCar_124 : decode cX8_readsCar 124 = .ok (.aload_n 0, 1) := by decide +kernel
theorem dX8_readsCar_125 : decode cX8_readsCar 125 = .ok (.getfield 19, 3) := by decide +kernel
theorem dX8_readsCar_128 : decode cX8_readsCar 128 = .ok (.iload_n 1, 1) := by decide +kernel
theorem dX8_readsCar_129 : decode cX8_readsCar 129 = .ok (.iload 5, 2) := by decide +kernel
theorem dX8_readsCar_131 : decode cX8_readsCar 131 = .ok (.iastore, 1) := by decide +kernel
theorem dX8_readsCar_132 : decode cX8_readsCar 132 = .ok (.aload_n 0, 1) := by decide +kernel
theorem dX8_readsCar_133 : decode cX8_readsCar 133 = .ok (.getfield 22, 3) := by decide +kernel
theorem dX8_readsCar_136 : decode cX8_readsCar 136 = .ok (.iload_n 1, 1) := by decide +kernel
theorem dX8_readsCar_137 : decode cX8_readsCar 137 = .ok (.iload 6, 2) := by decide +kernel
theorem dX8_readsCar_139 : decode cX8_readsCar 139 = .ok (.iastore, 1) := by decide +kernel
theorem dX8_readsCar_140 : decode cX8_readsCar 140 = .ok (.iconst 3, 1) := by decide +kernel
theorem dX8_readsCar_141 : decode cX8_readsCar 141 = .ok (.ireturn, 1) := by decide +kernel
theorem dX8_readsComing_0 : decode cX8_readsComing 0 = .ok (.aload_n 0, 1) := by decide +kernel
theorem dX8_readsComing_1 : decode cX8_readsComing 1 = .ok (.iconst 1, 1) := by decide +kernel
theorem dX8_readsComing_2 : decode cX8_readsComing 2 = .ok (.iload_n 2, 1) := by decide +kernel
theorem dX8_readsComing_3 : decode cX8_readsComing 3 = .ok (.invokevirtual 124, 3) := by decide +kernel
theorem dX8_readsComing_6 : decode cX8_readsComing 6 = .ok (.bipush 97, 2) := by decide +kernel
theorem dX8_readsComing_8 : decode cX8_readsComing 8 = .ok (.isub, 1) := by decide +kernel
theorem dX8_readsComing_9 : decode cX8_readsComing 9 = .ok (.istore_n 3, 1) := by decide +kernel
theorem dX8_readsComing_10 : decode cX8_readsComing 10 = .ok (.aload_n 0, 1) := by decide +kernel
theorem dX8_readsComing_11 : decode cX8_readsComing 11 = .ok (.iconst 1, 1) := by decide +kernel
theorem dX8_readsComing_12 : decode cX8_readsComing 12 = .ok (.iload_n 2, 1) := by decide +kernel
theorem dX8_readsComing_13 : decode cX8_readsComing 13 = .ok (.iconst 1, 1) := by decide +kernel
theorem dX8_readsComing_14 : decode cX8_readsComing 14 = .ok (.iadd, 1) := by decide +kernel
theorem dX8_readsComing_15 : decode cX8_readsComing 15 = .ok (.invokevirtual 124, 3) := by decide +kernel
theorem dX8_readsComing_18 : decode cX8_readsComing 18 = .ok (.istore 4, 2) := by decide +kernel
theorem dX8_readsComing_20 : decode cX8_readsComing 20 = .ok (.aload_n 0, 1) := by decide +kernel
theorem dX8_readsComing_21 : decode cX8_readsComing 21 = .ok (.iconst 1, 1) := by decide +kernel
theorem dX8_readsComing_22 : decode cX8_readsComing 22 = .ok (.iload_n 2, 1) := by decide +kernel
theorem dX8_readsComing_23 : decode cX8_readsComing 23 = .ok (.iconst 2, 1) := by decide +kernel
theorem dX8_readsComing_24 : decode cX8_readsComing 24 = .ok (.iadd, 1) := by decide +kernel
theorem dX8_readsComing_25 : decode cX8_readsComing 25 = .ok (.invokevirtual 124, 3) := by decide +kernel
theorem dX8_readsComing_28 : decode cX8_readsComing 28 = .ok (.bipush 48, 2) := by decide +kernel
theorem dX8_readsComing_30 : decode cX8_readsComing 30 = .ok (.isub, 1) := by decide +kernel
theorem dX8_readsComing_31 : decode cX8_readsComing 31 = .ok (.istore 5, 2) := by decide +kernel
theorem dX8_readsComing_33 : decode cX8_readsComing 33 = .ok (.iload_n 1, 1) := by decide +kernel
theorem dX8_readsComing_34 : decode cX8_readsComing 34 = .ok (.bipush 12, 2) := by decide +kernel
theorem dX8_readsComing_36 : decode cX8_readsComing 36 = .ok (.if_icmp .eq 10, 3) := by decide +kernel
theorem dX8_readsComing_39 : decode cX8_readsComing 39 = .ok (.iload_n 3, 1) := by decide +kernel
theorem dX8_readsComing_40 : decode cX8_readsComing 40 = .ok (.invokestatic 132, 3) := by decide +kernel
theorem dX8_readsComing_43 : decode cX8_readsComing 43 = .ok (.ifCond .ne 5, 3) := by decide +kernel
theorem dX8_readsComing_46 : decode cX8_readsComing 46 = .ok (.iconst 0, 1) := by decide +kernel
theorem dX8_readsComing_47 : decode cX8_readsComing 47 = .ok (.ireturn, 1) := by decide +kernel
theorem dX8_readsComing_48 : decode cX8_readsComing 48 = .ok (.iload 4, 2) := by decide +kernel
theorem dX8_readsComing_50 : decode cX8_readsComing 50 = .ok (.bipush 98, 2) := by decide +kernel
theorem dX8_readsComing_52 : decode cX8_readsComing 52 = .ok (.if_icmp .eq 12, 3) := by decide +kernel
theorem dX8_readsComing_55 : decode cX8_readsComing 55 = .ok (.iload 4, 2) := by decide +kernel
theorem dX8_readsComing_57 : decode cX8_readsComing 57 = .ok (.bipush 116, 2) := by decide +kernel
theorem dX8_readsComing_59 : decode cX8_readsComing 59 = .ok (.if_icmp .eq 5, 3) := by decide +kernel
theorem dX8_readsComing_62 : decode cX8_readsComing 62 = .ok (.iconst 1, 1) := by decide +kernel
theorem dX8_readsComing_63 : decode cX8_readsComing 63 = .ok (.ireturn, 1) := by decide +kernel
theorem dX8_readsComing_64 : decode cX8_readsComing 64 = .ok (.iload 5, 2) := by decide +kernel
theorem dX8_readsComing_66 : decode cX8_readsComing 66 = .ok (.iconst 1, 1) := by decide +kernel
theorem dX8_readsComing_67 : decode cX8_readsComing 67 = .ok (.bipush 9, 2) := by decide +kernel
theorem dX8_readsComing_69 : decode cX8_readsComing 69 = .ok (.invokestatic 112, 3) := by decide +kernel
theorem dX8_readsComing_72 : decode cX8_readsComing 72 = .ok (.ifCond .ne 5, 3) := by decide +kernel
theorem dX8_readsComing_75 : decode cX8_readsComing 75 = .ok (.iconst 2, 1) := by decide +kernel
theorem dX8_readsComing_76 : decode cX8_readsComing 76 = .ok (.ireturn, 1) := by decide +kernel
theorem dX8_readsComing_77 : decode cX8_readsComing 77 = .ok (.aload_n 0, 1) := by decide +kernel
theorem dX8_readsComing_78 : decode cX8_readsComing 78 = .ok (.getfield 25, 3) := by decide +kernel
theorem dX8_readsComing_81 : decode cX8_readsComing 81 = .ok (.iload_n 1, 1) := by decide +kernel
theorem dX8_readsComing_82 : decode cX8_readsComing 82 = .ok (.iload_n 3, 1) := by decide +kernel
theorem dX8_readsComing_83 : decode cX8_readsComing 83 = .ok (.iastore, 1) := by decide +kernel
theorem dX8_readsComing_84 : decode cX8_readsComing 84 = .ok (.aload_n 0, 1) := by decide +kernel
theorem dX8_readsComing_85 : decode cX8_readsComing 85 = .ok (.getfield 28, 3) := by decide +kernel
theorem dX8_readsComing_88 : decode cX8_readsComing 88 = .ok (.iload_n 1, 1) := by decide +kernel
theorem dX8_readsComing_89 : decode cX8_readsComing 89 = .ok (.iload 4, 2) := by decide +kernel
theorem dX8_readsComing_91 : decode cX8_readsComing 91 = .ok (.bipush 98, 2) := by decide +kernel
theorem dX8_readsComing_93 : decode cX8_readsComing 93 = .ok (.if_icmp .ne 7, 3) := by decide +kernel
theorem dX8_readsComing_96 : decode cX8_readsComing 96 = .ok (.iconst 0, 1) := by decide +kernel
theorem dX8_readsComing_97 : decode cX8_readsComing 97 = .ok (.goto 4, 3) := by decide +kernel
theorem dX8_readsComing_100 : decode cX8_readsComing 100 = .ok (.iconst 1, 1) := by decide +kernel
theorem dX8_readsComing_101 : decode cX8_readsComing 101 = .ok (.iastore, 1) := by decide +kernel
theorem dX8_readsComing_102 : decode cX8_readsComing 102 = .ok (.aload_n 0, 1) := by decide +kernel
theorem dX8_readsComing_103 : decode cX8_readsComing 103 = .ok (.getfield 31, 3) := by decide +kernel
theorem dX8_readsComing_106 : decode cX8_readsComing 106 = .ok (.iload_n 1, 1) := by decide +kernel
theorem dX8_readsComing_107 : decode cX8_readsComing 107 = .ok (.iload 5, 2) := by decide +kernel
theorem dX8_readsComing_109 : decode cX8_readsComing 109 = .ok (.iastore, 1) := by decide +kernel
theorem dX8_readsComing_110 : decode cX8_readsComing 110 = .ok (.iconst 3, 1) := by decide +kernel
theorem dX8_readsComing_111 : decode cX8_readsComing 111 = .ok (.ireturn, 1) := by decide +kernel
theorem dX8_readsParts_0 : decode cX8_readsParts 0 = .ok (.iconst 0, 1) := by decide +kernel
theorem dX8_readsParts_1 : decode cX8_readsParts 1 = .ok (.istore_n 2, 1) := by decide +kernel
theorem dX8_readsParts_2 : decode cX8_readsParts 2 = .ok (.iconst 0, 1) := by decide +kernel
theorem dX8_readsParts_3 : decode cX8_readsParts 3 = .ok (.istore_n 3, 1) := by decide +kernel
theorem dX8_readsParts_4 : decode cX8_readsParts 4 = .ok (.aload_n 0, 1) := by decide +kernel
theorem dX8_readsParts_5 : decode cX8_readsParts 5 = .ok (.iload_n 1, 1) := by decide +kernel
theorem dX8_readsParts_6 : decode cX8_readsParts 6 = .ok (.ifCond .ne 7, 3) := by decide +kernel
theorem dX8_readsParts_9 : decode cX8_readsParts 9 = .ok (.iconst 0, 1) := by decide +kernel
theorem dX8_readsParts_10 : decode cX8_readsParts 10 = .ok (.goto 7, 3) := by decide +kernel
theorem dX8_readsParts_13 : decode cX8_readsParts 13 = .ok (.aload_n 0, 1) := by decide +kernel
theorem dX8_readsParts_14 : decode cX8_readsParts 14 = .ok (.getfield 135, 3) := by decide +kernel
theorem dX8_readsParts_17 : decode cX8_readsParts 17 = .ok (.putfield 135, 3) := by decide +kernel
theorem dX8_readsParts_20 : decode cX8_readsParts 20 = .ok (.aload_n 0, 1) := by decide +kernel
theorem dX8_readsParts_21 : decode cX8_readsParts 21 = .ok (.iload_n 1, 1) := by decide +kernel
theorem dX8_readsParts_22 : decode cX8_readsParts 22 = .ok (.iconst 1, 1) := by decide +kernel
theorem dX8_readsParts_23 : decode cX8_readsParts 23 = .ok (.if_icmp .ne 7, 3) := by decide +kernel
theorem dX8_readsParts_26 : decode cX8_readsParts 26 = .ok (.iconst 0, 1) := by decide +kernel
theorem dX8_readsParts_27 : decode cX8_readsParts 27 = .ok (.goto 7, 3) := by decide +kernel
theorem dX8_readsParts_30 : decode cX8_readsParts 30 = .ok (.aload_n 0, 1) := by decide +kernel
theorem dX8_readsParts_31 : decode cX8_readsParts 31 = .ok (.getfield 139, 3) := by decide +kernel
theorem dX8_readsParts_34 : decode cX8_readsParts 34 = .ok (.putfield 139, 3) := by decide +kernel
theorem dX8_readsParts_37 : decode cX8_readsParts 37 = .ok (.iload_n 3, 1) := by decide +kernel
theorem dX8_readsParts_38 : decode cX8_readsParts 38 = .ok (.aload_n 0, 1) := by decide +kernel
theorem dX8_readsParts_39 : decode cX8_readsParts 39 = .ok (.getfield 7, 3) := by decide +kernel
theorem dX8_readsParts_42 : decode cX8_readsParts 42 = .ok (.iload_n 1, 1) := by decide +kernel
theorem dX8_readsParts_43 : decode cX8_readsParts 43 = .ok (.iaload, 1) := by decide +kernel
theorem dX8_readsParts_44 : decode cX8_readsParts 44 = .ok (.if_icmp .lt 7, 3) := by decide +kernel
theorem dX8_readsParts_47 : decode cX8_readsParts 47 = .ok (.iload_n 3, 1) := by decide +kernel
theorem dX8_readsParts_48 : decode cX8_readsParts 48 = .ok (.ifCond .le 105, 3) := by decide +kernel
theorem dX8_readsParts_51 : decode cX8_readsParts 51 = .ok (.iload_n 1, 1) := by decide +kernel
theorem dX8_readsParts_52 : decode cX8_readsParts 52 = .ok (.ifCond .ne 12, 3) := by decide +kernel
theorem dX8_readsParts_55 : decode cX8_readsParts 55 = .ok (.aload_n 0, 1) := by decide +kernel
theorem dX8_readsParts_56 : decode cX8_readsParts 56 = .ok (.iload_n 2, 1) := by decide +kernel
theorem dX8_readsParts_57 : decode cX8_readsParts 57 = .ok (.iload_n 3, 1) := by decide +kernel
theorem dX8_readsParts_58 : decode cX8_readsParts 58 = .ok (.invokevirtual 142, 3) := by decide +kernel
theorem dX8_readsParts_61 : decode cX8_readsParts 61 = .ok (.goto 9, 3) := by decide +kernel
theorem dX8_readsParts_64 : decode cX8_readsParts 64 = .ok (.aload_n 0, 1) := by decide +kernel
theorem dX8_readsParts_65 : decode cX8_readsParts 65 = .ok (.iload_n 2, 1) := by decide +kernel
theorem dX8_readsParts_66 : decode cX8_readsParts 66 = .ok (.iload_n 3, 1) := by decide +kernel
theorem dX8_readsParts_67 : decode cX8_readsParts 67 = .ok (.invokevirtual 145, 3) := by decide +kernel
theorem dX8_readsParts_70 : decode cX8_readsParts 70 = .ok (.istore 4, 2) := by decide +kernel
theorem dX8_readsParts_72 : decode cX8_readsParts 72 = .ok (.iload 4, 2) := by decide +kernel
theorem dX8_readsParts_74 : decode cX8_readsParts 74 = .ok (.iconst 3, 1) := by decide +kernel
theorem dX8_readsParts_75 : decode cX8_readsParts 75 = .ok (.if_icmp .ge 8, 3) := by decide +kernel
theorem dX8_readsParts_78 : decode cX8_readsParts 78 = .ok (.iload_n 3, 1) := by decide +kernel
theorem dX8_readsParts_79 : decode cX8_readsParts 79 = .ok (.iload 4, 2) := by decide +kernel
theorem dX8_readsParts_81 : decode cX8_readsParts 81 = .ok (.iadd, 1) := by decide +kernel
theorem dX8_readsParts_82 : decode cX8_readsParts 82 = .ok (.ireturn, 1) := by decide +kernel
theorem dX8_readsParts_83 : decode cX8_readsParts 83 = .ok (.iinc 2 1, 3) := by decide +kernel
theorem dX8_readsParts_86 : decode cX8_readsParts 86 = .ok (.iinc 3 3, 3) := by decide +kernel
theorem dX8_readsParts_89 : decode cX8_readsParts 89 = .ok (.iload_n 3, 1) := by decide +kernel
theorem dX8_readsParts_90 : decode cX8_readsParts 90 = .ok (.aload_n 0, 1) := by decide +kernel
theorem dX8_readsParts_91 : decode cX8_readsParts 91 = .ok (.getfield 7, 3) := by decide +kernel
theorem dX8_readsParts_94 : decode cX8_readsParts 94 = .ok (.iload_n 1, 1) := by decide +kernel
theorem dX8_readsParts_95 : decode cX8_readsParts 95 = .ok (.iaload, 1) := by decide +kernel
theorem dX8_readsParts_96 : decode cX8_readsParts 96 = .ok (.if_icmp .ne 38, 3) := by decide +kernel
theorem dX8_readsParts_99 : decode cX8_readsParts 99 = .ok (.aload_n 0, 1) := by decide +kernel
theorem dX8_readsParts_100 : decode cX8_readsParts 100 = .ok (.iload_n 1, 1) := by decide +kernel
theorem dX8_readsParts_101 : decode cX8_readsParts 101 = .ok (.ifCond .ne 7, 3) := by decide +kernel
theorem dX8_readsParts_104 : decode cX8_readsParts 104 = .ok (.iload_n 2, 1) := by decide +kernel
theorem dX8_readsParts_105 : decode cX8_readsParts 105 = .ok (.goto 7, 3) := by decide +kernel
theorem dX8_readsParts_108 : decode cX8_readsParts 108 = .ok (.aload_n 0, 1) := by decide +kernel
theorem dX8_readsParts_109 : decode cX8_readsParts 109 = .ok (.getfield 135, 3) := by decide +kernel
theorem dX8_readsParts_112 : decode cX8_readsParts 112 = .ok (.putfield 135, 3) := by decide +kernel
theorem dX8_readsParts_115 : decode cX8_readsParts 115 = .ok (.aload_n 0, 1) := by decide +kernel
theorem dX8_readsParts_116 : decode cX8_readsParts 116 = .ok (.iload_n 1, 1) := by decide +kernel
theorem dX8_readsParts_117 : decode cX8_readsParts 117 = .ok (.iconst 1, 1) := by decide +kernel
theorem dX8_readsParts_118 : decode cX8_readsParts 118 = .ok (.if_icmp .ne 7, 3) := by decide +kernel
theorem dX8_readsParts_121 : decode cX8_readsParts 121 = .ok (.iload_n 2, 1) := by decide +kernel
theorem dX8_readsParts_122 : decode cX8_readsParts 122 = .ok (.goto 7, 3) := by decide +kernel
theorem dX8_readsParts_125 : decode cX8_readsParts 125 = .ok (.aload_n 0, 1) := by decide +kernel
theorem dX8_readsParts_126 : decode cX8_readsParts 126 = .ok (.getfield 139, 3) := by decide +kernel
theorem dX8_readsParts_129 : decode cX8_readsParts 129 = .ok (.putfield 139, 3) := by decide +kernel
theorem dX8_readsParts_132 : decode cX8_readsParts 132 = .ok (.iconst (-1), 1) := by decide +kernel
theorem dX8_readsParts_133 : decode cX8_readsParts 133 = .ok (.ireturn, 1) := by decide +kernel
theorem dX8_readsParts_134 : decode cX8_readsParts 134 = .ok (.aload_n 0, 1) := by decide +kernel
theorem dX8_readsParts_135 : decode cX8_readsParts 135 = .ok (.iload_n 1, 1) := by decide +kernel
theorem dX8_readsParts_136 : decode cX8_readsParts 136 = .ok (.iload_n 3, 1) := by decide +kernel
theorem dX8_readsParts_137 : decode cX8_readsParts 137 = .ok (.invokevirtual 124, 3) := by decide +kernel
theorem dX8_readsParts_140 : decode cX8_readsParts 140 = .ok (.bipush 59, 2) := by decide +kernel
theorem dX8_readsParts_142 : decode cX8_readsParts 142 = .ok (.if_icmp .eq 5, 3) := by decide +kernel
theorem dX8_readsParts_145 : decode cX8_readsParts 145 = .ok (.iload_n 3, 1) := by decide +kernel
theorem dX8_readsParts_146 : decode cX8_readsParts 146 = .ok (.ireturn, 1) := by decide +kernel
theorem dX8_readsParts_147 : decode cX8_readsParts 147 = .ok (.iinc 3 1, 3) := by decide +kernel
theorem dX8_readsParts_150 : decode cX8_readsParts 150 = .ok (.goto (-113), 3) := by decide +kernel
theorem dX8_readsParts_153 : decode cX8_readsParts 153 = .ok (.iconst (-1), 1) := by decide +kernel
theorem dX8_readsParts_154 : decode cX8_readsParts 154 = .ok (.ireturn, 1) := by decide +kernel
theorem dX8_readsSpeed_0 : decode cX8_readsSpeed 0 = .ok (.aload_n 0, 1) := by decide +kernel
theorem dX8_readsSpeed_1 : decode cX8_readsSpeed 1 = .ok (.iconst 0, 1) := by decide +kernel
theorem dX8_readsSpeed_2 : decode cX8_readsSpeed 2 = .ok (.putfield 148, 3) := by decide +kernel
theorem dX8_readsSpeed_5 : decode cX8_readsSpeed 5 = .ok (.iconst 0, 1) := by decide +kernel
theorem dX8_readsSpeed_6 : decode cX8_readsSpeed 6 = .ok (.istore_n 1, 1) := by decide +kernel
theorem dX8_readsSpeed_7 : decode cX8_readsSpeed 7 = .ok (.iload_n 1, 1) := by decide +kernel
theorem dX8_readsSpeed_8 : decode cX8_readsSpeed 8 = .ok (.bipush 24, 2) := by decide +kernel
theorem dX8_readsSpeed_10 : decode cX8_readsSpeed 10 = .ok (.if_icmp .ge 16, 3) := by decide +kernel
theorem dX8_readsSpeed_13 : decode cX8_readsSpeed 13 = .ok (.aload_n 0, 1) := by decide +kernel
theorem dX8_readsSpeed_14 : decode cX8_readsSpeed 14 = .ok (.getfield 34, 3) := by decide +kernel
theorem dX8_readsSpeed_17 : decode cX8_readsSpeed 17 = .ok (.iload_n 1, 1) := by decide +kernel
theorem dX8_readsSpeed_18 : decode cX8_readsSpeed 18 = .ok (.iconst 1, 1) := by decide +kernel
theorem dX8_readsSpeed_19 : decode cX8_readsSpeed 19 = .ok (.iastore, 1) := by decide +kernel
theorem dX8_readsSpeed_20 : decode cX8_readsSpeed 20 = .ok (.iinc 1 1, 3) := by decide +kernel
theorem dX8_readsSpeed_23 : decode cX8_readsSpeed 23 = .ok (.goto (-16), 3) := by decide +kernel
theorem dX8_readsSpeed_26 : decode cX8_readsSpeed 26 = .ok (.iconst 0, 1) := by decide +kernel
theorem dX8_readsSpeed_27 : decode cX8_readsSpeed 27 = .ok (.istore_n 1, 1) := by decide +kernel
theorem dX8_readsSpeed_28 : decode cX8_readsSpeed 28 = .ok (.iload_n 1, 1) := by decide +kernel
theorem dX8_readsSpeed_29 : decode cX8_readsSpeed 29 = .ok (.aload_n 0, 1) := by decide +kernel
theorem dX8_readsSpeed_30 : decode cX8_readsSpeed 30 = .ok (.getfield 7, 3) := by decide +kernel
theorem dX8_readsSpeed_33 : decode cX8_readsSpeed 33 = .ok (.iconst 2, 1) := by decide +kernel
theorem dX8_readsSpeed_34 : decode cX8_readsSpeed 34 = .ok (.iaload, 1) := by decide +kernel
theorem dX8_readsSpeed_35 : decode cX8_readsSpeed 35 = .ok (.if_icmp .ge 27, 3) := by decide +kernel
theorem dX8_readsSpeed_38 : decode cX8_readsSpeed 38 = .ok (.aload_n 0, 1) := by decide +kernel
theorem dX8_readsSpeed_39 : decode cX8_readsSpeed 39 = .ok (.iconst 2, 1) := by decide +kernel
theorem dX8_readsSpeed_40 : decode cX8_readsSpeed 40 = .ok (.iload_n 1, 1) := by decide +kernel
theorem dX8_readsSpeed_41 : decode cX8_readsSpeed 41 = .ok (.invokevirtual 124, 3) := by decide +kernel
theorem dX8_readsSpeed_44 : decode cX8_readsSpeed 44 = .ok (.bipush 48, 2) := by decide +kernel
theorem dX8_readsSpeed_46 : decode cX8_readsSpeed 46 = .ok (.bipush 51, 2) := by decide +kernel
theorem dX8_readsSpeed_48 : decode cX8_readsSpeed 48 = .ok (.invokestatic 112, 3) := by decide +kernel
theorem dX8_readsSpeed_51 : decode cX8_readsSpeed 51 = .ok (.ifCond .ne 5, 3) := by decide +kernel
theorem dX8_readsSpeed_54 : decode cX8_readsSpeed 54 = .ok (.iload_n 1, 1) := by decide +kernel
theorem dX8_readsSpeed_55 : decode cX8_readsSpeed 55 = .ok (.ireturn, 1) := by decide +kernel
theorem dX8_readsSpeed_56 : decode cX8_readsSpeed 56 = .ok (.iinc 1 1, 3) := by decide +kernel
theorem dX8_readsSpeed_59 : decode cX8_readsSpeed 59 = .ok (.goto (-31), 3) := by decide +kernel
theorem dX8_readsSpeed_62 : decode cX8_readsSpeed 62 = .ok (.iconst 0, 1) := by decide +kernel
theorem dX8_readsSpeed_63 : decode cX8_readsSpeed 63 = .ok (.istore_n 1, 1) := by decide +kernel
theorem dX8_readsSpeed_64 : decode cX8_readsSpeed 64 = .ok (.iload_n 1, 1) := by decide +kernel
theorem dX8_readsSpeed_65 : decode cX8_readsSpeed 65 = .ok (.aload_n 0, 1) := by decide +kernel
theorem dX8_readsSpeed_66 : decode cX8_readsSpeed 66 = .ok (.getfield 7, 3) := by decide +kernel
theorem dX8_readsSpeed_69 : decode cX8_readsSpeed 69 = .ok (.iconst 2, 1) := by decide +kernel
theorem dX8_readsSpeed_70 : decode cX8_readsSpeed 70 = .ok (.iaload, 1) := by decide +kernel
theorem dX8_readsSpeed_71 : decode cX8_readsSpeed 71 = .ok (.if_icmp .ge 24, 3) := by decide +kernel
theorem dX8_readsSpeed_74 : decode cX8_readsSpeed 74 = .ok (.aload_n 0, 1) := by decide +kernel
theorem dX8_readsSpeed_75 : decode cX8_readsSpeed 75 = .ok (.getfield 34, 3) := by decide +kernel
theorem dX8_readsSpeed_78 : decode cX8_readsSpeed 78 = .ok (.iload_n 1, 1) := by decide +kernel
theorem dX8_readsSpeed_79 : decode cX8_readsSpeed 79 = .ok (.aload_n 0, 1) := by decide +kernel
theorem dX8_readsSpeed_80 : decode cX8_readsSpeed 80 = .ok (.iconst 2, 1) := by decide +kernel
theorem dX8_readsSpeed_81 : decode cX8_readsSpeed 81 = .ok (.iload_n 1, 1) := by decide +kernel
theorem dX8_readsSpeed_82 : decode cX8_readsSpeed 82 = .ok (.invokevirtual 124, 3) := by decide +kernel
theorem dX8_readsSpeed_85 : decode cX8_readsSpeed 85 = .ok (.bipush 48, 2) := by decide +kernel
theorem dX8_readsSpeed_87 : decode cX8_readsSpeed 87 = .ok (.isub, 1) := by decide +kernel
theorem dX8_readsSpeed_88 : decode cX8_readsSpeed 88 = .ok (.iastore, 1) := by decide +kernel
theorem dX8_readsSpeed_89 : decode cX8_readsSpeed 89 = .ok (.iinc 1 1, 3) := by decide +kernel
theorem dX8_readsSpeed_92 : decode cX8_readsSpeed 92 = .ok (.goto (-28), 3) := by decide +kernel
theorem dX8_readsSpeed_95 : decode cX8_readsSpeed 95 = .ok (.aload_n 0, 1) := by decide +kernel
theorem dX8_readsSpeed_96 : decode cX8_readsSpeed 96 = .ok (.aload_n 0, 1) := by decide +kernel
theorem dX8_readsSpeed_97 : decode cX8_readsSpeed 97 = .ok (.getfield 7, 3) := by decide +kernel
theorem dX8_readsSpeed_100 : decode cX8_readsSpeed 100 = .ok (.iconst 2, 1) := by decide +kernel
theorem dX8_readsSpeed_101 : decode cX8_readsSpeed 101 = .ok (.iaload, 1) := by decide +kernel
theorem dX8_readsSpeed_102 : decode cX8_readsSpeed 102 = .ok (.putfield 148, 3) := by decide +kernel
theorem dX8_readsSpeed_105 : decode cX8_readsSpeed 105 = .ok (.iconst (-1), 1) := by decide +kernel
theorem dX8_readsSpeed_106 : decode cX8_readsSpeed 106 = .ok (.ireturn, 1) := by decide +kernel
theorem dX8_faultOf_0 : decode cX8_faultOf 0 = .ok (.aload_n 0, 1) := by decide +kernel
theorem dX8_faultOf_1 : decode cX8_faultOf 1 = .ok (.iconst 0, 1) := by decide +kernel
theorem dX8_faultOf_2 : decode cX8_faultOf 2 = .ok (.invokevirtual 151, 3) := by decide +kernel
theorem dX8_faultOf_5 : decode cX8_faultOf 5 = .ok (.istore_n 2, 1) := by decide +kernel
theorem dX8_faultOf_6 : decode cX8_faultOf 6 = .ok (.aload_n 0, 1) := by decide +kernel
theorem dX8_faultOf_7 : decode cX8_faultOf 7 = .ok (.iconst 1, 1) := by decide +kernel
theorem dX8_faultOf_8 : decode cX8_faultOf 8 = .ok (.invokevirtual 151, 3) := by decide +kernel
theorem dX8_faultOf_11 : decode cX8_faultOf 11 = .ok (.istore_n 3, 1) := by decide +kernel
theorem dX8_faultOf_12 : decode cX8_faultOf 12 = .ok (.aload_n 0, 1) := by decide +kernel
theorem dX8_faultOf_13 : decode cX8_faultOf 13 = .ok (.invokevirtual 154, 3) := by decide +kernel
theorem dX8_faultOf_16 : decode cX8_faultOf 16 = .ok (.istore 4, 2) := by decide +kernel
theorem dX8_faultOf_18 : decode cX8_faultOf 18 = .ok (.iload_n 1, 1) := by decide +kernel
theorem dX8_faultOf_19 : decode cX8_faultOf 19 = .ok (.ifCond .ne 7, 3) := by decide +kernel
theorem dX8_faultOf_22 : decode cX8_faultOf 22 = .ok (.iload_n 2, 1) := by decide +kernel
theorem dX8_faultOf_23 : decode cX8_faultOf 23 = .ok (.goto 14, 3) := by decide +kernel
theorem dX8_faultOf_26 : decode cX8_faultOf 26 = .ok (.iload_n 1, 1) := by decide +kernel
theorem dX8_faultOf_27 : decode cX8_faultOf 27 = .ok (.iconst 1, 1) := by decide +kernel
theorem dX8_faultOf_28 : decode cX8_faultOf 28 = .ok (.if_icmp .ne 7, 3) := by decide +kernel
theorem dX8_faultOf_31 : decode cX8_faultOf 31 = .ok (.iload_n 3, 1) := by decide +kernel
theorem dX8_faultOf_32 : decode cX8_faultOf 32 = .ok (.goto 5, 3) := by decide +kernel
theorem dX8_faultOf_35 : decode cX8_faultOf 35 = .ok (.iload 4, 2) := by decide +kernel
theorem dX8_faultOf_37 : decode cX8_faultOf 37 = .ok (.ireturn, 1) := by decide +kernel
theorem dX8_reads_0 : decode cX8_reads 0 = .ok (.aload_n 0, 1) := by decide +kernel
theorem dX8_reads_1 : decode cX8_reads 1 = .ok (.iconst 0, 1) := by decide +kernel
theorem dX8_reads_2 : decode cX8_reads 2 = .ok (.invokevirtual 158, 3) := by decide +kernel
theorem dX8_reads_5 : decode cX8_reads 5 = .ok (.istore_n 1, 1) := by decide +kernel
theorem dX8_reads_6 : decode cX8_reads 6 = .ok (.return_, 1) := by decide +kernel
theorem dX8_fault_0 : decode cX8_fault 0 = .ok (.iload_n 1, 1) := by decide +kernel
theorem dX8_fault_1 : decode cX8_fault 1 = .ok (.invokestatic 116, 3) := by decide +kernel
theorem dX8_fault_4 : decode cX8_fault 4 = .ok (.ifCond .eq 11, 3) := by decide +kernel
theorem dX8_fault_7 : decode cX8_fault 7 = .ok (.aload_n 0, 1) := by decide +kernel
theorem dX8_fault_8 : decode cX8_fault 8 = .ok (.iload_n 1, 1) := by decide +kernel
theorem dX8_fault_9 : decode cX8_fault 9 = .ok (.invokevirtual 158, 3) := by decide +kernel
theorem dX8_fault_12 : decode cX8_fault 12 = .ok (.goto 5, 3) := by decide +kernel
theorem dX8_fault_15 : decode cX8_fault 15 = .ok (.bipush (-2), 2) := by decide +kernel
theorem dX8_fault_17 : decode cX8_fault 17 = .ok (.ireturn, 1) := by decide +kernel
theorem dX8_isCar_0 : decode cX8_isCar 0 = .ok (.aload_n 0, 1) := by decide +kernel
theorem dX8_isCar_1 : decode cX8_isCar 1 = .ok (.invokevirtual 161, 3) := by decide +kernel
theorem dX8_isCar_4 : decode cX8_isCar 4 = .ok (.iload_n 1, 1) := by decide +kernel
theorem dX8_isCar_5 : decode cX8_isCar 5 = .ok (.iconst 0, 1) := by decide +kernel
theorem dX8_isCar_6 : decode cX8_isCar 6 = .ok (.aload_n 0, 1) := by decide +kernel
theorem dX8_isCar_7 : decode cX8_isCar 7 = .ok (.getfield 135, 3) := by decide +kernel
theorem dX8_isCar_10 : decode cX8_isCar 10 = .ok (.iconst 1, 1) := by decide +kernel
theorem dX8_isCar_11 : decode cX8_isCar 11 = .ok (.isub, 1) := by decide +kernel
theorem dX8_isCar_12 : decode cX8_isCar 12 = .ok (.invokestatic 112, 3) := by decide +kernel
theorem dX8_isCar_15 : decode cX8_isCar 15 = .ok (.ireturn, 1) := by decide +kernel
theorem dX8_carOf_0 : decode cX8_carOf 0 = .ok (.iload_n 2, 1) := by decide +kernel
theorem dX8_carOf_1 : decode cX8_carOf 1 = .ok (.ifCond .ne 12, 3) := by decide +kernel
theorem dX8_carOf_4 : decode cX8_carOf 4 = .ok (.aload_n 0, 1) := by decide +kernel
theorem dX8_carOf_5 : decode cX8_carOf 5 = .ok (.getfield 16, 3) := by decide +kernel
theorem dX8_carOf_8 : decode cX8_carOf 8 = .ok (.iload_n 1, 1) := by decide +kernel
theorem dX8_carOf_9 : decode cX8_carOf 9 = .ok (.iaload, 1) := by decide +kernel
theorem dX8_carOf_10 : decode cX8_carOf 10 = .ok (.goto 23, 3) := by decide +kernel
theorem dX8_carOf_13 : decode cX8_carOf 13 = .ok (.iload_n 2, 1) := by decide +kernel
theorem dX8_carOf_14 : decode cX8_carOf 14 = .ok (.iconst 1, 1) := by decide +kernel
theorem dX8_carOf_15 : decode cX8_carOf 15 = .ok (.if_icmp .ne 12, 3) := by decide +kernel
theorem dX8_carOf_18 : decode cX8_carOf 18 = .ok (.aload_n 0, 1) := by decide +kernel
theorem dX8_carOf_19 : decode cX8_carOf 19 = .ok (.getfield 19, 3) := by decide +kernel
theorem dX8_carOf_22 : decode cX8_carOf 22 = .ok (.iload_n 1, 1) := by decide +kernel
theorem dX8_carOf_23 : decode cX8_carOf 23 = .ok (.iaload, 1) := by decide +kernel
theorem dX8_carOf_24 : decode cX8_carOf 24 = .ok (.goto 9, 3) := by decide +kernel
theorem dX8_carOf_27 : decode cX8_carOf 27 = .ok (.aload_n 0, 1) := by decide +kernel
theorem dX8_carOf_28 : decode cX8_carOf 28 = .ok (.getfield 22, 3) := by decide +kernel
theorem dX8_carOf_31 : decode cX8_carOf 31 = .ok (.iload_n 1, 1) := by decide +kernel
theorem dX8_carOf_32 : decode cX8_carOf 32 = .ok (.iaload, 1) := by decide +kernel
theorem dX8_carOf_33 : decode cX8_carOf 33 = .ok (.ireturn, 1) := by decide +kernel
theorem dX8_car_0 : decode cX8_car 0 = .ok (.aload_n 0, 1) := by decide +kernel
theorem dX8_car_1 : decode cX8_car 1 = .ok (.iload_n 1, 1) := by decide +kernel
theorem dX8_car_2 : decode cX8_car 2 = .ok (.invokevirtual 164, 3) := by decide +kernel
theorem dX8_car_5 : decode cX8_car 5 = .ok (.ifCond .eq 19, 3) := by decide +kernel
theorem dX8_car_8 : decode cX8_car 8 = .ok (.iload_n 2, 1) := by decide +kernel
theorem dX8_car_9 : decode cX8_car 9 = .ok (.invokestatic 167, 3) := by decide +kernel
theorem dX8_car_12 : decode cX8_car 12 = .ok (.ifCond .eq 12, 3) := by decide +kernel
theorem dX8_car_15 : decode cX8_car 15 = .ok (.aload_n 0, 1) := by decide +kernel
theorem dX8_car_16 : decode cX8_car 16 = .ok (.iload_n 1, 1) := by decide +kernel
theorem dX8_car_17 : decode cX8_car 17 = .ok (.iload_n 2, 1) := by decide +kernel
theorem dX8_car_18 : decode cX8_car 18 = .ok (.invokevirtual 170, 3) := by decide +kernel
theorem dX8_car_21 : decode cX8_car 21 = .ok (.goto 5, 3) := by decide +kernel
theorem dX8_car_24 : decode cX8_car 24 = .ok (.bipush (-2), 2) := by decide +kernel
theorem dX8_car_26 : decode cX8_car 26 = .ok (.ireturn, 1) := by decide +kernel
theorem dX8_comingOf_0 : decode cX8_comingOf 0 = .ok (.aload_n 0, 1) := by decide +kernel
theorem dX8_comingOf_1 : decode cX8_comingOf 1 = .ok (.invokevirtual 161, 3) := by decide +kernel
theorem dX8_comingOf_4 : decode cX8_comingOf 4 = .ok (.iload_n 1, 1) := by decide +kernel
theorem dX8_comingOf_5 : decode cX8_comingOf 5 = .ok (.aload_n 0, 1) := by decide +kernel
theorem dX8_comingOf_6 : decode cX8_comingOf 6 = .ok (.getfield 139, 3) := by decide +kernel
theorem dX8_comingOf_9 : decode cX8_comingOf 9 = .ok (.if_icmp .lt 7, 3) := by decide +kernel
theorem dX8_comingOf_12 : decode cX8_comingOf 12 = .ok (.iconst (-1), 1) := by decide +kernel
theorem dX8_comingOf_13 : decode cX8_comingOf 13 = .ok (.goto 36, 3) := by decide +kernel
theorem dX8_comingOf_16 : decode cX8_comingOf 16 = .ok (.iload_n 2, 1) := by decide +kernel
theorem dX8_comingOf_17 : decode cX8_comingOf 17 = .ok (.ifCond .ne 12, 3) := by decide +kernel
theorem dX8_comingOf_20 : decode cX8_comingOf 20 = .ok (.aload_n 0, 1) := by decide +kernel
theorem dX8_comingOf_21 : decode cX8_comingOf 21 = .ok (.getfield 25, 3) := by decide +kernel
theorem dX8_comingOf_24 : decode cX8_comingOf 24 = .ok (.iload_n 1, 1) := by decide +kernel
theorem dX8_comingOf_25 : decode cX8_comingOf 25 = .ok (.iaload, 1) := by decide +kernel
theorem dX8_comingOf_26 : decode cX8_comingOf 26 = .ok (.goto 23, 3) := by decide +kernel
theorem dX8_comingOf_29 : decode cX8_comingOf 29 = .ok (.iload_n 2, 1) := by decide +kernel
theorem dX8_comingOf_30 : decode cX8_comingOf 30 = .ok (.iconst 1, 1) := by decide +kernel
theorem dX8_comingOf_31 : decode cX8_comingOf 31 = .ok (.if_icmp .ne 12, 3) := by decide +kernel
theorem dX8_comingOf_34 : decode cX8_comingOf 34 = .ok (.aload_n 0, 1) := by decide +kernel
theorem dX8_comingOf_35 : decode cX8_comingOf 35 = .ok (.getfield 28, 3) := by decide +kernel
theorem dX8_comingOf_38 : decode cX8_comingOf 38 = .ok (.iload_n 1, 1) := by decide +kernel
theorem dX8_comingOf_39 : decode cX8_comingOf 39 = .ok (.iaload, 1) := by decide +kernel
theorem dX8_comingOf_40 : decode cX8_comingOf 40 = .ok (.goto 9, 3) := by decide +kernel
theorem dX8_comingOf_43 : decode cX8_comingOf 43 = .ok (.aload_n 0, 1) := by decide +kernel
theorem dX8_comingOf_44 : decode cX8_comingOf 44 = .ok (.getfield 31, 3) := by decide +kernel
theorem dX8_comingOf_47 : decode cX8_comingOf 47 = .ok (.iload_n 1, 1) := by decide +kernel
theorem dX8_comingOf_48 : decode cX8_comingOf 48 = .ok (.iaload, 1) := by decide +kernel
theorem dX8_comingOf_49 : decode cX8_comingOf 49 = .ok (.ireturn, 1) := by decide +kernel
theorem dX8_coming_0 : decode cX8_coming 0 = .ok (.iload_n 1, 1) := by decide +kernel
theorem dX8_coming_1 : decode cX8_coming 1 = .ok (.iconst 0, 1) := by decide +kernel
theorem dX8_coming_2 : decode cX8_coming 2 = .ok (.bipush 11, 2) := by decide +kernel
theorem dX8_coming_4 : decode cX8_coming 4 = .ok (.invokestatic 112, 3) := by decide +kernel
theorem dX8_coming_7 : decode cX8_coming 7 = .ok (.ifCond .eq 19, 3) := by decide +kernel
theorem dX8_coming_10 : decode cX8_coming 10 = .ok (.iload_n 2, 1) := by decide +kernel
theorem dX8_coming_11 : decode cX8_coming 11 = .ok (.invokestatic 167, 3) := by decide +kernel
theorem dX8_coming_14 : decode cX8_coming 14 = .ok (.ifCond .eq 12, 3) := by decide +kernel
theorem dX8_coming_17 : decode cX8_coming 17 = .ok (.aload_n 0, 1) := by decide +kernel
theorem dX8_coming_18 : decode cX8_coming 18 = .ok (.iload_n 1, 1) := by decide +kernel
theorem dX8_coming_19 : decode cX8_coming 19 = .ok (.iload_n 2, 1) := by decide +kernel
theorem dX8_coming_20 : decode cX8_coming 20 = .ok (.invokevirtual 173, 3) := by decide +kernel
theorem dX8_coming_23 : decode cX8_coming 23 = .ok (.goto 5, 3) := by decide +kernel
theorem dX8_coming_26 : decode cX8_coming 26 = .ok (.bipush (-2), 2) := by decide +kernel
theorem dX8_coming_28 : decode cX8_coming 28 = .ok (.ireturn, 1) := by decide +kernel
theorem dX8_speedOf_0 : decode cX8_speedOf 0 = .ok (.aload_n 0, 1) := by decide +kernel
theorem dX8_speedOf_1 : decode cX8_speedOf 1 = .ok (.invokevirtual 161, 3) := by decide +kernel
theorem dX8_speedOf_4 : decode cX8_speedOf 4 = .ok (.aload_n 0, 1) := by decide +kernel
theorem dX8_speedOf_5 : decode cX8_speedOf 5 = .ok (.getfield 34, 3) := by decide +kernel
theorem dX8_speedOf_8 : decode cX8_speedOf 8 = .ok (.iload_n 1, 1) := by decide +kernel
theorem dX8_speedOf_9 : decode cX8_speedOf 9 = .ok (.iaload, 1) := by decide +kernel
theorem dX8_speedOf_10 : decode cX8_speedOf 10 = .ok (.ireturn, 1) := by decide +kernel
theorem dX8_speed_0 : decode cX8_speed 0 = .ok (.iload_n 1, 1) := by decide +kernel
theorem dX8_speed_1 : decode cX8_speed 1 = .ok (.invokestatic 132, 3) := by decide +kernel
theorem dX8_speed_4 : decode cX8_speed 4 = .ok (.ifCond .eq 11, 3) := by decide +kernel
theorem dX8_speed_7 : decode cX8_speed 7 = .ok (.aload_n 0, 1) := by decide +kernel
theorem dX8_speed_8 : decode cX8_speed 8 = .ok (.iload_n 1, 1) := by decide +kernel
theorem dX8_speed_9 : decode cX8_speed 9 = .ok (.invokevirtual 176, 3) := by decide +kernel
theorem dX8_speed_12 : decode cX8_speed 12 = .ok (.goto 5, 3) := by decide +kernel
theorem dX8_speed_15 : decode cX8_speed 15 = .ok (.bipush (-2), 2) := by decide +kernel
theorem dX8_speed_17 : decode cX8_speed 17 = .ok (.ireturn, 1) := by decide +kernel
theorem dX8_event_0 : decode cX8_event 0 = .ok (.iload_n 1, 1) := by decide +kernel
theorem dX8_event_1 : decode cX8_event 1 = .ok (.invokestatic 167, 3) := by decide +kernel
theorem dX8_event_4 : decode cX8_event 4 = .ok (.ifCond .eq 19, 3) := by decide +kernel
theorem dX8_event_7 : decode cX8_event 7 = .ok (.iload_n 2, 1) := by decide +kernel
theorem dX8_event_8 : decode cX8_event 8 = .ok (.invokestatic 132, 3) := by decide +kernel
theorem dX8_event_11 : decode cX8_event 11 = .ok (.ifCond .eq 12, 3) := by decide +kernel
theorem dX8_event_14 : decode cX8_event 14 = .ok (.iload_n 3, 1) := by decide +kernel
theorem dX8_event_15 : decode cX8_event 15 = .ok (.iconst 0, 1) := by decide +kernel
theorem dX8_event_16 : decode cX8_event 16 = .ok (.iconst 5, 1) := by decide +kernel
theorem dX8_event_17 : decode cX8_event 17 = .ok (.invokestatic 112, 3) := by decide +kernel
theorem dX8_event_20 : decode cX8_event 20 = .ok (.ifCond .ne 6, 3) := by decide +kernel
theorem dX8_event_23 : decode cX8_event 23 = .ok (.bipush (-2), 2) := by decide +kernel
theorem dX8_event_25 : decode cX8_event 25 = .ok (.ireturn, 1) := by decide +kernel
theorem dX8_event_26 : decode cX8_event 26 = .ok (.aload_n 0, 1) := by decide +kernel
theorem dX8_event_27 : decode cX8_event 27 = .ok (.getfield 179, 3) := by decide +kernel
theorem dX8_event_30 : decode cX8_event 30 = .ok (.bipush 8, 2) := by decide +kernel
theorem dX8_event_32 : decode cX8_event 32 = .ok (.if_icmp .ne 6, 3) := by decide +kernel
theorem dX8_event_35 : decode cX8_event 35 = .ok (.bipush (-4), 2) := by decide +kernel
theorem dX8_event_37 : decode cX8_event 37 = .ok (.ireturn, 1) := by decide +kernel
theorem dX8_event_38 : decode cX8_event 38 = .ok (.aload_n 0, 1) := by decide +kernel
theorem dX8_event_39 : decode cX8_event 39 = .ok (.getfield 37, 3) := by decide +kernel
theorem dX8_event_42 : decode cX8_event 42 = .ok (.aload_n 0, 1) := by decide +kernel
theorem dX8_event_43 : decode cX8_event 43 = .ok (.getfield 179, 3) := by decide +kernel
theorem dX8_event_46 : decode cX8_event 46 = .ok (.iload_n 1, 1) := by decide +kernel
theorem dX8_event_47 : decode cX8_event 47 = .ok (.iastore, 1) := by decide +kernel
theorem dX8_event_48 : decode cX8_event 48 = .ok (.aload_n 0, 1) := by decide +kernel
theorem dX8_event_49 : decode cX8_event 49 = .ok (.getfield 40, 3) := by decide +kernel
theorem dX8_event_52 : decode cX8_event 52 = .ok (.aload_n 0, 1) := by decide +kernel
theorem dX8_event_53 : decode cX8_event 53 = .ok (.getfield 179, 3) := by decide +kernel
theorem dX8_event_56 : decode cX8_event 56 = .ok (.iload_n 2, 1) := by decide +kernel
theorem dX8_event_57 : decode cX8_event 57 = .ok (.iastore, 1) := by decide +kernel
theorem dX8_event_58 : decode cX8_event 58 = .ok (.aload_n 0, 1) := by decide +kernel
theorem dX8_event_59 : decode cX8_event 59 = .ok (.getfield 43, 3) := by decide +kernel
theorem dX8_event_62 : decode cX8_event 62 = .ok (.aload_n 0, 1) := by decide +kernel
theorem dX8_event_63 : decode cX8_event 63 = .ok (.getfield 179, 3) := by decide +kernel
theorem dX8_event_66 : decode cX8_event 66 = .ok (.iload_n 3, 1) := by decide +kernel
theorem dX8_event_67 : decode cX8_event 67 = .ok (.iastore, 1) := by decide +kernel
theorem dX8_event_68 : decode cX8_event 68 = .ok (.aload_n 0, 1) := by decide +kernel
theorem dX8_event_69 : decode cX8_event 69 = .ok (.dup, 1) := by decide +kernel
theorem dX8_event_70 : decode cX8_event 70 = .ok (.getfield 179, 3) := by decide +kernel
theorem dX8_event_73 : decode cX8_event 73 = .ok (.iconst 1, 1) := by decide +kernel
theorem dX8_event_74 : decode cX8_event 74 = .ok (.iadd, 1) := by decide +kernel
theorem dX8_event_75 : decode cX8_event 75 = .ok (.putfield 179, 3) := by decide +kernel
theorem dX8_event_78 : decode cX8_event 78 = .ok (.aload_n 0, 1) := by decide +kernel
theorem dX8_event_79 : decode cX8_event 79 = .ok (.getfield 179, 3) := by decide +kernel
theorem dX8_event_82 : decode cX8_event 82 = .ok (.ireturn, 1) := by decide +kernel
theorem dX8_back_0 : decode cX8_back 0 = .ok (.aload_n 0, 1) := by decide +kernel
theorem dX8_back_1 : decode cX8_back 1 = .ok (.getfield 179, 3) := by decide +kernel
theorem dX8_back_4 : decode cX8_back 4 = .ok (.ifCond .ne 6, 3) := by decide +kernel
theorem dX8_back_7 : decode cX8_back 7 = .ok (.bipush (-3), 2) := by decide +kernel
theorem dX8_back_9 : decode cX8_back 9 = .ok (.ireturn, 1) := by decide +kernel
theorem dX8_back_10 : decode cX8_back 10 = .ok (.aload_n 0, 1) := by decide +kernel
theorem dX8_back_11 : decode cX8_back 11 = .ok (.dup, 1) := by decide +kernel
theorem dX8_back_12 : decode cX8_back 12 = .ok (.getfield 179, 3) := by decide +kernel
theorem dX8_back_15 : decode cX8_back 15 = .ok (.iconst 1, 1) := by decide +kernel
theorem dX8_back_16 : decode cX8_back 16 = .ok (.isub, 1) := by decide +kernel
theorem dX8_back_17 : decode cX8_back 17 = .ok (.putfield 179, 3) := by decide +kernel
theorem dX8_back_20 : decode cX8_back 20 = .ok (.aload_n 0, 1) := by decide +kernel
theorem dX8_back_21 : decode cX8_back 21 = .ok (.getfield 179, 3) := by decide +kernel
theorem dX8_back_24 : decode cX8_back 24 = .ok (.ireturn, 1) := by decide +kernel
theorem dX8_read_0 : decode cX8_read 0 = .ok (.iload_n 1, 1) := by decide +kernel
theorem dX8_read_1 : decode cX8_read 1 = .ok (.invokestatic 182, 3) := by decide +kernel
theorem dX8_read_4 : decode cX8_read 4 = .ok (.ifCond .ne 6, 3) := by decide +kernel
theorem dX8_read_7 : decode cX8_read 7 = .ok (.bipush (-2), 2) := by decide +kernel
theorem dX8_read_9 : decode cX8_read 9 = .ok (.ireturn, 1) := by decide +kernel
theorem dX8_read_10 : decode cX8_read 10 = .ok (.aload_n 0, 1) := by decide +kernel
theorem dX8_read_11 : decode cX8_read 11 = .ok (.getfield 94, 3) := by decide +kernel
theorem dX8_read_14 : decode cX8_read 14 = .ok (.iload_n 1, 1) := by decide +kernel
theorem dX8_read_15 : decode cX8_read 15 = .ok (.baload, 1) := by decide +kernel
theorem dX8_read_16 : decode cX8_read 16 = .ok (.ifCond .ne 9, 3) := by decide +kernel
theorem dX8_read_19 : decode cX8_read 19 = .ok (.aload_n 0, 1) := by decide +kernel
theorem dX8_read_20 : decode cX8_read 20 = .ok (.iconst 1, 1) := by decide +kernel
theorem dX8_read_21 : decode cX8_read 21 = .ok (.invokevirtual 185, 3) := by decide +kernel
theorem dX8_read_24 : decode cX8_read 24 = .ok (.ireturn, 1) := by decide +kernel
theorem dX8_read_25 : decode cX8_read 25 = .ok (.iconst 0, 1) := by decide +kernel
theorem dX8_read_26 : decode cX8_read 26 = .ok (.istore_n 2, 1) := by decide +kernel
theorem dX8_read_27 : decode cX8_read 27 = .ok (.bipush 60, 2) := by decide +kernel
theorem dX8_read_29 : decode cX8_read 29 = .ok (.iload_n 1, 1) := by decide +kernel
theorem dX8_read_30 : decode cX8_read 30 = .ok (.imul, 1) := by decide +kernel
theorem dX8_read_31 : decode cX8_read 31 = .ok (.istore_n 3, 1) := by decide +kernel
theorem dX8_read_32 : decode cX8_read 32 = .ok (.iconst 3, 1) := by decide +kernel
theorem dX8_read_33 : decode cX8_read 33 = .ok (.iload_n 2, 1) := by decide +kernel
theorem dX8_read_34 : decode cX8_read 34 = .ok (.imul, 1) := by decide +kernel
theorem dX8_read_35 : decode cX8_read 35 = .ok (.iconst 2, 1) := by decide +kernel
theorem dX8_read_36 : decode cX8_read 36 = .ok (.iadd, 1) := by decide +kernel
theorem dX8_read_37 : decode cX8_read 37 = .ok (.aload_n 0, 1) := by decide +kernel
theorem dX8_read_38 : decode cX8_read 38 = .ok (.getfield 101, 3) := by decide +kernel
theorem dX8_read_41 : decode cX8_read 41 = .ok (.iload_n 1, 1) := by decide +kernel
theorem dX8_read_42 : decode cX8_read 42 = .ok (.iaload, 1) := by decide +kernel
theorem dX8_read_43 : decode cX8_read 43 = .ok (.if_icmp .ge 50, 3) := by decide +kernel
theorem dX8_read_46 : decode cX8_read 46 = .ok (.aload_n 0, 1) := by decide +kernel
theorem dX8_read_47 : decode cX8_read 47 = .ok (.aload_n 0, 1) := by decide +kernel
theorem dX8_read_48 : decode cX8_read 48 = .ok (.getfield 104, 3) := by decide +kernel
theorem dX8_read_51 : decode cX8_read 51 = .ok (.iload_n 3, 1) := by decide +kernel
theorem dX8_read_52 : decode cX8_read 52 = .ok (.iconst 3, 1) := by decide +kernel
theorem dX8_read_53 : decode cX8_read 53 = .ok (.iload_n 2, 1) := by decide +kernel
theorem dX8_read_54 : decode cX8_read 54 = .ok (.imul, 1) := by decide +kernel
theorem dX8_read_55 : decode cX8_read 55 = .ok (.iadd, 1) := by decide +kernel
theorem dX8_read_56 : decode cX8_read 56 = .ok (.iaload, 1) := by decide +kernel
theorem dX8_read_57 : decode cX8_read 57 = .ok (.aload_n 0, 1) := by decide +kernel
theorem dX8_read_58 : decode cX8_read 58 = .ok (.getfield 104, 3) := by decide +kernel
theorem dX8_read_61 : decode cX8_read 61 = .ok (.iload_n 3, 1) := by decide +kernel
theorem dX8_read_62 : decode cX8_read 62 = .ok (.iconst 3, 1) := by decide +kernel
theorem dX8_read_63 : decode cX8_read 63 = .ok (.iload_n 2, 1) := by decide +kernel
theorem dX8_read_64 : decode cX8_read 64 = .ok (.imul, 1) := by decide +kernel
theorem dX8_read_65 : decode cX8_read 65 = .ok (.iadd, 1) := by decide +kernel
theorem dX8_read_66 : decode cX8_read 66 = .ok (.iconst 1, 1) := by decide +kernel
theorem dX8_read_67 : decode cX8_read 67 = .ok (.iadd, 1) := by decide +kernel
theorem dX8_read_68 : decode cX8_read 68 = .ok (.iaload, 1) := by decide +kernel
theorem dX8_read_69 : decode cX8_read 69 = .ok (.aload_n 0, 1) := by decide +kernel
theorem dX8_read_70 : decode cX8_read 70 = .ok (.getfield 104, 3) := by decide +kernel
theorem dX8_read_73 : decode cX8_read 73 = .ok (.iload_n 3, 1) := by decide +kernel
theorem dX8_read_74 : decode cX8_read 74 = .ok (.iconst 3, 1) := by decide +kernel
theorem dX8_read_75 : decode cX8_read 75 = .ok (.iload_n 2, 1) := by decide +kernel
theorem dX8_read_76 : decode cX8_read 76 = .ok (.imul, 1) := by decide +kernel
theorem dX8_read_77 : decode cX8_read 77 = .ok (.iadd, 1) := by decide +kernel
theorem dX8_read_78 : decode cX8_read 78 = .ok (.iconst 2, 1) := by decide +kernel
theorem dX8_read_79 : decode cX8_read 79 = .ok (.iadd, 1) := by decide +kernel
theorem dX8_read_80 : decode cX8_read 80 = .ok (.iaload, 1) := by decide +kernel
theorem dX8_read_81 : decode cX8_read 81 = .ok (.invokevirtual 188, 3) := by decide +kernel
theorem dX8_read_84 : decode cX8_read 84 = .ok (.ifCond .le 9, 3) := by decide +kernel
theorem dX8_read_87 : decode cX8_read 87 = .ok (.iinc 2 1, 3) := by decide +kernel
theorem dX8_read_90 : decode cX8_read 90 = .ok (.goto (-58), 3) := by decide +kernel
theorem dX8_read_93 : decode cX8_read 93 = .ok (.iload_n 2, 1) := by decide +kernel
theorem dX8_read_94 : decode cX8_read 94 = .ok (.ireturn, 1) := by decide +kernel
theorem dX8_asTold_0 : decode cX8_asTold 0 = .ok (.aload_n 0, 1) := by decide +kernel
theorem dX8_asTold_1 : decode cX8_asTold 1 = .ok (.invokevirtual 161, 3) := by decide +kernel
theorem dX8_asTold_4 : decode cX8_asTold 4 = .ok (.iconst 0, 1) := by decide +kernel
theorem dX8_asTold_5 : decode cX8_asTold 5 = .ok (.istore_n 1, 1) := by decide +kernel
theorem dX8_asTold_6 : decode cX8_asTold 6 = .ok (.iload_n 1, 1) := by decide +kernel
theorem dX8_asTold_7 : decode cX8_asTold 7 = .ok (.bipush 24, 2) := by decide +kernel
theorem dX8_asTold_9 : decode cX8_asTold 9 = .ok (.if_icmp .ge 21, 3) := by decide +kernel
theorem dX8_asTold_12 : decode cX8_asTold 12 = .ok (.aload_n 0, 1) := by decide +kernel
theorem dX8_asTold_13 : decode cX8_asTold 13 = .ok (.getfield 46, 3) := by decide +kernel
theorem dX8_asTold_16 : decode cX8_asTold 16 = .ok (.iload_n 1, 1) := by decide +kernel
theorem dX8_asTold_17 : decode cX8_asTold 17 = .ok (.aload_n 0, 1) := by decide +kernel
theorem dX8_asTold_18 : decode cX8_asTold 18 = .ok (.getfield 34, 3) := by decide +kernel
theorem dX8_asTold_21 : decode cX8_asTold 21 = .ok (.iload_n 1, 1) := by decide +kernel
theorem dX8_asTold_22 : decode cX8_asTold 22 = .ok (.iaload, 1) := by decide +kernel
theorem dX8_asTold_23 : decode cX8_asTold 23 = .ok (.iastore, 1) := by decide +kernel
theorem dX8_asTold_24 : decode cX8_asTold 24 = .ok (.iinc 1 1, 3) := by decide +kernel
theorem dX8_asTold_27 : decode cX8_asTold 27 = .ok (.goto (-21), 3) := by decide +kernel
theorem dX8_asTold_30 : decode cX8_asTold 30 = .ok (.aload_n 0, 1) := by decide +kernel
theorem dX8_asTold_31 : decode cX8_asTold 31 = .ok (.iconst 0, 1) := by decide +kernel
theorem dX8_asTold_32 : decode cX8_asTold 32 = .ok (.putfield 192, 3) := by decide +kernel
theorem dX8_asTold_35 : decode cX8_asTold 35 = .ok (.return_, 1) := by decide +kernel
theorem dX8_befalls_0 : decode cX8_befalls 0 = .ok (.aload_n 0, 1) := by decide +kernel
theorem dX8_befalls_1 : decode cX8_befalls 1 = .ok (.iconst 0, 1) := by decide +kernel
theorem dX8_befalls_2 : decode cX8_befalls 2 = .ok (.putfield 195, 3) := by decide +kernel
theorem dX8_befalls_5 : decode cX8_befalls 5 = .ok (.aload_n 0, 1) := by decide +kernel
theorem dX8_befalls_6 : decode cX8_befalls 6 = .ok (.iconst 0, 1) := by decide +kernel
theorem dX8_befalls_7 : decode cX8_befalls 7 = .ok (.putfield 199, 3) := by decide +kernel
theorem dX8_befalls_10 : decode cX8_befalls 10 = .ok (.iconst 0, 1) := by decide +kernel
theorem dX8_befalls_11 : decode cX8_befalls 11 = .ok (.istore_n 2, 1) := by decide +kernel
theorem dX8_befalls_12 : decode cX8_befalls 12 = .ok (.iload_n 2, 1) := by decide +kernel
theorem dX8_befalls_13 : decode cX8_befalls 13 = .ok (.aload_n 0, 1) := by decide +kernel
theorem dX8_befalls_14 : decode cX8_befalls 14 = .ok (.getfield 179, 3) := by decide +kernel
theorem dX8_befalls_17 : decode cX8_befalls 17 = .ok (.if_icmp .ge 112, 3) := by decide +kernel
theorem dX8_befalls_20 : decode cX8_befalls 20 = .ok (.aload_n 0, 1) := by decide +kernel
theorem dX8_befalls_21 : decode cX8_befalls 21 = .ok (.getfield 40, 3) := by decide +kernel
theorem dX8_befalls_24 : decode cX8_befalls 24 = .ok (.iload_n 2, 1) := by decide +kernel
theorem dX8_befalls_25 : decode cX8_befalls 25 = .ok (.iaload, 1) := by decide +kernel
theorem dX8_befalls_26 : decode cX8_befalls 26 = .ok (.iload_n 1, 1) := by decide +kernel
theorem dX8_befalls_27 : decode cX8_befalls 27 = .ok (.if_icmp .ne 96, 3) := by decide +kernel
theorem dX8_befalls_30 : decode cX8_befalls 30 = .ok (.aload_n 0, 1) := by decide +kernel
theorem dX8_befalls_31 : decode cX8_befalls 31 = .ok (.getfield 192, 3) := by decide +kernel
theorem dX8_befalls_34 : decode cX8_befalls 34 = .ok (.iload_n 2, 1) := by decide +kernel
theorem dX8_befalls_35 : decode cX8_befalls 35 = .ok (.invokestatic 202, 3) := by decide +kernel
theorem dX8_befalls_38 : decode cX8_befalls 38 = .ok (.ifCond .ne 85, 3) := by decide +kernel
theorem dX8_befalls_41 : decode cX8_befalls 41 = .ok (.aload_n 0, 1) := by decide +kernel
theorem dX8_befalls_42 : decode cX8_befalls 42 = .ok (.aload_n 0, 1) := by decide +kernel
theorem dX8_befalls_43 : decode cX8_befalls 43 = .ok (.getfield 195, 3) := by decide +kernel
theorem dX8_befalls_46 : decode cX8_befalls 46 = .ok (.ifCond .ne 12, 3) := by decide +kernel
theorem dX8_befalls_49 : decode cX8_befalls 49 = .ok (.aload_n 0, 1) := by decide +kernel
theorem dX8_befalls_50 : decode cX8_befalls 50 = .ok (.getfield 37, 3) := by decide +kernel
theorem dX8_befalls_53 : decode cX8_befalls 53 = .ok (.iload_n 2, 1) := by decide +kernel
theorem dX8_befalls_54 : decode cX8_befalls 54 = .ok (.iaload, 1) := by decide +kernel
theorem dX8_befalls_55 : decode cX8_befalls 55 = .ok (.ifCond .ne 7, 3) := by decide +kernel
theorem dX8_befalls_58 : decode cX8_befalls 58 = .ok (.iconst 1, 1) := by decide +kernel
theorem dX8_befalls_59 : decode cX8_befalls 59 = .ok (.goto 4, 3) := by decide +kernel
theorem dX8_befalls_62 : decode cX8_befalls 62 = .ok (.iconst 0, 1) := by decide +kernel
theorem dX8_befalls_63 : decode cX8_befalls 63 = .ok (.putfield 195, 3) := by decide +kernel
theorem dX8_befalls_66 : decode cX8_befalls 66 = .ok (.aload_n 0, 1) := by decide +kernel
theorem dX8_befalls_67 : decode cX8_befalls 67 = .ok (.aload_n 0, 1) := by decide +kernel
theorem dX8_befalls_68 : decode cX8_befalls 68 = .ok (.getfield 199, 3) := by decide +kernel
theorem dX8_befalls_71 : decode cX8_befalls 71 = .ok (.ifCond .ne 13, 3) := by decide +kernel
theorem dX8_befalls_74 : decode cX8_befalls 74 = .ok (.aload_n 0, 1) := by decide +kernel
theorem dX8_befalls_75 : decode cX8_befalls 75 = .ok (.getfield 37, 3) := by decide +kernel
theorem dX8_befalls_78 : decode cX8_befalls 78 = .ok (.iload_n 2, 1) := by decide +kernel
theorem dX8_befalls_79 : decode cX8_befalls 79 = .ok (.iaload, 1) := by decide +kernel
theorem dX8_befalls_80 : decode cX8_befalls 80 = .ok (.iconst 1, 1) := by decide +kernel
theorem dX8_befalls_81 : decode cX8_befalls 81 = .ok (.if_icmp .ne 7, 3) := by decide +kernel
theorem dX8_befalls_84 : decode cX8_befalls 84 = .ok (.iconst 1, 1) := by decide +kernel
theorem dX8_befalls_85 : decode cX8_befalls 85 = .ok (.goto 4, 3) := by decide +kernel
theorem dX8_befalls_88 : decode cX8_befalls 88 = .ok (.iconst 0, 1) := by decide +kernel
theorem dX8_befalls_89 : decode cX8_befalls 89 = .ok (.putfield 199, 3) := by decide +kernel
theorem dX8_befalls_92 : decode cX8_befalls 92 = .ok (.aload_n 0, 1) := by decide +kernel
theorem dX8_befalls_93 : decode cX8_befalls 93 = .ok (.dup, 1) := by decide +kernel
theorem dX8_befalls_94 : decode cX8_befalls 94 = .ok (.getfield 205, 3) := by decide +kernel
theorem dX8_befalls_97 : decode cX8_befalls 97 = .ok (.aload_n 0, 1) := by decide +kernel
theorem dX8_befalls_98 : decode cX8_befalls 98 = .ok (.getfield 37, 3) := by decide +kernel
theorem dX8_befalls_101 : decode cX8_befalls 101 = .ok (.iload_n 2, 1) := by decide +kernel
theorem dX8_befalls_102 : decode cX8_befalls 102 = .ok (.iaload, 1) := by decide +kernel
theorem dX8_befalls_103 : decode cX8_befalls 103 = .ok (.iconst 2, 1) := by decide +kernel
theorem dX8_befalls_104 : decode cX8_befalls 104 = .ok (.if_icmp .ne 14, 3) := by decide +kernel
theorem dX8_befalls_107 : decode cX8_befalls 107 = .ok (.iconst 1, 1) := by decide +kernel
theorem dX8_befalls_108 : decode cX8_befalls 108 = .ok (.aload_n 0, 1) := by decide +kernel
theorem dX8_befalls_109 : decode cX8_befalls 109 = .ok (.getfield 43, 3) := by decide +kernel
theorem dX8_befalls_112 : decode cX8_befalls 112 = .ok (.iload_n 2, 1) := by decide +kernel
theorem dX8_befalls_113 : decode cX8_befalls 113 = .ok (.iaload, 1) := by decide +kernel
theorem dX8_befalls_114 : decode cX8_befalls 114 = .ok (.ishl, 1) := by decide +kernel
theorem dX8_befalls_115 : decode cX8_befalls 115 = .ok (.goto 4, 3) := by decide +kernel
theorem dX8_befalls_118 : decode cX8_befalls 118 = .ok (.iconst 0, 1) := by decide +kernel
theorem dX8_befalls_119 : decode cX8_befalls 119 = .ok (.ior, 1) := by decide +kernel
theorem dX8_befalls_120 : decode cX8_befalls 120 = .ok (.putfield 205, 3) := by decide +kernel
theorem dX8_befalls_123 : decode cX8_befalls 123 = .ok (.iinc 2 1, 3) := by decide +kernel
theorem dX8_befalls_126 : decode cX8_befalls 126 = .ok (.goto (-114), 3) := by decide +kernel
theorem dX8_befalls_129 : decode cX8_befalls 129 = .ok (.iconst 0, 1) := by decide +kernel
theorem dX8_befalls_130 : decode cX8_befalls 130 = .ok (.istore_n 2, 1) := by decide +kernel
theorem dX8_befalls_131 : decode cX8_befalls 131 = .ok (.iload_n 2, 1) := by decide +kernel
theorem dX8_befalls_132 : decode cX8_befalls 132 = .ok (.aload_n 0, 1) := by decide +kernel
theorem dX8_befalls_133 : decode cX8_befalls 133 = .ok (.getfield 139, 3) := by decide +kernel
theorem dX8_befalls_136 : decode cX8_befalls 136 = .ok (.if_icmp .ge 43, 3) := by decide +kernel
theorem dX8_befalls_139 : decode cX8_befalls 139 = .ok (.aload_n 0, 1) := by decide +kernel
theorem dX8_befalls_140 : decode cX8_befalls 140 = .ok (.getfield 58, 3) := by decide +kernel
theorem dX8_befalls_143 : decode cX8_befalls 143 = .ok (.aload_n 0, 1) := by decide +kernel
theorem dX8_befalls_144 : decode cX8_befalls 144 = .ok (.getfield 28, 3) := by decide +kernel
theorem dX8_befalls_147 : decode cX8_befalls 147 = .ok (.iload_n 2, 1) := by decide +kernel
theorem dX8_befalls_148 : decode cX8_befalls 148 = .ok (.iaload, 1) := by decide +kernel
theorem dX8_befalls_149 : decode cX8_befalls 149 = .ok (.dup2, 1) := by decide +kernel
theorem dX8_befalls_150 : decode cX8_befalls 150 = .ok (.iaload, 1) := by decide +kernel
theorem dX8_befalls_151 : decode cX8_befalls 151 = .ok (.aload_n 0, 1) := by decide +kernel
theorem dX8_befalls_152 : decode cX8_befalls 152 = .ok (.getfield 25, 3) := by decide +kernel
theorem dX8_befalls_155 : decode cX8_befalls 155 = .ok (.iload_n 2, 1) := by decide +kernel
theorem dX8_befalls_156 : decode cX8_befalls 156 = .ok (.iaload, 1) := by decide +kernel
theorem dX8_befalls_157 : decode cX8_befalls 157 = .ok (.iload_n 1, 1) := by decide +kernel
theorem dX8_befalls_158 : decode cX8_befalls 158 = .ok (.if_icmp .ne 12, 3) := by decide +kernel
theorem dX8_befalls_161 : decode cX8_befalls 161 = .ok (.aload_n 0, 1) := by decide +kernel
theorem dX8_befalls_162 : decode cX8_befalls 162 = .ok (.getfield 31, 3) := by decide +kernel
theorem dX8_befalls_165 : decode cX8_befalls 165 = .ok (.iload_n 2, 1) := by decide +kernel
theorem dX8_befalls_166 : decode cX8_befalls 166 = .ok (.iaload, 1) := by decide +kernel
theorem dX8_befalls_167 : decode cX8_befalls 167 = .ok (.goto 4, 3) := by decide +kernel
theorem dX8_befalls_170 : decode cX8_befalls 170 = .ok (.iconst 0, 1) := by decide +kernel
theorem dX8_befalls_171 : decode cX8_befalls 171 = .ok (.iadd, 1) := by decide +kernel
theorem dX8_befalls_172 : decode cX8_befalls 172 = .ok (.iastore, 1) := by decide +kernel
theorem dX8_befalls_173 : decode cX8_befalls 173 = .ok (.iinc 2 1, 3) := by decide +kernel
theorem dX8_befalls_176 : decode cX8_befalls 176 = .ok (.goto (-45), 3) := by decide +kernel
theorem dX8_befalls_179 : decode cX8_befalls 179 = .ok (.return_, 1) := by decide +kernel
theorem dX8_getsOut_0 : decode cX8_getsOut 0 = .ok (.aload_n 0, 1) := by decide +kernel
theorem dX8_getsOut_1 : decode cX8_getsOut 1 = .ok (.getfield 49, 3) := by decide +kernel
theorem dX8_getsOut_4 : decode cX8_getsOut 4 = .ok (.iload_n 1, 1) := by decide +kernel
theorem dX8_getsOut_5 : decode cX8_getsOut 5 = .ok (.iaload, 1) := by decide +kernel
theorem dX8_getsOut_6 : decode cX8_getsOut 6 = .ok (.bipush 12, 2) := by decide +kernel
theorem dX8_getsOut_8 : decode cX8_getsOut 8 = .ok (.idiv, 1) := by decide +kernel
theorem dX8_getsOut_9 : decode cX8_getsOut 9 = .ok (.istore_n 3, 1) := by decide +kernel
theorem dX8_getsOut_10 : decode cX8_getsOut 10 = .ok (.aload_n 0, 1) := by decide +kernel
theorem dX8_getsOut_11 : decode cX8_getsOut 11 = .ok (.getfield 52, 3) := by decide +kernel
theorem dX8_getsOut_14 : decode cX8_getsOut 14 = .ok (.iload_n 1, 1) := by decide +kernel
theorem dX8_getsOut_15 : decode cX8_getsOut 15 = .ok (.iaload, 1) := by decide +kernel
theorem dX8_getsOut_16 : decode cX8_getsOut 16 = .ok (.ifCond .le 43, 3) := by decide +kernel
theorem dX8_getsOut_19 : decode cX8_getsOut 19 = .ok (.aload_n 0, 1) := by decide +kernel
theorem dX8_getsOut_20 : decode cX8_getsOut 20 = .ok (.aload_n 0, 1) := by decide +kernel
theorem dX8_getsOut_21 : decode cX8_getsOut 21 = .ok (.getfield 208, 3) := by decide +kernel
theorem dX8_getsOut_24 : decode cX8_getsOut 24 = .ok (.iconst (-1), 1) := by decide +kernel
theorem dX8_getsOut_25 : decode cX8_getsOut 25 = .ok (.if_icmp .ne 7, 3) := by decide +kernel
theorem dX8_getsOut_28 : decode cX8_getsOut 28 = .ok (.iload_n 1, 1) := by decide +kernel
theorem dX8_getsOut_29 : decode cX8_getsOut 29 = .ok (.goto 7, 3) := by decide +kernel
theorem dX8_getsOut_32 : decode cX8_getsOut 32 = .ok (.aload_n 0, 1) := by decide +kernel
theorem dX8_getsOut_33 : decode cX8_getsOut 33 = .ok (.getfield 211, 3) := by decide +kernel
theorem dX8_getsOut_36 : decode cX8_getsOut 36 = .ok (.putfield 211, 3) := by decide +kernel
theorem dX8_getsOut_39 : decode cX8_getsOut 39 = .ok (.aload_n 0, 1) := by decide +kernel
theorem dX8_getsOut_40 : decode cX8_getsOut 40 = .ok (.aload_n 0, 1) := by decide +kernel
theorem dX8_getsOut_41 : decode cX8_getsOut 41 = .ok (.getfield 208, 3) := by decide +kernel
theorem dX8_getsOut_44 : decode cX8_getsOut 44 = .ok (.iconst (-1), 1) := by decide +kernel
theorem dX8_getsOut_45 : decode cX8_getsOut 45 = .ok (.if_icmp .ne 7, 3) := by decide +kernel
theorem dX8_getsOut_48 : decode cX8_getsOut 48 = .ok (.iload_n 2, 1) := by decide +kernel
theorem dX8_getsOut_49 : decode cX8_getsOut 49 = .ok (.goto 7, 3) := by decide +kernel
theorem dX8_getsOut_52 : decode cX8_getsOut 52 = .ok (.aload_n 0, 1) := by decide +kernel
theorem dX8_getsOut_53 : decode cX8_getsOut 53 = .ok (.getfield 208, 3) := by decide +kernel
theorem dX8_getsOut_56 : decode cX8_getsOut 56 = .ok (.putfield 208, 3) := by decide +kernel
theorem dX8_getsOut_59 : decode cX8_getsOut 59 = .ok (.aload_n 0, 1) := by decide +kernel
theorem dX8_getsOut_60 : decode cX8_getsOut 60 = .ok (.getfield 61, 3) := by decide +kernel
theorem dX8_getsOut_63 : decode cX8_getsOut 63 = .ok (.iload_n 3, 1) := by decide +kernel
theorem dX8_getsOut_64 : decode cX8_getsOut 64 = .ok (.dup2, 1) := by decide +kernel
theorem dX8_getsOut_65 : decode cX8_getsOut 65 = .ok (.iaload, 1) := by decide +kernel
theorem dX8_getsOut_66 : decode cX8_getsOut 66 = .ok (.aload_n 0, 1) := by decide +kernel
theorem dX8_getsOut_67 : decode cX8_getsOut 67 = .ok (.getfield 52, 3) := by decide +kernel
theorem dX8_getsOut_70 : decode cX8_getsOut 70 = .ok (.iload_n 1, 1) := by decide +kernel
theorem dX8_getsOut_71 : decode cX8_getsOut 71 = .ok (.iaload, 1) := by decide +kernel
theorem dX8_getsOut_72 : decode cX8_getsOut 72 = .ok (.iadd, 1) := by decide +kernel
theorem dX8_getsOut_73 : decode cX8_getsOut 73 = .ok (.iastore, 1) := by decide +kernel
theorem dX8_getsOut_74 : decode cX8_getsOut 74 = .ok (.aload_n 0, 1) := by decide +kernel
theorem dX8_getsOut_75 : decode cX8_getsOut 75 = .ok (.getfield 55, 3) := by decide +kernel
theorem dX8_getsOut_78 : decode cX8_getsOut 78 = .ok (.iload_n 1, 1) := by decide +kernel
theorem dX8_getsOut_79 : decode cX8_getsOut 79 = .ok (.dup2, 1) := by decide +kernel
theorem dX8_getsOut_80 : decode cX8_getsOut 80 = .ok (.iaload, 1) := by decide +kernel
theorem dX8_getsOut_81 : decode cX8_getsOut 81 = .ok (.aload_n 0, 1) := by decide +kernel
theorem dX8_getsOut_82 : decode cX8_getsOut 82 = .ok (.getfield 52, 3) := by decide +kernel
theorem dX8_getsOut_85 : decode cX8_getsOut 85 = .ok (.iload_n 1, 1) := by decide +kernel
theorem dX8_getsOut_86 : decode cX8_getsOut 86 = .ok (.iaload, 1) := by decide +kernel
theorem dX8_getsOut_87 : decode cX8_getsOut 87 = .ok (.iadd, 1) := by decide +kernel
theorem dX8_getsOut_88 : decode cX8_getsOut 88 = .ok (.iastore, 1) := by decide +kernel
theorem dX8_getsOut_89 : decode cX8_getsOut 89 = .ok (.aload_n 0, 1) := by decide +kernel
theorem dX8_getsOut_90 : decode cX8_getsOut 90 = .ok (.getfield 52, 3) := by decide +kernel
theorem dX8_getsOut_93 : decode cX8_getsOut 93 = .ok (.iload_n 1, 1) := by decide +kernel
theorem dX8_getsOut_94 : decode cX8_getsOut 94 = .ok (.iconst 0, 1) := by decide +kernel
theorem dX8_getsOut_95 : decode cX8_getsOut 95 = .ok (.iastore, 1) := by decide +kernel
theorem dX8_getsOut_96 : decode cX8_getsOut 96 = .ok (.return_, 1) := by decide +kernel
theorem dX8_getsIn_0 : decode cX8_getsIn 0 = .ok (.aload_n 0, 1) := by decide +kernel
theorem dX8_getsIn_1 : decode cX8_getsIn 1 = .ok (.getfield 49, 3) := by decide +kernel
theorem dX8_getsIn_4 : decode cX8_getsIn 4 = .ok (.iload_n 1, 1) := by decide +kernel
theorem dX8_getsIn_5 : decode cX8_getsIn 5 = .ok (.iaload, 1) := by decide +kernel
theorem dX8_getsIn_6 : decode cX8_getsIn 6 = .ok (.bipush 12, 2) := by decide +kernel
theorem dX8_getsIn_8 : decode cX8_getsIn 8 = .ok (.idiv, 1) := by decide +kernel
theorem dX8_getsIn_9 : decode cX8_getsIn 9 = .ok (.istore_n 2, 1) := by decide +kernel
theorem dX8_getsIn_10 : decode cX8_getsIn 10 = .ok (.aload_n 0, 1) := by decide +kernel
theorem dX8_getsIn_11 : decode cX8_getsIn 11 = .ok (.getfield 19, 3) := by decide +kernel
theorem dX8_getsIn_14 : decode cX8_getsIn 14 = .ok (.iload_n 1, 1) := by decide +kernel
theorem dX8_getsIn_15 : decode cX8_getsIn 15 = .ok (.iaload, 1) := by decide +kernel
theorem dX8_getsIn_16 : decode cX8_getsIn 16 = .ok (.iconst 2, 1) := by decide +kernel
theorem dX8_getsIn_17 : decode cX8_getsIn 17 = .ok (.if_icmp .ne 14, 3) := by decide +kernel
theorem dX8_getsIn_20 : decode cX8_getsIn 20 = .ok (.aload_n 0, 1) := by decide +kernel
theorem dX8_getsIn_21 : decode cX8_getsIn 21 = .ok (.getfield 22, 3) := by decide +kernel
theorem dX8_getsIn_24 : decode cX8_getsIn 24 = .ok (.iload_n 1, 1) := by decide +kernel
theorem dX8_getsIn_25 : decode cX8_getsIn 25 = .ok (.iaload, 1) := by decide +kernel
theorem dX8_getsIn_26 : decode cX8_getsIn 26 = .ok (.iconst 2, 1) := by decide +kernel
theorem dX8_getsIn_27 : decode cX8_getsIn 27 = .ok (.idiv, 1) := by decide +kernel
theorem dX8_getsIn_28 : decode cX8_getsIn 28 = .ok (.goto 9, 3) := by decide +kernel
theorem dX8_getsIn_31 : decode cX8_getsIn 31 = .ok (.aload_n 0, 1) := by decide +kernel
theorem dX8_getsIn_32 : decode cX8_getsIn 32 = .ok (.getfield 22, 3) := by decide +kernel
theorem dX8_getsIn_35 : decode cX8_getsIn 35 = .ok (.iload_n 1, 1) := by decide +kernel
theorem dX8_getsIn_36 : decode cX8_getsIn 36 = .ok (.iaload, 1) := by decide +kernel
theorem dX8_getsIn_37 : decode cX8_getsIn 37 = .ok (.aload_n 0, 1) := by decide +kernel
theorem dX8_getsIn_38 : decode cX8_getsIn 38 = .ok (.getfield 52, 3) := by decide +kernel
theorem dX8_getsIn_41 : decode cX8_getsIn 41 = .ok (.iload_n 1, 1) := by decide +kernel
theorem dX8_getsIn_42 : decode cX8_getsIn 42 = .ok (.iaload, 1) := by decide +kernel
theorem dX8_getsIn_43 : decode cX8_getsIn 43 = .ok (.isub, 1) := by decide +kernel
theorem dX8_getsIn_44 : decode cX8_getsIn 44 = .ok (.istore_n 3, 1) := by decide +kernel
theorem dX8_getsIn_45 : decode cX8_getsIn 45 = .ok (.aload_n 0, 1) := by decide +kernel
theorem dX8_getsIn_46 : decode cX8_getsIn 46 = .ok (.getfield 58, 3) := by decide +kernel
theorem dX8_getsIn_49 : decode cX8_getsIn 49 = .ok (.iload_n 2, 1) := by decide +kernel
theorem dX8_getsIn_50 : decode cX8_getsIn 50 = .ok (.iaload, 1) := by decide +kernel
theorem dX8_getsIn_51 : decode cX8_getsIn 51 = .ok (.iload_n 3, 1) := by decide +kernel
theorem dX8_getsIn_52 : decode cX8_getsIn 52 = .ok (.if_icmp .ge 12, 3) := by decide +kernel
theorem dX8_getsIn_55 : decode cX8_getsIn 55 = .ok (.aload_n 0, 1) := by decide +kernel
theorem dX8_getsIn_56 : decode cX8_getsIn 56 = .ok (.getfield 58, 3) := by decide +kernel
theorem dX8_getsIn_59 : decode cX8_getsIn 59 = .ok (.iload_n 2, 1) := by decide +kernel
theorem dX8_getsIn_60 : decode cX8_getsIn 60 = .ok (.iaload, 1) := by decide +kernel
theorem dX8_getsIn_61 : decode cX8_getsIn 61 = .ok (.goto 4, 3) := by decide +kernel
theorem dX8_getsIn_64 : decode cX8_getsIn 64 = .ok (.iload_n 3, 1) := by decide +kernel
theorem dX8_getsIn_65 : decode cX8_getsIn 65 = .ok (.istore 4, 2) := by decide +kernel
theorem dX8_getsIn_67 : decode cX8_getsIn 67 = .ok (.aload_n 0, 1) := by decide +kernel
theorem dX8_getsIn_68 : decode cX8_getsIn 68 = .ok (.getfield 52, 3) := by decide +kernel
theorem dX8_getsIn_71 : decode cX8_getsIn 71 = .ok (.iload_n 1, 1) := by decide +kernel
theorem dX8_getsIn_72 : decode cX8_getsIn 72 = .ok (.dup2, 1) := by decide +kernel
theorem dX8_getsIn_73 : decode cX8_getsIn 73 = .ok (.iaload, 1) := by decide +kernel
theorem dX8_getsIn_74 : decode cX8_getsIn 74 = .ok (.iload 4, 2) := by decide +kernel
theorem dX8_getsIn_76 : decode cX8_getsIn 76 = .ok (.iadd, 1) := by decide +kernel
theorem dX8_getsIn_77 : decode cX8_getsIn 77 = .ok (.iastore, 1) := by decide +kernel
theorem dX8_getsIn_78 : decode cX8_getsIn 78 = .ok (.aload_n 0, 1) := by decide +kernel
theorem dX8_getsIn_79 : decode cX8_getsIn 79 = .ok (.getfield 58, 3) := by decide +kernel
theorem dX8_getsIn_82 : decode cX8_getsIn 82 = .ok (.iload_n 2, 1) := by decide +kernel
theorem dX8_getsIn_83 : decode cX8_getsIn 83 = .ok (.dup2, 1) := by decide +kernel
theorem dX8_getsIn_84 : decode cX8_getsIn 84 = .ok (.iaload, 1) := by decide +kernel
theorem dX8_getsIn_85 : decode cX8_getsIn 85 = .ok (.iload 4, 2) := by decide +kernel
theorem dX8_getsIn_87 : decode cX8_getsIn 87 = .ok (.isub, 1) := by decide +kernel
theorem dX8_getsIn_88 : decode cX8_getsIn 88 = .ok (.iastore, 1) := by decide +kernel
theorem dX8_getsIn_89 : decode cX8_getsIn 89 = .ok (.aload_n 0, 1) := by decide +kernel
theorem dX8_getsIn_90 : decode cX8_getsIn 90 = .ok (.dup, 1) := by decide +kernel
theorem dX8_getsIn_91 : decode cX8_getsIn 91 = .ok (.getfield 214, 3) := by decide +kernel
theorem dX8_getsIn_94 : decode cX8_getsIn 94 = .ok (.iload 4, 2) := by decide +kernel
theorem dX8_getsIn_96 : decode cX8_getsIn 96 = .ok (.ifCond .le 9, 3) := by decide +kernel
theorem dX8_getsIn_99 : decode cX8_getsIn 99 = .ok (.iconst 1, 1) := by decide +kernel
theorem dX8_getsIn_100 : decode cX8_getsIn 100 = .ok (.iload_n 1, 1) := by decide +kernel
theorem dX8_getsIn_101 : decode cX8_getsIn 101 = .ok (.ishl, 1) := by decide +kernel
theorem dX8_getsIn_102 : decode cX8_getsIn 102 = .ok (.goto 4, 3) := by decide +kernel
theorem dX8_getsIn_105 : decode cX8_getsIn 105 = .ok (.iconst 0, 1) := by decide +kernel
theorem dX8_getsIn_106 : decode cX8_getsIn 106 = .ok (.ior, 1) := by decide +kernel
theorem dX8_getsIn_107 : decode cX8_getsIn 107 = .ok (.putfield 214, 3) := by decide +kernel
theorem dX8_getsIn_110 : decode cX8_getsIn 110 = .ok (.return_, 1) := by decide +kernel
theorem dX8_servesAll_0 : decode cX8_servesAll 0 = .ok (.iconst 0, 1) := by decide +kernel
theorem dX8_servesAll_1 : decode cX8_servesAll 1 = .ok (.istore_n 3, 1) := by decide +kernel
theorem dX8_servesAll_2 : decode cX8_servesAll 2 = .ok (.iload_n 3, 1) := by decide +kernel
theorem dX8_servesAll_3 : decode cX8_servesAll 3 = .ok (.aload_n 0, 1) := by decide +kernel
theorem dX8_servesAll_4 : decode cX8_servesAll 4 = .ok (.getfield 135, 3) := by decide +kernel
theorem dX8_servesAll_7 : decode cX8_servesAll 7 = .ok (.if_icmp .ge 80, 3) := by decide +kernel
theorem dX8_servesAll_10 : decode cX8_servesAll 10 = .ok (.aload_n 0, 1) := by decide +kernel
theorem dX8_servesAll_11 : decode cX8_servesAll 11 = .ok (.getfield 49, 3) := by decide +kernel
theorem dX8_servesAll_14 : decode cX8_servesAll 14 = .ok (.iload_n 3, 1) := by decide +kernel
theorem dX8_servesAll_15 : decode cX8_servesAll 15 = .ok (.iaload, 1) := by decide +kernel
theorem dX8_servesAll_16 : decode cX8_servesAll 16 = .ok (.bipush 12, 2) := by decide +kernel
theorem dX8_servesAll_18 : decode cX8_servesAll 18 = .ok (.irem, 1) := by decide +kernel
theorem dX8_servesAll_19 : decode cX8_servesAll 19 = .ok (.ifCond .ne 34, 3) := by decide +kernel
theorem dX8_servesAll_22 : decode cX8_servesAll 22 = .ok (.aload_n 0, 1) := by decide +kernel
theorem dX8_servesAll_23 : decode cX8_servesAll 23 = .ok (.getfield 205, 3) := by decide +kernel
theorem dX8_servesAll_26 : decode cX8_servesAll 26 = .ok (.iload_n 3, 1) := by decide +kernel
theorem dX8_servesAll_27 : decode cX8_servesAll 27 = .ok (.invokestatic 202, 3) := by decide +kernel
theorem dX8_servesAll_30 : decode cX8_servesAll 30 = .ok (.ifCond .ne 23, 3) := by decide +kernel
theorem dX8_servesAll_33 : decode cX8_servesAll 33 = .ok (.aload_n 0, 1) := by decide +kernel
theorem dX8_servesAll_34 : decode cX8_servesAll 34 = .ok (.getfield 195, 3) := by decide +kernel
theorem dX8_servesAll_37 : decode cX8_servesAll 37 = .ok (.ifCond .eq 12, 3) := by decide +kernel
theorem dX8_servesAll_40 : decode cX8_servesAll 40 = .ok (.aload_n 0, 1) := by decide +kernel
theorem dX8_servesAll_41 : decode cX8_servesAll 41 = .ok (.getfield 19, 3) := by decide +kernel
theorem dX8_servesAll_44 : decode cX8_servesAll 44 = .ok (.iload_n 3, 1) := by decide +kernel
theorem dX8_servesAll_45 : decode cX8_servesAll 45 = .ok (.iaload, 1) := by decide +kernel
theorem dX8_servesAll_46 : decode cX8_servesAll 46 = .ok (.ifCond .eq 7, 3) := by decide +kernel
theorem dX8_servesAll_49 : decode cX8_servesAll 49 = .ok (.iconst 1, 1) := by decide +kernel
theorem dX8_servesAll_50 : decode cX8_servesAll 50 = .ok (.goto 4, 3) := by decide +kernel
theorem dX8_servesAll_53 : decode cX8_servesAll 53 = .ok (.iconst 0, 1) := by decide +kernel
theorem dX8_servesAll_54 : decode cX8_servesAll 54 = .ok (.istore 4, 2) := by decide +kernel
theorem dX8_servesAll_56 : decode cX8_servesAll 56 = .ok (.iload 4, 2) := by decide +kernel
theorem dX8_servesAll_58 : decode cX8_servesAll 58 = .ok (.ifCond .eq 13, 3) := by decide +kernel
theorem dX8_servesAll_61 : decode cX8_servesAll 61 = .ok (.iload_n 2, 1) := by decide +kernel
theorem dX8_servesAll_62 : decode cX8_servesAll 62 = .ok (.ifCond .eq 9, 3) := by decide +kernel
theorem dX8_servesAll_65 : decode cX8_servesAll 65 = .ok (.aload_n 0, 1) := by decide +kernel
theorem dX8_servesAll_66 : decode cX8_servesAll 66 = .ok (.iload_n 3, 1) := by decide +kernel
theorem dX8_servesAll_67 : decode cX8_servesAll 67 = .ok (.iload_n 1, 1) := by decide +kernel
theorem dX8_servesAll_68 : decode cX8_servesAll 68 = .ok (.invokevirtual 217, 3) := by decide +kernel
theorem dX8_servesAll_71 : decode cX8_servesAll 71 = .ok (.iload 4, 2) := by decide +kernel
theorem dX8_servesAll_73 : decode cX8_servesAll 73 = .ok (.ifCond .eq 8, 3) := by decide +kernel
theorem dX8_servesAll_76 : decode cX8_servesAll 76 = .ok (.aload_n 0, 1) := by decide +kernel
theorem dX8_servesAll_77 : decode cX8_servesAll 77 = .ok (.iload_n 3, 1) := by decide +kernel
theorem dX8_servesAll_78 : decode cX8_servesAll 78 = .ok (.invokevirtual 221, 3) := by decide +kernel
theorem dX8_servesAll_81 : decode cX8_servesAll 81 = .ok (.iinc 3 1, 3) := by decide +kernel
theorem dX8_servesAll_84 : decode cX8_servesAll 84 = .ok (.goto (-82), 3) := by decide +kernel
theorem dX8_servesAll_87 : decode cX8_servesAll 87 = .ok (.return_, 1) := by decide +kernel
theorem dX8_goesOn_0 : decode cX8_goesOn 0 = .ok (.iconst 0, 1) := by decide +kernel
theorem dX8_goesOn_1 : decode cX8_goesOn 1 = .ok (.istore_n 1, 1) := by decide +kernel
theorem dX8_goesOn_2 : decode cX8_goesOn 2 = .ok (.iconst 0, 1) := by decide +kernel
theorem dX8_goesOn_3 : decode cX8_goesOn 3 = .ok (.istore_n 2, 1) := by decide +kernel
theorem dX8_goesOn_4 : decode cX8_goesOn 4 = .ok (.iload_n 2, 1) := by decide +kernel
theorem dX8_goesOn_5 : decode cX8_goesOn 5 = .ok (.aload_n 0, 1) := by decide +kernel
theorem dX8_goesOn_6 : decode cX8_goesOn 6 = .ok (.getfield 135, 3) := by decide +kernel
theorem dX8_goesOn_9 : decode cX8_goesOn 9 = .ok (.if_icmp .ge 56, 3) := by decide +kernel
theorem dX8_goesOn_12 : decode cX8_goesOn 12 = .ok (.iload_n 1, 1) := by decide +kernel
theorem dX8_goesOn_13 : decode cX8_goesOn 13 = .ok (.aload_n 0, 1) := by decide +kernel
theorem dX8_goesOn_14 : decode cX8_goesOn 14 = .ok (.getfield 49, 3) := by decide +kernel
theorem dX8_goesOn_17 : decode cX8_goesOn 17 = .ok (.iload_n 2, 1) := by decide +kernel
theorem dX8_goesOn_18 : decode cX8_goesOn 18 = .ok (.iaload, 1) := by decide +kernel
theorem dX8_goesOn_19 : decode cX8_goesOn 19 = .ok (.bipush 12, 2) := by decide +kernel
theorem dX8_goesOn_21 : decode cX8_goesOn 21 = .ok (.if_icmp .ge 12, 3) := by decide +kernel
theorem dX8_goesOn_24 : decode cX8_goesOn 24 = .ok (.aload_n 0, 1) := by decide +kernel
theorem dX8_goesOn_25 : decode cX8_goesOn 25 = .ok (.getfield 52, 3) := by decide +kernel
theorem dX8_goesOn_28 : decode cX8_goesOn 28 = .ok (.iload_n 2, 1) := by decide +kernel
theorem dX8_goesOn_29 : decode cX8_goesOn 29 = .ok (.iaload, 1) := by decide +kernel
theorem dX8_goesOn_30 : decode cX8_goesOn 30 = .ok (.goto 10, 3) := by decide +kernel
theorem dX8_goesOn_33 : decode cX8_goesOn 33 = .ok (.aload_n 0, 1) := by decide +kernel
theorem dX8_goesOn_34 : decode cX8_goesOn 34 = .ok (.getfield 52, 3) := by decide +kernel
theorem dX8_goesOn_37 : decode cX8_goesOn 37 = .ok (.iload_n 2, 1) := by decide +kernel
theorem dX8_goesOn_38 : decode cX8_goesOn 38 = .ok (.iaload, 1) := by decide +kernel
theorem dX8_goesOn_39 : decode cX8_goesOn 39 = .ok (.ineg, 1) := by decide +kernel
theorem dX8_goesOn_40 : decode cX8_goesOn 40 = .ok (.iadd, 1) := by decide +kernel
theorem dX8_goesOn_41 : decode cX8_goesOn 41 = .ok (.istore_n 1, 1) := by decide +kernel
theorem dX8_goesOn_42 : decode cX8_goesOn 42 = .ok (.aload_n 0, 1) := by decide +kernel
theorem dX8_goesOn_43 : decode cX8_goesOn 43 = .ok (.getfield 49, 3) := by decide +kernel
theorem dX8_goesOn_46 : decode cX8_goesOn 46 = .ok (.iload_n 2, 1) := by decide +kernel
theorem dX8_goesOn_47 : decode cX8_goesOn 47 = .ok (.aload_n 0, 1) := by decide +kernel
theorem dX8_goesOn_48 : decode cX8_goesOn 48 = .ok (.getfield 49, 3) := by decide +kernel
theorem dX8_goesOn_51 : decode cX8_goesOn 51 = .ok (.iload_n 2, 1) := by decide +kernel
theorem dX8_goesOn_52 : decode cX8_goesOn 52 = .ok (.iaload, 1) := by decide +kernel
theorem dX8_goesOn_53 : decode cX8_goesOn 53 = .ok (.iconst 1, 1) := by decide +kernel
theorem dX8_goesOn_54 : decode cX8_goesOn 54 = .ok (.iadd, 1) := by decide +kernel
theorem dX8_goesOn_55 : decode cX8_goesOn 55 = .ok (.bipush 24, 2) := by decide +kernel
theorem dX8_goesOn_57 : decode cX8_goesOn 57 = .ok (.irem, 1) := by decide +kernel
theorem dX8_goesOn_58 : decode cX8_goesOn 58 = .ok (.iastore, 1) := by decide +kernel
theorem dX8_goesOn_59 : decode cX8_goesOn 59 = .ok (.iinc 2 1, 3) := by decide +kernel
theorem dX8_goesOn_62 : decode cX8_goesOn 62 = .ok (.goto (-58), 3) := by decide +kernel
theorem dX8_goesOn_65 : decode cX8_goesOn 65 = .ok (.aload_n 0, 1) := by decide +kernel
theorem dX8_goesOn_66 : decode cX8_goesOn 66 = .ok (.dup, 1) := by decide +kernel
theorem dX8_goesOn_67 : decode cX8_goesOn 67 = .ok (.getfield 225, 3) := by decide +kernel
theorem dX8_goesOn_70 : decode cX8_goesOn 70 = .ok (.iload_n 1, 1) := by decide +kernel
theorem dX8_goesOn_71 : decode cX8_goesOn 71 = .ok (.ifCond .le 7, 3) := by decide +kernel
theorem dX8_goesOn_74 : decode cX8_goesOn 74 = .ok (.iload_n 1, 1) := by decide +kernel
theorem dX8_goesOn_75 : decode cX8_goesOn 75 = .ok (.goto 4, 3) := by decide +kernel
theorem dX8_goesOn_78 : decode cX8_goesOn 78 = .ok (.iconst 0, 1) := by decide +kernel
theorem dX8_goesOn_79 : decode cX8_goesOn 79 = .ok (.iadd, 1) := by decide +kernel
theorem dX8_goesOn_80 : decode cX8_goesOn 80 = .ok (.putfield 225, 3) := by decide +kernel
theorem dX8_goesOn_83 : decode cX8_goesOn 83 = .ok (.return_, 1) := by decide +kernel
theorem dX8_goesBy_0 : decode cX8_goesBy 0 = .ok (.aload_n 0, 1) := by decide +kernel
theorem dX8_goesBy_1 : decode cX8_goesBy 1 = .ok (.iload_n 1, 1) := by decide +kernel
theorem dX8_goesBy_2 : decode cX8_goesBy 2 = .ok (.invokevirtual 228, 3) := by decide +kernel
theorem dX8_goesBy_5 : decode cX8_goesBy 5 = .ok (.aload_n 0, 1) := by decide +kernel
theorem dX8_goesBy_6 : decode cX8_goesBy 6 = .ok (.iconst 0, 1) := by decide +kernel
theorem dX8_goesBy_7 : decode cX8_goesBy 7 = .ok (.putfield 225, 3) := by decide +kernel
theorem dX8_goesBy_10 : decode cX8_goesBy 10 = .ok (.aload_n 0, 1) := by decide +kernel
theorem dX8_goesBy_11 : decode cX8_goesBy 11 = .ok (.getfield 199, 3) := by decide +kernel
theorem dX8_goesBy_14 : decode cX8_goesBy 14 = .ok (.ifCond .eq 7, 3) := by decide +kernel
theorem dX8_goesBy_17 : decode cX8_goesBy 17 = .ok (.iconst 0, 1) := by decide +kernel
theorem dX8_goesBy_18 : decode cX8_goesBy 18 = .ok (.goto 9, 3) := by decide +kernel
theorem dX8_goesBy_21 : decode cX8_goesBy 21 = .ok (.aload_n 0, 1) := by decide +kernel
theorem dX8_goesBy_22 : decode cX8_goesBy 22 = .ok (.getfield 46, 3) := by decide +kernel
theorem dX8_goesBy_25 : decode cX8_goesBy 25 = .ok (.iload_n 1, 1) := by decide +kernel
theorem dX8_goesBy_26 : decode cX8_goesBy 26 = .ok (.iaload, 1) := by decide +kernel
theorem dX8_goesBy_27 : decode cX8_goesBy 27 = .ok (.istore_n 2, 1) := by decide +kernel
theorem dX8_goesBy_28 : decode cX8_goesBy 28 = .ok (.iconst 0, 1) := by decide +kernel
theorem dX8_goesBy_29 : decode cX8_goesBy 29 = .ok (.istore_n 3, 1) := by decide +kernel
theorem dX8_goesBy_30 : decode cX8_goesBy 30 = .ok (.iload_n 3, 1) := by decide +kernel
theorem dX8_goesBy_31 : decode cX8_goesBy 31 = .ok (.iload_n 2, 1) := by decide +kernel
theorem dX8_goesBy_32 : decode cX8_goesBy 32 = .ok (.if_icmp .ge 19, 3) := by decide +kernel
theorem dX8_goesBy_35 : decode cX8_goesBy 35 = .ok (.aload_n 0, 1) := by decide +kernel
theorem dX8_goesBy_36 : decode cX8_goesBy 36 = .ok (.invokevirtual 231, 3) := by decide +kernel
theorem dX8_goesBy_39 : decode cX8_goesBy 39 = .ok (.aload_n 0, 1) := by decide +kernel
theorem dX8_goesBy_40 : decode cX8_goesBy 40 = .ok (.iload_n 1, 1) := by decide +kernel
theorem dX8_goesBy_41 : decode cX8_goesBy 41 = .ok (.iconst 1, 1) := by decide +kernel
theorem dX8_goesBy_42 : decode cX8_goesBy 42 = .ok (.invokevirtual 234, 3) := by decide +kernel
theorem dX8_goesBy_45 : decode cX8_goesBy 45 = .ok (.iinc 3 1, 3) := by decide +kernel
theorem dX8_goesBy_48 : decode cX8_goesBy 48 = .ok (.goto (-18), 3) := by decide +kernel
theorem dX8_goesBy_51 : decode cX8_goesBy 51 = .ok (.iload_n 2, 1) := by decide +kernel
theorem dX8_goesBy_52 : decode cX8_goesBy 52 = .ok (.ifCond .ne 9, 3) := by decide +kernel
theorem dX8_goesBy_55 : decode cX8_goesBy 55 = .ok (.aload_n 0, 1) := by decide +kernel
theorem dX8_goesBy_56 : decode cX8_goesBy 56 = .ok (.iload_n 1, 1) := by decide +kernel
theorem dX8_goesBy_57 : decode cX8_goesBy 57 = .ok (.iconst 0, 1) := by decide +kernel
theorem dX8_goesBy_58 : decode cX8_goesBy 58 = .ok (.invokevirtual 234, 3) := by decide +kernel
theorem dX8_goesBy_61 : decode cX8_goesBy 61 = .ok (.aload_n 0, 1) := by decide +kernel
theorem dX8_goesBy_62 : decode cX8_goesBy 62 = .ok (.dup, 1) := by decide +kernel
theorem dX8_goesBy_63 : decode cX8_goesBy 63 = .ok (.getfield 238, 3) := by decide +kernel
theorem dX8_goesBy_66 : decode cX8_goesBy 66 = .ok (.aload_n 0, 1) := by decide +kernel
theorem dX8_goesBy_67 : decode cX8_goesBy 67 = .ok (.getfield 225, 3) := by decide +kernel
theorem dX8_goesBy_70 : decode cX8_goesBy 70 = .ok (.iadd, 1) := by decide +kernel
theorem dX8_goesBy_71 : decode cX8_goesBy 71 = .ok (.putfield 238, 3) := by decide +kernel
theorem dX8_goesBy_74 : decode cX8_goesBy 74 = .ok (.aload_n 0, 1) := by decide +kernel
theorem dX8_goesBy_75 : decode cX8_goesBy 75 = .ok (.getfield 64, 3) := by decide +kernel
theorem dX8_goesBy_78 : decode cX8_goesBy 78 = .ok (.iconst 2, 1) := by decide +kernel
theorem dX8_goesBy_79 : decode cX8_goesBy 79 = .ok (.iload_n 1, 1) := by decide +kernel
theorem dX8_goesBy_80 : decode cX8_goesBy 80 = .ok (.imul, 1) := by decide +kernel
theorem dX8_goesBy_81 : decode cX8_goesBy 81 = .ok (.aload_n 0, 1) := by decide +kernel
theorem dX8_goesBy_82 : decode cX8_goesBy 82 = .ok (.getfield 58, 3) := by decide +kernel
theorem dX8_goesBy_85 : decode cX8_goesBy 85 = .ok (.iconst 0, 1) := by decide +kernel
theorem dX8_goesBy_86 : decode cX8_goesBy 86 = .ok (.iaload, 1) := by decide +kernel
theorem dX8_goesBy_87 : decode cX8_goesBy 87 = .ok (.iastore, 1) := by decide +kernel
theorem dX8_goesBy_88 : decode cX8_goesBy 88 = .ok (.aload_n 0, 1) := by decide +kernel
theorem dX8_goesBy_89 : decode cX8_goesBy 89 = .ok (.getfield 64, 3) := by decide +kernel
theorem dX8_goesBy_92 : decode cX8_goesBy 92 = .ok (.iconst 2, 1) := by decide +kernel
theorem dX8_goesBy_93 : decode cX8_goesBy 93 = .ok (.iload_n 1, 1) := by decide +kernel
theorem dX8_goesBy_94 : decode cX8_goesBy 94 = .ok (.imul, 1) := by decide +kernel
theorem dX8_goesBy_95 : decode cX8_goesBy 95 = .ok (.iconst 1, 1) := by decide +kernel
theorem dX8_goesBy_96 : decode cX8_goesBy 96 = .ok (.iadd, 1) := by decide +kernel
theorem dX8_goesBy_97 : decode cX8_goesBy 97 = .ok (.aload_n 0, 1) := by decide +kernel
theorem dX8_goesBy_98 : decode cX8_goesBy 98 = .ok (.getfield 58, 3) := by decide +kernel
theorem dX8_goesBy_101 : decode cX8_goesBy 101 = .ok (.iconst 1, 1) := by decide +kernel
theorem dX8_goesBy_102 : decode cX8_goesBy 102 = .ok (.iaload, 1) := by decide +kernel
theorem dX8_goesBy_103 : decode cX8_goesBy 103 = .ok (.iastore, 1) := by decide +kernel
theorem dX8_goesBy_104 : decode cX8_goesBy 104 = .ok (.aload_n 0, 1) := by decide +kernel
theorem dX8_goesBy_105 : decode cX8_goesBy 105 = .ok (.getfield 70, 3) := by decide +kernel
theorem dX8_goesBy_108 : decode cX8_goesBy 108 = .ok (.iload_n 1, 1) := by decide +kernel
theorem dX8_goesBy_109 : decode cX8_goesBy 109 = .ok (.aload_n 0, 1) := by decide +kernel
theorem dX8_goesBy_110 : decode cX8_goesBy 110 = .ok (.getfield 225, 3) := by decide +kernel
theorem dX8_goesBy_113 : decode cX8_goesBy 113 = .ok (.iastore, 1) := by decide +kernel
theorem dX8_goesBy_114 : decode cX8_goesBy 114 = .ok (.aload_n 0, 1) := by decide +kernel
theorem dX8_goesBy_115 : decode cX8_goesBy 115 = .ok (.getfield 67, 3) := by decide +kernel
theorem dX8_goesBy_118 : decode cX8_goesBy 118 = .ok (.iload_n 1, 1) := by decide +kernel
theorem dX8_goesBy_119 : decode cX8_goesBy 119 = .ok (.iconst 0, 1) := by decide +kernel
theorem dX8_goesBy_120 : decode cX8_goesBy 120 = .ok (.iastore, 1) := by decide +kernel
theorem dX8_goesBy_121 : decode cX8_goesBy 121 = .ok (.iconst 0, 1) := by decide +kernel
theorem dX8_goesBy_122 : decode cX8_goesBy 122 = .ok (.istore_n 3, 1) := by decide +kernel
theorem dX8_goesBy_123 : decode cX8_goesBy 123 = .ok (.iload_n 3, 1) := by decide +kernel
theorem dX8_goesBy_124 : decode cX8_goesBy 124 = .ok (.aload_n 0, 1) := by decide +kernel
theorem dX8_goesBy_125 : decode cX8_goesBy 125 = .ok (.getfield 135, 3) := by decide +kernel
theorem dX8_goesBy_128 : decode cX8_goesBy 128 = .ok (.if_icmp .ge 58, 3) := by decide +kernel
theorem dX8_goesBy_131 : decode cX8_goesBy 131 = .ok (.aload_n 0, 1) := by decide +kernel
theorem dX8_goesBy_132 : decode cX8_goesBy 132 = .ok (.getfield 73, 3) := by decide +kernel
theorem dX8_goesBy_135 : decode cX8_goesBy 135 = .ok (.bipush 6, 2) := by decide +kernel
theorem dX8_goesBy_137 : decode cX8_goesBy 137 = .ok (.iload_n 1, 1) := by decide +kernel
theorem dX8_goesBy_138 : decode cX8_goesBy 138 = .ok (.imul, 1) := by decide +kernel
theorem dX8_goesBy_139 : decode cX8_goesBy 139 = .ok (.iload_n 3, 1) := by decide +kernel
theorem dX8_goesBy_140 : decode cX8_goesBy 140 = .ok (.iadd, 1) := by decide +kernel
theorem dX8_goesBy_141 : decode cX8_goesBy 141 = .ok (.aload_n 0, 1) := by decide +kernel
theorem dX8_goesBy_142 : decode cX8_goesBy 142 = .ok (.getfield 49, 3) := by decide +kernel
theorem dX8_goesBy_145 : decode cX8_goesBy 145 = .ok (.iload_n 3, 1) := by decide +kernel
theorem dX8_goesBy_146 : decode cX8_goesBy 146 = .ok (.iaload, 1) := by decide +kernel
theorem dX8_goesBy_147 : decode cX8_goesBy 147 = .ok (.iastore, 1) := by decide +kernel
theorem dX8_goesBy_148 : decode cX8_goesBy 148 = .ok (.aload_n 0, 1) := by decide +kernel
theorem dX8_goesBy_149 : decode cX8_goesBy 149 = .ok (.getfield 76, 3) := by decide +kernel
theorem dX8_goesBy_152 : decode cX8_goesBy 152 = .ok (.bipush 6, 2) := by decide +kernel
theorem dX8_goesBy_154 : decode cX8_goesBy 154 = .ok (.iload_n 1, 1) := by decide +kernel
theorem dX8_goesBy_155 : decode cX8_goesBy 155 = .ok (.imul, 1) := by decide +kernel
theorem dX8_goesBy_156 : decode cX8_goesBy 156 = .ok (.iload_n 3, 1) := by decide +kernel
theorem dX8_goesBy_157 : decode cX8_goesBy 157 = .ok (.iadd, 1) := by decide +kernel
theorem dX8_goesBy_158 : decode cX8_goesBy 158 = .ok (.aload_n 0, 1) := by decide +kernel
theorem dX8_goesBy_159 : decode cX8_goesBy 159 = .ok (.getfield 52, 3) := by decide +kernel
theorem dX8_goesBy_162 : decode cX8_goesBy 162 = .ok (.iload_n 3, 1) := by decide +kernel
theorem dX8_goesBy_163 : decode cX8_goesBy 163 = .ok (.iaload, 1) := by decide +kernel
theorem dX8_goesBy_164 : decode cX8_goesBy 164 = .ok (.iastore, 1) := by decide +kernel
theorem dX8_goesBy_165 : decode cX8_goesBy 165 = .ok (.aload_n 0, 1) := by decide +kernel
theorem dX8_goesBy_166 : decode cX8_goesBy 166 = .ok (.getfield 67, 3) := by decide +kernel
theorem dX8_goesBy_169 : decode cX8_goesBy 169 = .ok (.iload_n 1, 1) := by decide +kernel
theorem dX8_goesBy_170 : decode cX8_goesBy 170 = .ok (.dup2, 1) := by decide +kernel
theorem dX8_goesBy_171 : decode cX8_goesBy 171 = .ok (.iaload, 1) := by decide +kernel
theorem dX8_goesBy_172 : decode cX8_goesBy 172 = .ok (.aload_n 0, 1) := by decide +kernel
theorem dX8_goesBy_173 : decode cX8_goesBy 173 = .ok (.getfield 52, 3) := by decide +kernel
theorem dX8_goesBy_176 : decode cX8_goesBy 176 = .ok (.iload_n 3, 1) := by decide +kernel
theorem dX8_goesBy_177 : decode cX8_goesBy 177 = .ok (.iaload, 1) := by decide +kernel
theorem dX8_goesBy_178 : decode cX8_goesBy 178 = .ok (.iadd, 1) := by decide +kernel
theorem dX8_goesBy_179 : decode cX8_goesBy 179 = .ok (.iastore, 1) := by decide +kernel
theorem dX8_goesBy_180 : decode cX8_goesBy 180 = .ok (.iinc 3 1, 3) := by decide +kernel
theorem dX8_goesBy_183 : decode cX8_goesBy 183 = .ok (.goto (-60), 3) := by decide +kernel
theorem dX8_goesBy_186 : decode cX8_goesBy 186 = .ok (.return_, 1) := by decide +kernel
theorem dX8_runs_0 : decode cX8_runs 0 = .ok (.aload_n 0, 1) := by decide +kernel
theorem dX8_runs_1 : decode cX8_runs 1 = .ok (.iconst 0, 1) := by decide +kernel
theorem dX8_runs_2 : decode cX8_runs 2 = .ok (.putfield 205, 3) := by decide +kernel
theorem dX8_runs_5 : decode cX8_runs 5 = .ok (.aload_n 0, 1) := by decide +kernel
theorem dX8_runs_6 : decode cX8_runs 6 = .ok (.iconst 0, 1) := by decide +kernel
theorem dX8_runs_7 : decode cX8_runs 7 = .ok (.putfield 214, 3) := by decide +kernel
theorem dX8_runs_10 : decode cX8_runs 10 = .ok (.aload_n 0, 1) := by decide +kernel
theorem dX8_runs_11 : decode cX8_runs 11 = .ok (.iconst 0, 1) := by decide +kernel
theorem dX8_runs_12 : decode cX8_runs 12 = .ok (.putfield 238, 3) := by decide +kernel
theorem dX8_runs_15 : decode cX8_runs 15 = .ok (.aload_n 0, 1) := by decide +kernel
theorem dX8_runs_16 : decode cX8_runs 16 = .ok (.iconst (-1), 1) := by decide +kernel
theorem dX8_runs_17 : decode cX8_runs 17 = .ok (.putfield 208, 3) := by decide +kernel
theorem dX8_runs_20 : decode cX8_runs 20 = .ok (.aload_n 0, 1) := by decide +kernel
theorem dX8_runs_21 : decode cX8_runs 21 = .ok (.iconst (-1), 1) := by decide +kernel
theorem dX8_runs_22 : decode cX8_runs 22 = .ok (.putfield 211, 3) := by decide +kernel
theorem dX8_runs_25 : decode cX8_runs 25 = .ok (.iconst 0, 1) := by decide +kernel
theorem dX8_runs_26 : decode cX8_runs 26 = .ok (.istore_n 1, 1) := by decide +kernel
theorem dX8_runs_27 : decode cX8_runs 27 = .ok (.iload_n 1, 1) := by decide +kernel
theorem dX8_runs_28 : decode cX8_runs 28 = .ok (.iconst 2, 1) := by decide +kernel
theorem dX8_runs_29 : decode cX8_runs 29 = .ok (.if_icmp .ge 23, 3) := by decide +kernel
theorem dX8_runs_32 : decode cX8_runs 32 = .ok (.aload_n 0, 1) := by decide +kernel
theorem dX8_runs_33 : decode cX8_runs 33 = .ok (.getfield 58, 3) := by decide +kernel
theorem dX8_runs_36 : decode cX8_runs 36 = .ok (.iload_n 1, 1) := by decide +kernel
theorem dX8_runs_37 : decode cX8_runs 37 = .ok (.iconst 0, 1) := by decide +kernel
theorem dX8_runs_38 : decode cX8_runs 38 = .ok (.iastore, 1) := by decide +kernel
theorem dX8_runs_39 : decode cX8_runs 39 = .ok (.aload_n 0, 1) := by decide +kernel
theorem dX8_runs_40 : decode cX8_runs 40 = .ok (.getfield 61, 3) := by decide +kernel
theorem dX8_runs_43 : decode cX8_runs 43 = .ok (.iload_n 1, 1) := by decide +kernel
theorem dX8_runs_44 : decode cX8_runs 44 = .ok (.iconst 0, 1) := by decide +kernel
theorem dX8_runs_45 : decode cX8_runs 45 = .ok (.iastore, 1) := by decide +kernel
theorem dX8_runs_46 : decode cX8_runs 46 = .ok (.iinc 1 1, 3) := by decide +kernel
theorem dX8_runs_49 : decode cX8_runs 49 = .ok (.goto (-22), 3) := by decide +kernel
theorem dX8_runs_52 : decode cX8_runs 52 = .ok (.iconst 0, 1) := by decide +kernel
theorem dX8_runs_53 : decode cX8_runs 53 = .ok (.istore_n 1, 1) := by decide +kernel
theorem dX8_runs_54 : decode cX8_runs 54 = .ok (.iload_n 1, 1) := by decide +kernel
theorem dX8_runs_55 : decode cX8_runs 55 = .ok (.bipush 6, 2) := by decide +kernel
theorem dX8_runs_57 : decode cX8_runs 57 = .ok (.if_icmp .ge 35, 3) := by decide +kernel
theorem dX8_runs_60 : decode cX8_runs 60 = .ok (.aload_n 0, 1) := by decide +kernel
theorem dX8_runs_61 : decode cX8_runs 61 = .ok (.getfield 49, 3) := by decide +kernel
theorem dX8_runs_64 : decode cX8_runs 64 = .ok (.iload_n 1, 1) := by decide +kernel
theorem dX8_runs_65 : decode cX8_runs 65 = .ok (.aload_n 0, 1) := by decide +kernel
theorem dX8_runs_66 : decode cX8_runs 66 = .ok (.getfield 16, 3) := by decide +kernel
theorem dX8_runs_69 : decode cX8_runs 69 = .ok (.iload_n 1, 1) := by decide +kernel
theorem dX8_runs_70 : decode cX8_runs 70 = .ok (.iaload, 1) := by decide +kernel
theorem dX8_runs_71 : decode cX8_runs 71 = .ok (.iastore, 1) := by decide +kernel
theorem dX8_runs_72 : decode cX8_runs 72 = .ok (.aload_n 0, 1) := by decide +kernel
theorem dX8_runs_73 : decode cX8_runs 73 = .ok (.getfield 52, 3) := by decide +kernel
theorem dX8_runs_76 : decode cX8_runs 76 = .ok (.iload_n 1, 1) := by decide +kernel
theorem dX8_runs_77 : decode cX8_runs 77 = .ok (.iconst 0, 1) := by decide +kernel
theorem dX8_runs_78 : decode cX8_runs 78 = .ok (.iastore, 1) := by decide +kernel
theorem dX8_runs_79 : decode cX8_runs 79 = .ok (.aload_n 0, 1) := by decide +kernel
theorem dX8_runs_80 : decode cX8_runs 80 = .ok (.getfield 55, 3) := by decide +kernel
theorem dX8_runs_83 : decode cX8_runs 83 = .ok (.iload_n 1, 1) := by decide +kernel
theorem dX8_runs_84 : decode cX8_runs 84 = .ok (.iconst 0, 1) := by decide +kernel
theorem dX8_runs_85 : decode cX8_runs 85 = .ok (.iastore, 1) := by decide +kernel
theorem dX8_runs_86 : decode cX8_runs 86 = .ok (.iinc 1 1, 3) := by decide +kernel
theorem dX8_runs_89 : decode cX8_runs 89 = .ok (.goto (-35), 3) := by decide +kernel
theorem dX8_runs_92 : decode cX8_runs 92 = .ok (.iconst 0, 1) := by decide +kernel
theorem dX8_runs_93 : decode cX8_runs 93 = .ok (.istore_n 1, 1) := by decide +kernel
theorem dX8_runs_94 : decode cX8_runs 94 = .ok (.iload_n 1, 1) := by decide +kernel
theorem dX8_runs_95 : decode cX8_runs 95 = .ok (.bipush 24, 2) := by decide +kernel
theorem dX8_runs_97 : decode cX8_runs 97 = .ok (.if_icmp .ge 14, 3) := by decide +kernel
theorem dX8_runs_100 : decode cX8_runs 100 = .ok (.aload_n 0, 1) := by decide +kernel
theorem dX8_runs_101 : decode cX8_runs 101 = .ok (.iload_n 1, 1) := by decide +kernel
theorem dX8_runs_102 : decode cX8_runs 102 = .ok (.invokevirtual 241, 3) := by decide +kernel
theorem dX8_runs_105 : decode cX8_runs 105 = .ok (.iinc 1 1, 3) := by decide +kernel
theorem dX8_runs_108 : decode cX8_runs 108 = .ok (.goto (-14), 3) := by decide +kernel
theorem dX8_runs_111 : decode cX8_runs 111 = .ok (.return_, 1) := by decide +kernel
theorem dX8_runsTold_0 : decode cX8_runsTold 0 = .ok (.aload_n 0, 1) := by decide +kernel
theorem dX8_runsTold_1 : decode cX8_runsTold 1 = .ok (.invokevirtual 244, 3) := by decide +kernel
theorem dX8_runsTold_4 : decode cX8_runsTold 4 = .ok (.aload_n 0, 1) := by decide +kernel
theorem dX8_runsTold_5 : decode cX8_runsTold 5 = .ok (.invokevirtual 247, 3) := by decide +kernel
theorem dX8_runsTold_8 : decode cX8_runsTold 8 = .ok (.return_, 1) := by decide +kernel
theorem dX8_atOf_0 : decode cX8_atOf 0 = .ok (.aload_n 0, 1) := by decide +kernel
theorem dX8_atOf_1 : decode cX8_atOf 1 = .ok (.invokevirtual 250, 3) := by decide +kernel
theorem dX8_atOf_4 : decode cX8_atOf 4 = .ok (.iload_n 3, 1) := by decide +kernel
theorem dX8_atOf_5 : decode cX8_atOf 5 = .ok (.ifCond .ne 17, 3) := by decide +kernel
theorem dX8_atOf_8 : decode cX8_atOf 8 = .ok (.aload_n 0, 1) := by decide +kernel
theorem dX8_atOf_9 : decode cX8_atOf 9 = .ok (.getfield 73, 3) := by decide +kernel
theorem dX8_atOf_12 : decode cX8_atOf 12 = .ok (.bipush 6, 2) := by decide +kernel
theorem dX8_atOf_14 : decode cX8_atOf 14 = .ok (.iload_n 1, 1) := by decide +kernel
theorem dX8_atOf_15 : decode cX8_atOf 15 = .ok (.imul, 1) := by decide +kernel
theorem dX8_atOf_16 : decode cX8_atOf 16 = .ok (.iload_n 2, 1) := by decide +kernel
theorem dX8_atOf_17 : decode cX8_atOf 17 = .ok (.iadd, 1) := by decide +kernel
theorem dX8_atOf_18 : decode cX8_atOf 18 = .ok (.iaload, 1) := by decide +kernel
theorem dX8_atOf_19 : decode cX8_atOf 19 = .ok (.goto 14, 3) := by decide +kernel
theorem dX8_atOf_22 : decode cX8_atOf 22 = .ok (.aload_n 0, 1) := by decide +kernel
theorem dX8_atOf_23 : decode cX8_atOf 23 = .ok (.getfield 76, 3) := by decide +kernel
theorem dX8_atOf_26 : decode cX8_atOf 26 = .ok (.bipush 6, 2) := by decide +kernel
theorem dX8_atOf_28 : decode cX8_atOf 28 = .ok (.iload_n 1, 1) := by decide +kernel
theorem dX8_atOf_29 : decode cX8_atOf 29 = .ok (.imul, 1) := by decide +kernel
theorem dX8_atOf_30 : decode cX8_atOf 30 = .ok (.iload_n 2, 1) := by decide +kernel
theorem dX8_atOf_31 : decode cX8_atOf 31 = .ok (.iadd, 1) := by decide +kernel
theorem dX8_atOf_32 : decode cX8_atOf 32 = .ok (.iaload, 1) := by decide +kernel
theorem dX8_atOf_33 : decode cX8_atOf 33 = .ok (.ireturn, 1) := by decide +kernel
theorem dX8_at_0 : decode cX8_at 0 = .ok (.iload_n 1, 1) := by decide +kernel
theorem dX8_at_1 : decode cX8_at 1 = .ok (.invokestatic 132, 3) := by decide +kernel
theorem dX8_at_4 : decode cX8_at 4 = .ok (.ifCond .eq 28, 3) := by decide +kernel
theorem dX8_at_7 : decode cX8_at 7 = .ok (.aload_n 0, 1) := by decide +kernel
theorem dX8_at_8 : decode cX8_at 8 = .ok (.iload_n 2, 1) := by decide +kernel
theorem dX8_at_9 : decode cX8_at 9 = .ok (.invokevirtual 164, 3) := by decide +kernel
theorem dX8_at_12 : decode cX8_at 12 = .ok (.ifCond .eq 20, 3) := by decide +kernel
theorem dX8_at_15 : decode cX8_at 15 = .ok (.iload_n 3, 1) := by decide +kernel
theorem dX8_at_16 : decode cX8_at 16 = .ok (.invokestatic 253, 3) := by decide +kernel
theorem dX8_at_19 : decode cX8_at 19 = .ok (.ifCond .eq 13, 3) := by decide +kernel
theorem dX8_at_22 : decode cX8_at 22 = .ok (.aload_n 0, 1) := by decide +kernel
theorem dX8_at_23 : decode cX8_at 23 = .ok (.iload_n 1, 1) := by decide +kernel
theorem dX8_at_24 : decode cX8_at 24 = .ok (.iload_n 2, 1) := by decide +kernel
theorem dX8_at_25 : decode cX8_at 25 = .ok (.iload_n 3, 1) := by decide +kernel
theorem dX8_at_26 : decode cX8_at 26 = .ok (.invokevirtual 256, 3) := by decide +kernel
theorem dX8_at_29 : decode cX8_at 29 = .ok (.goto 5, 3) := by decide +kernel
theorem dX8_at_32 : decode cX8_at 32 = .ok (.bipush (-2), 2) := by decide +kernel
theorem dX8_at_34 : decode cX8_at 34 = .ok (.ireturn, 1) := by decide +kernel
theorem dX8_waitsOf_0 : decode cX8_waitsOf 0 = .ok (.aload_n 0, 1) := by decide +kernel
theorem dX8_waitsOf_1 : decode cX8_waitsOf 1 = .ok (.invokevirtual 250, 3) := by decide +kernel
theorem dX8_waitsOf_4 : decode cX8_waitsOf 4 = .ok (.iload_n 2, 1) := by decide +kernel
theorem dX8_waitsOf_5 : decode cX8_waitsOf 5 = .ok (.iconst 2, 1) := by decide +kernel
theorem dX8_waitsOf_6 : decode cX8_waitsOf 6 = .ok (.if_icmp .ge 16, 3) := by decide +kernel
theorem dX8_waitsOf_9 : decode cX8_waitsOf 9 = .ok (.aload_n 0, 1) := by decide +kernel
theorem dX8_waitsOf_10 : decode cX8_waitsOf 10 = .ok (.getfield 64, 3) := by decide +kernel
theorem dX8_waitsOf_13 : decode cX8_waitsOf 13 = .ok (.iconst 2, 1) := by decide +kernel
theorem dX8_waitsOf_14 : decode cX8_waitsOf 14 = .ok (.iload_n 1, 1) := by decide +kernel
theorem dX8_waitsOf_15 : decode cX8_waitsOf 15 = .ok (.imul, 1) := by decide +kernel
theorem dX8_waitsOf_16 : decode cX8_waitsOf 16 = .ok (.iload_n 2, 1) := by decide +kernel
theorem dX8_waitsOf_17 : decode cX8_waitsOf 17 = .ok (.iadd, 1) := by decide +kernel
theorem dX8_waitsOf_18 : decode cX8_waitsOf 18 = .ok (.iaload, 1) := by decide +kernel
theorem dX8_waitsOf_19 : decode cX8_waitsOf 19 = .ok (.goto 23, 3) := by decide +kernel
theorem dX8_waitsOf_22 : decode cX8_waitsOf 22 = .ok (.iload_n 2, 1) := by decide +kernel
theorem dX8_waitsOf_23 : decode cX8_waitsOf 23 = .ok (.iconst 2, 1) := by decide +kernel
theorem dX8_waitsOf_24 : decode cX8_waitsOf 24 = .ok (.if_icmp .ne 12, 3) := by decide +kernel
theorem dX8_waitsOf_27 : decode cX8_waitsOf 27 = .ok (.aload_n 0, 1) := by decide +kernel
theorem dX8_waitsOf_28 : decode cX8_waitsOf 28 = .ok (.getfield 67, 3) := by decide +kernel
theorem dX8_waitsOf_31 : decode cX8_waitsOf 31 = .ok (.iload_n 1, 1) := by decide +kernel
theorem dX8_waitsOf_32 : decode cX8_waitsOf 32 = .ok (.iaload, 1) := by decide +kernel
theorem dX8_waitsOf_33 : decode cX8_waitsOf 33 = .ok (.goto 9, 3) := by decide +kernel
theorem dX8_waitsOf_36 : decode cX8_waitsOf 36 = .ok (.aload_n 0, 1) := by decide +kernel
theorem dX8_waitsOf_37 : decode cX8_waitsOf 37 = .ok (.getfield 70, 3) := by decide +kernel
theorem dX8_waitsOf_40 : decode cX8_waitsOf 40 = .ok (.iload_n 1, 1) := by decide +kernel
theorem dX8_waitsOf_41 : decode cX8_waitsOf 41 = .ok (.iaload, 1) := by decide +kernel
theorem dX8_waitsOf_42 : decode cX8_waitsOf 42 = .ok (.ireturn, 1) := by decide +kernel
theorem dX8_waits_0 : decode cX8_waits 0 = .ok (.iload_n 1, 1) := by decide +kernel
theorem dX8_waits_1 : decode cX8_waits 1 = .ok (.invokestatic 132, 3) := by decide +kernel
theorem dX8_waits_4 : decode cX8_waits 4 = .ok (.ifCond .eq 21, 3) := by decide +kernel
theorem dX8_waits_7 : decode cX8_waits 7 = .ok (.iload_n 2, 1) := by decide +kernel
theorem dX8_waits_8 : decode cX8_waits 8 = .ok (.iconst 0, 1) := by decide +kernel
theorem dX8_waits_9 : decode cX8_waits 9 = .ok (.iconst 3, 1) := by decide +kernel
theorem dX8_waits_10 : decode cX8_waits 10 = .ok (.invokestatic 112, 3) := by decide +kernel
theorem dX8_waits_13 : decode cX8_waits 13 = .ok (.ifCond .eq 12, 3) := by decide +kernel
theorem dX8_waits_16 : decode cX8_waits 16 = .ok (.aload_n 0, 1) := by decide +kernel
theorem dX8_waits_17 : decode cX8_waits 17 = .ok (.iload_n 1, 1) := by decide +kernel
theorem dX8_waits_18 : decode cX8_waits 18 = .ok (.iload_n 2, 1) := by decide +kernel
theorem dX8_waits_19 : decode cX8_waits 19 = .ok (.invokevirtual 259, 3) := by decide +kernel
theorem dX8_waits_22 : decode cX8_waits 22 = .ok (.goto 5, 3) := by decide +kernel
theorem dX8_waits_25 : decode cX8_waits 25 = .ok (.bipush (-2), 2) := by decide +kernel
theorem dX8_waits_27 : decode cX8_waits 27 = .ok (.ireturn, 1) := by decide +kernel
theorem dX8_overOf_0 : decode cX8_overOf 0 = .ok (.aload_n 0, 1) := by decide +kernel
theorem dX8_overOf_1 : decode cX8_overOf 1 = .ok (.invokevirtual 250, 3) := by decide +kernel
theorem dX8_overOf_4 : decode cX8_overOf 4 = .ok (.aload_n 0, 1) := by decide +kernel
theorem dX8_overOf_5 : decode cX8_overOf 5 = .ok (.getfield 61, 3) := by decide +kernel
theorem dX8_overOf_8 : decode cX8_overOf 8 = .ok (.iload_n 1, 1) := by decide +kernel
theorem dX8_overOf_9 : decode cX8_overOf 9 = .ok (.iaload, 1) := by decide +kernel
theorem dX8_overOf_10 : decode cX8_overOf 10 = .ok (.ireturn, 1) := by decide +kernel
theorem dX8_over_0 : decode cX8_over 0 = .ok (.iload_n 1, 1) := by decide +kernel
theorem dX8_over_1 : decode cX8_over 1 = .ok (.invokestatic 253, 3) := by decide +kernel
theorem dX8_over_4 : decode cX8_over 4 = .ok (.ifCond .eq 11, 3) := by decide +kernel
theorem dX8_over_7 : decode cX8_over 7 = .ok (.aload_n 0, 1) := by decide +kernel
theorem dX8_over_8 : decode cX8_over 8 = .ok (.iload_n 1, 1) := by decide +kernel
theorem dX8_over_9 : decode cX8_over 9 = .ok (.invokevirtual 262, 3) := by decide +kernel
theorem dX8_over_12 : decode cX8_over 12 = .ok (.goto 5, 3) := by decide +kernel
theorem dX8_over_15 : decode cX8_over 15 = .ok (.bipush (-2), 2) := by decide +kernel
theorem dX8_over_17 : decode cX8_over 17 = .ok (.ireturn, 1) := by decide +kernel
theorem dX8_sumOf_0 : decode cX8_sumOf 0 = .ok (.aload_n 0, 1) := by decide +kernel
theorem dX8_sumOf_1 : decode cX8_sumOf 1 = .ok (.invokevirtual 250, 3) := by decide +kernel
theorem dX8_sumOf_4 : decode cX8_sumOf 4 = .ok (.aload_n 0, 1) := by decide +kernel
theorem dX8_sumOf_5 : decode cX8_sumOf 5 = .ok (.getfield 238, 3) := by decide +kernel
theorem dX8_sumOf_8 : decode cX8_sumOf 8 = .ok (.ireturn, 1) := by decide +kernel
theorem dX8_sum_0 : decode cX8_sum 0 = .ok (.aload_n 0, 1) := by decide +kernel
theorem dX8_sum_1 : decode cX8_sum 1 = .ok (.invokevirtual 265, 3) := by decide +kernel
theorem dX8_sum_4 : decode cX8_sum 4 = .ok (.ireturn, 1) := by decide +kernel
theorem dX8_crowdOf_0 : decode cX8_crowdOf 0 = .ok (.aload_n 0, 1) := by decide +kernel
theorem dX8_crowdOf_1 : decode cX8_crowdOf 1 = .ok (.invokevirtual 250, 3) := by decide +kernel
theorem dX8_crowdOf_4 : decode cX8_crowdOf 4 = .ok (.iconst 0, 1) := by decide +kernel
theorem dX8_crowdOf_5 : decode cX8_crowdOf 5 = .ok (.istore_n 3, 1) := by decide +kernel
theorem dX8_crowdOf_6 : decode cX8_crowdOf 6 = .ok (.iconst 1, 1) := by decide +kernel
theorem dX8_crowdOf_7 : decode cX8_crowdOf 7 = .ok (.istore 4, 2) := by decide +kernel
theorem dX8_crowdOf_9 : decode cX8_crowdOf 9 = .ok (.iload 4, 2) := by decide +kernel
theorem dX8_crowdOf_11 : decode cX8_crowdOf 11 = .ok (.bipush 24, 2) := by decide +kernel
theorem dX8_crowdOf_13 : decode cX8_crowdOf 13 = .ok (.if_icmp .ge 40, 3) := by decide +kernel
theorem dX8_crowdOf_16 : decode cX8_crowdOf 16 = .ok (.aload_n 0, 1) := by decide +kernel
theorem dX8_crowdOf_17 : decode cX8_crowdOf 17 = .ok (.getfield 64, 3) := by decide +kernel
theorem dX8_crowdOf_20 : decode cX8_crowdOf 20 = .ok (.iconst 2, 1) := by decide +kernel
theorem dX8_crowdOf_21 : decode cX8_crowdOf 21 = .ok (.iload 4, 2) := by decide +kernel
theorem dX8_crowdOf_23 : decode cX8_crowdOf 23 = .ok (.imul, 1) := by decide +kernel
theorem dX8_crowdOf_24 : decode cX8_crowdOf 24 = .ok (.iload_n 1, 1) := by decide +kernel
theorem dX8_crowdOf_25 : decode cX8_crowdOf 25 = .ok (.iadd, 1) := by decide +kernel
theorem dX8_crowdOf_26 : decode cX8_crowdOf 26 = .ok (.iaload, 1) := by decide +kernel
theorem dX8_crowdOf_27 : decode cX8_crowdOf 27 = .ok (.aload_n 0, 1) := by decide +kernel
theorem dX8_crowdOf_28 : decode cX8_crowdOf 28 = .ok (.getfield 64, 3) := by decide +kernel
theorem dX8_crowdOf_31 : decode cX8_crowdOf 31 = .ok (.iconst 2, 1) := by decide +kernel
theorem dX8_crowdOf_32 : decode cX8_crowdOf 32 = .ok (.iload_n 3, 1) := by decide +kernel
theorem dX8_crowdOf_33 : decode cX8_crowdOf 33 = .ok (.imul, 1) := by decide +kernel
theorem dX8_crowdOf_34 : decode cX8_crowdOf 34 = .ok (.iload_n 1, 1) := by decide +kernel
theorem dX8_crowdOf_35 : decode cX8_crowdOf 35 = .ok (.iadd, 1) := by decide +kernel
theorem dX8_crowdOf_36 : decode cX8_crowdOf 36 = .ok (.iaload, 1) := by decide +kernel
theorem dX8_crowdOf_37 : decode cX8_crowdOf 37 = .ok (.if_icmp .le 8, 3) := by decide +kernel
theorem dX8_crowdOf_40 : decode cX8_crowdOf 40 = .ok (.iload 4, 2) := by decide +kernel
theorem dX8_crowdOf_42 : decode cX8_crowdOf 42 = .ok (.goto 4, 3) := by decide +kernel
theorem dX8_crowdOf_45 : decode cX8_crowdOf 45 = .ok (.iload_n 3, 1) := by decide +kernel
theorem dX8_crowdOf_46 : decode cX8_crowdOf 46 = .ok (.istore_n 3, 1) := by decide +kernel
theorem dX8_crowdOf_47 : decode cX8_crowdOf 47 = .ok (.iinc 4 1, 3) := by decide +kernel
theorem dX8_crowdOf_50 : decode cX8_crowdOf 50 = .ok (.goto (-41), 3) := by decide +kernel
theorem dX8_crowdOf_53 : decode cX8_crowdOf 53 = .ok (.iload_n 2, 1) := by decide +kernel
theorem dX8_crowdOf_54 : decode cX8_crowdOf 54 = .ok (.ifCond .ne 7, 3) := by decide +kernel
theorem dX8_crowdOf_57 : decode cX8_crowdOf 57 = .ok (.iload_n 3, 1) := by decide +kernel
theorem dX8_crowdOf_58 : decode cX8_crowdOf 58 = .ok (.goto 13, 3) := by decide +kernel
theorem dX8_crowdOf_61 : decode cX8_crowdOf 61 = .ok (.aload_n 0, 1) := by decide +kernel
theorem dX8_crowdOf_62 : decode cX8_crowdOf 62 = .ok (.getfield 64, 3) := by decide +kernel
theorem dX8_crowdOf_65 : decode cX8_crowdOf 65 = .ok (.iconst 2, 1) := by decide +kernel
theorem dX8_crowdOf_66 : decode cX8_crowdOf 66 = .ok (.iload_n 3, 1) := by decide +kernel
theorem dX8_crowdOf_67 : decode cX8_crowdOf 67 = .ok (.imul, 1) := by decide +kernel
theorem dX8_crowdOf_68 : decode cX8_crowdOf 68 = .ok (.iload_n 1, 1) := by decide +kernel
theorem dX8_crowdOf_69 : decode cX8_crowdOf 69 = .ok (.iadd, 1) := by decide +kernel
theorem dX8_crowdOf_70 : decode cX8_crowdOf 70 = .ok (.iaload, 1) := by decide +kernel
theorem dX8_crowdOf_71 : decode cX8_crowdOf 71 = .ok (.ireturn, 1) := by decide +kernel
theorem dX8_crowd_0 : decode cX8_crowd 0 = .ok (.iload_n 1, 1) := by decide +kernel
theorem dX8_crowd_1 : decode cX8_crowd 1 = .ok (.invokestatic 253, 3) := by decide +kernel
theorem dX8_crowd_4 : decode cX8_crowd 4 = .ok (.ifCond .eq 19, 3) := by decide +kernel
theorem dX8_crowd_7 : decode cX8_crowd 7 = .ok (.iload_n 2, 1) := by decide +kernel
theorem dX8_crowd_8 : decode cX8_crowd 8 = .ok (.invokestatic 253, 3) := by decide +kernel
theorem dX8_crowd_11 : decode cX8_crowd 11 = .ok (.ifCond .eq 12, 3) := by decide +kernel
theorem dX8_crowd_14 : decode cX8_crowd 14 = .ok (.aload_n 0, 1) := by decide +kernel
theorem dX8_crowd_15 : decode cX8_crowd 15 = .ok (.iload_n 1, 1) := by decide +kernel
theorem dX8_crowd_16 : decode cX8_crowd 16 = .ok (.iload_n 2, 1) := by decide +kernel
theorem dX8_crowd_17 : decode cX8_crowd 17 = .ok (.invokevirtual 268, 3) := by decide +kernel
theorem dX8_crowd_20 : decode cX8_crowd 20 = .ok (.goto 5, 3) := by decide +kernel
theorem dX8_crowd_23 : decode cX8_crowd 23 = .ok (.bipush (-2), 2) := by decide +kernel
theorem dX8_crowd_25 : decode cX8_crowd 25 = .ok (.ireturn, 1) := by decide +kernel
theorem dX8_firstOf_0 : decode cX8_firstOf 0 = .ok (.aload_n 0, 1) := by decide +kernel
theorem dX8_firstOf_1 : decode cX8_firstOf 1 = .ok (.invokevirtual 250, 3) := by decide +kernel
theorem dX8_firstOf_4 : decode cX8_firstOf 4 = .ok (.iload_n 1, 1) := by decide +kernel
theorem dX8_firstOf_5 : decode cX8_firstOf 5 = .ok (.ifCond .ne 10, 3) := by decide +kernel
theorem dX8_firstOf_8 : decode cX8_firstOf 8 = .ok (.aload_n 0, 1) := by decide +kernel
theorem dX8_firstOf_9 : decode cX8_firstOf 9 = .ok (.getfield 208, 3) := by decide +kernel
theorem dX8_firstOf_12 : decode cX8_firstOf 12 = .ok (.goto 7, 3) := by decide +kernel
theorem dX8_firstOf_15 : decode cX8_firstOf 15 = .ok (.aload_n 0, 1) := by decide +kernel
theorem dX8_firstOf_16 : decode cX8_firstOf 16 = .ok (.getfield 211, 3) := by decide +kernel
theorem dX8_firstOf_19 : decode cX8_firstOf 19 = .ok (.ireturn, 1) := by decide +kernel
theorem dX8_first_0 : decode cX8_first 0 = .ok (.iload_n 1, 1) := by decide +kernel
theorem dX8_first_1 : decode cX8_first 1 = .ok (.invokestatic 253, 3) := by decide +kernel
theorem dX8_first_4 : decode cX8_first 4 = .ok (.ifCond .eq 11, 3) := by decide +kernel
theorem dX8_first_7 : decode cX8_first 7 = .ok (.aload_n 0, 1) := by decide +kernel
theorem dX8_first_8 : decode cX8_first 8 = .ok (.iload_n 1, 1) := by decide +kernel
theorem dX8_first_9 : decode cX8_first 9 = .ok (.invokevirtual 271, 3) := by decide +kernel
theorem dX8_first_12 : decode cX8_first 12 = .ok (.goto 5, 3) := by decide +kernel
theorem dX8_first_15 : decode cX8_first 15 = .ok (.bipush (-2), 2) := by decide +kernel
theorem dX8_first_17 : decode cX8_first 17 = .ok (.ireturn, 1) := by decide +kernel
theorem dX8_carriedOf_0 : decode cX8_carriedOf 0 = .ok (.aload_n 0, 1) := by decide +kernel
theorem dX8_carriedOf_1 : decode cX8_carriedOf 1 = .ok (.invokevirtual 250, 3) := by decide +kernel
theorem dX8_carriedOf_4 : decode cX8_carriedOf 4 = .ok (.aload_n 0, 1) := by decide +kernel
theorem dX8_carriedOf_5 : decode cX8_carriedOf 5 = .ok (.getfield 55, 3) := by decide +kernel
theorem dX8_carriedOf_8 : decode cX8_carriedOf 8 = .ok (.iload_n 1, 1) := by decide +kernel
theorem dX8_carriedOf_9 : decode cX8_carriedOf 9 = .ok (.iaload, 1) := by decide +kernel
theorem dX8_carriedOf_10 : decode cX8_carriedOf 10 = .ok (.ireturn, 1) := by decide +kernel
theorem dX8_carried_0 : decode cX8_carried 0 = .ok (.aload_n 0, 1) := by decide +kernel
theorem dX8_carried_1 : decode cX8_carried 1 = .ok (.iload_n 1, 1) := by decide +kernel
theorem dX8_carried_2 : decode cX8_carried 2 = .ok (.invokevirtual 164, 3) := by decide +kernel
theorem dX8_carried_5 : decode cX8_carried 5 = .ok (.ifCond .eq 11, 3) := by decide +kernel
theorem dX8_carried_8 : decode cX8_carried 8 = .ok (.aload_n 0, 1) := by decide +kernel
theorem dX8_carried_9 : decode cX8_carried 9 = .ok (.iload_n 1, 1) := by decide +kernel
theorem dX8_carried_10 : decode cX8_carried 10 = .ok (.invokevirtual 274, 3) := by decide +kernel
theorem dX8_carried_13 : decode cX8_carried 13 = .ok (.goto 5, 3) := by decide +kernel
theorem dX8_carried_16 : decode cX8_carried 16 = .ok (.bipush (-2), 2) := by decide +kernel
theorem dX8_carried_18 : decode cX8_carried 18 = .ok (.ireturn, 1) := by decide +kernel
theorem dX8_idleOf_0 : decode cX8_idleOf 0 = .ok (.aload_n 0, 1) := by decide +kernel
theorem dX8_idleOf_1 : decode cX8_idleOf 1 = .ok (.invokevirtual 250, 3) := by decide +kernel
theorem dX8_idleOf_4 : decode cX8_idleOf 4 = .ok (.iconst 1, 1) := by decide +kernel
theorem dX8_idleOf_5 : decode cX8_idleOf 5 = .ok (.aload_n 0, 1) := by decide +kernel
theorem dX8_idleOf_6 : decode cX8_idleOf 6 = .ok (.getfield 135, 3) := by decide +kernel
theorem dX8_idleOf_9 : decode cX8_idleOf 9 = .ok (.ishl, 1) := by decide +kernel
theorem dX8_idleOf_10 : decode cX8_idleOf 10 = .ok (.iconst 1, 1) := by decide +kernel
theorem dX8_idleOf_11 : decode cX8_idleOf 11 = .ok (.isub, 1) := by decide +kernel
theorem dX8_idleOf_12 : decode cX8_idleOf 12 = .ok (.aload_n 0, 1) := by decide +kernel
theorem dX8_idleOf_13 : decode cX8_idleOf 13 = .ok (.getfield 214, 3) := by decide +kernel
theorem dX8_idleOf_16 : decode cX8_idleOf 16 = .ok (.iconst (-1), 1) := by decide +kernel
theorem dX8_idleOf_17 : decode cX8_idleOf 17 = .ok (.ixor, 1) := by decide +kernel
theorem dX8_idleOf_18 : decode cX8_idleOf 18 = .ok (.iand, 1) := by decide +kernel
theorem dX8_idleOf_19 : decode cX8_idleOf 19 = .ok (.ireturn, 1) := by decide +kernel
theorem dX8_idle_0 : decode cX8_idle 0 = .ok (.aload_n 0, 1) := by decide +kernel
theorem dX8_idle_1 : decode cX8_idle 1 = .ok (.invokevirtual 277, 3) := by decide +kernel
theorem dX8_idle_4 : decode cX8_idle 4 = .ok (.ireturn, 1) := by decide +kernel
theorem dX8_leftNow_0 : decode cX8_leftNow 0 = .ok (.aload_n 0, 1) := by decide +kernel
theorem dX8_leftNow_1 : decode cX8_leftNow 1 = .ok (.getfield 58, 3) := by decide +kernel
theorem dX8_leftNow_4 : decode cX8_leftNow 4 = .ok (.iconst 0, 1) := by decide +kernel
theorem dX8_leftNow_5 : decode cX8_leftNow 5 = .ok (.iaload, 1) := by decide +kernel
theorem dX8_leftNow_6 : decode cX8_leftNow 6 = .ok (.aload_n 0, 1) := by decide +kernel
theorem dX8_leftNow_7 : decode cX8_leftNow 7 = .ok (.getfield 58, 3) := by decide +kernel
theorem dX8_leftNow_10 : decode cX8_leftNow 10 = .ok (.iconst 1, 1) := by decide +kernel
theorem dX8_leftNow_11 : decode cX8_leftNow 11 = .ok (.iaload, 1) := by decide +kernel
theorem dX8_leftNow_12 : decode cX8_leftNow 12 = .ok (.iadd, 1) := by decide +kernel
theorem dX8_leftNow_13 : decode cX8_leftNow 13 = .ok (.aload_n 0, 1) := by decide +kernel
theorem dX8_leftNow_14 : decode cX8_leftNow 14 = .ok (.getfield 67, 3) := by decide +kernel
theorem dX8_leftNow_17 : decode cX8_leftNow 17 = .ok (.bipush 23, 2) := by decide +kernel
theorem dX8_leftNow_19 : decode cX8_leftNow 19 = .ok (.iaload, 1) := by decide +kernel
theorem dX8_leftNow_20 : decode cX8_leftNow 20 = .ok (.iadd, 1) := by decide +kernel
theorem dX8_leftNow_21 : decode cX8_leftNow 21 = .ok (.ireturn, 1) := by decide +kernel
theorem dX8_leftOf_0 : decode cX8_leftOf 0 = .ok (.aload_n 0, 1) := by decide +kernel
theorem dX8_leftOf_1 : decode cX8_leftOf 1 = .ok (.invokevirtual 250, 3) := by decide +kernel
theorem dX8_leftOf_4 : decode cX8_leftOf 4 = .ok (.aload_n 0, 1) := by decide +kernel
theorem dX8_leftOf_5 : decode cX8_leftOf 5 = .ok (.invokevirtual 280, 3) := by decide +kernel
theorem dX8_leftOf_8 : decode cX8_leftOf 8 = .ok (.ireturn, 1) := by decide +kernel
theorem dX8_left_0 : decode cX8_left 0 = .ok (.aload_n 0, 1) := by decide +kernel
theorem dX8_left_1 : decode cX8_left 1 = .ok (.invokevirtual 283, 3) := by decide +kernel
theorem dX8_left_4 : decode cX8_left 4 = .ok (.ireturn, 1) := by decide +kernel
theorem dX8_bothOver_0 : decode cX8_bothOver 0 = .ok (.aload_n 0, 1) := by decide +kernel
theorem dX8_bothOver_1 : decode cX8_bothOver 1 = .ok (.getfield 61, 3) := by decide +kernel
theorem dX8_bothOver_4 : decode cX8_bothOver 4 = .ok (.iconst 0, 1) := by decide +kernel
theorem dX8_bothOver_5 : decode cX8_bothOver 5 = .ok (.iaload, 1) := by decide +kernel
theorem dX8_bothOver_6 : decode cX8_bothOver 6 = .ok (.aload_n 0, 1) := by decide +kernel
theorem dX8_bothOver_7 : decode cX8_bothOver 7 = .ok (.getfield 61, 3) := by decide +kernel
theorem dX8_bothOver_10 : decode cX8_bothOver 10 = .ok (.iconst 1, 1) := by decide +kernel
theorem dX8_bothOver_11 : decode cX8_bothOver 11 = .ok (.iaload, 1) := by decide +kernel
theorem dX8_bothOver_12 : decode cX8_bothOver 12 = .ok (.iadd, 1) := by decide +kernel
theorem dX8_bothOver_13 : decode cX8_bothOver 13 = .ok (.ireturn, 1) := by decide +kernel
theorem dX8_isOther_0 : decode cX8_isOther 0 = .ok (.iconst 0, 1) := by decide +kernel
theorem dX8_isOther_1 : decode cX8_isOther 1 = .ok (.istore_n 3, 1) := by decide +kernel
theorem dX8_isOther_2 : decode cX8_isOther 2 = .ok (.iconst 0, 1) := by decide +kernel
theorem dX8_isOther_3 : decode cX8_isOther 3 = .ok (.istore 4, 2) := by decide +kernel
theorem dX8_isOther_5 : decode cX8_isOther 5 = .ok (.iload 4, 2) := by decide +kernel
theorem dX8_isOther_7 : decode cX8_isOther 7 = .ok (.aload_n 0, 1) := by decide +kernel
theorem dX8_isOther_8 : decode cX8_isOther 8 = .ok (.getfield 135, 3) := by decide +kernel
theorem dX8_isOther_11 : decode cX8_isOther 11 = .ok (.if_icmp .ge 36, 3) := by decide +kernel
theorem dX8_isOther_14 : decode cX8_isOther 14 = .ok (.iload_n 3, 1) := by decide +kernel
theorem dX8_isOther_15 : decode cX8_isOther 15 = .ok (.ifCond .ne 20, 3) := by decide +kernel
theorem dX8_isOther_18 : decode cX8_isOther 18 = .ok (.iload 4, 2) := by decide +kernel
theorem dX8_isOther_20 : decode cX8_isOther 20 = .ok (.iload_n 1, 1) := by decide +kernel
theorem dX8_isOther_21 : decode cX8_isOther 21 = .ok (.if_icmp .eq 18, 3) := by decide +kernel
theorem dX8_isOther_24 : decode cX8_isOther 24 = .ok (.aload_n 0, 1) := by decide +kernel
theorem dX8_isOther_25 : decode cX8_isOther 25 = .ok (.getfield 16, 3) := by decide +kernel
theorem dX8_isOther_28 : decode cX8_isOther 28 = .ok (.iload 4, 2) := by decide +kernel
theorem dX8_isOther_30 : decode cX8_isOther 30 = .ok (.iaload, 1) := by decide +kernel
theorem dX8_isOther_31 : decode cX8_isOther 31 = .ok (.iload_n 2, 1) := by decide +kernel
theorem dX8_isOther_32 : decode cX8_isOther 32 = .ok (.if_icmp .ne 7, 3) := by decide +kernel
theorem dX8_isOther_35 : decode cX8_isOther 35 = .ok (.iconst 1, 1) := by decide +kernel
theorem dX8_isOther_36 : decode cX8_isOther 36 = .ok (.goto 4, 3) := by decide +kernel
theorem dX8_isOther_39 : decode cX8_isOther 39 = .ok (.iconst 0, 1) := by decide +kernel
theorem dX8_isOther_40 : decode cX8_isOther 40 = .ok (.istore_n 3, 1) := by decide +kernel
theorem dX8_isOther_41 : decode cX8_isOther 41 = .ok (.iinc 4 1, 3) := by decide +kernel
theorem dX8_isOther_44 : decode cX8_isOther 44 = .ok (.goto (-39), 3) := by decide +kernel
theorem dX8_isOther_47 : decode cX8_isOther 47 = .ok (.iload_n 3, 1) := by decide +kernel
theorem dX8_isOther_48 : decode cX8_isOther 48 = .ok (.ireturn, 1) := by decide +kernel
theorem dX8_hangOf_0 : decode cX8_hangOf 0 = .ok (.aload_n 0, 1) := by decide +kernel
theorem dX8_hangOf_1 : decode cX8_hangOf 1 = .ok (.invokevirtual 244, 3) := by decide +kernel
theorem dX8_hangOf_4 : decode cX8_hangOf 4 = .ok (.aload_n 0, 1) := by decide +kernel
theorem dX8_hangOf_5 : decode cX8_hangOf 5 = .ok (.getfield 16, 3) := by decide +kernel
theorem dX8_hangOf_8 : decode cX8_hangOf 8 = .ok (.iload_n 1, 1) := by decide +kernel
theorem dX8_hangOf_9 : decode cX8_hangOf 9 = .ok (.iaload, 1) := by decide +kernel
theorem dX8_hangOf_10 : decode cX8_hangOf 10 = .ok (.istore_n 3, 1) := by decide +kernel
theorem dX8_hangOf_11 : decode cX8_hangOf 11 = .ok (.iconst (-1), 1) := by decide +kernel
theorem dX8_hangOf_12 : decode cX8_hangOf 12 = .ok (.istore 4, 2) := by decide +kernel
theorem dX8_hangOf_14 : decode cX8_hangOf 14 = .ok (.iconst (-1), 1) := by decide +kernel
theorem dX8_hangOf_15 : decode cX8_hangOf 15 = .ok (.istore 5, 2) := by decide +kernel
theorem dX8_hangOf_17 : decode cX8_hangOf 17 = .ok (.iconst 0, 1) := by decide +kernel
theorem dX8_hangOf_18 : decode cX8_hangOf 18 = .ok (.istore 6, 2) := by decide +kernel
theorem dX8_hangOf_20 : decode cX8_hangOf 20 = .ok (.iload 6, 2) := by decide +kernel
theorem dX8_hangOf_22 : decode cX8_hangOf 22 = .ok (.bipush 24, 2) := by decide +kernel
theorem dX8_hangOf_24 : decode cX8_hangOf 24 = .ok (.if_icmp .ge 69, 3) := by decide +kernel
theorem dX8_hangOf_27 : decode cX8_hangOf 27 = .ok (.aload_n 0, 1) := by decide +kernel
theorem dX8_hangOf_28 : decode cX8_hangOf 28 = .ok (.iload_n 1, 1) := by decide +kernel
theorem dX8_hangOf_29 : decode cX8_hangOf 29 = .ok (.iload 6, 2) := by decide +kernel
theorem dX8_hangOf_31 : decode cX8_hangOf 31 = .ok (.invokevirtual 286, 3) := by decide +kernel
theorem dX8_hangOf_34 : decode cX8_hangOf 34 = .ok (.ifCond .ne 53, 3) := by decide +kernel
theorem dX8_hangOf_37 : decode cX8_hangOf 37 = .ok (.aload_n 0, 1) := by decide +kernel
theorem dX8_hangOf_38 : decode cX8_hangOf 38 = .ok (.getfield 16, 3) := by decide +kernel
theorem dX8_hangOf_41 : decode cX8_hangOf 41 = .ok (.iload_n 1, 1) := by decide +kernel
theorem dX8_hangOf_42 : decode cX8_hangOf 42 = .ok (.iload 6, 2) := by decide +kernel
theorem dX8_hangOf_44 : decode cX8_hangOf 44 = .ok (.iastore, 1) := by decide +kernel
theorem dX8_hangOf_45 : decode cX8_hangOf 45 = .ok (.aload_n 0, 1) := by decide +kernel
theorem dX8_hangOf_46 : decode cX8_hangOf 46 = .ok (.invokevirtual 247, 3) := by decide +kernel
theorem dX8_hangOf_49 : decode cX8_hangOf 49 = .ok (.aload_n 0, 1) := by decide +kernel
theorem dX8_hangOf_50 : decode cX8_hangOf 50 = .ok (.invokevirtual 289, 3) := by decide +kernel
theorem dX8_hangOf_53 : decode cX8_hangOf 53 = .ok (.istore 7, 2) := by decide +kernel
theorem dX8_hangOf_55 : decode cX8_hangOf 55 = .ok (.iload 7, 2) := by decide +kernel
theorem dX8_hangOf_57 : decode cX8_hangOf 57 = .ok (.iload 5, 2) := by decide +kernel
theorem dX8_hangOf_59 : decode cX8_hangOf 59 = .ok (.if_icmp .le 8, 3) := by decide +kernel
theorem dX8_hangOf_62 : decode cX8_hangOf 62 = .ok (.iload 6, 2) := by decide +kernel
theorem dX8_hangOf_64 : decode cX8_hangOf 64 = .ok (.goto 5, 3) := by decide +kernel
theorem dX8_hangOf_67 : decode cX8_hangOf 67 = .ok (.iload 4, 2) := by decide +kernel
theorem dX8_hangOf_69 : decode cX8_hangOf 69 = .ok (.istore 4, 2) := by decide +kernel
theorem dX8_hangOf_71 : decode cX8_hangOf 71 = .ok (.iload 7, 2) := by decide +kernel
theorem dX8_hangOf_73 : decode cX8_hangOf 73 = .ok (.iload 5, 2) := by decide +kernel
theorem dX8_hangOf_75 : decode cX8_hangOf 75 = .ok (.if_icmp .le 8, 3) := by decide +kernel
theorem dX8_hangOf_78 : decode cX8_hangOf 78 = .ok (.iload 7, 2) := by decide +kernel
theorem dX8_hangOf_80 : decode cX8_hangOf 80 = .ok (.goto 5, 3) := by decide +kernel
theorem dX8_hangOf_83 : decode cX8_hangOf 83 = .ok (.iload 5, 2) := by decide +kernel
theorem dX8_hangOf_85 : decode cX8_hangOf 85 = .ok (.istore 5, 2) := by decide +kernel
theorem dX8_hangOf_87 : decode cX8_hangOf 87 = .ok (.iinc 6 1, 3) := by decide +kernel
theorem dX8_hangOf_90 : decode cX8_hangOf 90 = .ok (.goto (-70), 3) := by decide +kernel
theorem dX8_hangOf_93 : decode cX8_hangOf 93 = .ok (.aload_n 0, 1) := by decide +kernel
theorem dX8_hangOf_94 : decode cX8_hangOf 94 = .ok (.getfield 16, 3) := by decide +kernel
theorem dX8_hangOf_97 : decode cX8_hangOf 97 = .ok (.iload_n 1, 1) := by decide +kernel
theorem dX8_hangOf_98 : decode cX8_hangOf 98 = .ok (.iload_n 3, 1) := by decide +kernel
theorem dX8_hangOf_99 : decode cX8_hangOf 99 = .ok (.iastore, 1) := by decide +kernel
theorem dX8_hangOf_100 : decode cX8_hangOf 100 = .ok (.iload_n 2, 1) := by decide +kernel
theorem dX8_hangOf_101 : decode cX8_hangOf 101 = .ok (.ifCond .ne 8, 3) := by decide +kernel
theorem dX8_hangOf_104 : decode cX8_hangOf 104 = .ok (.iload 4, 2) := by decide +kernel
theorem dX8_hangOf_106 : decode cX8_hangOf 106 = .ok (.goto 5, 3) := by decide +kernel
theorem dX8_hangOf_109 : decode cX8_hangOf 109 = .ok (.iload 5, 2) := by decide +kernel
theorem dX8_hangOf_111 : decode cX8_hangOf 111 = .ok (.ireturn, 1) := by decide +kernel
theorem dX8_hang_0 : decode cX8_hang 0 = .ok (.aload_n 0, 1) := by decide +kernel
theorem dX8_hang_1 : decode cX8_hang 1 = .ok (.iload_n 1, 1) := by decide +kernel
theorem dX8_hang_2 : decode cX8_hang 2 = .ok (.invokevirtual 164, 3) := by decide +kernel
theorem dX8_hang_5 : decode cX8_hang 5 = .ok (.ifCond .eq 19, 3) := by decide +kernel
theorem dX8_hang_8 : decode cX8_hang 8 = .ok (.iload_n 2, 1) := by decide +kernel
theorem dX8_hang_9 : decode cX8_hang 9 = .ok (.invokestatic 253, 3) := by decide +kernel
theorem dX8_hang_12 : decode cX8_hang 12 = .ok (.ifCond .eq 12, 3) := by decide +kernel
theorem dX8_hang_15 : decode cX8_hang 15 = .ok (.aload_n 0, 1) := by decide +kernel
theorem dX8_hang_16 : decode cX8_hang 16 = .ok (.iload_n 1, 1) := by decide +kernel
theorem dX8_hang_17 : decode cX8_hang 17 = .ok (.iload_n 2, 1) := by decide +kernel
theorem dX8_hang_18 : decode cX8_hang 18 = .ok (.invokevirtual 292, 3) := by decide +kernel
theorem dX8_hang_21 : decode cX8_hang 21 = .ok (.goto 5, 3) := by decide +kernel
theorem dX8_hang_24 : decode cX8_hang 24 = .ok (.bipush (-2), 2) := by decide +kernel
theorem dX8_hang_26 : decode cX8_hang 26 = .ok (.ireturn, 1) := by decide +kernel
theorem dX8_paceOf_0 : decode cX8_paceOf 0 = .ok (.aload_n 0, 1) := by decide +kernel
theorem dX8_paceOf_1 : decode cX8_paceOf 1 = .ok (.invokevirtual 244, 3) := by decide +kernel
theorem dX8_paceOf_4 : decode cX8_paceOf 4 = .ok (.iconst (-1), 1) := by decide +kernel
theorem dX8_paceOf_5 : decode cX8_paceOf 5 = .ok (.istore_n 3, 1) := by decide +kernel
theorem dX8_paceOf_6 : decode cX8_paceOf 6 = .ok (.iconst (-1), 1) := by decide +kernel
theorem dX8_paceOf_7 : decode cX8_paceOf 7 = .ok (.istore 4, 2) := by decide +kernel
theorem dX8_paceOf_9 : decode cX8_paceOf 9 = .ok (.iconst 0, 1) := by decide +kernel
theorem dX8_paceOf_10 : decode cX8_paceOf 10 = .ok (.istore 5, 2) := by decide +kernel
theorem dX8_paceOf_12 : decode cX8_paceOf 12 = .ok (.iload 5, 2) := by decide +kernel
theorem dX8_paceOf_14 : decode cX8_paceOf 14 = .ok (.iconst 4, 1) := by decide +kernel
theorem dX8_paceOf_15 : decode cX8_paceOf 15 = .ok (.if_icmp .ge 57, 3) := by decide +kernel
theorem dX8_paceOf_18 : decode cX8_paceOf 18 = .ok (.aload_n 0, 1) := by decide +kernel
theorem dX8_paceOf_19 : decode cX8_paceOf 19 = .ok (.getfield 46, 3) := by decide +kernel
theorem dX8_paceOf_22 : decode cX8_paceOf 22 = .ok (.iload_n 1, 1) := by decide +kernel
theorem dX8_paceOf_23 : decode cX8_paceOf 23 = .ok (.iload 5, 2) := by decide +kernel
theorem dX8_paceOf_25 : decode cX8_paceOf 25 = .ok (.iastore, 1) := by decide +kernel
theorem dX8_paceOf_26 : decode cX8_paceOf 26 = .ok (.aload_n 0, 1) := by decide +kernel
theorem dX8_paceOf_27 : decode cX8_paceOf 27 = .ok (.invokevirtual 247, 3) := by decide +kernel
theorem dX8_paceOf_30 : decode cX8_paceOf 30 = .ok (.aload_n 0, 1) := by decide +kernel
theorem dX8_paceOf_31 : decode cX8_paceOf 31 = .ok (.invokevirtual 289, 3) := by decide +kernel
theorem dX8_paceOf_34 : decode cX8_paceOf 34 = .ok (.istore 6, 2) := by decide +kernel
theorem dX8_paceOf_36 : decode cX8_paceOf 36 = .ok (.iload 6, 2) := by decide +kernel
theorem dX8_paceOf_38 : decode cX8_paceOf 38 = .ok (.iload 4, 2) := by decide +kernel
theorem dX8_paceOf_40 : decode cX8_paceOf 40 = .ok (.if_icmp .le 8, 3) := by decide +kernel
theorem dX8_paceOf_43 : decode cX8_paceOf 43 = .ok (.iload 5, 2) := by decide +kernel
theorem dX8_paceOf_45 : decode cX8_paceOf 45 = .ok (.goto 4, 3) := by decide +kernel
theorem dX8_paceOf_48 : decode cX8_paceOf 48 = .ok (.iload_n 3, 1) := by decide +kernel
theorem dX8_paceOf_49 : decode cX8_paceOf 49 = .ok (.istore_n 3, 1) := by decide +kernel
theorem dX8_paceOf_50 : decode cX8_paceOf 50 = .ok (.iload 6, 2) := by decide +kernel
theorem dX8_paceOf_52 : decode cX8_paceOf 52 = .ok (.iload 4, 2) := by decide +kernel
theorem dX8_paceOf_54 : decode cX8_paceOf 54 = .ok (.if_icmp .le 8, 3) := by decide +kernel
theorem dX8_paceOf_57 : decode cX8_paceOf 57 = .ok (.iload 6, 2) := by decide +kernel
theorem dX8_paceOf_59 : decode cX8_paceOf 59 = .ok (.goto 5, 3) := by decide +kernel
theorem dX8_paceOf_62 : decode cX8_paceOf 62 = .ok (.iload 4, 2) := by decide +kernel
theorem dX8_paceOf_64 : decode cX8_paceOf 64 = .ok (.istore 4, 2) := by decide +kernel
theorem dX8_paceOf_66 : decode cX8_paceOf 66 = .ok (.iinc 5 1, 3) := by decide +kernel
theorem dX8_paceOf_69 : decode cX8_paceOf 69 = .ok (.goto (-57), 3) := by decide +kernel
theorem dX8_paceOf_72 : decode cX8_paceOf 72 = .ok (.iload_n 2, 1) := by decide +kernel
theorem dX8_paceOf_73 : decode cX8_paceOf 73 = .ok (.ifCond .ne 7, 3) := by decide +kernel
theorem dX8_paceOf_76 : decode cX8_paceOf 76 = .ok (.iload_n 3, 1) := by decide +kernel
theorem dX8_paceOf_77 : decode cX8_paceOf 77 = .ok (.goto 5, 3) := by decide +kernel
theorem dX8_paceOf_80 : decode cX8_paceOf 80 = .ok (.iload 4, 2) := by decide +kernel
theorem dX8_paceOf_82 : decode cX8_paceOf 82 = .ok (.ireturn, 1) := by decide +kernel
theorem dX8_pace_0 : decode cX8_pace 0 = .ok (.iload_n 1, 1) := by decide +kernel
theorem dX8_pace_1 : decode cX8_pace 1 = .ok (.invokestatic 132, 3) := by decide +kernel
theorem dX8_pace_4 : decode cX8_pace 4 = .ok (.ifCond .eq 19, 3) := by decide +kernel
theorem dX8_pace_7 : decode cX8_pace 7 = .ok (.iload_n 2, 1) := by decide +kernel
theorem dX8_pace_8 : decode cX8_pace 8 = .ok (.invokestatic 253, 3) := by decide +kernel
theorem dX8_pace_11 : decode cX8_pace 11 = .ok (.ifCond .eq 12, 3) := by decide +kernel
theorem dX8_pace_14 : decode cX8_pace 14 = .ok (.aload_n 0, 1) := by decide +kernel
theorem dX8_pace_15 : decode cX8_pace 15 = .ok (.iload_n 1, 1) := by decide +kernel
theorem dX8_pace_16 : decode cX8_pace 16 = .ok (.iload_n 2, 1) := by decide +kernel
theorem dX8_pace_17 : decode cX8_pace 17 = .ok (.invokevirtual 295, 3) := by decide +kernel
theorem dX8_pace_20 : decode cX8_pace 20 = .ok (.goto 5, 3) := by decide +kernel
theorem dX8_pace_23 : decode cX8_pace 23 = .ok (.bipush (-2), 2) := by decide +kernel
theorem dX8_pace_25 : decode cX8_pace 25 = .ok (.ireturn, 1) := by decide +kernel
theorem dX8_cheapOf_0 : decode cX8_cheapOf 0 = .ok (.aload_n 0, 1) := by decide +kernel
theorem dX8_cheapOf_1 : decode cX8_cheapOf 1 = .ok (.invokevirtual 244, 3) := by decide +kernel
theorem dX8_cheapOf_4 : decode cX8_cheapOf 4 = .ok (.iconst (-1), 1) := by decide +kernel
theorem dX8_cheapOf_5 : decode cX8_cheapOf 5 = .ok (.istore_n 3, 1) := by decide +kernel
theorem dX8_cheapOf_6 : decode cX8_cheapOf 6 = .ok (.iconst 0, 1) := by decide +kernel
theorem dX8_cheapOf_7 : decode cX8_cheapOf 7 = .ok (.istore 4, 2) := by decide +kernel
theorem dX8_cheapOf_9 : decode cX8_cheapOf 9 = .ok (.iconst 0, 1) := by decide +kernel
theorem dX8_cheapOf_10 : decode cX8_cheapOf 10 = .ok (.istore 5, 2) := by decide +kernel
theorem dX8_cheapOf_12 : decode cX8_cheapOf 12 = .ok (.iload 5, 2) := by decide +kernel
theorem dX8_cheapOf_14 : decode cX8_cheapOf 14 = .ok (.iconst 4, 1) := by decide +kernel
theorem dX8_cheapOf_15 : decode cX8_cheapOf 15 = .ok (.if_icmp .ge 70, 3) := by decide +kernel
theorem dX8_cheapOf_18 : decode cX8_cheapOf 18 = .ok (.aload_n 0, 1) := by decide +kernel
theorem dX8_cheapOf_19 : decode cX8_cheapOf 19 = .ok (.getfield 46, 3) := by decide +kernel
theorem dX8_cheapOf_22 : decode cX8_cheapOf 22 = .ok (.iload_n 1, 1) := by decide +kernel
theorem dX8_cheapOf_23 : decode cX8_cheapOf 23 = .ok (.iload 5, 2) := by decide +kernel
theorem dX8_cheapOf_25 : decode cX8_cheapOf 25 = .ok (.iastore, 1) := by decide +kernel
theorem dX8_cheapOf_26 : decode cX8_cheapOf 26 = .ok (.aload_n 0, 1) := by decide +kernel
theorem dX8_cheapOf_27 : decode cX8_cheapOf 27 = .ok (.invokevirtual 247, 3) := by decide +kernel
theorem dX8_cheapOf_30 : decode cX8_cheapOf 30 = .ok (.iload_n 3, 1) := by decide +kernel
theorem dX8_cheapOf_31 : decode cX8_cheapOf 31 = .ok (.iconst (-1), 1) := by decide +kernel
theorem dX8_cheapOf_32 : decode cX8_cheapOf 32 = .ok (.if_icmp .eq 12, 3) := by decide +kernel
theorem dX8_cheapOf_35 : decode cX8_cheapOf 35 = .ok (.aload_n 0, 1) := by decide +kernel
theorem dX8_cheapOf_36 : decode cX8_cheapOf 36 = .ok (.getfield 238, 3) := by decide +kernel
theorem dX8_cheapOf_39 : decode cX8_cheapOf 39 = .ok (.iload 4, 2) := by decide +kernel
theorem dX8_cheapOf_41 : decode cX8_cheapOf 41 = .ok (.if_icmp .ge 7, 3) := by decide +kernel
theorem dX8_cheapOf_44 : decode cX8_cheapOf 44 = .ok (.iconst 1, 1) := by decide +kernel
theorem dX8_cheapOf_45 : decode cX8_cheapOf 45 = .ok (.goto 4, 3) := by decide +kernel
theorem dX8_cheapOf_48 : decode cX8_cheapOf 48 = .ok (.iconst 0, 1) := by decide +kernel
theorem dX8_cheapOf_49 : decode cX8_cheapOf 49 = .ok (.istore 6, 2) := by decide +kernel
theorem dX8_cheapOf_51 : decode cX8_cheapOf 51 = .ok (.iload 6, 2) := by decide +kernel
theorem dX8_cheapOf_53 : decode cX8_cheapOf 53 = .ok (.ifCond .eq 8, 3) := by decide +kernel
theorem dX8_cheapOf_56 : decode cX8_cheapOf 56 = .ok (.iload 5, 2) := by decide +kernel
theorem dX8_cheapOf_58 : decode cX8_cheapOf 58 = .ok (.goto 4, 3) := by decide +kernel
theorem dX8_cheapOf_61 : decode cX8_cheapOf 61 = .ok (.iload_n 3, 1) := by decide +kernel
theorem dX8_cheapOf_62 : decode cX8_cheapOf 62 = .ok (.istore_n 3, 1) := by decide +kernel
theorem dX8_cheapOf_63 : decode cX8_cheapOf 63 = .ok (.iload 6, 2) := by decide +kernel
theorem dX8_cheapOf_65 : decode cX8_cheapOf 65 = .ok (.ifCond .eq 10, 3) := by decide +kernel
theorem dX8_cheapOf_68 : decode cX8_cheapOf 68 = .ok (.aload_n 0, 1) := by decide +kernel
theorem dX8_cheapOf_69 : decode cX8_cheapOf 69 = .ok (.getfield 238, 3) := by decide +kernel
theorem dX8_cheapOf_72 : decode cX8_cheapOf 72 = .ok (.goto 5, 3) := by decide +kernel
theorem dX8_cheapOf_75 : decode cX8_cheapOf 75 = .ok (.iload 4, 2) := by decide +kernel
theorem dX8_cheapOf_77 : decode cX8_cheapOf 77 = .ok (.istore 4, 2) := by decide +kernel
theorem dX8_cheapOf_79 : decode cX8_cheapOf 79 = .ok (.iinc 5 1, 3) := by decide +kernel
theorem dX8_cheapOf_82 : decode cX8_cheapOf 82 = .ok (.goto (-70), 3) := by decide +kernel
theorem dX8_cheapOf_85 : decode cX8_cheapOf 85 = .ok (.iload_n 2, 1) := by decide +kernel
theorem dX8_cheapOf_86 : decode cX8_cheapOf 86 = .ok (.ifCond .ne 7, 3) := by decide +kernel
theorem dX8_cheapOf_89 : decode cX8_cheapOf 89 = .ok (.iload_n 3, 1) := by decide +kernel
theorem dX8_cheapOf_90 : decode cX8_cheapOf 90 = .ok (.goto 5, 3) := by decide +kernel
theorem dX8_cheapOf_93 : decode cX8_cheapOf 93 = .ok (.iload 4, 2) := by decide +kernel
theorem dX8_cheapOf_95 : decode cX8_cheapOf 95 = .ok (.ireturn, 1) := by decide +kernel
theorem dX8_cheap_0 : decode cX8_cheap 0 = .ok (.iload_n 1, 1) := by decide +kernel
theorem dX8_cheap_1 : decode cX8_cheap 1 = .ok (.invokestatic 132, 3) := by decide +kernel
theorem dX8_cheap_4 : decode cX8_cheap 4 = .ok (.ifCond .eq 19, 3) := by decide +kernel
theorem dX8_cheap_7 : decode cX8_cheap 7 = .ok (.iload_n 2, 1) := by decide +kernel
theorem dX8_cheap_8 : decode cX8_cheap 8 = .ok (.invokestatic 253, 3) := by decide +kernel
theorem dX8_cheap_11 : decode cX8_cheap 11 = .ok (.ifCond .eq 12, 3) := by decide +kernel
theorem dX8_cheap_14 : decode cX8_cheap 14 = .ok (.aload_n 0, 1) := by decide +kernel
theorem dX8_cheap_15 : decode cX8_cheap 15 = .ok (.iload_n 1, 1) := by decide +kernel
theorem dX8_cheap_16 : decode cX8_cheap 16 = .ok (.iload_n 2, 1) := by decide +kernel
theorem dX8_cheap_17 : decode cX8_cheap 17 = .ok (.invokevirtual 298, 3) := by decide +kernel
theorem dX8_cheap_20 : decode cX8_cheap 20 = .ok (.goto 5, 3) := by decide +kernel
theorem dX8_cheap_23 : decode cX8_cheap 23 = .ok (.bipush (-2), 2) := by decide +kernel
theorem dX8_cheap_25 : decode cX8_cheap 25 = .ok (.ireturn, 1) := by decide +kernel
theorem dX8_isSpared_0 : decode cX8_isSpared 0 = .ok (.aload_n 0, 1) := by decide +kernel
theorem dX8_isSpared_1 : decode cX8_isSpared 1 = .ok (.iload_n 1, 1) := by decide +kernel
theorem dX8_isSpared_2 : decode cX8_isSpared 2 = .ok (.putfield 192, 3) := by decide +kernel
theorem dX8_isSpared_5 : decode cX8_isSpared 5 = .ok (.aload_n 0, 1) := by decide +kernel
theorem dX8_isSpared_6 : decode cX8_isSpared 6 = .ok (.invokevirtual 247, 3) := by decide +kernel
theorem dX8_isSpared_9 : decode cX8_isSpared 9 = .ok (.aload_n 0, 1) := by decide +kernel
theorem dX8_isSpared_10 : decode cX8_isSpared 10 = .ok (.invokevirtual 280, 3) := by decide +kernel
theorem dX8_isSpared_13 : decode cX8_isSpared 13 = .ok (.ifCond .ne 7, 3) := by decide +kernel
theorem dX8_isSpared_16 : decode cX8_isSpared 16 = .ok (.iconst 1, 1) := by decide +kernel
theorem dX8_isSpared_17 : decode cX8_isSpared 17 = .ok (.goto 4, 3) := by decide +kernel
theorem dX8_isSpared_20 : decode cX8_isSpared 20 = .ok (.iconst 0, 1) := by decide +kernel
theorem dX8_isSpared_21 : decode cX8_isSpared 21 = .ok (.ireturn, 1) := by decide +kernel
theorem dX8_spareBy_0 : decode cX8_spareBy 0 = .ok (.aload_n 0, 1) := by decide +kernel
theorem dX8_spareBy_1 : decode cX8_spareBy 1 = .ok (.invokevirtual 244, 3) := by decide +kernel
theorem dX8_spareBy_4 : decode cX8_spareBy 4 = .ok (.aload_n 0, 1) := by decide +kernel
theorem dX8_spareBy_5 : decode cX8_spareBy 5 = .ok (.iconst 0, 1) := by decide +kernel
theorem dX8_spareBy_6 : decode cX8_spareBy 6 = .ok (.invokevirtual 301, 3) := by decide +kernel
theorem dX8_spareBy_9 : decode cX8_spareBy 9 = .ok (.ifCond .eq 5, 3) := by decide +kernel
theorem dX8_spareBy_12 : decode cX8_spareBy 12 = .ok (.iconst 0, 1) := by decide +kernel
theorem dX8_spareBy_13 : decode cX8_spareBy 13 = .ok (.ireturn, 1) := by decide +kernel
theorem dX8_spareBy_14 : decode cX8_spareBy 14 = .ok (.iconst 0, 1) := by decide +kernel
theorem dX8_spareBy_15 : decode cX8_spareBy 15 = .ok (.istore_n 1, 1) := by decide +kernel
theorem dX8_spareBy_16 : decode cX8_spareBy 16 = .ok (.iload_n 1, 1) := by decide +kernel
theorem dX8_spareBy_17 : decode cX8_spareBy 17 = .ok (.aload_n 0, 1) := by decide +kernel
theorem dX8_spareBy_18 : decode cX8_spareBy 18 = .ok (.getfield 179, 3) := by decide +kernel
theorem dX8_spareBy_21 : decode cX8_spareBy 21 = .ok (.if_icmp .ge 28, 3) := by decide +kernel
theorem dX8_spareBy_24 : decode cX8_spareBy 24 = .ok (.aload_n 0, 1) := by decide +kernel
theorem dX8_spareBy_25 : decode cX8_spareBy 25 = .ok (.getfield 79, 3) := by decide +kernel
theorem dX8_spareBy_28 : decode cX8_spareBy 28 = .ok (.iconst 0, 1) := by decide +kernel
theorem dX8_spareBy_29 : decode cX8_spareBy 29 = .ok (.iload_n 1, 1) := by decide +kernel
theorem dX8_spareBy_30 : decode cX8_spareBy 30 = .ok (.iastore, 1) := by decide +kernel
theorem dX8_spareBy_31 : decode cX8_spareBy 31 = .ok (.aload_n 0, 1) := by decide +kernel
theorem dX8_spareBy_32 : decode cX8_spareBy 32 = .ok (.iconst 1, 1) := by decide +kernel
theorem dX8_spareBy_33 : decode cX8_spareBy 33 = .ok (.iload_n 1, 1) := by decide +kernel
theorem dX8_spareBy_34 : decode cX8_spareBy 34 = .ok (.ishl, 1) := by decide +kernel
theorem dX8_spareBy_35 : decode cX8_spareBy 35 = .ok (.invokevirtual 301, 3) := by decide +kernel
theorem dX8_spareBy_38 : decode cX8_spareBy 38 = .ok (.ifCond .eq 5, 3) := by decide +kernel
theorem dX8_spareBy_41 : decode cX8_spareBy 41 = .ok (.iconst 1, 1) := by decide +kernel
theorem dX8_spareBy_42 : decode cX8_spareBy 42 = .ok (.ireturn, 1) := by decide +kernel
theorem dX8_spareBy_43 : decode cX8_spareBy 43 = .ok (.iinc 1 1, 3) := by decide +kernel
theorem dX8_spareBy_46 : decode cX8_spareBy 46 = .ok (.goto (-30), 3) := by decide +kernel
theorem dX8_spareBy_49 : decode cX8_spareBy 49 = .ok (.iconst 0, 1) := by decide +kernel
theorem dX8_spareBy_50 : decode cX8_spareBy 50 = .ok (.istore_n 1, 1) := by decide +kernel
theorem dX8_spareBy_51 : decode cX8_spareBy 51 = .ok (.iload_n 1, 1) := by decide +kernel
theorem dX8_spareBy_52 : decode cX8_spareBy 52 = .ok (.aload_n 0, 1) := by decide +kernel
theorem dX8_spareBy_53 : decode cX8_spareBy 53 = .ok (.getfield 179, 3) := by decide +kernel
theorem dX8_spareBy_56 : decode cX8_spareBy 56 = .ok (.if_icmp .ge 57, 3) := by decide +kernel
theorem dX8_spareBy_59 : decode cX8_spareBy 59 = .ok (.iload_n 1, 1) := by decide +kernel
end
section
theorem dX8_spareBy_60 : decode cX8_spareBy 60 = .ok (.iconst 1, 1) := by decide +kernel
theorem dX8_spareBy_61 : decode cX8_spareBy 61 = .ok (.iadd, 1) := by decide +kernel
theorem dX8_spareBy_62 : decode cX8_spareBy 62 = .ok (.istore_n 2, 1) := by decide +kernel
theorem dX8_spareBy_63 : decode cX8_spareBy 63 = .ok (.iload_n 2, 1) := by decide +kernel
theorem dX8_spareBy_64 : decode cX8_spareBy 64 = .ok (.aload_n 0, 1) := by decide +kernel
theorem dX8_spareBy_65 : decode cX8_spareBy 65 = .ok (.getfield 179, 3) := by decide +kernel
theorem dX8_spareBy_68 : decode cX8_spareBy 68 = .ok (.if_icmp .ge 39, 3) := by decide +kernel
theorem dX8_spareBy_71 : decode cX8_spareBy 71 = .ok (.aload_n 0, 1) := by decide +kernel
theorem dX8_spareBy_72 : decode cX8_spareBy 72 = .ok (.getfield 79, 3) := by decide +kernel
theorem dX8_spareBy_75 : decode cX8_spareBy 75 = .ok (.iconst 0, 1) := by decide +kernel
theorem dX8_spareBy_76 : decode cX8_spareBy 76 = .ok (.iload_n 1, 1) := by decide +kernel
theorem dX8_spareBy_77 : decode cX8_spareBy 77 = .ok (.iastore, 1) := by decide +kernel
theorem dX8_spareBy_78 : decode cX8_spareBy 78 = .ok (.aload_n 0, 1) := by decide +kernel
theorem dX8_spareBy_79 : decode cX8_spareBy 79 = .ok (.getfield 79, 3) := by decide +kernel
theorem dX8_spareBy_82 : decode cX8_spareBy 82 = .ok (.iconst 1, 1) := by decide +kernel
theorem dX8_spareBy_83 : decode cX8_spareBy 83 = .ok (.iload_n 2, 1) := by decide +kernel
theorem dX8_spareBy_84 : decode cX8_spareBy 84 = .ok (.iastore, 1) := by decide +kernel
theorem dX8_spareBy_85 : decode cX8_spareBy 85 = .ok (.aload_n 0, 1) := by decide +kernel
theorem dX8_spareBy_86 : decode cX8_spareBy 86 = .ok (.iconst 1, 1) := by decide +kernel
theorem dX8_spareBy_87 : decode cX8_spareBy 87 = .ok (.iload_n 1, 1) := by decide +kernel
theorem dX8_spareBy_88 : decode cX8_spareBy 88 = .ok (.ishl, 1) := by decide +kernel
theorem dX8_spareBy_89 : decode cX8_spareBy 89 = .ok (.iconst 1, 1) := by decide +kernel
theorem dX8_spareBy_90 : decode cX8_spareBy 90 = .ok (.iload_n 2, 1) := by decide +kernel
theorem dX8_spareBy_91 : decode cX8_spareBy 91 = .ok (.ishl, 1) := by decide +kernel
theorem dX8_spareBy_92 : decode cX8_spareBy 92 = .ok (.ior, 1) := by decide +kernel
theorem dX8_spareBy_93 : decode cX8_spareBy 93 = .ok (.invokevirtual 301, 3) := by decide +kernel
theorem dX8_spareBy_96 : decode cX8_spareBy 96 = .ok (.ifCond .eq 5, 3) := by decide +kernel
theorem dX8_spareBy_99 : decode cX8_spareBy 99 = .ok (.iconst 2, 1) := by decide +kernel
theorem dX8_spareBy_100 : decode cX8_spareBy 100 = .ok (.ireturn, 1) := by decide +kernel
theorem dX8_spareBy_101 : decode cX8_spareBy 101 = .ok (.iinc 2 1, 3) := by decide +kernel
theorem dX8_spareBy_104 : decode cX8_spareBy 104 = .ok (.goto (-41), 3) := by decide +kernel
theorem dX8_spareBy_107 : decode cX8_spareBy 107 = .ok (.iinc 1 1, 3) := by decide +kernel
theorem dX8_spareBy_110 : decode cX8_spareBy 110 = .ok (.goto (-59), 3) := by decide +kernel
theorem dX8_spareBy_113 : decode cX8_spareBy 113 = .ok (.iconst (-1), 1) := by decide +kernel
theorem dX8_spareBy_114 : decode cX8_spareBy 114 = .ok (.ireturn, 1) := by decide +kernel
theorem dX8_ofRow_0 : decode cX8_ofRow 0 = .ok (.iload_n 2, 1) := by decide +kernel
theorem dX8_ofRow_1 : decode cX8_ofRow 1 = .ok (.iconst (-1), 1) := by decide +kernel
theorem dX8_ofRow_2 : decode cX8_ofRow 2 = .ok (.if_icmp .ne 7, 3) := by decide +kernel
theorem dX8_ofRow_5 : decode cX8_ofRow 5 = .ok (.iload_n 1, 1) := by decide +kernel
theorem dX8_ofRow_6 : decode cX8_ofRow 6 = .ok (.goto 18, 3) := by decide +kernel
theorem dX8_ofRow_9 : decode cX8_ofRow 9 = .ok (.iload_n 2, 1) := by decide +kernel
theorem dX8_ofRow_10 : decode cX8_ofRow 10 = .ok (.iload_n 1, 1) := by decide +kernel
theorem dX8_ofRow_11 : decode cX8_ofRow 11 = .ok (.if_icmp .ge 12, 3) := by decide +kernel
theorem dX8_ofRow_14 : decode cX8_ofRow 14 = .ok (.aload_n 0, 1) := by decide +kernel
theorem dX8_ofRow_15 : decode cX8_ofRow 15 = .ok (.getfield 79, 3) := by decide +kernel
theorem dX8_ofRow_18 : decode cX8_ofRow 18 = .ok (.iload_n 2, 1) := by decide +kernel
theorem dX8_ofRow_19 : decode cX8_ofRow 19 = .ok (.iaload, 1) := by decide +kernel
theorem dX8_ofRow_20 : decode cX8_ofRow 20 = .ok (.goto 4, 3) := by decide +kernel
theorem dX8_ofRow_23 : decode cX8_ofRow 23 = .ok (.iconst (-1), 1) := by decide +kernel
theorem dX8_ofRow_24 : decode cX8_ofRow 24 = .ok (.ireturn, 1) := by decide +kernel
theorem dX8_spare_0 : decode cX8_spare 0 = .ok (.iload_n 1, 1) := by decide +kernel
theorem dX8_spare_1 : decode cX8_spare 1 = .ok (.iconst (-1), 1) := by decide +kernel
theorem dX8_spare_2 : decode cX8_spare 2 = .ok (.iconst 1, 1) := by decide +kernel
theorem dX8_spare_3 : decode cX8_spare 3 = .ok (.invokestatic 112, 3) := by decide +kernel
theorem dX8_spare_6 : decode cX8_spare 6 = .ok (.ifCond .eq 15, 3) := by decide +kernel
theorem dX8_spare_9 : decode cX8_spare 9 = .ok (.aload_n 0, 1) := by decide +kernel
theorem dX8_spare_10 : decode cX8_spare 10 = .ok (.aload_n 0, 1) := by decide +kernel
theorem dX8_spare_11 : decode cX8_spare 11 = .ok (.invokevirtual 304, 3) := by decide +kernel
theorem dX8_spare_14 : decode cX8_spare 14 = .ok (.iload_n 1, 1) := by decide +kernel
theorem dX8_spare_15 : decode cX8_spare 15 = .ok (.invokevirtual 307, 3) := by decide +kernel
theorem dX8_spare_18 : decode cX8_spare 18 = .ok (.goto 5, 3) := by decide +kernel
theorem dX8_spare_21 : decode cX8_spare 21 = .ok (.bipush (-2), 2) := by decide +kernel
theorem dX8_spare_23 : decode cX8_spare 23 = .ok (.ireturn, 1) := by decide +kernel
theorem dX8_seen_0 : decode cX8_seen 0 = .ok (.iload_n 1, 1) := by decide +kernel
theorem dX8_seen_1 : decode cX8_seen 1 = .ok (.invokestatic 132, 3) := by decide +kernel
theorem dX8_seen_4 : decode cX8_seen 4 = .ok (.ifCond .eq 20, 3) := by decide +kernel
theorem dX8_seen_7 : decode cX8_seen 7 = .ok (.iload_n 2, 1) := by decide +kernel
theorem dX8_seen_8 : decode cX8_seen 8 = .ok (.invokestatic 253, 3) := by decide +kernel
theorem dX8_seen_11 : decode cX8_seen 11 = .ok (.ifCond .eq 13, 3) := by decide +kernel
theorem dX8_seen_14 : decode cX8_seen 14 = .ok (.iload_n 3, 1) := by decide +kernel
theorem dX8_seen_15 : decode cX8_seen 15 = .ok (.iconst 0, 1) := by decide +kernel
theorem dX8_seen_16 : decode cX8_seen 16 = .ok (.bipush 108, 2) := by decide +kernel
theorem dX8_seen_18 : decode cX8_seen 18 = .ok (.invokestatic 112, 3) := by decide +kernel
theorem dX8_seen_21 : decode cX8_seen 21 = .ok (.ifCond .ne 6, 3) := by decide +kernel
theorem dX8_seen_24 : decode cX8_seen 24 = .ok (.bipush (-2), 2) := by decide +kernel
theorem dX8_seen_26 : decode cX8_seen 26 = .ok (.ireturn, 1) := by decide +kernel
theorem dX8_seen_27 : decode cX8_seen 27 = .ok (.aload_n 0, 1) := by decide +kernel
theorem dX8_seen_28 : decode cX8_seen 28 = .ok (.getfield 310, 3) := by decide +kernel
theorem dX8_seen_31 : decode cX8_seen 31 = .ok (.bipush 8, 2) := by decide +kernel
theorem dX8_seen_33 : decode cX8_seen 33 = .ok (.if_icmp .ne 6, 3) := by decide +kernel
theorem dX8_seen_36 : decode cX8_seen 36 = .ok (.bipush (-4), 2) := by decide +kernel
theorem dX8_seen_38 : decode cX8_seen 38 = .ok (.ireturn, 1) := by decide +kernel
theorem dX8_seen_39 : decode cX8_seen 39 = .ok (.aload_n 0, 1) := by decide +kernel
theorem dX8_seen_40 : decode cX8_seen 40 = .ok (.getfield 82, 3) := by decide +kernel
theorem dX8_seen_43 : decode cX8_seen 43 = .ok (.aload_n 0, 1) := by decide +kernel
theorem dX8_seen_44 : decode cX8_seen 44 = .ok (.getfield 310, 3) := by decide +kernel
theorem dX8_seen_47 : decode cX8_seen 47 = .ok (.iload_n 1, 1) := by decide +kernel
theorem dX8_seen_48 : decode cX8_seen 48 = .ok (.iastore, 1) := by decide +kernel
theorem dX8_seen_49 : decode cX8_seen 49 = .ok (.aload_n 0, 1) := by decide +kernel
theorem dX8_seen_50 : decode cX8_seen 50 = .ok (.getfield 85, 3) := by decide +kernel
theorem dX8_seen_53 : decode cX8_seen 53 = .ok (.aload_n 0, 1) := by decide +kernel
theorem dX8_seen_54 : decode cX8_seen 54 = .ok (.getfield 310, 3) := by decide +kernel
theorem dX8_seen_57 : decode cX8_seen 57 = .ok (.iload_n 2, 1) := by decide +kernel
theorem dX8_seen_58 : decode cX8_seen 58 = .ok (.iastore, 1) := by decide +kernel
theorem dX8_seen_59 : decode cX8_seen 59 = .ok (.aload_n 0, 1) := by decide +kernel
theorem dX8_seen_60 : decode cX8_seen 60 = .ok (.getfield 88, 3) := by decide +kernel
theorem dX8_seen_63 : decode cX8_seen 63 = .ok (.aload_n 0, 1) := by decide +kernel
theorem dX8_seen_64 : decode cX8_seen 64 = .ok (.getfield 310, 3) := by decide +kernel
theorem dX8_seen_67 : decode cX8_seen 67 = .ok (.iload_n 3, 1) := by decide +kernel
theorem dX8_seen_68 : decode cX8_seen 68 = .ok (.iastore, 1) := by decide +kernel
theorem dX8_seen_69 : decode cX8_seen 69 = .ok (.aload_n 0, 1) := by decide +kernel
theorem dX8_seen_70 : decode cX8_seen 70 = .ok (.dup, 1) := by decide +kernel
theorem dX8_seen_71 : decode cX8_seen 71 = .ok (.getfield 310, 3) := by decide +kernel
theorem dX8_seen_74 : decode cX8_seen 74 = .ok (.iconst 1, 1) := by decide +kernel
theorem dX8_seen_75 : decode cX8_seen 75 = .ok (.iadd, 1) := by decide +kernel
theorem dX8_seen_76 : decode cX8_seen 76 = .ok (.putfield 310, 3) := by decide +kernel
theorem dX8_seen_79 : decode cX8_seen 79 = .ok (.aload_n 0, 1) := by decide +kernel
theorem dX8_seen_80 : decode cX8_seen 80 = .ok (.getfield 310, 3) := by decide +kernel
theorem dX8_seen_83 : decode cX8_seen 83 = .ok (.ireturn, 1) := by decide +kernel
theorem dX8_forget_0 : decode cX8_forget 0 = .ok (.aload_n 0, 1) := by decide +kernel
theorem dX8_forget_1 : decode cX8_forget 1 = .ok (.getfield 310, 3) := by decide +kernel
theorem dX8_forget_4 : decode cX8_forget 4 = .ok (.istore_n 1, 1) := by decide +kernel
theorem dX8_forget_5 : decode cX8_forget 5 = .ok (.aload_n 0, 1) := by decide +kernel
theorem dX8_forget_6 : decode cX8_forget 6 = .ok (.iconst 0, 1) := by decide +kernel
theorem dX8_forget_7 : decode cX8_forget 7 = .ok (.putfield 310, 3) := by decide +kernel
theorem dX8_forget_10 : decode cX8_forget 10 = .ok (.iload_n 1, 1) := by decide +kernel
theorem dX8_forget_11 : decode cX8_forget 11 = .ok (.ireturn, 1) := by decide +kernel
theorem dX8_isSeen_0 : decode cX8_isSeen 0 = .ok (.aload_n 0, 1) := by decide +kernel
theorem dX8_isSeen_1 : decode cX8_isSeen 1 = .ok (.invokevirtual 247, 3) := by decide +kernel
theorem dX8_isSeen_4 : decode cX8_isSeen 4 = .ok (.iconst 1, 1) := by decide +kernel
theorem dX8_isSeen_5 : decode cX8_isSeen 5 = .ok (.istore_n 1, 1) := by decide +kernel
theorem dX8_isSeen_6 : decode cX8_isSeen 6 = .ok (.iconst 0, 1) := by decide +kernel
theorem dX8_isSeen_7 : decode cX8_isSeen 7 = .ok (.istore_n 2, 1) := by decide +kernel
theorem dX8_isSeen_8 : decode cX8_isSeen 8 = .ok (.iload_n 2, 1) := by decide +kernel
theorem dX8_isSeen_9 : decode cX8_isSeen 9 = .ok (.aload_n 0, 1) := by decide +kernel
theorem dX8_isSeen_10 : decode cX8_isSeen 10 = .ok (.getfield 310, 3) := by decide +kernel
theorem dX8_isSeen_13 : decode cX8_isSeen 13 = .ok (.if_icmp .ge 48, 3) := by decide +kernel
theorem dX8_isSeen_16 : decode cX8_isSeen 16 = .ok (.iload_n 1, 1) := by decide +kernel
theorem dX8_isSeen_17 : decode cX8_isSeen 17 = .ok (.ifCond .eq 44, 3) := by decide +kernel
theorem dX8_isSeen_20 : decode cX8_isSeen 20 = .ok (.aload_n 0, 1) := by decide +kernel
theorem dX8_isSeen_21 : decode cX8_isSeen 21 = .ok (.getfield 64, 3) := by decide +kernel
theorem dX8_isSeen_24 : decode cX8_isSeen 24 = .ok (.iconst 2, 1) := by decide +kernel
theorem dX8_isSeen_25 : decode cX8_isSeen 25 = .ok (.aload_n 0, 1) := by decide +kernel
theorem dX8_isSeen_26 : decode cX8_isSeen 26 = .ok (.getfield 82, 3) := by decide +kernel
theorem dX8_isSeen_29 : decode cX8_isSeen 29 = .ok (.iload_n 2, 1) := by decide +kernel
theorem dX8_isSeen_30 : decode cX8_isSeen 30 = .ok (.iaload, 1) := by decide +kernel
theorem dX8_isSeen_31 : decode cX8_isSeen 31 = .ok (.imul, 1) := by decide +kernel
theorem dX8_isSeen_32 : decode cX8_isSeen 32 = .ok (.aload_n 0, 1) := by decide +kernel
theorem dX8_isSeen_33 : decode cX8_isSeen 33 = .ok (.getfield 85, 3) := by decide +kernel
theorem dX8_isSeen_36 : decode cX8_isSeen 36 = .ok (.iload_n 2, 1) := by decide +kernel
theorem dX8_isSeen_37 : decode cX8_isSeen 37 = .ok (.iaload, 1) := by decide +kernel
theorem dX8_isSeen_38 : decode cX8_isSeen 38 = .ok (.iadd, 1) := by decide +kernel
theorem dX8_isSeen_39 : decode cX8_isSeen 39 = .ok (.iaload, 1) := by decide +kernel
theorem dX8_isSeen_40 : decode cX8_isSeen 40 = .ok (.aload_n 0, 1) := by decide +kernel
theorem dX8_isSeen_41 : decode cX8_isSeen 41 = .ok (.getfield 88, 3) := by decide +kernel
theorem dX8_isSeen_44 : decode cX8_isSeen 44 = .ok (.iload_n 2, 1) := by decide +kernel
theorem dX8_isSeen_45 : decode cX8_isSeen 45 = .ok (.iaload, 1) := by decide +kernel
theorem dX8_isSeen_46 : decode cX8_isSeen 46 = .ok (.if_icmp .ne 7, 3) := by decide +kernel
theorem dX8_isSeen_49 : decode cX8_isSeen 49 = .ok (.iconst 1, 1) := by decide +kernel
theorem dX8_isSeen_50 : decode cX8_isSeen 50 = .ok (.goto 4, 3) := by decide +kernel
theorem dX8_isSeen_53 : decode cX8_isSeen 53 = .ok (.iconst 0, 1) := by decide +kernel
theorem dX8_isSeen_54 : decode cX8_isSeen 54 = .ok (.istore_n 1, 1) := by decide +kernel
theorem dX8_isSeen_55 : decode cX8_isSeen 55 = .ok (.iinc 2 1, 3) := by decide +kernel
theorem dX8_isSeen_58 : decode cX8_isSeen 58 = .ok (.goto (-50), 3) := by decide +kernel
theorem dX8_isSeen_61 : decode cX8_isSeen 61 = .ok (.iload_n 1, 1) := by decide +kernel
theorem dX8_isSeen_62 : decode cX8_isSeen 62 = .ok (.ireturn, 1) := by decide +kernel
theorem dX8_neverNow_0 : decode cX8_neverNow 0 = .ok (.aload_n 0, 1) := by decide +kernel
theorem dX8_neverNow_1 : decode cX8_neverNow 1 = .ok (.invokevirtual 244, 3) := by decide +kernel
theorem dX8_neverNow_4 : decode cX8_neverNow 4 = .ok (.iconst 0, 1) := by decide +kernel
theorem dX8_neverNow_5 : decode cX8_neverNow 5 = .ok (.istore_n 1, 1) := by decide +kernel
theorem dX8_neverNow_6 : decode cX8_neverNow 6 = .ok (.iconst 0, 1) := by decide +kernel
theorem dX8_neverNow_7 : decode cX8_neverNow 7 = .ok (.istore_n 2, 1) := by decide +kernel
theorem dX8_neverNow_8 : decode cX8_neverNow 8 = .ok (.iload_n 2, 1) := by decide +kernel
theorem dX8_neverNow_9 : decode cX8_neverNow 9 = .ok (.aload_n 0, 1) := by decide +kernel
theorem dX8_neverNow_10 : decode cX8_neverNow 10 = .ok (.getfield 179, 3) := by decide +kernel
theorem dX8_neverNow_13 : decode cX8_neverNow 13 = .ok (.if_icmp .ge 33, 3) := by decide +kernel
theorem dX8_neverNow_16 : decode cX8_neverNow 16 = .ok (.aload_n 0, 1) := by decide +kernel
theorem dX8_neverNow_17 : decode cX8_neverNow 17 = .ok (.iconst 1, 1) := by decide +kernel
theorem dX8_neverNow_18 : decode cX8_neverNow 18 = .ok (.iload_n 2, 1) := by decide +kernel
theorem dX8_neverNow_19 : decode cX8_neverNow 19 = .ok (.ishl, 1) := by decide +kernel
theorem dX8_neverNow_20 : decode cX8_neverNow 20 = .ok (.putfield 192, 3) := by decide +kernel
theorem dX8_neverNow_23 : decode cX8_neverNow 23 = .ok (.iload_n 1, 1) := by decide +kernel
theorem dX8_neverNow_24 : decode cX8_neverNow 24 = .ok (.aload_n 0, 1) := by decide +kernel
theorem dX8_neverNow_25 : decode cX8_neverNow 25 = .ok (.invokevirtual 313, 3) := by decide +kernel
theorem dX8_neverNow_28 : decode cX8_neverNow 28 = .ok (.ifCond .eq 9, 3) := by decide +kernel
theorem dX8_neverNow_31 : decode cX8_neverNow 31 = .ok (.iconst 1, 1) := by decide +kernel
theorem dX8_neverNow_32 : decode cX8_neverNow 32 = .ok (.iload_n 2, 1) := by decide +kernel
theorem dX8_neverNow_33 : decode cX8_neverNow 33 = .ok (.ishl, 1) := by decide +kernel
theorem dX8_neverNow_34 : decode cX8_neverNow 34 = .ok (.goto 4, 3) := by decide +kernel
theorem dX8_neverNow_37 : decode cX8_neverNow 37 = .ok (.iconst 0, 1) := by decide +kernel
theorem dX8_neverNow_38 : decode cX8_neverNow 38 = .ok (.ior, 1) := by decide +kernel
theorem dX8_neverNow_39 : decode cX8_neverNow 39 = .ok (.istore_n 1, 1) := by decide +kernel
theorem dX8_neverNow_40 : decode cX8_neverNow 40 = .ok (.iinc 2 1, 3) := by decide +kernel
theorem dX8_neverNow_43 : decode cX8_neverNow 43 = .ok (.goto (-35), 3) := by decide +kernel
theorem dX8_neverNow_46 : decode cX8_neverNow 46 = .ok (.iload_n 1, 1) := by decide +kernel
theorem dX8_neverNow_47 : decode cX8_neverNow 47 = .ok (.ireturn, 1) := by decide +kernel
theorem dX8_never_0 : decode cX8_never 0 = .ok (.aload_n 0, 1) := by decide +kernel
theorem dX8_never_1 : decode cX8_never 1 = .ok (.invokevirtual 317, 3) := by decide +kernel
theorem dX8_never_4 : decode cX8_never 4 = .ok (.ireturn, 1) := by decide +kernel
theorem dX8_roomsBy_0 : decode cX8_roomsBy 0 = .ok (.aload_n 0, 1) := by decide +kernel
theorem dX8_roomsBy_1 : decode cX8_roomsBy 1 = .ok (.invokevirtual 244, 3) := by decide +kernel
theorem dX8_roomsBy_4 : decode cX8_roomsBy 4 = .ok (.aload_n 0, 1) := by decide +kernel
theorem dX8_roomsBy_5 : decode cX8_roomsBy 5 = .ok (.getfield 22, 3) := by decide +kernel
theorem dX8_roomsBy_8 : decode cX8_roomsBy 8 = .ok (.iload_n 1, 1) := by decide +kernel
theorem dX8_roomsBy_9 : decode cX8_roomsBy 9 = .ok (.iaload, 1) := by decide +kernel
theorem dX8_roomsBy_10 : decode cX8_roomsBy 10 = .ok (.istore_n 2, 1) := by decide +kernel
theorem dX8_roomsBy_11 : decode cX8_roomsBy 11 = .ok (.iconst 0, 1) := by decide +kernel
theorem dX8_roomsBy_12 : decode cX8_roomsBy 12 = .ok (.istore_n 3, 1) := by decide +kernel
theorem dX8_roomsBy_13 : decode cX8_roomsBy 13 = .ok (.iconst 1, 1) := by decide +kernel
theorem dX8_roomsBy_14 : decode cX8_roomsBy 14 = .ok (.istore 4, 2) := by decide +kernel
theorem dX8_roomsBy_16 : decode cX8_roomsBy 16 = .ok (.iload 4, 2) := by decide +kernel
theorem dX8_roomsBy_18 : decode cX8_roomsBy 18 = .ok (.bipush 10, 2) := by decide +kernel
theorem dX8_roomsBy_20 : decode cX8_roomsBy 20 = .ok (.if_icmp .ge 89, 3) := by decide +kernel
theorem dX8_roomsBy_23 : decode cX8_roomsBy 23 = .ok (.aload_n 0, 1) := by decide +kernel
theorem dX8_roomsBy_24 : decode cX8_roomsBy 24 = .ok (.getfield 22, 3) := by decide +kernel
theorem dX8_roomsBy_27 : decode cX8_roomsBy 27 = .ok (.iload_n 1, 1) := by decide +kernel
theorem dX8_roomsBy_28 : decode cX8_roomsBy 28 = .ok (.iload 4, 2) := by decide +kernel
theorem dX8_roomsBy_30 : decode cX8_roomsBy 30 = .ok (.iastore, 1) := by decide +kernel
theorem dX8_roomsBy_31 : decode cX8_roomsBy 31 = .ok (.iload_n 3, 1) := by decide +kernel
theorem dX8_roomsBy_32 : decode cX8_roomsBy 32 = .ok (.aload_n 0, 1) := by decide +kernel
theorem dX8_roomsBy_33 : decode cX8_roomsBy 33 = .ok (.invokevirtual 313, 3) := by decide +kernel
theorem dX8_roomsBy_36 : decode cX8_roomsBy 36 = .ok (.ifCond .eq 10, 3) := by decide +kernel
theorem dX8_roomsBy_39 : decode cX8_roomsBy 39 = .ok (.iconst 1, 1) := by decide +kernel
theorem dX8_roomsBy_40 : decode cX8_roomsBy 40 = .ok (.iload 4, 2) := by decide +kernel
theorem dX8_roomsBy_42 : decode cX8_roomsBy 42 = .ok (.ishl, 1) := by decide +kernel
theorem dX8_roomsBy_43 : decode cX8_roomsBy 43 = .ok (.goto 4, 3) := by decide +kernel
theorem dX8_roomsBy_46 : decode cX8_roomsBy 46 = .ok (.iconst 0, 1) := by decide +kernel
theorem dX8_roomsBy_47 : decode cX8_roomsBy 47 = .ok (.ior, 1) := by decide +kernel
theorem dX8_roomsBy_48 : decode cX8_roomsBy 48 = .ok (.istore_n 3, 1) := by decide +kernel
theorem dX8_roomsBy_49 : decode cX8_roomsBy 49 = .ok (.iconst 0, 1) := by decide +kernel
theorem dX8_roomsBy_50 : decode cX8_roomsBy 50 = .ok (.istore 5, 2) := by decide +kernel
theorem dX8_roomsBy_52 : decode cX8_roomsBy 52 = .ok (.iload 5, 2) := by decide +kernel
theorem dX8_roomsBy_54 : decode cX8_roomsBy 54 = .ok (.bipush 24, 2) := by decide +kernel
theorem dX8_roomsBy_56 : decode cX8_roomsBy 56 = .ok (.if_icmp .ge 47, 3) := by decide +kernel
theorem dX8_roomsBy_59 : decode cX8_roomsBy 59 = .ok (.aload_n 0, 1) := by decide +kernel
theorem dX8_roomsBy_60 : decode cX8_roomsBy 60 = .ok (.getfield 91, 3) := by decide +kernel
theorem dX8_roomsBy_63 : decode cX8_roomsBy 63 = .ok (.bipush 24, 2) := by decide +kernel
theorem dX8_roomsBy_65 : decode cX8_roomsBy 65 = .ok (.iload 4, 2) := by decide +kernel
theorem dX8_roomsBy_67 : decode cX8_roomsBy 67 = .ok (.imul, 1) := by decide +kernel
theorem dX8_roomsBy_68 : decode cX8_roomsBy 68 = .ok (.iload 5, 2) := by decide +kernel
theorem dX8_roomsBy_70 : decode cX8_roomsBy 70 = .ok (.iadd, 1) := by decide +kernel
theorem dX8_roomsBy_71 : decode cX8_roomsBy 71 = .ok (.sipush 128, 3) := by decide +kernel
theorem dX8_roomsBy_74 : decode cX8_roomsBy 74 = .ok (.aload_n 0, 1) := by decide +kernel
theorem dX8_roomsBy_75 : decode cX8_roomsBy 75 = .ok (.getfield 64, 3) := by decide +kernel
theorem dX8_roomsBy_78 : decode cX8_roomsBy 78 = .ok (.iconst 2, 1) := by decide +kernel
theorem dX8_roomsBy_79 : decode cX8_roomsBy 79 = .ok (.iload 5, 2) := by decide +kernel
theorem dX8_roomsBy_81 : decode cX8_roomsBy 81 = .ok (.imul, 1) := by decide +kernel
theorem dX8_roomsBy_82 : decode cX8_roomsBy 82 = .ok (.iaload, 1) := by decide +kernel
theorem dX8_roomsBy_83 : decode cX8_roomsBy 83 = .ok (.imul, 1) := by decide +kernel
theorem dX8_roomsBy_84 : decode cX8_roomsBy 84 = .ok (.aload_n 0, 1) := by decide +kernel
theorem dX8_roomsBy_85 : decode cX8_roomsBy 85 = .ok (.getfield 64, 3) := by decide +kernel
theorem dX8_roomsBy_88 : decode cX8_roomsBy 88 = .ok (.iconst 2, 1) := by decide +kernel
theorem dX8_roomsBy_89 : decode cX8_roomsBy 89 = .ok (.iload 5, 2) := by decide +kernel
theorem dX8_roomsBy_91 : decode cX8_roomsBy 91 = .ok (.imul, 1) := by decide +kernel
theorem dX8_roomsBy_92 : decode cX8_roomsBy 92 = .ok (.iconst 1, 1) := by decide +kernel
theorem dX8_roomsBy_93 : decode cX8_roomsBy 93 = .ok (.iadd, 1) := by decide +kernel
theorem dX8_roomsBy_94 : decode cX8_roomsBy 94 = .ok (.iaload, 1) := by decide +kernel
theorem dX8_roomsBy_95 : decode cX8_roomsBy 95 = .ok (.iadd, 1) := by decide +kernel
theorem dX8_roomsBy_96 : decode cX8_roomsBy 96 = .ok (.iastore, 1) := by decide +kernel
theorem dX8_roomsBy_97 : decode cX8_roomsBy 97 = .ok (.iinc 5 1, 3) := by decide +kernel
theorem dX8_roomsBy_100 : decode cX8_roomsBy 100 = .ok (.goto (-48), 3) := by decide +kernel
theorem dX8_roomsBy_103 : decode cX8_roomsBy 103 = .ok (.iinc 4 1, 3) := by decide +kernel
theorem dX8_roomsBy_106 : decode cX8_roomsBy 106 = .ok (.goto (-90), 3) := by decide +kernel
theorem dX8_roomsBy_109 : decode cX8_roomsBy 109 = .ok (.aload_n 0, 1) := by decide +kernel
theorem dX8_roomsBy_110 : decode cX8_roomsBy 110 = .ok (.getfield 22, 3) := by decide +kernel
theorem dX8_roomsBy_113 : decode cX8_roomsBy 113 = .ok (.iload_n 1, 1) := by decide +kernel
theorem dX8_roomsBy_114 : decode cX8_roomsBy 114 = .ok (.iload_n 2, 1) := by decide +kernel
theorem dX8_roomsBy_115 : decode cX8_roomsBy 115 = .ok (.iastore, 1) := by decide +kernel
theorem dX8_roomsBy_116 : decode cX8_roomsBy 116 = .ok (.iload_n 3, 1) := by decide +kernel
theorem dX8_roomsBy_117 : decode cX8_roomsBy 117 = .ok (.ireturn, 1) := by decide +kernel
theorem dX8_sortsBy_0 : decode cX8_sortsBy 0 = .ok (.aload_n 0, 1) := by decide +kernel
theorem dX8_sortsBy_1 : decode cX8_sortsBy 1 = .ok (.invokevirtual 244, 3) := by decide +kernel
theorem dX8_sortsBy_4 : decode cX8_sortsBy 4 = .ok (.aload_n 0, 1) := by decide +kernel
theorem dX8_sortsBy_5 : decode cX8_sortsBy 5 = .ok (.getfield 19, 3) := by decide +kernel
theorem dX8_sortsBy_8 : decode cX8_sortsBy 8 = .ok (.iload_n 1, 1) := by decide +kernel
theorem dX8_sortsBy_9 : decode cX8_sortsBy 9 = .ok (.iaload, 1) := by decide +kernel
theorem dX8_sortsBy_10 : decode cX8_sortsBy 10 = .ok (.istore_n 2, 1) := by decide +kernel
theorem dX8_sortsBy_11 : decode cX8_sortsBy 11 = .ok (.iconst 0, 1) := by decide +kernel
theorem dX8_sortsBy_12 : decode cX8_sortsBy 12 = .ok (.istore_n 3, 1) := by decide +kernel
theorem dX8_sortsBy_13 : decode cX8_sortsBy 13 = .ok (.iconst 0, 1) := by decide +kernel
theorem dX8_sortsBy_14 : decode cX8_sortsBy 14 = .ok (.istore 4, 2) := by decide +kernel
theorem dX8_sortsBy_16 : decode cX8_sortsBy 16 = .ok (.iload 4, 2) := by decide +kernel
theorem dX8_sortsBy_18 : decode cX8_sortsBy 18 = .ok (.iconst 3, 1) := by decide +kernel
theorem dX8_sortsBy_19 : decode cX8_sortsBy 19 = .ok (.if_icmp .ge 35, 3) := by decide +kernel
theorem dX8_sortsBy_22 : decode cX8_sortsBy 22 = .ok (.aload_n 0, 1) := by decide +kernel
theorem dX8_sortsBy_23 : decode cX8_sortsBy 23 = .ok (.getfield 19, 3) := by decide +kernel
theorem dX8_sortsBy_26 : decode cX8_sortsBy 26 = .ok (.iload_n 1, 1) := by decide +kernel
theorem dX8_sortsBy_27 : decode cX8_sortsBy 27 = .ok (.iload 4, 2) := by decide +kernel
theorem dX8_sortsBy_29 : decode cX8_sortsBy 29 = .ok (.iastore, 1) := by decide +kernel
theorem dX8_sortsBy_30 : decode cX8_sortsBy 30 = .ok (.iload_n 3, 1) := by decide +kernel
theorem dX8_sortsBy_31 : decode cX8_sortsBy 31 = .ok (.aload_n 0, 1) := by decide +kernel
theorem dX8_sortsBy_32 : decode cX8_sortsBy 32 = .ok (.invokevirtual 313, 3) := by decide +kernel
theorem dX8_sortsBy_35 : decode cX8_sortsBy 35 = .ok (.ifCond .eq 10, 3) := by decide +kernel
theorem dX8_sortsBy_38 : decode cX8_sortsBy 38 = .ok (.iconst 1, 1) := by decide +kernel
theorem dX8_sortsBy_39 : decode cX8_sortsBy 39 = .ok (.iload 4, 2) := by decide +kernel
theorem dX8_sortsBy_41 : decode cX8_sortsBy 41 = .ok (.ishl, 1) := by decide +kernel
theorem dX8_sortsBy_42 : decode cX8_sortsBy 42 = .ok (.goto 4, 3) := by decide +kernel
theorem dX8_sortsBy_45 : decode cX8_sortsBy 45 = .ok (.iconst 0, 1) := by decide +kernel
theorem dX8_sortsBy_46 : decode cX8_sortsBy 46 = .ok (.ior, 1) := by decide +kernel
theorem dX8_sortsBy_47 : decode cX8_sortsBy 47 = .ok (.istore_n 3, 1) := by decide +kernel
theorem dX8_sortsBy_48 : decode cX8_sortsBy 48 = .ok (.iinc 4 1, 3) := by decide +kernel
theorem dX8_sortsBy_51 : decode cX8_sortsBy 51 = .ok (.goto (-35), 3) := by decide +kernel
theorem dX8_sortsBy_54 : decode cX8_sortsBy 54 = .ok (.aload_n 0, 1) := by decide +kernel
theorem dX8_sortsBy_55 : decode cX8_sortsBy 55 = .ok (.getfield 19, 3) := by decide +kernel
theorem dX8_sortsBy_58 : decode cX8_sortsBy 58 = .ok (.iload_n 1, 1) := by decide +kernel
theorem dX8_sortsBy_59 : decode cX8_sortsBy 59 = .ok (.iload_n 2, 1) := by decide +kernel
theorem dX8_sortsBy_60 : decode cX8_sortsBy 60 = .ok (.iastore, 1) := by decide +kernel
theorem dX8_sortsBy_61 : decode cX8_sortsBy 61 = .ok (.iload_n 3, 1) := by decide +kernel
theorem dX8_sortsBy_62 : decode cX8_sortsBy 62 = .ok (.ireturn, 1) := by decide +kernel
theorem dX8_was_0 : decode cX8_was 0 = .ok (.aload_n 0, 1) := by decide +kernel
theorem dX8_was_1 : decode cX8_was 1 = .ok (.iload_n 1, 1) := by decide +kernel
theorem dX8_was_2 : decode cX8_was 2 = .ok (.invokevirtual 164, 3) := by decide +kernel
theorem dX8_was_5 : decode cX8_was 5 = .ok (.ifCond .eq 30, 3) := by decide +kernel
theorem dX8_was_8 : decode cX8_was 8 = .ok (.iload_n 2, 1) := by decide +kernel
theorem dX8_was_9 : decode cX8_was 9 = .ok (.invokestatic 253, 3) := by decide +kernel
theorem dX8_was_12 : decode cX8_was 12 = .ok (.ifCond .eq 23, 3) := by decide +kernel
theorem dX8_was_15 : decode cX8_was 15 = .ok (.iload_n 2, 1) := by decide +kernel
theorem dX8_was_16 : decode cX8_was 16 = .ok (.ifCond .ne 11, 3) := by decide +kernel
theorem dX8_was_19 : decode cX8_was 19 = .ok (.aload_n 0, 1) := by decide +kernel
theorem dX8_was_20 : decode cX8_was 20 = .ok (.iload_n 1, 1) := by decide +kernel
theorem dX8_was_21 : decode cX8_was 21 = .ok (.invokevirtual 320, 3) := by decide +kernel
theorem dX8_was_24 : decode cX8_was 24 = .ok (.goto 13, 3) := by decide +kernel
theorem dX8_was_27 : decode cX8_was 27 = .ok (.aload_n 0, 1) := by decide +kernel
theorem dX8_was_28 : decode cX8_was 28 = .ok (.iload_n 1, 1) := by decide +kernel
theorem dX8_was_29 : decode cX8_was 29 = .ok (.invokevirtual 323, 3) := by decide +kernel
theorem dX8_was_32 : decode cX8_was 32 = .ok (.goto 5, 3) := by decide +kernel
theorem dX8_was_35 : decode cX8_was 35 = .ok (.bipush (-2), 2) := by decide +kernel
theorem dX8_was_37 : decode cX8_was 37 = .ok (.ireturn, 1) := by decide +kernel
theorem dX8_askOf_0 : decode cX8_askOf 0 = .ok (.aload_n 0, 1) := by decide +kernel
theorem dX8_askOf_1 : decode cX8_askOf 1 = .ok (.iload_n 1, 1) := by decide +kernel
theorem dX8_askOf_2 : decode cX8_askOf 2 = .ok (.invokevirtual 320, 3) := by decide +kernel
theorem dX8_askOf_5 : decode cX8_askOf 5 = .ok (.istore_n 2, 1) := by decide +kernel
theorem dX8_askOf_6 : decode cX8_askOf 6 = .ok (.iconst (-1), 1) := by decide +kernel
theorem dX8_askOf_7 : decode cX8_askOf 7 = .ok (.istore_n 3, 1) := by decide +kernel
theorem dX8_askOf_8 : decode cX8_askOf 8 = .ok (.iconst 0, 1) := by decide +kernel
theorem dX8_askOf_9 : decode cX8_askOf 9 = .ok (.istore 4, 2) := by decide +kernel
theorem dX8_askOf_11 : decode cX8_askOf 11 = .ok (.iconst 0, 1) := by decide +kernel
theorem dX8_askOf_12 : decode cX8_askOf 12 = .ok (.istore 5, 2) := by decide +kernel
theorem dX8_askOf_14 : decode cX8_askOf 14 = .ok (.iload 5, 2) := by decide +kernel
theorem dX8_askOf_16 : decode cX8_askOf 16 = .ok (.bipush 24, 2) := by decide +kernel
theorem dX8_askOf_18 : decode cX8_askOf 18 = .ok (.if_icmp .ge 165, 3) := by decide +kernel
theorem dX8_askOf_21 : decode cX8_askOf 21 = .ok (.iconst 0, 1) := by decide +kernel
theorem dX8_askOf_22 : decode cX8_askOf 22 = .ok (.istore 6, 2) := by decide +kernel
theorem dX8_askOf_24 : decode cX8_askOf 24 = .ok (.iconst 1, 1) := by decide +kernel
theorem dX8_askOf_25 : decode cX8_askOf 25 = .ok (.istore 7, 2) := by decide +kernel
theorem dX8_askOf_27 : decode cX8_askOf 27 = .ok (.iload 7, 2) := by decide +kernel
theorem dX8_askOf_29 : decode cX8_askOf 29 = .ok (.bipush 10, 2) := by decide +kernel
theorem dX8_askOf_31 : decode cX8_askOf 31 = .ok (.if_icmp .ge 101, 3) := by decide +kernel
theorem dX8_askOf_34 : decode cX8_askOf 34 = .ok (.iconst 0, 1) := by decide +kernel
theorem dX8_askOf_35 : decode cX8_askOf 35 = .ok (.istore 8, 2) := by decide +kernel
theorem dX8_askOf_37 : decode cX8_askOf 37 = .ok (.iconst 1, 1) := by decide +kernel
theorem dX8_askOf_38 : decode cX8_askOf 38 = .ok (.istore 9, 2) := by decide +kernel
theorem dX8_askOf_40 : decode cX8_askOf 40 = .ok (.iload 9, 2) := by decide +kernel
theorem dX8_askOf_42 : decode cX8_askOf 42 = .ok (.bipush 10, 2) := by decide +kernel
theorem dX8_askOf_44 : decode cX8_askOf 44 = .ok (.if_icmp .ge 66, 3) := by decide +kernel
theorem dX8_askOf_47 : decode cX8_askOf 47 = .ok (.iload 8, 2) := by decide +kernel
theorem dX8_askOf_49 : decode cX8_askOf 49 = .ok (.iload_n 2, 1) := by decide +kernel
theorem dX8_askOf_50 : decode cX8_askOf 50 = .ok (.iload 7, 2) := by decide +kernel
theorem dX8_askOf_52 : decode cX8_askOf 52 = .ok (.invokestatic 202, 3) := by decide +kernel
theorem dX8_askOf_55 : decode cX8_askOf 55 = .ok (.ifCond .eq 45, 3) := by decide +kernel
theorem dX8_askOf_58 : decode cX8_askOf 58 = .ok (.iload_n 2, 1) := by decide +kernel
theorem dX8_askOf_59 : decode cX8_askOf 59 = .ok (.iload 9, 2) := by decide +kernel
theorem dX8_askOf_61 : decode cX8_askOf 61 = .ok (.invokestatic 202, 3) := by decide +kernel
theorem dX8_askOf_64 : decode cX8_askOf 64 = .ok (.ifCond .eq 36, 3) := by decide +kernel
theorem dX8_askOf_67 : decode cX8_askOf 67 = .ok (.aload_n 0, 1) := by decide +kernel
theorem dX8_askOf_68 : decode cX8_askOf 68 = .ok (.getfield 91, 3) := by decide +kernel
theorem dX8_askOf_71 : decode cX8_askOf 71 = .ok (.bipush 24, 2) := by decide +kernel
theorem dX8_askOf_73 : decode cX8_askOf 73 = .ok (.iload 7, 2) := by decide +kernel
theorem dX8_askOf_75 : decode cX8_askOf 75 = .ok (.imul, 1) := by decide +kernel
theorem dX8_askOf_76 : decode cX8_askOf 76 = .ok (.iload 5, 2) := by decide +kernel
theorem dX8_askOf_78 : decode cX8_askOf 78 = .ok (.iadd, 1) := by decide +kernel
theorem dX8_askOf_79 : decode cX8_askOf 79 = .ok (.iaload, 1) := by decide +kernel
theorem dX8_askOf_80 : decode cX8_askOf 80 = .ok (.aload_n 0, 1) := by decide +kernel
theorem dX8_askOf_81 : decode cX8_askOf 81 = .ok (.getfield 91, 3) := by decide +kernel
theorem dX8_askOf_84 : decode cX8_askOf 84 = .ok (.bipush 24, 2) := by decide +kernel
theorem dX8_askOf_86 : decode cX8_askOf 86 = .ok (.iload 9, 2) := by decide +kernel
theorem dX8_askOf_88 : decode cX8_askOf 88 = .ok (.imul, 1) := by decide +kernel
theorem dX8_askOf_89 : decode cX8_askOf 89 = .ok (.iload 5, 2) := by decide +kernel
theorem dX8_askOf_91 : decode cX8_askOf 91 = .ok (.iadd, 1) := by decide +kernel
theorem dX8_askOf_92 : decode cX8_askOf 92 = .ok (.iaload, 1) := by decide +kernel
theorem dX8_askOf_93 : decode cX8_askOf 93 = .ok (.if_icmp .ne 7, 3) := by decide +kernel
theorem dX8_askOf_96 : decode cX8_askOf 96 = .ok (.iconst 1, 1) := by decide +kernel
theorem dX8_askOf_97 : decode cX8_askOf 97 = .ok (.goto 4, 3) := by decide +kernel
theorem dX8_askOf_100 : decode cX8_askOf 100 = .ok (.iconst 0, 1) := by decide +kernel
theorem dX8_askOf_101 : decode cX8_askOf 101 = .ok (.iadd, 1) := by decide +kernel
theorem dX8_askOf_102 : decode cX8_askOf 102 = .ok (.istore 8, 2) := by decide +kernel
theorem dX8_askOf_104 : decode cX8_askOf 104 = .ok (.iinc 9 1, 3) := by decide +kernel
theorem dX8_askOf_107 : decode cX8_askOf 107 = .ok (.goto (-67), 3) := by decide +kernel
theorem dX8_askOf_110 : decode cX8_askOf 110 = .ok (.iload 8, 2) := by decide +kernel
theorem dX8_askOf_112 : decode cX8_askOf 112 = .ok (.iload 6, 2) := by decide +kernel
theorem dX8_askOf_114 : decode cX8_askOf 114 = .ok (.if_icmp .le 8, 3) := by decide +kernel
theorem dX8_askOf_117 : decode cX8_askOf 117 = .ok (.iload 8, 2) := by decide +kernel
theorem dX8_askOf_119 : decode cX8_askOf 119 = .ok (.goto 5, 3) := by decide +kernel
theorem dX8_askOf_122 : decode cX8_askOf 122 = .ok (.iload 6, 2) := by decide +kernel
theorem dX8_askOf_124 : decode cX8_askOf 124 = .ok (.istore 6, 2) := by decide +kernel
theorem dX8_askOf_126 : decode cX8_askOf 126 = .ok (.iinc 7 1, 3) := by decide +kernel
theorem dX8_askOf_129 : decode cX8_askOf 129 = .ok (.goto (-102), 3) := by decide +kernel
theorem dX8_askOf_132 : decode cX8_askOf 132 = .ok (.iload_n 3, 1) := by decide +kernel
theorem dX8_askOf_133 : decode cX8_askOf 133 = .ok (.iconst (-1), 1) := by decide +kernel
theorem dX8_askOf_134 : decode cX8_askOf 134 = .ok (.if_icmp .eq 10, 3) := by decide +kernel
theorem dX8_askOf_137 : decode cX8_askOf 137 = .ok (.iload 6, 2) := by decide +kernel
theorem dX8_askOf_139 : decode cX8_askOf 139 = .ok (.iload 4, 2) := by decide +kernel
theorem dX8_askOf_141 : decode cX8_askOf 141 = .ok (.if_icmp .ge 7, 3) := by decide +kernel
theorem dX8_askOf_144 : decode cX8_askOf 144 = .ok (.iconst 1, 1) := by decide +kernel
theorem dX8_askOf_145 : decode cX8_askOf 145 = .ok (.goto 4, 3) := by decide +kernel
theorem dX8_askOf_148 : decode cX8_askOf 148 = .ok (.iconst 0, 1) := by decide +kernel
theorem dX8_askOf_149 : decode cX8_askOf 149 = .ok (.istore 7, 2) := by decide +kernel
theorem dX8_askOf_151 : decode cX8_askOf 151 = .ok (.iload 7, 2) := by decide +kernel
theorem dX8_askOf_153 : decode cX8_askOf 153 = .ok (.ifCond .eq 8, 3) := by decide +kernel
theorem dX8_askOf_156 : decode cX8_askOf 156 = .ok (.iload 5, 2) := by decide +kernel
theorem dX8_askOf_158 : decode cX8_askOf 158 = .ok (.goto 4, 3) := by decide +kernel
theorem dX8_askOf_161 : decode cX8_askOf 161 = .ok (.iload_n 3, 1) := by decide +kernel
theorem dX8_askOf_162 : decode cX8_askOf 162 = .ok (.istore_n 3, 1) := by decide +kernel
theorem dX8_askOf_163 : decode cX8_askOf 163 = .ok (.iload 7, 2) := by decide +kernel
theorem dX8_askOf_165 : decode cX8_askOf 165 = .ok (.ifCond .eq 8, 3) := by decide +kernel
theorem dX8_askOf_168 : decode cX8_askOf 168 = .ok (.iload 6, 2) := by decide +kernel
theorem dX8_askOf_170 : decode cX8_askOf 170 = .ok (.goto 5, 3) := by decide +kernel
theorem dX8_askOf_173 : decode cX8_askOf 173 = .ok (.iload 4, 2) := by decide +kernel
theorem dX8_askOf_175 : decode cX8_askOf 175 = .ok (.istore 4, 2) := by decide +kernel
theorem dX8_askOf_177 : decode cX8_askOf 177 = .ok (.iinc 5 1, 3) := by decide +kernel
theorem dX8_askOf_180 : decode cX8_askOf 180 = .ok (.goto (-166), 3) := by decide +kernel
theorem dX8_askOf_183 : decode cX8_askOf 183 = .ok (.iload_n 3, 1) := by decide +kernel
theorem dX8_askOf_184 : decode cX8_askOf 184 = .ok (.ireturn, 1) := by decide +kernel
theorem dX8_ask_0 : decode cX8_ask 0 = .ok (.aload_n 0, 1) := by decide +kernel
theorem dX8_ask_1 : decode cX8_ask 1 = .ok (.iload_n 1, 1) := by decide +kernel
theorem dX8_ask_2 : decode cX8_ask 2 = .ok (.invokevirtual 164, 3) := by decide +kernel
theorem dX8_ask_5 : decode cX8_ask 5 = .ok (.ifCond .eq 11, 3) := by decide +kernel
theorem dX8_ask_8 : decode cX8_ask 8 = .ok (.aload_n 0, 1) := by decide +kernel
theorem dX8_ask_9 : decode cX8_ask 9 = .ok (.iload_n 1, 1) := by decide +kernel
theorem dX8_ask_10 : decode cX8_ask 10 = .ok (.invokevirtual 326, 3) := by decide +kernel
theorem dX8_ask_13 : decode cX8_ask 13 = .ok (.goto 5, 3) := by decide +kernel
theorem dX8_ask_16 : decode cX8_ask 16 = .ok (.bipush (-2), 2) := by decide +kernel
theorem dX8_ask_18 : decode cX8_ask 18 = .ok (.ireturn, 1) := by decide +kernel
theorem dX8_chanceOf_0 : decode cX8_chanceOf 0 = .ok (.aload_n 0, 1) := by decide +kernel
theorem dX8_chanceOf_1 : decode cX8_chanceOf 1 = .ok (.invokevirtual 244, 3) := by decide +kernel
theorem dX8_chanceOf_4 : decode cX8_chanceOf 4 = .ok (.lconst 0, 1) := by decide +kernel
theorem dX8_chanceOf_5 : decode cX8_chanceOf 5 = .ok (.lstore 4, 2) := by decide +kernel
theorem dX8_chanceOf_7 : decode cX8_chanceOf 7 = .ok (.iconst 0, 1) := by decide +kernel
theorem dX8_chanceOf_8 : decode cX8_chanceOf 8 = .ok (.istore 6, 2) := by decide +kernel
theorem dX8_chanceOf_10 : decode cX8_chanceOf 10 = .ok (.iload 6, 2) := by decide +kernel
theorem dX8_chanceOf_12 : decode cX8_chanceOf 12 = .ok (.iconst 1, 1) := by decide +kernel
theorem dX8_chanceOf_13 : decode cX8_chanceOf 13 = .ok (.aload_n 0, 1) := by decide +kernel
theorem dX8_chanceOf_14 : decode cX8_chanceOf 14 = .ok (.getfield 179, 3) := by decide +kernel
theorem dX8_chanceOf_17 : decode cX8_chanceOf 17 = .ok (.ishl, 1) := by decide +kernel
theorem dX8_chanceOf_18 : decode cX8_chanceOf 18 = .ok (.if_icmp .ge 105, 3) := by decide +kernel
theorem dX8_chanceOf_21 : decode cX8_chanceOf 21 = .ok (.lconst 1, 1) := by decide +kernel
theorem dX8_chanceOf_22 : decode cX8_chanceOf 22 = .ok (.lstore 7, 2) := by decide +kernel
theorem dX8_chanceOf_24 : decode cX8_chanceOf 24 = .ok (.iconst 0, 1) := by decide +kernel
theorem dX8_chanceOf_25 : decode cX8_chanceOf 25 = .ok (.istore 9, 2) := by decide +kernel
theorem dX8_chanceOf_27 : decode cX8_chanceOf 27 = .ok (.iload 9, 2) := by decide +kernel
theorem dX8_chanceOf_29 : decode cX8_chanceOf 29 = .ok (.aload_n 0, 1) := by decide +kernel
theorem dX8_chanceOf_30 : decode cX8_chanceOf 30 = .ok (.getfield 179, 3) := by decide +kernel
theorem dX8_chanceOf_33 : decode cX8_chanceOf 33 = .ok (.if_icmp .ge 34, 3) := by decide +kernel
theorem dX8_chanceOf_36 : decode cX8_chanceOf 36 = .ok (.lload 7, 2) := by decide +kernel
theorem dX8_chanceOf_38 : decode cX8_chanceOf 38 = .ok (.iload 6, 2) := by decide +kernel
theorem dX8_chanceOf_40 : decode cX8_chanceOf 40 = .ok (.iload 9, 2) := by decide +kernel
theorem dX8_chanceOf_42 : decode cX8_chanceOf 42 = .ok (.invokestatic 202, 3) := by decide +kernel
theorem dX8_chanceOf_45 : decode cX8_chanceOf 45 = .ok (.ifCond .eq 11, 3) := by decide +kernel
theorem dX8_chanceOf_48 : decode cX8_chanceOf 48 = .ok (.bipush 16, 2) := by decide +kernel
theorem dX8_chanceOf_50 : decode cX8_chanceOf 50 = .ok (.iload_n 1, 1) := by decide +kernel
theorem dX8_chanceOf_51 : decode cX8_chanceOf 51 = .ok (.isub, 1) := by decide +kernel
theorem dX8_chanceOf_52 : decode cX8_chanceOf 52 = .ok (.i2l, 1) := by decide +kernel
theorem dX8_chanceOf_53 : decode cX8_chanceOf 53 = .ok (.goto 5, 3) := by decide +kernel
theorem dX8_chanceOf_56 : decode cX8_chanceOf 56 = .ok (.iload_n 1, 1) := by decide +kernel
theorem dX8_chanceOf_57 : decode cX8_chanceOf 57 = .ok (.i2l, 1) := by decide +kernel
theorem dX8_chanceOf_58 : decode cX8_chanceOf 58 = .ok (.lmul, 1) := by decide +kernel
theorem dX8_chanceOf_59 : decode cX8_chanceOf 59 = .ok (.lstore 7, 2) := by decide +kernel
theorem dX8_chanceOf_61 : decode cX8_chanceOf 61 = .ok (.iinc 9 1, 3) := by decide +kernel
theorem dX8_chanceOf_64 : decode cX8_chanceOf 64 = .ok (.goto (-37), 3) := by decide +kernel
theorem dX8_chanceOf_67 : decode cX8_chanceOf 67 = .ok (.lload 7, 2) := by decide +kernel
theorem dX8_chanceOf_69 : decode cX8_chanceOf 69 = .ok (.lconst 0, 1) := by decide +kernel
theorem dX8_chanceOf_70 : decode cX8_chanceOf 70 = .ok (.lcmp, 1) := by decide +kernel
theorem dX8_chanceOf_71 : decode cX8_chanceOf 71 = .ok (.ifCond .le 46, 3) := by decide +kernel
theorem dX8_chanceOf_74 : decode cX8_chanceOf 74 = .ok (.aload_n 0, 1) := by decide +kernel
theorem dX8_chanceOf_75 : decode cX8_chanceOf 75 = .ok (.iload 6, 2) := by decide +kernel
theorem dX8_chanceOf_77 : decode cX8_chanceOf 77 = .ok (.putfield 192, 3) := by decide +kernel
theorem dX8_chanceOf_80 : decode cX8_chanceOf 80 = .ok (.aload_n 0, 1) := by decide +kernel
theorem dX8_chanceOf_81 : decode cX8_chanceOf 81 = .ok (.invokevirtual 247, 3) := by decide +kernel
theorem dX8_chanceOf_84 : decode cX8_chanceOf 84 = .ok (.lload 4, 2) := by decide +kernel
theorem dX8_chanceOf_86 : decode cX8_chanceOf 86 = .ok (.aload_n 0, 1) := by decide +kernel
theorem dX8_chanceOf_87 : decode cX8_chanceOf 87 = .ok (.getfield 64, 3) := by decide +kernel
theorem dX8_chanceOf_90 : decode cX8_chanceOf 90 = .ok (.iconst 2, 1) := by decide +kernel
theorem dX8_chanceOf_91 : decode cX8_chanceOf 91 = .ok (.iload_n 2, 1) := by decide +kernel
theorem dX8_chanceOf_92 : decode cX8_chanceOf 92 = .ok (.imul, 1) := by decide +kernel
theorem dX8_chanceOf_93 : decode cX8_chanceOf 93 = .ok (.iaload, 1) := by decide +kernel
theorem dX8_chanceOf_94 : decode cX8_chanceOf 94 = .ok (.aload_n 0, 1) := by decide +kernel
theorem dX8_chanceOf_95 : decode cX8_chanceOf 95 = .ok (.getfield 64, 3) := by decide +kernel
theorem dX8_chanceOf_98 : decode cX8_chanceOf 98 = .ok (.iconst 2, 1) := by decide +kernel
theorem dX8_chanceOf_99 : decode cX8_chanceOf 99 = .ok (.iload_n 2, 1) := by decide +kernel
theorem dX8_chanceOf_100 : decode cX8_chanceOf 100 = .ok (.imul, 1) := by decide +kernel
theorem dX8_chanceOf_101 : decode cX8_chanceOf 101 = .ok (.iconst 1, 1) := by decide +kernel
theorem dX8_chanceOf_102 : decode cX8_chanceOf 102 = .ok (.iadd, 1) := by decide +kernel
theorem dX8_chanceOf_103 : decode cX8_chanceOf 103 = .ok (.iaload, 1) := by decide +kernel
theorem dX8_chanceOf_104 : decode cX8_chanceOf 104 = .ok (.iadd, 1) := by decide +kernel
theorem dX8_chanceOf_105 : decode cX8_chanceOf 105 = .ok (.ifCond .ne 8, 3) := by decide +kernel
theorem dX8_chanceOf_108 : decode cX8_chanceOf 108 = .ok (.lload 7, 2) := by decide +kernel
theorem dX8_chanceOf_110 : decode cX8_chanceOf 110 = .ok (.goto 4, 3) := by decide +kernel
theorem dX8_chanceOf_113 : decode cX8_chanceOf 113 = .ok (.lconst 0, 1) := by decide +kernel
theorem dX8_chanceOf_114 : decode cX8_chanceOf 114 = .ok (.ladd, 1) := by decide +kernel
theorem dX8_chanceOf_115 : decode cX8_chanceOf 115 = .ok (.lstore 4, 2) := by decide +kernel
theorem dX8_chanceOf_117 : decode cX8_chanceOf 117 = .ok (.iinc 6 1, 3) := by decide +kernel
theorem dX8_chanceOf_120 : decode cX8_chanceOf 120 = .ok (.goto (-110), 3) := by decide +kernel
theorem dX8_chanceOf_123 : decode cX8_chanceOf 123 = .ok (.lload 4, 2) := by decide +kernel
theorem dX8_chanceOf_125 : decode cX8_chanceOf 125 = .ok (.lconst 1, 1) := by decide +kernel
theorem dX8_chanceOf_126 : decode cX8_chanceOf 126 = .ok (.iconst 4, 1) := by decide +kernel
theorem dX8_chanceOf_127 : decode cX8_chanceOf 127 = .ok (.aload_n 0, 1) := by decide +kernel
theorem dX8_chanceOf_128 : decode cX8_chanceOf 128 = .ok (.getfield 179, 3) := by decide +kernel
theorem dX8_chanceOf_131 : decode cX8_chanceOf 131 = .ok (.imul, 1) := by decide +kernel
theorem dX8_chanceOf_132 : decode cX8_chanceOf 132 = .ok (.lshl, 1) := by decide +kernel
theorem dX8_chanceOf_133 : decode cX8_chanceOf 133 = .ok (.iload_n 3, 1) := by decide +kernel
theorem dX8_chanceOf_134 : decode cX8_chanceOf 134 = .ok (.invokestatic 329, 3) := by decide +kernel
theorem dX8_chanceOf_137 : decode cX8_chanceOf 137 = .ok (.lreturn, 1) := by decide +kernel
theorem dX8_chance_0 : decode cX8_chance 0 = .ok (.iload_n 1, 1) := by decide +kernel
theorem dX8_chance_1 : decode cX8_chance 1 = .ok (.iconst 0, 1) := by decide +kernel
theorem dX8_chance_2 : decode cX8_chance 2 = .ok (.bipush 16, 2) := by decide +kernel
theorem dX8_chance_4 : decode cX8_chance 4 = .ok (.invokestatic 112, 3) := by decide +kernel
theorem dX8_chance_7 : decode cX8_chance 7 = .ok (.ifCond .eq 27, 3) := by decide +kernel
theorem dX8_chance_10 : decode cX8_chance 10 = .ok (.iload_n 2, 1) := by decide +kernel
theorem dX8_chance_11 : decode cX8_chance 11 = .ok (.invokestatic 132, 3) := by decide +kernel
theorem dX8_chance_14 : decode cX8_chance 14 = .ok (.ifCond .eq 20, 3) := by decide +kernel
theorem dX8_chance_17 : decode cX8_chance 17 = .ok (.iload_n 3, 1) := by decide +kernel
theorem dX8_chance_18 : decode cX8_chance 18 = .ok (.invokestatic 253, 3) := by decide +kernel
theorem dX8_chance_21 : decode cX8_chance 21 = .ok (.ifCond .eq 13, 3) := by decide +kernel
theorem dX8_chance_24 : decode cX8_chance 24 = .ok (.aload_n 0, 1) := by decide +kernel
theorem dX8_chance_25 : decode cX8_chance 25 = .ok (.iload_n 1, 1) := by decide +kernel
theorem dX8_chance_26 : decode cX8_chance 26 = .ok (.iload_n 2, 1) := by decide +kernel
theorem dX8_chance_27 : decode cX8_chance 27 = .ok (.iload_n 3, 1) := by decide +kernel
theorem dX8_chance_28 : decode cX8_chance 28 = .ok (.invokevirtual 333, 3) := by decide +kernel
theorem dX8_chance_31 : decode cX8_chance 31 = .ok (.goto 8, 3) := by decide +kernel
theorem dX8_chance_34 : decode cX8_chance 34 = .ok (.bipush (-2), 2) := by decide +kernel
theorem dX8_chance_36 : decode cX8_chance 36 = .ok (.invokestatic 337, 3) := by decide +kernel
theorem dX8_chance_39 : decode cX8_chance 39 = .ok (.lreturn, 1) := by decide +kernel
theorem dX8_yearsOf_0 : decode cX8_yearsOf 0 = .ok (.aload_n 0, 1) := by decide +kernel
theorem dX8_yearsOf_1 : decode cX8_yearsOf 1 = .ok (.invokevirtual 244, 3) := by decide +kernel
theorem dX8_yearsOf_4 : decode cX8_yearsOf 4 = .ok (.iload_n 1, 1) := by decide +kernel
theorem dX8_yearsOf_5 : decode cX8_yearsOf 5 = .ok (.istore 4, 2) := by decide +kernel
theorem dX8_yearsOf_7 : decode cX8_yearsOf 7 = .ok (.iconst 0, 1) := by decide +kernel
theorem dX8_yearsOf_8 : decode cX8_yearsOf 8 = .ok (.istore 5, 2) := by decide +kernel
theorem dX8_yearsOf_10 : decode cX8_yearsOf 10 = .ok (.iload 5, 2) := by decide +kernel
theorem dX8_yearsOf_12 : decode cX8_yearsOf 12 = .ok (.bipush 24, 2) := by decide +kernel
theorem dX8_yearsOf_14 : decode cX8_yearsOf 14 = .ok (.if_icmp .ge 56, 3) := by decide +kernel
theorem dX8_yearsOf_17 : decode cX8_yearsOf 17 = .ok (.iload 5, 2) := by decide +kernel
theorem dX8_yearsOf_19 : decode cX8_yearsOf 19 = .ok (.iload_n 2, 1) := by decide +kernel
theorem dX8_yearsOf_20 : decode cX8_yearsOf 20 = .ok (.if_icmp .ge 16, 3) := by decide +kernel
theorem dX8_yearsOf_23 : decode cX8_yearsOf 23 = .ok (.ldc_w 341, 3) := by decide +kernel
theorem dX8_yearsOf_26 : decode cX8_yearsOf 26 = .ok (.iload 4, 2) := by decide +kernel
theorem dX8_yearsOf_28 : decode cX8_yearsOf 28 = .ok (.imul, 1) := by decide +kernel
theorem dX8_yearsOf_29 : decode cX8_yearsOf 29 = .ok (.sipush 12345, 3) := by decide +kernel
theorem dX8_yearsOf_32 : decode cX8_yearsOf 32 = .ok (.iadd, 1) := by decide +kernel
theorem dX8_yearsOf_33 : decode cX8_yearsOf 33 = .ok (.goto 5, 3) := by decide +kernel
theorem dX8_yearsOf_36 : decode cX8_yearsOf 36 = .ok (.iload 4, 2) := by decide +kernel
theorem dX8_yearsOf_38 : decode cX8_yearsOf 38 = .ok (.istore 4, 2) := by decide +kernel
theorem dX8_yearsOf_40 : decode cX8_yearsOf 40 = .ok (.aload_n 0, 1) := by decide +kernel
theorem dX8_yearsOf_41 : decode cX8_yearsOf 41 = .ok (.getfield 46, 3) := by decide +kernel
theorem dX8_yearsOf_44 : decode cX8_yearsOf 44 = .ok (.iload 5, 2) := by decide +kernel
theorem dX8_yearsOf_46 : decode cX8_yearsOf 46 = .ok (.iload 5, 2) := by decide +kernel
theorem dX8_yearsOf_48 : decode cX8_yearsOf 48 = .ok (.iload_n 2, 1) := by decide +kernel
theorem dX8_yearsOf_49 : decode cX8_yearsOf 49 = .ok (.if_icmp .ge 13, 3) := by decide +kernel
theorem dX8_yearsOf_52 : decode cX8_yearsOf 52 = .ok (.iload 4, 2) := by decide +kernel
theorem dX8_yearsOf_54 : decode cX8_yearsOf 54 = .ok (.bipush 16, 2) := by decide +kernel
theorem dX8_yearsOf_56 : decode cX8_yearsOf 56 = .ok (.iushr, 1) := by decide +kernel
theorem dX8_yearsOf_57 : decode cX8_yearsOf 57 = .ok (.iconst 4, 1) := by decide +kernel
theorem dX8_yearsOf_58 : decode cX8_yearsOf 58 = .ok (.irem, 1) := by decide +kernel
theorem dX8_yearsOf_59 : decode cX8_yearsOf 59 = .ok (.goto 4, 3) := by decide +kernel
theorem dX8_yearsOf_62 : decode cX8_yearsOf 62 = .ok (.iconst 1, 1) := by decide +kernel
theorem dX8_yearsOf_63 : decode cX8_yearsOf 63 = .ok (.iastore, 1) := by decide +kernel
theorem dX8_yearsOf_64 : decode cX8_yearsOf 64 = .ok (.iinc 5 1, 3) := by decide +kernel
theorem dX8_yearsOf_67 : decode cX8_yearsOf 67 = .ok (.goto (-57), 3) := by decide +kernel
theorem dX8_yearsOf_70 : decode cX8_yearsOf 70 = .ok (.aload_n 0, 1) := by decide +kernel
theorem dX8_yearsOf_71 : decode cX8_yearsOf 71 = .ok (.invokevirtual 247, 3) := by decide +kernel
theorem dX8_yearsOf_74 : decode cX8_yearsOf 74 = .ok (.iload_n 3, 1) := by decide +kernel
theorem dX8_yearsOf_75 : decode cX8_yearsOf 75 = .ok (.ifCond .ne 10, 3) := by decide +kernel
theorem dX8_yearsOf_78 : decode cX8_yearsOf 78 = .ok (.aload_n 0, 1) := by decide +kernel
theorem dX8_yearsOf_79 : decode cX8_yearsOf 79 = .ok (.invokevirtual 289, 3) := by decide +kernel
theorem dX8_yearsOf_82 : decode cX8_yearsOf 82 = .ok (.goto 7, 3) := by decide +kernel
theorem dX8_yearsOf_85 : decode cX8_yearsOf 85 = .ok (.aload_n 0, 1) := by decide +kernel
theorem dX8_yearsOf_86 : decode cX8_yearsOf 86 = .ok (.getfield 238, 3) := by decide +kernel
theorem dX8_yearsOf_89 : decode cX8_yearsOf 89 = .ok (.ireturn, 1) := by decide +kernel
theorem dX8_years_0 : decode cX8_years 0 = .ok (.iload_n 2, 1) := by decide +kernel
theorem dX8_years_1 : decode cX8_years 1 = .ok (.iconst 0, 1) := by decide +kernel
theorem dX8_years_2 : decode cX8_years 2 = .ok (.bipush 24, 2) := by decide +kernel
theorem dX8_years_4 : decode cX8_years 4 = .ok (.invokestatic 112, 3) := by decide +kernel
theorem dX8_years_7 : decode cX8_years 7 = .ok (.ifCond .eq 20, 3) := by decide +kernel
theorem dX8_years_10 : decode cX8_years 10 = .ok (.iload_n 3, 1) := by decide +kernel
theorem dX8_years_11 : decode cX8_years 11 = .ok (.invokestatic 253, 3) := by decide +kernel
theorem dX8_years_14 : decode cX8_years 14 = .ok (.ifCond .eq 13, 3) := by decide +kernel
theorem dX8_years_17 : decode cX8_years 17 = .ok (.aload_n 0, 1) := by decide +kernel
theorem dX8_years_18 : decode cX8_years 18 = .ok (.iload_n 1, 1) := by decide +kernel
theorem dX8_years_19 : decode cX8_years 19 = .ok (.iload_n 2, 1) := by decide +kernel
theorem dX8_years_20 : decode cX8_years 20 = .ok (.iload_n 3, 1) := by decide +kernel
theorem dX8_years_21 : decode cX8_years 21 = .ok (.invokevirtual 342, 3) := by decide +kernel
theorem dX8_years_24 : decode cX8_years 24 = .ok (.goto 5, 3) := by decide +kernel
theorem dX8_years_27 : decode cX8_years 27 = .ok (.bipush (-2), 2) := by decide +kernel
theorem dX8_years_29 : decode cX8_years 29 = .ok (.ireturn, 1) := by decide +kernel
theorem dX8_meets_0 : decode cX8_meets 0 = .ok (.aload_n 0, 1) := by decide +kernel
theorem dX8_meets_1 : decode cX8_meets 1 = .ok (.iload_n 1, 1) := by decide +kernel
theorem dX8_meets_2 : decode cX8_meets 2 = .ok (.putfield 345, 3) := by decide +kernel
theorem dX8_meets_5 : decode cX8_meets 5 = .ok (.bipush (-10), 2) := by decide +kernel
theorem dX8_meets_7 : decode cX8_meets 7 = .ok (.iload_n 1, 1) := by decide +kernel
theorem dX8_meets_8 : decode cX8_meets 8 = .ok (.isub, 1) := by decide +kernel
theorem dX8_meets_9 : decode cX8_meets 9 = .ok (.ireturn, 1) := by decide +kernel
theorem dX8_isSheet_0 : decode cX8_isSheet 0 = .ok (.iload_n 0, 1) := by decide +kernel
theorem dX8_isSheet_1 : decode cX8_isSheet 1 = .ok (.iconst 0, 1) := by decide +kernel
theorem dX8_isSheet_2 : decode cX8_isSheet 2 = .ok (.iconst 3, 1) := by decide +kernel
theorem dX8_isSheet_3 : decode cX8_isSheet 3 = .ok (.invokestatic 112, 3) := by decide +kernel
theorem dX8_isSheet_6 : decode cX8_isSheet 6 = .ok (.ireturn, 1) := by decide +kernel
theorem dX8_sheet_0 : decode cX8_sheet 0 = .ok (.iload_n 1, 1) := by decide +kernel
theorem dX8_sheet_1 : decode cX8_sheet 1 = .ok (.invokestatic 182, 3) := by decide +kernel
theorem dX8_sheet_4 : decode cX8_sheet 4 = .ok (.ifCond .eq 18, 3) := by decide +kernel
theorem dX8_sheet_7 : decode cX8_sheet 7 = .ok (.iload_n 2, 1) := by decide +kernel
theorem dX8_sheet_8 : decode cX8_sheet 8 = .ok (.iconst 0, 1) := by decide +kernel
theorem dX8_sheet_9 : decode cX8_sheet 9 = .ok (.iconst 2, 1) := by decide +kernel
theorem dX8_sheet_10 : decode cX8_sheet 10 = .ok (.invokestatic 112, 3) := by decide +kernel
theorem dX8_sheet_13 : decode cX8_sheet 13 = .ok (.ifCond .eq 9, 3) := by decide +kernel
theorem dX8_sheet_16 : decode cX8_sheet 16 = .ok (.iload_n 3, 1) := by decide +kernel
theorem dX8_sheet_17 : decode cX8_sheet 17 = .ok (.bipush 60, 2) := by decide +kernel
theorem dX8_sheet_19 : decode cX8_sheet 19 = .ok (.if_icmp .le 6, 3) := by decide +kernel
theorem dX8_sheet_22 : decode cX8_sheet 22 = .ok (.bipush (-2), 2) := by decide +kernel
theorem dX8_sheet_24 : decode cX8_sheet 24 = .ok (.ireturn, 1) := by decide +kernel
theorem dX8_sheet_25 : decode cX8_sheet 25 = .ok (.iload_n 3, 1) := by decide +kernel
theorem dX8_sheet_26 : decode cX8_sheet 26 = .ok (.ifCond .ge 9, 3) := by decide +kernel
theorem dX8_sheet_29 : decode cX8_sheet 29 = .ok (.aload_n 0, 1) := by decide +kernel
theorem dX8_sheet_30 : decode cX8_sheet 30 = .ok (.iconst 5, 1) := by decide +kernel
theorem dX8_sheet_31 : decode cX8_sheet 31 = .ok (.invokevirtual 185, 3) := by decide +kernel
theorem dX8_sheet_34 : decode cX8_sheet 34 = .ok (.ireturn, 1) := by decide +kernel
theorem dX8_sheet_35 : decode cX8_sheet 35 = .ok (.aload_n 0, 1) := by decide +kernel
theorem dX8_sheet_36 : decode cX8_sheet 36 = .ok (.getfield 94, 3) := by decide +kernel
theorem dX8_sheet_39 : decode cX8_sheet 39 = .ok (.iload_n 1, 1) := by decide +kernel
theorem dX8_sheet_40 : decode cX8_sheet 40 = .ok (.iconst 1, 1) := by decide +kernel
theorem dX8_sheet_41 : decode cX8_sheet 41 = .ok (.bastore, 1) := by decide +kernel
theorem dX8_sheet_42 : decode cX8_sheet 42 = .ok (.aload_n 0, 1) := by decide +kernel
theorem dX8_sheet_43 : decode cX8_sheet 43 = .ok (.getfield 98, 3) := by decide +kernel
theorem dX8_sheet_46 : decode cX8_sheet 46 = .ok (.iload_n 1, 1) := by decide +kernel
theorem dX8_sheet_47 : decode cX8_sheet 47 = .ok (.iload_n 2, 1) := by decide +kernel
theorem dX8_sheet_48 : decode cX8_sheet 48 = .ok (.iastore, 1) := by decide +kernel
theorem dX8_sheet_49 : decode cX8_sheet 49 = .ok (.aload_n 0, 1) := by decide +kernel
theorem dX8_sheet_50 : decode cX8_sheet 50 = .ok (.getfield 101, 3) := by decide +kernel
theorem dX8_sheet_53 : decode cX8_sheet 53 = .ok (.iload_n 1, 1) := by decide +kernel
theorem dX8_sheet_54 : decode cX8_sheet 54 = .ok (.iload_n 3, 1) := by decide +kernel
theorem dX8_sheet_55 : decode cX8_sheet 55 = .ok (.iastore, 1) := by decide +kernel
theorem dX8_sheet_56 : decode cX8_sheet 56 = .ok (.iconst 0, 1) := by decide +kernel
theorem dX8_sheet_57 : decode cX8_sheet 57 = .ok (.istore 4, 2) := by decide +kernel
theorem dX8_sheet_59 : decode cX8_sheet 59 = .ok (.iload 4, 2) := by decide +kernel
theorem dX8_sheet_61 : decode cX8_sheet 61 = .ok (.bipush 60, 2) := by decide +kernel
theorem dX8_sheet_63 : decode cX8_sheet 63 = .ok (.if_icmp .ge 22, 3) := by decide +kernel
theorem dX8_sheet_66 : decode cX8_sheet 66 = .ok (.aload_n 0, 1) := by decide +kernel
theorem dX8_sheet_67 : decode cX8_sheet 67 = .ok (.getfield 104, 3) := by decide +kernel
theorem dX8_sheet_70 : decode cX8_sheet 70 = .ok (.bipush 60, 2) := by decide +kernel
theorem dX8_sheet_72 : decode cX8_sheet 72 = .ok (.iload_n 1, 1) := by decide +kernel
theorem dX8_sheet_73 : decode cX8_sheet 73 = .ok (.imul, 1) := by decide +kernel
theorem dX8_sheet_74 : decode cX8_sheet 74 = .ok (.iload 4, 2) := by decide +kernel
theorem dX8_sheet_76 : decode cX8_sheet 76 = .ok (.iadd, 1) := by decide +kernel
theorem dX8_sheet_77 : decode cX8_sheet 77 = .ok (.iconst 0, 1) := by decide +kernel
theorem dX8_sheet_78 : decode cX8_sheet 78 = .ok (.iastore, 1) := by decide +kernel
theorem dX8_sheet_79 : decode cX8_sheet 79 = .ok (.iinc 4 1, 3) := by decide +kernel
theorem dX8_sheet_82 : decode cX8_sheet 82 = .ok (.goto (-23), 3) := by decide +kernel
theorem dX8_sheet_85 : decode cX8_sheet 85 = .ok (.iload_n 3, 1) := by decide +kernel
theorem dX8_sheet_86 : decode cX8_sheet 86 = .ok (.ireturn, 1) := by decide +kernel
theorem dX8_lose_0 : decode cX8_lose 0 = .ok (.iload_n 1, 1) := by decide +kernel
theorem dX8_lose_1 : decode cX8_lose 1 = .ok (.invokestatic 182, 3) := by decide +kernel
theorem dX8_lose_4 : decode cX8_lose 4 = .ok (.ifCond .ne 6, 3) := by decide +kernel
theorem dX8_lose_7 : decode cX8_lose 7 = .ok (.bipush (-2), 2) := by decide +kernel
theorem dX8_lose_9 : decode cX8_lose 9 = .ok (.ireturn, 1) := by decide +kernel
theorem dX8_lose_10 : decode cX8_lose 10 = .ok (.aload_n 0, 1) := by decide +kernel
theorem dX8_lose_11 : decode cX8_lose 11 = .ok (.getfield 94, 3) := by decide +kernel
theorem dX8_lose_14 : decode cX8_lose 14 = .ok (.iload_n 1, 1) := by decide +kernel
theorem dX8_lose_15 : decode cX8_lose 15 = .ok (.baload, 1) := by decide +kernel
theorem dX8_lose_16 : decode cX8_lose 16 = .ok (.ifCond .ne 9, 3) := by decide +kernel
theorem dX8_lose_19 : decode cX8_lose 19 = .ok (.aload_n 0, 1) := by decide +kernel
theorem dX8_lose_20 : decode cX8_lose 20 = .ok (.iconst 1, 1) := by decide +kernel
theorem dX8_lose_21 : decode cX8_lose 21 = .ok (.invokevirtual 185, 3) := by decide +kernel
theorem dX8_lose_24 : decode cX8_lose 24 = .ok (.ireturn, 1) := by decide +kernel
theorem dX8_lose_25 : decode cX8_lose 25 = .ok (.aload_n 0, 1) := by decide +kernel
theorem dX8_lose_26 : decode cX8_lose 26 = .ok (.getfield 94, 3) := by decide +kernel
theorem dX8_lose_29 : decode cX8_lose 29 = .ok (.iload_n 1, 1) := by decide +kernel
theorem dX8_lose_30 : decode cX8_lose 30 = .ok (.iconst 0, 1) := by decide +kernel
theorem dX8_lose_31 : decode cX8_lose 31 = .ok (.bastore, 1) := by decide +kernel
theorem dX8_lose_32 : decode cX8_lose 32 = .ok (.aload_n 0, 1) := by decide +kernel
theorem dX8_lose_33 : decode cX8_lose 33 = .ok (.getfield 101, 3) := by decide +kernel
theorem dX8_lose_36 : decode cX8_lose 36 = .ok (.iload_n 1, 1) := by decide +kernel
theorem dX8_lose_37 : decode cX8_lose 37 = .ok (.iaload, 1) := by decide +kernel
theorem dX8_lose_38 : decode cX8_lose 38 = .ok (.ireturn, 1) := by decide +kernel
theorem dX8_lacks_0 : decode cX8_lacks 0 = .ok (.aload_n 0, 1) := by decide +kernel
theorem dX8_lacks_1 : decode cX8_lacks 1 = .ok (.getfield 94, 3) := by decide +kernel
theorem dX8_lacks_4 : decode cX8_lacks 4 = .ok (.iload_n 1, 1) := by decide +kernel
theorem dX8_lacks_5 : decode cX8_lacks 5 = .ok (.baload, 1) := by decide +kernel
theorem dX8_lacks_6 : decode cX8_lacks 6 = .ok (.ifCond .ne 7, 3) := by decide +kernel
theorem dX8_lacks_9 : decode cX8_lacks 9 = .ok (.iconst 1, 1) := by decide +kernel
theorem dX8_lacks_10 : decode cX8_lacks 10 = .ok (.goto 38, 3) := by decide +kernel
theorem dX8_lacks_13 : decode cX8_lacks 13 = .ok (.aload_n 0, 1) := by decide +kernel
theorem dX8_lacks_14 : decode cX8_lacks 14 = .ok (.getfield 98, 3) := by decide +kernel
theorem dX8_lacks_17 : decode cX8_lacks 17 = .ok (.iload_n 1, 1) := by decide +kernel
theorem dX8_lacks_18 : decode cX8_lacks 18 = .ok (.iaload, 1) := by decide +kernel
theorem dX8_lacks_19 : decode cX8_lacks 19 = .ok (.iload_n 2, 1) := by decide +kernel
theorem dX8_lacks_20 : decode cX8_lacks 20 = .ok (.if_icmp .eq 7, 3) := by decide +kernel
theorem dX8_lacks_23 : decode cX8_lacks 23 = .ok (.iconst 3, 1) := by decide +kernel
theorem dX8_lacks_24 : decode cX8_lacks 24 = .ok (.goto 24, 3) := by decide +kernel
theorem dX8_lacks_27 : decode cX8_lacks 27 = .ok (.iload_n 3, 1) := by decide +kernel
theorem dX8_lacks_28 : decode cX8_lacks 28 = .ok (.iconst 0, 1) := by decide +kernel
theorem dX8_lacks_29 : decode cX8_lacks 29 = .ok (.aload_n 0, 1) := by decide +kernel
theorem dX8_lacks_30 : decode cX8_lacks 30 = .ok (.getfield 101, 3) := by decide +kernel
theorem dX8_lacks_33 : decode cX8_lacks 33 = .ok (.iload_n 1, 1) := by decide +kernel
theorem dX8_lacks_34 : decode cX8_lacks 34 = .ok (.iaload, 1) := by decide +kernel
theorem dX8_lacks_35 : decode cX8_lacks 35 = .ok (.iconst 1, 1) := by decide +kernel
theorem dX8_lacks_36 : decode cX8_lacks 36 = .ok (.isub, 1) := by decide +kernel
theorem dX8_lacks_37 : decode cX8_lacks 37 = .ok (.invokestatic 112, 3) := by decide +kernel
theorem dX8_lacks_40 : decode cX8_lacks 40 = .ok (.ifCond .eq 7, 3) := by decide +kernel
theorem dX8_lacks_43 : decode cX8_lacks 43 = .ok (.iconst 0, 1) := by decide +kernel
theorem dX8_lacks_44 : decode cX8_lacks 44 = .ok (.goto 4, 3) := by decide +kernel
theorem dX8_lacks_47 : decode cX8_lacks 47 = .ok (.iconst 2, 1) := by decide +kernel
theorem dX8_lacks_48 : decode cX8_lacks 48 = .ok (.ireturn, 1) := by decide +kernel
theorem dX8_keep_0 : decode cX8_keep 0 = .ok (.aload_n 0, 1) := by decide +kernel
theorem dX8_keep_1 : decode cX8_keep 1 = .ok (.getfield 104, 3) := by decide +kernel
theorem dX8_keep_4 : decode cX8_keep 4 = .ok (.bipush 60, 2) := by decide +kernel
theorem dX8_keep_6 : decode cX8_keep 6 = .ok (.iload_n 1, 1) := by decide +kernel
theorem dX8_keep_7 : decode cX8_keep 7 = .ok (.imul, 1) := by decide +kernel
theorem dX8_keep_8 : decode cX8_keep 8 = .ok (.iload_n 2, 1) := by decide +kernel
theorem dX8_keep_9 : decode cX8_keep 9 = .ok (.iadd, 1) := by decide +kernel
theorem dX8_keep_10 : decode cX8_keep 10 = .ok (.aload_n 0, 1) := by decide +kernel
theorem dX8_keep_11 : decode cX8_keep 11 = .ok (.getfield 98, 3) := by decide +kernel
theorem dX8_keep_14 : decode cX8_keep 14 = .ok (.iload_n 1, 1) := by decide +kernel
theorem dX8_keep_15 : decode cX8_keep 15 = .ok (.iaload, 1) := by decide +kernel
theorem dX8_keep_16 : decode cX8_keep 16 = .ok (.ifCond .ne 8, 3) := by decide +kernel
theorem dX8_keep_19 : decode cX8_keep 19 = .ok (.iload_n 3, 1) := by decide +kernel
theorem dX8_keep_20 : decode cX8_keep 20 = .ok (.i2b, 1) := by decide +kernel
theorem dX8_keep_21 : decode cX8_keep 21 = .ok (.goto 19, 3) := by decide +kernel
theorem dX8_keep_24 : decode cX8_keep 24 = .ok (.aload_n 0, 1) := by decide +kernel
theorem dX8_keep_25 : decode cX8_keep 25 = .ok (.getfield 98, 3) := by decide +kernel
theorem dX8_keep_28 : decode cX8_keep 28 = .ok (.iload_n 1, 1) := by decide +kernel
theorem dX8_keep_29 : decode cX8_keep 29 = .ok (.iaload, 1) := by decide +kernel
theorem dX8_keep_30 : decode cX8_keep 30 = .ok (.iconst 1, 1) := by decide +kernel
theorem dX8_keep_31 : decode cX8_keep 31 = .ok (.if_icmp .ne 8, 3) := by decide +kernel
theorem dX8_keep_34 : decode cX8_keep 34 = .ok (.iload_n 3, 1) := by decide +kernel
theorem dX8_keep_35 : decode cX8_keep 35 = .ok (.i2s, 1) := by decide +kernel
theorem dX8_keep_36 : decode cX8_keep 36 = .ok (.goto 4, 3) := by decide +kernel
theorem dX8_keep_39 : decode cX8_keep 39 = .ok (.iload_n 3, 1) := by decide +kernel
theorem dX8_keep_40 : decode cX8_keep 40 = .ok (.iastore, 1) := by decide +kernel
theorem dX8_keep_41 : decode cX8_keep 41 = .ok (.return_, 1) := by decide +kernel
theorem dX8_put_0 : decode cX8_put 0 = .ok (.iload_n 1, 1) := by decide +kernel
theorem dX8_put_1 : decode cX8_put 1 = .ok (.invokestatic 182, 3) := by decide +kernel
theorem dX8_put_4 : decode cX8_put 4 = .ok (.ifCond .eq 12, 3) := by decide +kernel
theorem dX8_put_7 : decode cX8_put 7 = .ok (.iload_n 2, 1) := by decide +kernel
theorem dX8_put_8 : decode cX8_put 8 = .ok (.iconst 0, 1) := by decide +kernel
theorem dX8_put_9 : decode cX8_put 9 = .ok (.iconst 2, 1) := by decide +kernel
theorem dX8_put_10 : decode cX8_put 10 = .ok (.invokestatic 112, 3) := by decide +kernel
theorem dX8_put_13 : decode cX8_put 13 = .ok (.ifCond .ne 6, 3) := by decide +kernel
theorem dX8_put_16 : decode cX8_put 16 = .ok (.bipush (-2), 2) := by decide +kernel
theorem dX8_put_18 : decode cX8_put 18 = .ok (.ireturn, 1) := by decide +kernel
theorem dX8_put_19 : decode cX8_put 19 = .ok (.aload_n 0, 1) := by decide +kernel
theorem dX8_put_20 : decode cX8_put 20 = .ok (.iload_n 1, 1) := by decide +kernel
theorem dX8_put_21 : decode cX8_put 21 = .ok (.iload_n 2, 1) := by decide +kernel
theorem dX8_put_22 : decode cX8_put 22 = .ok (.iload_n 3, 1) := by decide +kernel
theorem dX8_put_23 : decode cX8_put 23 = .ok (.invokevirtual 348, 3) := by decide +kernel
theorem dX8_put_26 : decode cX8_put 26 = .ok (.istore 5, 2) := by decide +kernel
theorem dX8_put_28 : decode cX8_put 28 = .ok (.iload 5, 2) := by decide +kernel
theorem dX8_put_30 : decode cX8_put 30 = .ok (.ifCond .le 10, 3) := by decide +kernel
theorem dX8_put_33 : decode cX8_put 33 = .ok (.aload_n 0, 1) := by decide +kernel
theorem dX8_put_34 : decode cX8_put 34 = .ok (.iload 5, 2) := by decide +kernel
theorem dX8_put_36 : decode cX8_put 36 = .ok (.invokevirtual 185, 3) := by decide +kernel
theorem dX8_put_39 : decode cX8_put 39 = .ok (.ireturn, 1) := by decide +kernel
theorem dX8_put_40 : decode cX8_put 40 = .ok (.aload_n 0, 1) := by decide +kernel
theorem dX8_put_41 : decode cX8_put 41 = .ok (.iload_n 1, 1) := by decide +kernel
theorem dX8_put_42 : decode cX8_put 42 = .ok (.iload_n 3, 1) := by decide +kernel
theorem dX8_put_43 : decode cX8_put 43 = .ok (.iload 4, 2) := by decide +kernel
theorem dX8_put_45 : decode cX8_put 45 = .ok (.invokevirtual 351, 3) := by decide +kernel
theorem dX8_put_48 : decode cX8_put 48 = .ok (.iconst 1, 1) := by decide +kernel
theorem dX8_put_49 : decode cX8_put 49 = .ok (.ireturn, 1) := by decide +kernel
theorem dX8_get_0 : decode cX8_get 0 = .ok (.iload_n 1, 1) := by decide +kernel
theorem dX8_get_1 : decode cX8_get 1 = .ok (.invokestatic 182, 3) := by decide +kernel
theorem dX8_get_4 : decode cX8_get 4 = .ok (.ifCond .eq 12, 3) := by decide +kernel
theorem dX8_get_7 : decode cX8_get 7 = .ok (.iload_n 2, 1) := by decide +kernel
theorem dX8_get_8 : decode cX8_get 8 = .ok (.iconst 0, 1) := by decide +kernel
theorem dX8_get_9 : decode cX8_get 9 = .ok (.iconst 2, 1) := by decide +kernel
theorem dX8_get_10 : decode cX8_get 10 = .ok (.invokestatic 112, 3) := by decide +kernel
theorem dX8_get_13 : decode cX8_get 13 = .ok (.ifCond .ne 7, 3) := by decide +kernel
theorem dX8_get_16 : decode cX8_get 16 = .ok (.ldc_w 355, 3) := by decide +kernel
theorem dX8_get_19 : decode cX8_get 19 = .ok (.ireturn, 1) := by decide +kernel
theorem dX8_get_20 : decode cX8_get 20 = .ok (.aload_n 0, 1) := by decide +kernel
theorem dX8_get_21 : decode cX8_get 21 = .ok (.iload_n 1, 1) := by decide +kernel
theorem dX8_get_22 : decode cX8_get 22 = .ok (.iload_n 2, 1) := by decide +kernel
theorem dX8_get_23 : decode cX8_get 23 = .ok (.iload_n 3, 1) := by decide +kernel
theorem dX8_get_24 : decode cX8_get 24 = .ok (.invokevirtual 348, 3) := by decide +kernel
theorem dX8_get_27 : decode cX8_get 27 = .ok (.istore 4, 2) := by decide +kernel
theorem dX8_get_29 : decode cX8_get 29 = .ok (.iload 4, 2) := by decide +kernel
theorem dX8_get_31 : decode cX8_get 31 = .ok (.ifCond .le 13, 3) := by decide +kernel
theorem dX8_get_34 : decode cX8_get 34 = .ok (.aload_n 0, 1) := by decide +kernel
theorem dX8_get_35 : decode cX8_get 35 = .ok (.iload 4, 2) := by decide +kernel
theorem dX8_get_37 : decode cX8_get 37 = .ok (.putfield 345, 3) := by decide +kernel
theorem dX8_get_40 : decode cX8_get 40 = .ok (.ldc_w 355, 3) := by decide +kernel
theorem dX8_get_43 : decode cX8_get 43 = .ok (.ireturn, 1) := by decide +kernel
theorem dX8_get_44 : decode cX8_get 44 = .ok (.aload_n 0, 1) := by decide +kernel
theorem dX8_get_45 : decode cX8_get 45 = .ok (.getfield 104, 3) := by decide +kernel
theorem dX8_get_48 : decode cX8_get 48 = .ok (.bipush 60, 2) := by decide +kernel
theorem dX8_get_50 : decode cX8_get 50 = .ok (.iload_n 1, 1) := by decide +kernel
theorem dX8_get_51 : decode cX8_get 51 = .ok (.imul, 1) := by decide +kernel
theorem dX8_get_52 : decode cX8_get 52 = .ok (.iload_n 3, 1) := by decide +kernel
theorem dX8_get_53 : decode cX8_get 53 = .ok (.iadd, 1) := by decide +kernel
theorem dX8_get_54 : decode cX8_get 54 = .ok (.iaload, 1) := by decide +kernel
theorem dX8_get_55 : decode cX8_get 55 = .ok (.ireturn, 1) := by decide +kernel
theorem dX8_copy_0 : decode cX8_copy 0 = .ok (.iload_n 1, 1) := by decide +kernel
theorem dX8_copy_1 : decode cX8_copy 1 = .ok (.invokestatic 182, 3) := by decide +kernel
theorem dX8_copy_4 : decode cX8_copy 4 = .ok (.ifCond .eq 10, 3) := by decide +kernel
theorem dX8_copy_7 : decode cX8_copy 7 = .ok (.iload_n 3, 1) := by decide +kernel
theorem dX8_copy_8 : decode cX8_copy 8 = .ok (.invokestatic 182, 3) := by decide +kernel
theorem dX8_copy_11 : decode cX8_copy 11 = .ok (.ifCond .ne 6, 3) := by decide +kernel
theorem dX8_copy_14 : decode cX8_copy 14 = .ok (.bipush (-2), 2) := by decide +kernel
theorem dX8_copy_16 : decode cX8_copy 16 = .ok (.ireturn, 1) := by decide +kernel
theorem dX8_copy_17 : decode cX8_copy 17 = .ok (.aload_n 0, 1) := by decide +kernel
theorem dX8_copy_18 : decode cX8_copy 18 = .ok (.getfield 94, 3) := by decide +kernel
theorem dX8_copy_21 : decode cX8_copy 21 = .ok (.iload_n 1, 1) := by decide +kernel
theorem dX8_copy_22 : decode cX8_copy 22 = .ok (.baload, 1) := by decide +kernel
theorem dX8_copy_23 : decode cX8_copy 23 = .ok (.ifCond .eq 12, 3) := by decide +kernel
theorem dX8_copy_26 : decode cX8_copy 26 = .ok (.aload_n 0, 1) := by decide +kernel
theorem dX8_copy_27 : decode cX8_copy 27 = .ok (.getfield 94, 3) := by decide +kernel
theorem dX8_copy_30 : decode cX8_copy 30 = .ok (.iload_n 3, 1) := by decide +kernel
theorem dX8_copy_31 : decode cX8_copy 31 = .ok (.baload, 1) := by decide +kernel
theorem dX8_copy_32 : decode cX8_copy 32 = .ok (.ifCond .ne 9, 3) := by decide +kernel
theorem dX8_copy_35 : decode cX8_copy 35 = .ok (.aload_n 0, 1) := by decide +kernel
theorem dX8_copy_36 : decode cX8_copy 36 = .ok (.iconst 1, 1) := by decide +kernel
theorem dX8_copy_37 : decode cX8_copy 37 = .ok (.invokevirtual 185, 3) := by decide +kernel
theorem dX8_copy_40 : decode cX8_copy 40 = .ok (.ireturn, 1) := by decide +kernel
theorem dX8_copy_41 : decode cX8_copy 41 = .ok (.aload_n 0, 1) := by decide +kernel
theorem dX8_copy_42 : decode cX8_copy 42 = .ok (.getfield 98, 3) := by decide +kernel
theorem dX8_copy_45 : decode cX8_copy 45 = .ok (.iload_n 1, 1) := by decide +kernel
theorem dX8_copy_46 : decode cX8_copy 46 = .ok (.iaload, 1) := by decide +kernel
theorem dX8_copy_47 : decode cX8_copy 47 = .ok (.aload_n 0, 1) := by decide +kernel
theorem dX8_copy_48 : decode cX8_copy 48 = .ok (.getfield 98, 3) := by decide +kernel
theorem dX8_copy_51 : decode cX8_copy 51 = .ok (.iload_n 3, 1) := by decide +kernel
theorem dX8_copy_52 : decode cX8_copy 52 = .ok (.iaload, 1) := by decide +kernel
theorem dX8_copy_53 : decode cX8_copy 53 = .ok (.if_icmp .eq 9, 3) := by decide +kernel
theorem dX8_copy_56 : decode cX8_copy 56 = .ok (.aload_n 0, 1) := by decide +kernel
theorem dX8_copy_57 : decode cX8_copy 57 = .ok (.iconst 4, 1) := by decide +kernel
theorem dX8_copy_58 : decode cX8_copy 58 = .ok (.invokevirtual 185, 3) := by decide +kernel
theorem dX8_copy_61 : decode cX8_copy 61 = .ok (.ireturn, 1) := by decide +kernel
theorem dX8_copy_62 : decode cX8_copy 62 = .ok (.iload_n 2, 1) := by decide +kernel
theorem dX8_copy_63 : decode cX8_copy 63 = .ok (.ifCond .lt 48, 3) := by decide +kernel
theorem dX8_copy_66 : decode cX8_copy 66 = .ok (.iload 4, 2) := by decide +kernel
theorem dX8_copy_68 : decode cX8_copy 68 = .ok (.ifCond .lt 43, 3) := by decide +kernel
theorem dX8_copy_71 : decode cX8_copy 71 = .ok (.iload 5, 2) := by decide +kernel
theorem dX8_copy_73 : decode cX8_copy 73 = .ok (.ifCond .lt 38, 3) := by decide +kernel
theorem dX8_copy_76 : decode cX8_copy 76 = .ok (.iload_n 2, 1) := by decide +kernel
theorem dX8_copy_77 : decode cX8_copy 77 = .ok (.i2l, 1) := by decide +kernel
theorem dX8_copy_78 : decode cX8_copy 78 = .ok (.iload 5, 2) := by decide +kernel
theorem dX8_copy_80 : decode cX8_copy 80 = .ok (.i2l, 1) := by decide +kernel
theorem dX8_copy_81 : decode cX8_copy 81 = .ok (.ladd, 1) := by decide +kernel
theorem dX8_copy_82 : decode cX8_copy 82 = .ok (.aload_n 0, 1) := by decide +kernel
theorem dX8_copy_83 : decode cX8_copy 83 = .ok (.getfield 101, 3) := by decide +kernel
theorem dX8_copy_86 : decode cX8_copy 86 = .ok (.iload_n 1, 1) := by decide +kernel
theorem dX8_copy_87 : decode cX8_copy 87 = .ok (.iaload, 1) := by decide +kernel
theorem dX8_copy_88 : decode cX8_copy 88 = .ok (.i2l, 1) := by decide +kernel
theorem dX8_copy_89 : decode cX8_copy 89 = .ok (.lcmp, 1) := by decide +kernel
theorem dX8_copy_90 : decode cX8_copy 90 = .ok (.ifCond .gt 21, 3) := by decide +kernel
theorem dX8_copy_93 : decode cX8_copy 93 = .ok (.iload 4, 2) := by decide +kernel
theorem dX8_copy_95 : decode cX8_copy 95 = .ok (.i2l, 1) := by decide +kernel
theorem dX8_copy_96 : decode cX8_copy 96 = .ok (.iload 5, 2) := by decide +kernel
theorem dX8_copy_98 : decode cX8_copy 98 = .ok (.i2l, 1) := by decide +kernel
theorem dX8_copy_99 : decode cX8_copy 99 = .ok (.ladd, 1) := by decide +kernel
theorem dX8_copy_100 : decode cX8_copy 100 = .ok (.aload_n 0, 1) := by decide +kernel
theorem dX8_copy_101 : decode cX8_copy 101 = .ok (.getfield 101, 3) := by decide +kernel
theorem dX8_copy_104 : decode cX8_copy 104 = .ok (.iload_n 3, 1) := by decide +kernel
theorem dX8_copy_105 : decode cX8_copy 105 = .ok (.iaload, 1) := by decide +kernel
theorem dX8_copy_106 : decode cX8_copy 106 = .ok (.i2l, 1) := by decide +kernel
theorem dX8_copy_107 : decode cX8_copy 107 = .ok (.lcmp, 1) := by decide +kernel
theorem dX8_copy_108 : decode cX8_copy 108 = .ok (.ifCond .le 9, 3) := by decide +kernel
theorem dX8_copy_111 : decode cX8_copy 111 = .ok (.aload_n 0, 1) := by decide +kernel
theorem dX8_copy_112 : decode cX8_copy 112 = .ok (.iconst 2, 1) := by decide +kernel
theorem dX8_copy_113 : decode cX8_copy 113 = .ok (.invokevirtual 185, 3) := by decide +kernel
theorem dX8_copy_116 : decode cX8_copy 116 = .ok (.ireturn, 1) := by decide +kernel
theorem dX8_copy_117 : decode cX8_copy 117 = .ok (.iconst 0, 1) := by decide +kernel
theorem dX8_copy_118 : decode cX8_copy 118 = .ok (.istore 6, 2) := by decide +kernel
theorem dX8_copy_120 : decode cX8_copy 120 = .ok (.iload 6, 2) := by decide +kernel
theorem dX8_copy_122 : decode cX8_copy 122 = .ok (.iload 5, 2) := by decide +kernel
theorem dX8_copy_124 : decode cX8_copy 124 = .ok (.if_icmp .ge 30, 3) := by decide +kernel
theorem dX8_copy_127 : decode cX8_copy 127 = .ok (.aload_n 0, 1) := by decide +kernel
theorem dX8_copy_128 : decode cX8_copy 128 = .ok (.getfield 107, 3) := by decide +kernel
theorem dX8_copy_131 : decode cX8_copy 131 = .ok (.iload 6, 2) := by decide +kernel
theorem dX8_copy_133 : decode cX8_copy 133 = .ok (.aload_n 0, 1) := by decide +kernel
theorem dX8_copy_134 : decode cX8_copy 134 = .ok (.getfield 104, 3) := by decide +kernel
theorem dX8_copy_137 : decode cX8_copy 137 = .ok (.bipush 60, 2) := by decide +kernel
theorem dX8_copy_139 : decode cX8_copy 139 = .ok (.iload_n 1, 1) := by decide +kernel
theorem dX8_copy_140 : decode cX8_copy 140 = .ok (.imul, 1) := by decide +kernel
theorem dX8_copy_141 : decode cX8_copy 141 = .ok (.iload_n 2, 1) := by decide +kernel
theorem dX8_copy_142 : decode cX8_copy 142 = .ok (.iadd, 1) := by decide +kernel
theorem dX8_copy_143 : decode cX8_copy 143 = .ok (.iload 6, 2) := by decide +kernel
theorem dX8_copy_145 : decode cX8_copy 145 = .ok (.iadd, 1) := by decide +kernel
theorem dX8_copy_146 : decode cX8_copy 146 = .ok (.iaload, 1) := by decide +kernel
theorem dX8_copy_147 : decode cX8_copy 147 = .ok (.iastore, 1) := by decide +kernel
theorem dX8_copy_148 : decode cX8_copy 148 = .ok (.iinc 6 1, 3) := by decide +kernel
theorem dX8_copy_151 : decode cX8_copy 151 = .ok (.goto (-31), 3) := by decide +kernel
theorem dX8_copy_154 : decode cX8_copy 154 = .ok (.iconst 0, 1) := by decide +kernel
theorem dX8_copy_155 : decode cX8_copy 155 = .ok (.istore 6, 2) := by decide +kernel
theorem dX8_copy_157 : decode cX8_copy 157 = .ok (.iload 6, 2) := by decide +kernel
theorem dX8_copy_159 : decode cX8_copy 159 = .ok (.iload 5, 2) := by decide +kernel
theorem dX8_copy_161 : decode cX8_copy 161 = .ok (.if_icmp .ge 31, 3) := by decide +kernel
theorem dX8_copy_164 : decode cX8_copy 164 = .ok (.aload_n 0, 1) := by decide +kernel
theorem dX8_copy_165 : decode cX8_copy 165 = .ok (.getfield 104, 3) := by decide +kernel
theorem dX8_copy_168 : decode cX8_copy 168 = .ok (.bipush 60, 2) := by decide +kernel
theorem dX8_copy_170 : decode cX8_copy 170 = .ok (.iload_n 3, 1) := by decide +kernel
theorem dX8_copy_171 : decode cX8_copy 171 = .ok (.imul, 1) := by decide +kernel
theorem dX8_copy_172 : decode cX8_copy 172 = .ok (.iload 4, 2) := by decide +kernel
theorem dX8_copy_174 : decode cX8_copy 174 = .ok (.iadd, 1) := by decide +kernel
theorem dX8_copy_175 : decode cX8_copy 175 = .ok (.iload 6, 2) := by decide +kernel
theorem dX8_copy_177 : decode cX8_copy 177 = .ok (.iadd, 1) := by decide +kernel
theorem dX8_copy_178 : decode cX8_copy 178 = .ok (.aload_n 0, 1) := by decide +kernel
theorem dX8_copy_179 : decode cX8_copy 179 = .ok (.getfield 107, 3) := by decide +kernel
theorem dX8_copy_182 : decode cX8_copy 182 = .ok (.iload 6, 2) := by decide +kernel
theorem dX8_copy_184 : decode cX8_copy 184 = .ok (.iaload, 1) := by decide +kernel
theorem dX8_copy_185 : decode cX8_copy 185 = .ok (.iastore, 1) := by decide +kernel
theorem dX8_copy_186 : decode cX8_copy 186 = .ok (.iinc 6 1, 3) := by decide +kernel
theorem dX8_copy_189 : decode cX8_copy 189 = .ok (.goto (-32), 3) := by decide +kernel
theorem dX8_copy_192 : decode cX8_copy 192 = .ok (.iconst 1, 1) := by decide +kernel
theorem dX8_copy_193 : decode cX8_copy 193 = .ok (.ireturn, 1) := by decide +kernel
theorem dX8_write_0 : decode cX8_write 0 = .ok (.iload_n 1, 1) := by decide +kernel
theorem dX8_write_1 : decode cX8_write 1 = .ok (.invokestatic 253, 3) := by decide +kernel
theorem dX8_write_4 : decode cX8_write 4 = .ok (.ifCond .eq 10, 3) := by decide +kernel
theorem dX8_write_7 : decode cX8_write 7 = .ok (.iload_n 2, 1) := by decide +kernel
theorem dX8_write_8 : decode cX8_write 8 = .ok (.invokestatic 182, 3) := by decide +kernel
theorem dX8_write_11 : decode cX8_write 11 = .ok (.ifCond .ne 6, 3) := by decide +kernel
theorem dX8_write_14 : decode cX8_write 14 = .ok (.bipush (-2), 2) := by decide +kernel
theorem dX8_write_16 : decode cX8_write 16 = .ok (.ireturn, 1) := by decide +kernel
theorem dX8_write_17 : decode cX8_write 17 = .ok (.aload_n 0, 1) := by decide +kernel
theorem dX8_write_18 : decode cX8_write 18 = .ok (.getfield 94, 3) := by decide +kernel
theorem dX8_write_21 : decode cX8_write 21 = .ok (.iload_n 2, 1) := by decide +kernel
theorem dX8_write_22 : decode cX8_write 22 = .ok (.baload, 1) := by decide +kernel
theorem dX8_write_23 : decode cX8_write 23 = .ok (.ifCond .ne 9, 3) := by decide +kernel
theorem dX8_write_26 : decode cX8_write 26 = .ok (.aload_n 0, 1) := by decide +kernel
theorem dX8_write_27 : decode cX8_write 27 = .ok (.iconst 1, 1) := by decide +kernel
theorem dX8_write_28 : decode cX8_write 28 = .ok (.invokevirtual 185, 3) := by decide +kernel
theorem dX8_write_31 : decode cX8_write 31 = .ok (.ireturn, 1) := by decide +kernel
theorem dX8_write_32 : decode cX8_write 32 = .ok (.aload_n 0, 1) := by decide +kernel
theorem dX8_write_33 : decode cX8_write 33 = .ok (.invokevirtual 250, 3) := by decide +kernel
theorem dX8_write_36 : decode cX8_write 36 = .ok (.iconst 0, 1) := by decide +kernel
theorem dX8_write_37 : decode cX8_write 37 = .ok (.istore_n 3, 1) := by decide +kernel
theorem dX8_write_38 : decode cX8_write 38 = .ok (.iload_n 3, 1) := by decide +kernel
theorem dX8_write_39 : decode cX8_write 39 = .ok (.aload_n 0, 1) := by decide +kernel
theorem dX8_write_40 : decode cX8_write 40 = .ok (.getfield 101, 3) := by decide +kernel
theorem dX8_write_43 : decode cX8_write 43 = .ok (.iload_n 2, 1) := by decide +kernel
theorem dX8_write_44 : decode cX8_write 44 = .ok (.iaload, 1) := by decide +kernel
theorem dX8_write_45 : decode cX8_write 45 = .ok (.if_icmp .ge 31, 3) := by decide +kernel
theorem dX8_write_48 : decode cX8_write 48 = .ok (.iload_n 3, 1) := by decide +kernel
theorem dX8_write_49 : decode cX8_write 49 = .ok (.bipush 24, 2) := by decide +kernel
theorem dX8_write_51 : decode cX8_write 51 = .ok (.if_icmp .ge 25, 3) := by decide +kernel
theorem dX8_write_54 : decode cX8_write 54 = .ok (.aload_n 0, 1) := by decide +kernel
theorem dX8_write_55 : decode cX8_write 55 = .ok (.iload_n 2, 1) := by decide +kernel
theorem dX8_write_56 : decode cX8_write 56 = .ok (.iload_n 3, 1) := by decide +kernel
theorem dX8_write_57 : decode cX8_write 57 = .ok (.aload_n 0, 1) := by decide +kernel
theorem dX8_write_58 : decode cX8_write 58 = .ok (.getfield 64, 3) := by decide +kernel
theorem dX8_write_61 : decode cX8_write 61 = .ok (.iconst 2, 1) := by decide +kernel
theorem dX8_write_62 : decode cX8_write 62 = .ok (.iload_n 3, 1) := by decide +kernel
theorem dX8_write_63 : decode cX8_write 63 = .ok (.imul, 1) := by decide +kernel
theorem dX8_write_64 : decode cX8_write 64 = .ok (.iload_n 1, 1) := by decide +kernel
theorem dX8_write_65 : decode cX8_write 65 = .ok (.iadd, 1) := by decide +kernel
theorem dX8_write_66 : decode cX8_write 66 = .ok (.iaload, 1) := by decide +kernel
theorem dX8_write_67 : decode cX8_write 67 = .ok (.invokevirtual 351, 3) := by decide +kernel
theorem dX8_write_70 : decode cX8_write 70 = .ok (.iinc 3 1, 3) := by decide +kernel
theorem dX8_write_73 : decode cX8_write 73 = .ok (.goto (-35), 3) := by decide +kernel
theorem dX8_write_76 : decode cX8_write 76 = .ok (.iload_n 3, 1) := by decide +kernel
theorem dX8_write_77 : decode cX8_write 77 = .ok (.ireturn, 1) := by decide +kernel
theorem dX8_tellOf_0 : decode cX8_tellOf 0 = .ok (.aload_n 0, 1) := by decide +kernel
theorem dX8_tellOf_1 : decode cX8_tellOf 1 = .ok (.invokevirtual 161, 3) := by decide +kernel
theorem dX8_tellOf_4 : decode cX8_tellOf 4 = .ok (.iload_n 1, 1) := by decide +kernel
theorem dX8_tellOf_5 : decode cX8_tellOf 5 = .ok (.ifCond .ne 10, 3) := by decide +kernel
theorem dX8_tellOf_8 : decode cX8_tellOf 8 = .ok (.aload_n 0, 1) := by decide +kernel
theorem dX8_tellOf_9 : decode cX8_tellOf 9 = .ok (.getfield 135, 3) := by decide +kernel
theorem dX8_tellOf_12 : decode cX8_tellOf 12 = .ok (.goto 19, 3) := by decide +kernel
theorem dX8_tellOf_15 : decode cX8_tellOf 15 = .ok (.iload_n 1, 1) := by decide +kernel
theorem dX8_tellOf_16 : decode cX8_tellOf 16 = .ok (.iconst 1, 1) := by decide +kernel
theorem dX8_tellOf_17 : decode cX8_tellOf 17 = .ok (.if_icmp .ne 10, 3) := by decide +kernel
theorem dX8_tellOf_20 : decode cX8_tellOf 20 = .ok (.aload_n 0, 1) := by decide +kernel
theorem dX8_tellOf_21 : decode cX8_tellOf 21 = .ok (.getfield 139, 3) := by decide +kernel
theorem dX8_tellOf_24 : decode cX8_tellOf 24 = .ok (.goto 7, 3) := by decide +kernel
theorem dX8_tellOf_27 : decode cX8_tellOf 27 = .ok (.aload_n 0, 1) := by decide +kernel
theorem dX8_tellOf_28 : decode cX8_tellOf 28 = .ok (.getfield 148, 3) := by decide +kernel
theorem dX8_tellOf_31 : decode cX8_tellOf 31 = .ok (.ireturn, 1) := by decide +kernel
theorem dX8_count_0 : decode cX8_count 0 = .ok (.iload_n 1, 1) := by decide +kernel
theorem dX8_count_1 : decode cX8_count 1 = .ok (.tableswitch 81 0 8 #[51, 51, 51, 57, 57, 57, 66, 71, 76], 51) := by decide +kernel
theorem dX8_count_52 : decode cX8_count 52 = .ok (.aload_n 0, 1) := by decide +kernel
theorem dX8_count_53 : decode cX8_count 53 = .ok (.iload_n 1, 1) := by decide +kernel
theorem dX8_count_54 : decode cX8_count 54 = .ok (.invokevirtual 356, 3) := by decide +kernel
theorem dX8_count_57 : decode cX8_count 57 = .ok (.ireturn, 1) := by decide +kernel
theorem dX8_count_58 : decode cX8_count 58 = .ok (.aload_n 0, 1) := by decide +kernel
theorem dX8_count_59 : decode cX8_count 59 = .ok (.getfield 7, 3) := by decide +kernel
theorem dX8_count_62 : decode cX8_count 62 = .ok (.iload_n 1, 1) := by decide +kernel
theorem dX8_count_63 : decode cX8_count 63 = .ok (.iconst 3, 1) := by decide +kernel
theorem dX8_count_64 : decode cX8_count 64 = .ok (.isub, 1) := by decide +kernel
theorem dX8_count_65 : decode cX8_count 65 = .ok (.iaload, 1) := by decide +kernel
theorem dX8_count_66 : decode cX8_count 66 = .ok (.ireturn, 1) := by decide +kernel
theorem dX8_count_67 : decode cX8_count 67 = .ok (.aload_n 0, 1) := by decide +kernel
theorem dX8_count_68 : decode cX8_count 68 = .ok (.getfield 179, 3) := by decide +kernel
theorem dX8_count_71 : decode cX8_count 71 = .ok (.ireturn, 1) := by decide +kernel
theorem dX8_count_72 : decode cX8_count 72 = .ok (.aload_n 0, 1) := by decide +kernel
theorem dX8_count_73 : decode cX8_count 73 = .ok (.getfield 310, 3) := by decide +kernel
theorem dX8_count_76 : decode cX8_count 76 = .ok (.ireturn, 1) := by decide +kernel
theorem dX8_count_77 : decode cX8_count 77 = .ok (.aload_n 0, 1) := by decide +kernel
theorem dX8_count_78 : decode cX8_count 78 = .ok (.getfield 345, 3) := by decide +kernel
theorem dX8_count_81 : decode cX8_count 81 = .ok (.ireturn, 1) := by decide +kernel
theorem dX8_count_82 : decode cX8_count 82 = .ok (.bipush (-2), 2) := by decide +kernel
theorem dX8_count_84 : decode cX8_count 84 = .ok (.ireturn, 1) := by decide +kernel
theorem dX8_momentDigest_0 : decode cX8_momentDigest 0 = .ok (.ldc2_w 359, 3) := by decide +kernel
theorem dX8_momentDigest_3 : decode cX8_momentDigest 3 = .ok (.lload_n 1, 1) := by decide +kernel
theorem dX8_momentDigest_4 : decode cX8_momentDigest 4 = .ok (.lmul, 1) := by decide +kernel
theorem dX8_momentDigest_5 : decode cX8_momentDigest 5 = .ok (.aload_n 0, 1) := by decide +kernel
theorem dX8_momentDigest_6 : decode cX8_momentDigest 6 = .ok (.iload_n 3, 1) := by decide +kernel
theorem dX8_momentDigest_7 : decode cX8_momentDigest 7 = .ok (.invokevirtual 176, 3) := by decide +kernel
theorem dX8_momentDigest_10 : decode cX8_momentDigest 10 = .ok (.i2l, 1) := by decide +kernel
theorem dX8_momentDigest_11 : decode cX8_momentDigest 11 = .ok (.ladd, 1) := by decide +kernel
theorem dX8_momentDigest_12 : decode cX8_momentDigest 12 = .ok (.lstore 4, 2) := by decide +kernel
theorem dX8_momentDigest_14 : decode cX8_momentDigest 14 = .ok (.iconst 0, 1) := by decide +kernel
theorem dX8_momentDigest_15 : decode cX8_momentDigest 15 = .ok (.istore 6, 2) := by decide +kernel
theorem dX8_momentDigest_17 : decode cX8_momentDigest 17 = .ok (.iload 6, 2) := by decide +kernel
theorem dX8_momentDigest_19 : decode cX8_momentDigest 19 = .ok (.iconst 4, 1) := by decide +kernel
theorem dX8_momentDigest_20 : decode cX8_momentDigest 20 = .ok (.if_icmp .ge 26, 3) := by decide +kernel
theorem dX8_momentDigest_23 : decode cX8_momentDigest 23 = .ok (.ldc2_w 359, 3) := by decide +kernel
theorem dX8_momentDigest_26 : decode cX8_momentDigest 26 = .ok (.lload 4, 2) := by decide +kernel
theorem dX8_momentDigest_28 : decode cX8_momentDigest 28 = .ok (.lmul, 1) := by decide +kernel
theorem dX8_momentDigest_29 : decode cX8_momentDigest 29 = .ok (.aload_n 0, 1) := by decide +kernel
theorem dX8_momentDigest_30 : decode cX8_momentDigest 30 = .ok (.iload_n 3, 1) := by decide +kernel
theorem dX8_momentDigest_31 : decode cX8_momentDigest 31 = .ok (.iload 6, 2) := by decide +kernel
theorem dX8_momentDigest_33 : decode cX8_momentDigest 33 = .ok (.invokevirtual 259, 3) := by decide +kernel
theorem dX8_momentDigest_36 : decode cX8_momentDigest 36 = .ok (.i2l, 1) := by decide +kernel
theorem dX8_momentDigest_37 : decode cX8_momentDigest 37 = .ok (.ladd, 1) := by decide +kernel
theorem dX8_momentDigest_38 : decode cX8_momentDigest 38 = .ok (.lstore 4, 2) := by decide +kernel
theorem dX8_momentDigest_40 : decode cX8_momentDigest 40 = .ok (.iinc 6 1, 3) := by decide +kernel
theorem dX8_momentDigest_43 : decode cX8_momentDigest 43 = .ok (.goto (-26), 3) := by decide +kernel
theorem dX8_momentDigest_46 : decode cX8_momentDigest 46 = .ok (.lload 4, 2) := by decide +kernel
theorem dX8_momentDigest_48 : decode cX8_momentDigest 48 = .ok (.lreturn, 1) := by decide +kernel
theorem dX8_atDigest_0 : decode cX8_atDigest 0 = .ok (.ldc2_w 359, 3) := by decide +kernel
theorem dX8_atDigest_3 : decode cX8_atDigest 3 = .ok (.lload_n 1, 1) := by decide +kernel
theorem dX8_atDigest_4 : decode cX8_atDigest 4 = .ok (.lmul, 1) := by decide +kernel
theorem dX8_atDigest_5 : decode cX8_atDigest 5 = .ok (.aload_n 0, 1) := by decide +kernel
theorem dX8_atDigest_6 : decode cX8_atDigest 6 = .ok (.iload_n 3, 1) := by decide +kernel
theorem dX8_atDigest_7 : decode cX8_atDigest 7 = .ok (.iload 4, 2) := by decide +kernel
theorem dX8_atDigest_9 : decode cX8_atDigest 9 = .ok (.iconst 0, 1) := by decide +kernel
theorem dX8_atDigest_10 : decode cX8_atDigest 10 = .ok (.invokevirtual 256, 3) := by decide +kernel
theorem dX8_atDigest_13 : decode cX8_atDigest 13 = .ok (.i2l, 1) := by decide +kernel
theorem dX8_atDigest_14 : decode cX8_atDigest 14 = .ok (.ladd, 1) := by decide +kernel
theorem dX8_atDigest_15 : decode cX8_atDigest 15 = .ok (.lstore 5, 2) := by decide +kernel
theorem dX8_atDigest_17 : decode cX8_atDigest 17 = .ok (.ldc2_w 359, 3) := by decide +kernel
theorem dX8_atDigest_20 : decode cX8_atDigest 20 = .ok (.lload 5, 2) := by decide +kernel
theorem dX8_atDigest_22 : decode cX8_atDigest 22 = .ok (.lmul, 1) := by decide +kernel
theorem dX8_atDigest_23 : decode cX8_atDigest 23 = .ok (.aload_n 0, 1) := by decide +kernel
theorem dX8_atDigest_24 : decode cX8_atDigest 24 = .ok (.iload_n 3, 1) := by decide +kernel
theorem dX8_atDigest_25 : decode cX8_atDigest 25 = .ok (.iload 4, 2) := by decide +kernel
theorem dX8_atDigest_27 : decode cX8_atDigest 27 = .ok (.iconst 1, 1) := by decide +kernel
theorem dX8_atDigest_28 : decode cX8_atDigest 28 = .ok (.invokevirtual 256, 3) := by decide +kernel
theorem dX8_atDigest_31 : decode cX8_atDigest 31 = .ok (.i2l, 1) := by decide +kernel
theorem dX8_atDigest_32 : decode cX8_atDigest 32 = .ok (.ladd, 1) := by decide +kernel
theorem dX8_atDigest_33 : decode cX8_atDigest 33 = .ok (.lreturn, 1) := by decide +kernel
theorem dX8_carDigest_0 : decode cX8_carDigest 0 = .ok (.lload_n 1, 1) := by decide +kernel
theorem dX8_carDigest_1 : decode cX8_carDigest 1 = .ok (.lstore 4, 2) := by decide +kernel
theorem dX8_carDigest_3 : decode cX8_carDigest 3 = .ok (.iconst 0, 1) := by decide +kernel
theorem dX8_carDigest_4 : decode cX8_carDigest 4 = .ok (.istore 6, 2) := by decide +kernel
theorem dX8_carDigest_6 : decode cX8_carDigest 6 = .ok (.iload 6, 2) := by decide +kernel
theorem dX8_carDigest_8 : decode cX8_carDigest 8 = .ok (.iconst 3, 1) := by decide +kernel
theorem dX8_carDigest_9 : decode cX8_carDigest 9 = .ok (.if_icmp .ge 26, 3) := by decide +kernel
theorem dX8_carDigest_12 : decode cX8_carDigest 12 = .ok (.ldc2_w 359, 3) := by decide +kernel
theorem dX8_carDigest_15 : decode cX8_carDigest 15 = .ok (.lload 4, 2) := by decide +kernel
theorem dX8_carDigest_17 : decode cX8_carDigest 17 = .ok (.lmul, 1) := by decide +kernel
theorem dX8_carDigest_18 : decode cX8_carDigest 18 = .ok (.aload_n 0, 1) := by decide +kernel
theorem dX8_carDigest_19 : decode cX8_carDigest 19 = .ok (.iload_n 3, 1) := by decide +kernel
theorem dX8_carDigest_20 : decode cX8_carDigest 20 = .ok (.iload 6, 2) := by decide +kernel
theorem dX8_carDigest_22 : decode cX8_carDigest 22 = .ok (.invokevirtual 170, 3) := by decide +kernel
theorem dX8_carDigest_25 : decode cX8_carDigest 25 = .ok (.i2l, 1) := by decide +kernel
theorem dX8_carDigest_26 : decode cX8_carDigest 26 = .ok (.ladd, 1) := by decide +kernel
theorem dX8_carDigest_27 : decode cX8_carDigest 27 = .ok (.lstore 4, 2) := by decide +kernel
theorem dX8_carDigest_29 : decode cX8_carDigest 29 = .ok (.iinc 6 1, 3) := by decide +kernel
theorem dX8_carDigest_32 : decode cX8_carDigest 32 = .ok (.goto (-26), 3) := by decide +kernel
theorem dX8_carDigest_35 : decode cX8_carDigest 35 = .ok (.aload_n 0, 1) := by decide +kernel
theorem dX8_carDigest_36 : decode cX8_carDigest 36 = .ok (.lload 4, 2) := by decide +kernel
theorem dX8_carDigest_38 : decode cX8_carDigest 38 = .ok (.iconst 0, 1) := by decide +kernel
theorem dX8_carDigest_39 : decode cX8_carDigest 39 = .ok (.iload_n 3, 1) := by decide +kernel
theorem dX8_carDigest_40 : decode cX8_carDigest 40 = .ok (.invokevirtual 361, 3) := by decide +kernel
theorem dX8_carDigest_43 : decode cX8_carDigest 43 = .ok (.lstore 4, 2) := by decide +kernel
theorem dX8_carDigest_45 : decode cX8_carDigest 45 = .ok (.aload_n 0, 1) := by decide +kernel
theorem dX8_carDigest_46 : decode cX8_carDigest 46 = .ok (.lload 4, 2) := by decide +kernel
theorem dX8_carDigest_48 : decode cX8_carDigest 48 = .ok (.iconst 5, 1) := by decide +kernel
theorem dX8_carDigest_49 : decode cX8_carDigest 49 = .ok (.iload_n 3, 1) := by decide +kernel
theorem dX8_carDigest_50 : decode cX8_carDigest 50 = .ok (.invokevirtual 361, 3) := by decide +kernel
theorem dX8_carDigest_53 : decode cX8_carDigest 53 = .ok (.lstore 4, 2) := by decide +kernel
theorem dX8_carDigest_55 : decode cX8_carDigest 55 = .ok (.aload_n 0, 1) := by decide +kernel
theorem dX8_carDigest_56 : decode cX8_carDigest 56 = .ok (.lload 4, 2) := by decide +kernel
theorem dX8_carDigest_58 : decode cX8_carDigest 58 = .ok (.bipush 12, 2) := by decide +kernel
theorem dX8_carDigest_60 : decode cX8_carDigest 60 = .ok (.iload_n 3, 1) := by decide +kernel
theorem dX8_carDigest_61 : decode cX8_carDigest 61 = .ok (.invokevirtual 361, 3) := by decide +kernel
theorem dX8_carDigest_64 : decode cX8_carDigest 64 = .ok (.lstore 4, 2) := by decide +kernel
theorem dX8_carDigest_66 : decode cX8_carDigest 66 = .ok (.aload_n 0, 1) := by decide +kernel
theorem dX8_carDigest_67 : decode cX8_carDigest 67 = .ok (.lload 4, 2) := by decide +kernel
theorem dX8_carDigest_69 : decode cX8_carDigest 69 = .ok (.bipush 23, 2) := by decide +kernel
theorem dX8_carDigest_71 : decode cX8_carDigest 71 = .ok (.iload_n 3, 1) := by decide +kernel
theorem dX8_carDigest_72 : decode cX8_carDigest 72 = .ok (.invokevirtual 361, 3) := by decide +kernel
theorem dX8_carDigest_75 : decode cX8_carDigest 75 = .ok (.lstore 4, 2) := by decide +kernel
theorem dX8_carDigest_77 : decode cX8_carDigest 77 = .ok (.ldc2_w 359, 3) := by decide +kernel
theorem dX8_carDigest_80 : decode cX8_carDigest 80 = .ok (.lload 4, 2) := by decide +kernel
theorem dX8_carDigest_82 : decode cX8_carDigest 82 = .ok (.lmul, 1) := by decide +kernel
theorem dX8_carDigest_83 : decode cX8_carDigest 83 = .ok (.aload_n 0, 1) := by decide +kernel
theorem dX8_carDigest_84 : decode cX8_carDigest 84 = .ok (.iload_n 3, 1) := by decide +kernel
theorem dX8_carDigest_85 : decode cX8_carDigest 85 = .ok (.invokevirtual 274, 3) := by decide +kernel
theorem dX8_carDigest_88 : decode cX8_carDigest 88 = .ok (.i2l, 1) := by decide +kernel
theorem dX8_carDigest_89 : decode cX8_carDigest 89 = .ok (.ladd, 1) := by decide +kernel
theorem dX8_carDigest_90 : decode cX8_carDigest 90 = .ok (.lstore 4, 2) := by decide +kernel
theorem dX8_carDigest_92 : decode cX8_carDigest 92 = .ok (.ldc2_w 359, 3) := by decide +kernel
theorem dX8_carDigest_95 : decode cX8_carDigest 95 = .ok (.lload 4, 2) := by decide +kernel
theorem dX8_carDigest_97 : decode cX8_carDigest 97 = .ok (.lmul, 1) := by decide +kernel
theorem dX8_carDigest_98 : decode cX8_carDigest 98 = .ok (.aload_n 0, 1) := by decide +kernel
theorem dX8_carDigest_99 : decode cX8_carDigest 99 = .ok (.iload_n 3, 1) := by decide +kernel
theorem dX8_carDigest_100 : decode cX8_carDigest 100 = .ok (.iconst 0, 1) := by decide +kernel
theorem dX8_carDigest_101 : decode cX8_carDigest 101 = .ok (.invokevirtual 292, 3) := by decide +kernel
theorem dX8_carDigest_104 : decode cX8_carDigest 104 = .ok (.i2l, 1) := by decide +kernel
theorem dX8_carDigest_105 : decode cX8_carDigest 105 = .ok (.ladd, 1) := by decide +kernel
theorem dX8_carDigest_106 : decode cX8_carDigest 106 = .ok (.lstore 4, 2) := by decide +kernel
theorem dX8_carDigest_108 : decode cX8_carDigest 108 = .ok (.ldc2_w 359, 3) := by decide +kernel
theorem dX8_carDigest_111 : decode cX8_carDigest 111 = .ok (.lload 4, 2) := by decide +kernel
theorem dX8_carDigest_113 : decode cX8_carDigest 113 = .ok (.lmul, 1) := by decide +kernel
theorem dX8_carDigest_114 : decode cX8_carDigest 114 = .ok (.aload_n 0, 1) := by decide +kernel
theorem dX8_carDigest_115 : decode cX8_carDigest 115 = .ok (.iload_n 3, 1) := by decide +kernel
theorem dX8_carDigest_116 : decode cX8_carDigest 116 = .ok (.iconst 1, 1) := by decide +kernel
theorem dX8_carDigest_117 : decode cX8_carDigest 117 = .ok (.invokevirtual 292, 3) := by decide +kernel
theorem dX8_carDigest_120 : decode cX8_carDigest 120 = .ok (.i2l, 1) := by decide +kernel
theorem dX8_carDigest_121 : decode cX8_carDigest 121 = .ok (.ladd, 1) := by decide +kernel
theorem dX8_carDigest_122 : decode cX8_carDigest 122 = .ok (.lstore 4, 2) := by decide +kernel
theorem dX8_carDigest_124 : decode cX8_carDigest 124 = .ok (.ldc2_w 359, 3) := by decide +kernel
theorem dX8_carDigest_127 : decode cX8_carDigest 127 = .ok (.lload 4, 2) := by decide +kernel
theorem dX8_carDigest_129 : decode cX8_carDigest 129 = .ok (.lmul, 1) := by decide +kernel
theorem dX8_carDigest_130 : decode cX8_carDigest 130 = .ok (.aload_n 0, 1) := by decide +kernel
theorem dX8_carDigest_131 : decode cX8_carDigest 131 = .ok (.iload_n 3, 1) := by decide +kernel
theorem dX8_carDigest_132 : decode cX8_carDigest 132 = .ok (.invokevirtual 320, 3) := by decide +kernel
theorem dX8_carDigest_135 : decode cX8_carDigest 135 = .ok (.i2l, 1) := by decide +kernel
theorem dX8_carDigest_136 : decode cX8_carDigest 136 = .ok (.ladd, 1) := by decide +kernel
theorem dX8_carDigest_137 : decode cX8_carDigest 137 = .ok (.lstore 4, 2) := by decide +kernel
theorem dX8_carDigest_139 : decode cX8_carDigest 139 = .ok (.ldc2_w 359, 3) := by decide +kernel
theorem dX8_carDigest_142 : decode cX8_carDigest 142 = .ok (.lload 4, 2) := by decide +kernel
theorem dX8_carDigest_144 : decode cX8_carDigest 144 = .ok (.lmul, 1) := by decide +kernel
theorem dX8_carDigest_145 : decode cX8_carDigest 145 = .ok (.aload_n 0, 1) := by decide +kernel
theorem dX8_carDigest_146 : decode cX8_carDigest 146 = .ok (.iload_n 3, 1) := by decide +kernel
theorem dX8_carDigest_147 : decode cX8_carDigest 147 = .ok (.invokevirtual 323, 3) := by decide +kernel
theorem dX8_carDigest_150 : decode cX8_carDigest 150 = .ok (.i2l, 1) := by decide +kernel
theorem dX8_carDigest_151 : decode cX8_carDigest 151 = .ok (.ladd, 1) := by decide +kernel
theorem dX8_carDigest_152 : decode cX8_carDigest 152 = .ok (.lstore 4, 2) := by decide +kernel
theorem dX8_carDigest_154 : decode cX8_carDigest 154 = .ok (.ldc2_w 359, 3) := by decide +kernel
theorem dX8_carDigest_157 : decode cX8_carDigest 157 = .ok (.lload 4, 2) := by decide +kernel
theorem dX8_carDigest_159 : decode cX8_carDigest 159 = .ok (.lmul, 1) := by decide +kernel
theorem dX8_carDigest_160 : decode cX8_carDigest 160 = .ok (.aload_n 0, 1) := by decide +kernel
theorem dX8_carDigest_161 : decode cX8_carDigest 161 = .ok (.iload_n 3, 1) := by decide +kernel
theorem dX8_carDigest_162 : decode cX8_carDigest 162 = .ok (.invokevirtual 326, 3) := by decide +kernel
theorem dX8_carDigest_165 : decode cX8_carDigest 165 = .ok (.i2l, 1) := by decide +kernel
theorem dX8_carDigest_166 : decode cX8_carDigest 166 = .ok (.ladd, 1) := by decide +kernel
theorem dX8_carDigest_167 : decode cX8_carDigest 167 = .ok (.lreturn, 1) := by decide +kernel
theorem dX8_digest_0 : decode cX8_digest 0 = .ok (.ldc2_w 365, 3) := by decide +kernel
theorem dX8_digest_3 : decode cX8_digest 3 = .ok (.lstore_n 1, 1) := by decide +kernel
theorem dX8_digest_4 : decode cX8_digest 4 = .ok (.iconst 0, 1) := by decide +kernel
theorem dX8_digest_5 : decode cX8_digest 5 = .ok (.istore_n 3, 1) := by decide +kernel
theorem dX8_digest_6 : decode cX8_digest 6 = .ok (.iload_n 3, 1) := by decide +kernel
theorem dX8_digest_7 : decode cX8_digest 7 = .ok (.bipush 8, 2) := by decide +kernel
theorem dX8_digest_9 : decode cX8_digest 9 = .ok (.if_icmp .ge 22, 3) := by decide +kernel
theorem dX8_digest_12 : decode cX8_digest 12 = .ok (.ldc2_w 359, 3) := by decide +kernel
theorem dX8_digest_15 : decode cX8_digest 15 = .ok (.lload_n 1, 1) := by decide +kernel
theorem dX8_digest_16 : decode cX8_digest 16 = .ok (.lmul, 1) := by decide +kernel
theorem dX8_digest_17 : decode cX8_digest 17 = .ok (.aload_n 0, 1) := by decide +kernel
theorem dX8_digest_18 : decode cX8_digest 18 = .ok (.iload_n 3, 1) := by decide +kernel
theorem dX8_digest_19 : decode cX8_digest 19 = .ok (.invokevirtual 367, 3) := by decide +kernel
theorem dX8_digest_22 : decode cX8_digest 22 = .ok (.i2l, 1) := by decide +kernel
theorem dX8_digest_23 : decode cX8_digest 23 = .ok (.ladd, 1) := by decide +kernel
theorem dX8_digest_24 : decode cX8_digest 24 = .ok (.lstore_n 1, 1) := by decide +kernel
theorem dX8_digest_25 : decode cX8_digest 25 = .ok (.iinc 3 1, 3) := by decide +kernel
theorem dX8_digest_28 : decode cX8_digest 28 = .ok (.goto (-22), 3) := by decide +kernel
theorem dX8_digest_31 : decode cX8_digest 31 = .ok (.iconst 0, 1) := by decide +kernel
theorem dX8_digest_32 : decode cX8_digest 32 = .ok (.istore_n 3, 1) := by decide +kernel
theorem dX8_digest_33 : decode cX8_digest 33 = .ok (.iload_n 3, 1) := by decide +kernel
theorem dX8_digest_34 : decode cX8_digest 34 = .ok (.iconst 3, 1) := by decide +kernel
theorem dX8_digest_35 : decode cX8_digest 35 = .ok (.if_icmp .ge 22, 3) := by decide +kernel
theorem dX8_digest_38 : decode cX8_digest 38 = .ok (.ldc2_w 359, 3) := by decide +kernel
theorem dX8_digest_41 : decode cX8_digest 41 = .ok (.lload_n 1, 1) := by decide +kernel
theorem dX8_digest_42 : decode cX8_digest 42 = .ok (.lmul, 1) := by decide +kernel
theorem dX8_digest_43 : decode cX8_digest 43 = .ok (.aload_n 0, 1) := by decide +kernel
theorem dX8_digest_44 : decode cX8_digest 44 = .ok (.iload_n 3, 1) := by decide +kernel
theorem dX8_digest_45 : decode cX8_digest 45 = .ok (.invokevirtual 158, 3) := by decide +kernel
theorem dX8_digest_48 : decode cX8_digest 48 = .ok (.i2l, 1) := by decide +kernel
theorem dX8_digest_49 : decode cX8_digest 49 = .ok (.ladd, 1) := by decide +kernel
theorem dX8_digest_50 : decode cX8_digest 50 = .ok (.lstore_n 1, 1) := by decide +kernel
theorem dX8_digest_51 : decode cX8_digest 51 = .ok (.iinc 3 1, 3) := by decide +kernel
theorem dX8_digest_54 : decode cX8_digest 54 = .ok (.goto (-21), 3) := by decide +kernel
theorem dX8_digest_57 : decode cX8_digest 57 = .ok (.iconst 0, 1) := by decide +kernel
theorem dX8_digest_58 : decode cX8_digest 58 = .ok (.istore_n 3, 1) := by decide +kernel
theorem dX8_digest_59 : decode cX8_digest 59 = .ok (.iload_n 3, 1) := by decide +kernel
theorem dX8_digest_60 : decode cX8_digest 60 = .ok (.bipush 12, 2) := by decide +kernel
theorem dX8_digest_62 : decode cX8_digest 62 = .ok (.if_icmp .ge 39, 3) := by decide +kernel
theorem dX8_digest_65 : decode cX8_digest 65 = .ok (.iconst 0, 1) := by decide +kernel
theorem dX8_digest_66 : decode cX8_digest 66 = .ok (.istore 4, 2) := by decide +kernel
theorem dX8_digest_68 : decode cX8_digest 68 = .ok (.iload 4, 2) := by decide +kernel
theorem dX8_digest_70 : decode cX8_digest 70 = .ok (.iconst 3, 1) := by decide +kernel
theorem dX8_digest_71 : decode cX8_digest 71 = .ok (.if_icmp .ge 24, 3) := by decide +kernel
theorem dX8_digest_74 : decode cX8_digest 74 = .ok (.ldc2_w 359, 3) := by decide +kernel
theorem dX8_digest_77 : decode cX8_digest 77 = .ok (.lload_n 1, 1) := by decide +kernel
theorem dX8_digest_78 : decode cX8_digest 78 = .ok (.lmul, 1) := by decide +kernel
theorem dX8_digest_79 : decode cX8_digest 79 = .ok (.aload_n 0, 1) := by decide +kernel
theorem dX8_digest_80 : decode cX8_digest 80 = .ok (.iload_n 3, 1) := by decide +kernel
theorem dX8_digest_81 : decode cX8_digest 81 = .ok (.iload 4, 2) := by decide +kernel
theorem dX8_digest_83 : decode cX8_digest 83 = .ok (.invokevirtual 173, 3) := by decide +kernel
theorem dX8_digest_86 : decode cX8_digest 86 = .ok (.i2l, 1) := by decide +kernel
theorem dX8_digest_87 : decode cX8_digest 87 = .ok (.ladd, 1) := by decide +kernel
theorem dX8_digest_88 : decode cX8_digest 88 = .ok (.lstore_n 1, 1) := by decide +kernel
theorem dX8_digest_89 : decode cX8_digest 89 = .ok (.iinc 4 1, 3) := by decide +kernel
theorem dX8_digest_92 : decode cX8_digest 92 = .ok (.goto (-24), 3) := by decide +kernel
theorem dX8_digest_95 : decode cX8_digest 95 = .ok (.iinc 3 1, 3) := by decide +kernel
theorem dX8_digest_98 : decode cX8_digest 98 = .ok (.goto (-39), 3) := by decide +kernel
theorem dX8_digest_101 : decode cX8_digest 101 = .ok (.iconst 0, 1) := by decide +kernel
theorem dX8_digest_102 : decode cX8_digest 102 = .ok (.istore_n 3, 1) := by decide +kernel
theorem dX8_digest_103 : decode cX8_digest 103 = .ok (.iload_n 3, 1) := by decide +kernel
theorem dX8_digest_104 : decode cX8_digest 104 = .ok (.bipush 24, 2) := by decide +kernel
theorem dX8_digest_106 : decode cX8_digest 106 = .ok (.if_icmp .ge 16, 3) := by decide +kernel
theorem dX8_digest_109 : decode cX8_digest 109 = .ok (.aload_n 0, 1) := by decide +kernel
theorem dX8_digest_110 : decode cX8_digest 110 = .ok (.lload_n 1, 1) := by decide +kernel
theorem dX8_digest_111 : decode cX8_digest 111 = .ok (.iload_n 3, 1) := by decide +kernel
theorem dX8_digest_112 : decode cX8_digest 112 = .ok (.invokevirtual 370, 3) := by decide +kernel
theorem dX8_digest_115 : decode cX8_digest 115 = .ok (.lstore_n 1, 1) := by decide +kernel
theorem dX8_digest_116 : decode cX8_digest 116 = .ok (.iinc 3 1, 3) := by decide +kernel
theorem dX8_digest_119 : decode cX8_digest 119 = .ok (.goto (-16), 3) := by decide +kernel
theorem dX8_digest_122 : decode cX8_digest 122 = .ok (.iconst 0, 1) := by decide +kernel
theorem dX8_digest_123 : decode cX8_digest 123 = .ok (.istore_n 3, 1) := by decide +kernel
theorem dX8_digest_124 : decode cX8_digest 124 = .ok (.iload_n 3, 1) := by decide +kernel
theorem dX8_digest_125 : decode cX8_digest 125 = .ok (.aload_n 0, 1) := by decide +kernel
theorem dX8_digest_126 : decode cX8_digest 126 = .ok (.getfield 135, 3) := by decide +kernel
theorem dX8_digest_129 : decode cX8_digest 129 = .ok (.if_icmp .ge 16, 3) := by decide +kernel
theorem dX8_digest_132 : decode cX8_digest 132 = .ok (.aload_n 0, 1) := by decide +kernel
theorem dX8_digest_133 : decode cX8_digest 133 = .ok (.lload_n 1, 1) := by decide +kernel
theorem dX8_digest_134 : decode cX8_digest 134 = .ok (.iload_n 3, 1) := by decide +kernel
theorem dX8_digest_135 : decode cX8_digest 135 = .ok (.invokevirtual 374, 3) := by decide +kernel
theorem dX8_digest_138 : decode cX8_digest 138 = .ok (.lstore_n 1, 1) := by decide +kernel
theorem dX8_digest_139 : decode cX8_digest 139 = .ok (.iinc 3 1, 3) := by decide +kernel
theorem dX8_digest_142 : decode cX8_digest 142 = .ok (.goto (-18), 3) := by decide +kernel
theorem dX8_digest_145 : decode cX8_digest 145 = .ok (.iconst 0, 1) := by decide +kernel
theorem dX8_digest_146 : decode cX8_digest 146 = .ok (.istore_n 3, 1) := by decide +kernel
theorem dX8_digest_147 : decode cX8_digest 147 = .ok (.iload_n 3, 1) := by decide +kernel
theorem dX8_digest_148 : decode cX8_digest 148 = .ok (.iconst 2, 1) := by decide +kernel
theorem dX8_digest_149 : decode cX8_digest 149 = .ok (.if_icmp .ge 50, 3) := by decide +kernel
theorem dX8_digest_152 : decode cX8_digest 152 = .ok (.ldc2_w 359, 3) := by decide +kernel
theorem dX8_digest_155 : decode cX8_digest 155 = .ok (.lload_n 1, 1) := by decide +kernel
theorem dX8_digest_156 : decode cX8_digest 156 = .ok (.lmul, 1) := by decide +kernel
theorem dX8_digest_157 : decode cX8_digest 157 = .ok (.aload_n 0, 1) := by decide +kernel
theorem dX8_digest_158 : decode cX8_digest 158 = .ok (.iload_n 3, 1) := by decide +kernel
theorem dX8_digest_159 : decode cX8_digest 159 = .ok (.invokevirtual 262, 3) := by decide +kernel
theorem dX8_digest_162 : decode cX8_digest 162 = .ok (.i2l, 1) := by decide +kernel
theorem dX8_digest_163 : decode cX8_digest 163 = .ok (.ladd, 1) := by decide +kernel
theorem dX8_digest_164 : decode cX8_digest 164 = .ok (.lstore_n 1, 1) := by decide +kernel
theorem dX8_digest_165 : decode cX8_digest 165 = .ok (.ldc2_w 359, 3) := by decide +kernel
theorem dX8_digest_168 : decode cX8_digest 168 = .ok (.lload_n 1, 1) := by decide +kernel
theorem dX8_digest_169 : decode cX8_digest 169 = .ok (.lmul, 1) := by decide +kernel
theorem dX8_digest_170 : decode cX8_digest 170 = .ok (.aload_n 0, 1) := by decide +kernel
theorem dX8_digest_171 : decode cX8_digest 171 = .ok (.iload_n 3, 1) := by decide +kernel
theorem dX8_digest_172 : decode cX8_digest 172 = .ok (.iconst 0, 1) := by decide +kernel
theorem dX8_digest_173 : decode cX8_digest 173 = .ok (.invokevirtual 268, 3) := by decide +kernel
theorem dX8_digest_176 : decode cX8_digest 176 = .ok (.i2l, 1) := by decide +kernel
theorem dX8_digest_177 : decode cX8_digest 177 = .ok (.ladd, 1) := by decide +kernel
theorem dX8_digest_178 : decode cX8_digest 178 = .ok (.lstore_n 1, 1) := by decide +kernel
theorem dX8_digest_179 : decode cX8_digest 179 = .ok (.ldc2_w 359, 3) := by decide +kernel
theorem dX8_digest_182 : decode cX8_digest 182 = .ok (.lload_n 1, 1) := by decide +kernel
theorem dX8_digest_183 : decode cX8_digest 183 = .ok (.lmul, 1) := by decide +kernel
theorem dX8_digest_184 : decode cX8_digest 184 = .ok (.aload_n 0, 1) := by decide +kernel
theorem dX8_digest_185 : decode cX8_digest 185 = .ok (.iload_n 3, 1) := by decide +kernel
theorem dX8_digest_186 : decode cX8_digest 186 = .ok (.iconst 1, 1) := by decide +kernel
theorem dX8_digest_187 : decode cX8_digest 187 = .ok (.invokevirtual 268, 3) := by decide +kernel
theorem dX8_digest_190 : decode cX8_digest 190 = .ok (.i2l, 1) := by decide +kernel
theorem dX8_digest_191 : decode cX8_digest 191 = .ok (.ladd, 1) := by decide +kernel
theorem dX8_digest_192 : decode cX8_digest 192 = .ok (.lstore_n 1, 1) := by decide +kernel
theorem dX8_digest_193 : decode cX8_digest 193 = .ok (.iinc 3 1, 3) := by decide +kernel
theorem dX8_digest_196 : decode cX8_digest 196 = .ok (.goto (-49), 3) := by decide +kernel
theorem dX8_digest_199 : decode cX8_digest 199 = .ok (.ldc2_w 359, 3) := by decide +kernel
theorem dX8_digest_202 : decode cX8_digest 202 = .ok (.lload_n 1, 1) := by decide +kernel
theorem dX8_digest_203 : decode cX8_digest 203 = .ok (.lmul, 1) := by decide +kernel
theorem dX8_digest_204 : decode cX8_digest 204 = .ok (.aload_n 0, 1) := by decide +kernel
theorem dX8_digest_205 : decode cX8_digest 205 = .ok (.invokevirtual 265, 3) := by decide +kernel
theorem dX8_digest_208 : decode cX8_digest 208 = .ok (.i2l, 1) := by decide +kernel
theorem dX8_digest_209 : decode cX8_digest 209 = .ok (.ladd, 1) := by decide +kernel
theorem dX8_digest_210 : decode cX8_digest 210 = .ok (.lstore_n 1, 1) := by decide +kernel
theorem dX8_digest_211 : decode cX8_digest 211 = .ok (.ldc2_w 359, 3) := by decide +kernel
theorem dX8_digest_214 : decode cX8_digest 214 = .ok (.lload_n 1, 1) := by decide +kernel
theorem dX8_digest_215 : decode cX8_digest 215 = .ok (.lmul, 1) := by decide +kernel
theorem dX8_digest_216 : decode cX8_digest 216 = .ok (.aload_n 0, 1) := by decide +kernel
theorem dX8_digest_217 : decode cX8_digest 217 = .ok (.iconst 0, 1) := by decide +kernel
theorem dX8_digest_218 : decode cX8_digest 218 = .ok (.invokevirtual 271, 3) := by decide +kernel
theorem dX8_digest_221 : decode cX8_digest 221 = .ok (.i2l, 1) := by decide +kernel
theorem dX8_digest_222 : decode cX8_digest 222 = .ok (.ladd, 1) := by decide +kernel
theorem dX8_digest_223 : decode cX8_digest 223 = .ok (.lstore_n 1, 1) := by decide +kernel
theorem dX8_digest_224 : decode cX8_digest 224 = .ok (.ldc2_w 359, 3) := by decide +kernel
theorem dX8_digest_227 : decode cX8_digest 227 = .ok (.lload_n 1, 1) := by decide +kernel
theorem dX8_digest_228 : decode cX8_digest 228 = .ok (.lmul, 1) := by decide +kernel
theorem dX8_digest_229 : decode cX8_digest 229 = .ok (.aload_n 0, 1) := by decide +kernel
theorem dX8_digest_230 : decode cX8_digest 230 = .ok (.iconst 1, 1) := by decide +kernel
theorem dX8_digest_231 : decode cX8_digest 231 = .ok (.invokevirtual 271, 3) := by decide +kernel
theorem dX8_digest_234 : decode cX8_digest 234 = .ok (.i2l, 1) := by decide +kernel
theorem dX8_digest_235 : decode cX8_digest 235 = .ok (.ladd, 1) := by decide +kernel
theorem dX8_digest_236 : decode cX8_digest 236 = .ok (.lstore_n 1, 1) := by decide +kernel
theorem dX8_digest_237 : decode cX8_digest 237 = .ok (.ldc2_w 359, 3) := by decide +kernel
theorem dX8_digest_240 : decode cX8_digest 240 = .ok (.lload_n 1, 1) := by decide +kernel
theorem dX8_digest_241 : decode cX8_digest 241 = .ok (.lmul, 1) := by decide +kernel
theorem dX8_digest_242 : decode cX8_digest 242 = .ok (.aload_n 0, 1) := by decide +kernel
theorem dX8_digest_243 : decode cX8_digest 243 = .ok (.invokevirtual 277, 3) := by decide +kernel
theorem dX8_digest_246 : decode cX8_digest 246 = .ok (.i2l, 1) := by decide +kernel
theorem dX8_digest_247 : decode cX8_digest 247 = .ok (.ladd, 1) := by decide +kernel
theorem dX8_digest_248 : decode cX8_digest 248 = .ok (.lstore_n 1, 1) := by decide +kernel
theorem dX8_digest_249 : decode cX8_digest 249 = .ok (.ldc2_w 359, 3) := by decide +kernel
theorem dX8_digest_252 : decode cX8_digest 252 = .ok (.lload_n 1, 1) := by decide +kernel
theorem dX8_digest_253 : decode cX8_digest 253 = .ok (.lmul, 1) := by decide +kernel
theorem dX8_digest_254 : decode cX8_digest 254 = .ok (.aload_n 0, 1) := by decide +kernel
theorem dX8_digest_255 : decode cX8_digest 255 = .ok (.invokevirtual 283, 3) := by decide +kernel
theorem dX8_digest_258 : decode cX8_digest 258 = .ok (.i2l, 1) := by decide +kernel
theorem dX8_digest_259 : decode cX8_digest 259 = .ok (.ladd, 1) := by decide +kernel
theorem dX8_digest_260 : decode cX8_digest 260 = .ok (.lstore_n 1, 1) := by decide +kernel
theorem dX8_digest_261 : decode cX8_digest 261 = .ok (.ldc2_w 359, 3) := by decide +kernel
theorem dX8_digest_264 : decode cX8_digest 264 = .ok (.lload_n 1, 1) := by decide +kernel
theorem dX8_digest_265 : decode cX8_digest 265 = .ok (.lmul, 1) := by decide +kernel
theorem dX8_digest_266 : decode cX8_digest 266 = .ok (.aload_n 0, 1) := by decide +kernel
theorem dX8_digest_267 : decode cX8_digest 267 = .ok (.bipush 8, 2) := by decide +kernel
theorem dX8_digest_269 : decode cX8_digest 269 = .ok (.iconst 0, 1) := by decide +kernel
theorem dX8_digest_270 : decode cX8_digest 270 = .ok (.invokevirtual 295, 3) := by decide +kernel
theorem dX8_digest_273 : decode cX8_digest 273 = .ok (.i2l, 1) := by decide +kernel
theorem dX8_digest_274 : decode cX8_digest 274 = .ok (.ladd, 1) := by decide +kernel
theorem dX8_digest_275 : decode cX8_digest 275 = .ok (.lstore_n 1, 1) := by decide +kernel
theorem dX8_digest_276 : decode cX8_digest 276 = .ok (.ldc2_w 359, 3) := by decide +kernel
theorem dX8_digest_279 : decode cX8_digest 279 = .ok (.lload_n 1, 1) := by decide +kernel
theorem dX8_digest_280 : decode cX8_digest 280 = .ok (.lmul, 1) := by decide +kernel
theorem dX8_digest_281 : decode cX8_digest 281 = .ok (.aload_n 0, 1) := by decide +kernel
theorem dX8_digest_282 : decode cX8_digest 282 = .ok (.bipush 8, 2) := by decide +kernel
theorem dX8_digest_284 : decode cX8_digest 284 = .ok (.iconst 1, 1) := by decide +kernel
theorem dX8_digest_285 : decode cX8_digest 285 = .ok (.invokevirtual 295, 3) := by decide +kernel
theorem dX8_digest_288 : decode cX8_digest 288 = .ok (.i2l, 1) := by decide +kernel
theorem dX8_digest_289 : decode cX8_digest 289 = .ok (.ladd, 1) := by decide +kernel
theorem dX8_digest_290 : decode cX8_digest 290 = .ok (.lstore_n 1, 1) := by decide +kernel
theorem dX8_digest_291 : decode cX8_digest 291 = .ok (.ldc2_w 359, 3) := by decide +kernel
theorem dX8_digest_294 : decode cX8_digest 294 = .ok (.lload_n 1, 1) := by decide +kernel
theorem dX8_digest_295 : decode cX8_digest 295 = .ok (.lmul, 1) := by decide +kernel
theorem dX8_digest_296 : decode cX8_digest 296 = .ok (.aload_n 0, 1) := by decide +kernel
theorem dX8_digest_297 : decode cX8_digest 297 = .ok (.bipush 8, 2) := by decide +kernel
theorem dX8_digest_299 : decode cX8_digest 299 = .ok (.iconst 0, 1) := by decide +kernel
theorem dX8_digest_300 : decode cX8_digest 300 = .ok (.invokevirtual 298, 3) := by decide +kernel
theorem dX8_digest_303 : decode cX8_digest 303 = .ok (.i2l, 1) := by decide +kernel
theorem dX8_digest_304 : decode cX8_digest 304 = .ok (.ladd, 1) := by decide +kernel
theorem dX8_digest_305 : decode cX8_digest 305 = .ok (.lstore_n 1, 1) := by decide +kernel
theorem dX8_digest_306 : decode cX8_digest 306 = .ok (.ldc2_w 359, 3) := by decide +kernel
theorem dX8_digest_309 : decode cX8_digest 309 = .ok (.lload_n 1, 1) := by decide +kernel
theorem dX8_digest_310 : decode cX8_digest 310 = .ok (.lmul, 1) := by decide +kernel
theorem dX8_digest_311 : decode cX8_digest 311 = .ok (.aload_n 0, 1) := by decide +kernel
theorem dX8_digest_312 : decode cX8_digest 312 = .ok (.bipush 8, 2) := by decide +kernel
theorem dX8_digest_314 : decode cX8_digest 314 = .ok (.iconst 1, 1) := by decide +kernel
theorem dX8_digest_315 : decode cX8_digest 315 = .ok (.invokevirtual 298, 3) := by decide +kernel
theorem dX8_digest_318 : decode cX8_digest 318 = .ok (.i2l, 1) := by decide +kernel
theorem dX8_digest_319 : decode cX8_digest 319 = .ok (.ladd, 1) := by decide +kernel
theorem dX8_digest_320 : decode cX8_digest 320 = .ok (.lstore_n 1, 1) := by decide +kernel
theorem dX8_digest_321 : decode cX8_digest 321 = .ok (.ldc2_w 359, 3) := by decide +kernel
theorem dX8_digest_324 : decode cX8_digest 324 = .ok (.lload_n 1, 1) := by decide +kernel
theorem dX8_digest_325 : decode cX8_digest 325 = .ok (.lmul, 1) := by decide +kernel
theorem dX8_digest_326 : decode cX8_digest 326 = .ok (.aload_n 0, 1) := by decide +kernel
theorem dX8_digest_327 : decode cX8_digest 327 = .ok (.iconst 5, 1) := by decide +kernel
theorem dX8_digest_328 : decode cX8_digest 328 = .ok (.bipush 17, 2) := by decide +kernel
theorem dX8_digest_330 : decode cX8_digest 330 = .ok (.iconst 0, 1) := by decide +kernel
theorem dX8_digest_331 : decode cX8_digest 331 = .ok (.invokevirtual 333, 3) := by decide +kernel
theorem dX8_digest_334 : decode cX8_digest 334 = .ok (.ladd, 1) := by decide +kernel
theorem dX8_digest_335 : decode cX8_digest 335 = .ok (.lstore_n 1, 1) := by decide +kernel
theorem dX8_digest_336 : decode cX8_digest 336 = .ok (.ldc2_w 359, 3) := by decide +kernel
theorem dX8_digest_339 : decode cX8_digest 339 = .ok (.lload_n 1, 1) := by decide +kernel
theorem dX8_digest_340 : decode cX8_digest 340 = .ok (.lmul, 1) := by decide +kernel
theorem dX8_digest_341 : decode cX8_digest 341 = .ok (.aload_n 0, 1) := by decide +kernel
theorem dX8_digest_342 : decode cX8_digest 342 = .ok (.iconst 5, 1) := by decide +kernel
theorem dX8_digest_343 : decode cX8_digest 343 = .ok (.bipush 17, 2) := by decide +kernel
theorem dX8_digest_345 : decode cX8_digest 345 = .ok (.iconst 1, 1) := by decide +kernel
theorem dX8_digest_346 : decode cX8_digest 346 = .ok (.invokevirtual 333, 3) := by decide +kernel
theorem dX8_digest_349 : decode cX8_digest 349 = .ok (.ladd, 1) := by decide +kernel
theorem dX8_digest_350 : decode cX8_digest 350 = .ok (.lstore_n 1, 1) := by decide +kernel
theorem dX8_digest_351 : decode cX8_digest 351 = .ok (.aload_n 0, 1) := by decide +kernel
theorem dX8_digest_352 : decode cX8_digest 352 = .ok (.invokevirtual 304, 3) := by decide +kernel
theorem dX8_digest_355 : decode cX8_digest 355 = .ok (.istore_n 3, 1) := by decide +kernel
theorem dX8_digest_356 : decode cX8_digest 356 = .ok (.ldc2_w 359, 3) := by decide +kernel
theorem dX8_digest_359 : decode cX8_digest 359 = .ok (.lload_n 1, 1) := by decide +kernel
theorem dX8_digest_360 : decode cX8_digest 360 = .ok (.lmul, 1) := by decide +kernel
theorem dX8_digest_361 : decode cX8_digest 361 = .ok (.iload_n 3, 1) := by decide +kernel
theorem dX8_digest_362 : decode cX8_digest 362 = .ok (.i2l, 1) := by decide +kernel
theorem dX8_digest_363 : decode cX8_digest 363 = .ok (.ladd, 1) := by decide +kernel
theorem dX8_digest_364 : decode cX8_digest 364 = .ok (.lstore_n 1, 1) := by decide +kernel
theorem dX8_digest_365 : decode cX8_digest 365 = .ok (.ldc2_w 359, 3) := by decide +kernel
theorem dX8_digest_368 : decode cX8_digest 368 = .ok (.lload_n 1, 1) := by decide +kernel
theorem dX8_digest_369 : decode cX8_digest 369 = .ok (.lmul, 1) := by decide +kernel
theorem dX8_digest_370 : decode cX8_digest 370 = .ok (.aload_n 0, 1) := by decide +kernel
theorem dX8_digest_371 : decode cX8_digest 371 = .ok (.iload_n 3, 1) := by decide +kernel
theorem dX8_digest_372 : decode cX8_digest 372 = .ok (.iconst 0, 1) := by decide +kernel
theorem dX8_digest_373 : decode cX8_digest 373 = .ok (.invokevirtual 307, 3) := by decide +kernel
theorem dX8_digest_376 : decode cX8_digest 376 = .ok (.i2l, 1) := by decide +kernel
theorem dX8_digest_377 : decode cX8_digest 377 = .ok (.ladd, 1) := by decide +kernel
theorem dX8_digest_378 : decode cX8_digest 378 = .ok (.lstore_n 1, 1) := by decide +kernel
theorem dX8_digest_379 : decode cX8_digest 379 = .ok (.ldc2_w 359, 3) := by decide +kernel
theorem dX8_digest_382 : decode cX8_digest 382 = .ok (.lload_n 1, 1) := by decide +kernel
theorem dX8_digest_383 : decode cX8_digest 383 = .ok (.lmul, 1) := by decide +kernel
theorem dX8_digest_384 : decode cX8_digest 384 = .ok (.aload_n 0, 1) := by decide +kernel
theorem dX8_digest_385 : decode cX8_digest 385 = .ok (.invokevirtual 317, 3) := by decide +kernel
theorem dX8_digest_388 : decode cX8_digest 388 = .ok (.i2l, 1) := by decide +kernel
theorem dX8_digest_389 : decode cX8_digest 389 = .ok (.ladd, 1) := by decide +kernel
theorem dX8_digest_390 : decode cX8_digest 390 = .ok (.lstore_n 1, 1) := by decide +kernel
theorem dX8_digest_391 : decode cX8_digest 391 = .ok (.ldc2_w 359, 3) := by decide +kernel
theorem dX8_digest_394 : decode cX8_digest 394 = .ok (.lload_n 1, 1) := by decide +kernel
theorem dX8_digest_395 : decode cX8_digest 395 = .ok (.lmul, 1) := by decide +kernel
theorem dX8_digest_396 : decode cX8_digest 396 = .ok (.aload_n 0, 1) := by decide +kernel
theorem dX8_digest_397 : decode cX8_digest 397 = .ok (.bipush 7, 2) := by decide +kernel
theorem dX8_digest_399 : decode cX8_digest 399 = .ok (.bipush 18, 2) := by decide +kernel
theorem dX8_digest_401 : decode cX8_digest 401 = .ok (.iconst 0, 1) := by decide +kernel
theorem dX8_digest_402 : decode cX8_digest 402 = .ok (.invokevirtual 342, 3) := by decide +kernel
theorem dX8_digest_405 : decode cX8_digest 405 = .ok (.i2l, 1) := by decide +kernel
theorem dX8_digest_406 : decode cX8_digest 406 = .ok (.ladd, 1) := by decide +kernel
theorem dX8_digest_407 : decode cX8_digest 407 = .ok (.lstore_n 1, 1) := by decide +kernel
theorem dX8_digest_408 : decode cX8_digest 408 = .ok (.ldc2_w 359, 3) := by decide +kernel
theorem dX8_digest_411 : decode cX8_digest 411 = .ok (.lload_n 1, 1) := by decide +kernel
theorem dX8_digest_412 : decode cX8_digest 412 = .ok (.lmul, 1) := by decide +kernel
theorem dX8_digest_413 : decode cX8_digest 413 = .ok (.aload_n 0, 1) := by decide +kernel
theorem dX8_digest_414 : decode cX8_digest 414 = .ok (.bipush 7, 2) := by decide +kernel
theorem dX8_digest_416 : decode cX8_digest 416 = .ok (.bipush 18, 2) := by decide +kernel
theorem dX8_digest_418 : decode cX8_digest 418 = .ok (.iconst 1, 1) := by decide +kernel
theorem dX8_digest_419 : decode cX8_digest 419 = .ok (.invokevirtual 342, 3) := by decide +kernel
theorem dX8_digest_422 : decode cX8_digest 422 = .ok (.i2l, 1) := by decide +kernel
theorem dX8_digest_423 : decode cX8_digest 423 = .ok (.ladd, 1) := by decide +kernel
theorem dX8_digest_424 : decode cX8_digest 424 = .ok (.lreturn, 1) := by decide +kernel
theorem dJ11_isValidCodePoint_9a6ad_0 : decode cJ11_isValidCodePoint_9a6ad 0 = .ok (.iload_n 0, 1) := by decide +kernel
theorem dJ11_isValidCodePoint_9a6ad_1 : decode cJ11_isValidCodePoint_9a6ad 1 = .ok (.bipush 16, 2) := by decide +kernel
theorem dJ11_isValidCodePoint_9a6ad_3 : decode cJ11_isValidCodePoint_9a6ad 3 = .ok (.iushr, 1) := by decide +kernel
theorem dJ11_isValidCodePoint_9a6ad_4 : decode cJ11_isValidCodePoint_9a6ad 4 = .ok (.istore_n 1, 1) := by decide +kernel
theorem dJ11_isValidCodePoint_9a6ad_5 : decode cJ11_isValidCodePoint_9a6ad 5 = .ok (.iload_n 1, 1) := by decide +kernel
theorem dJ11_isValidCodePoint_9a6ad_6 : decode cJ11_isValidCodePoint_9a6ad 6 = .ok (.bipush 17, 2) := by decide +kernel
theorem dJ11_isValidCodePoint_9a6ad_8 : decode cJ11_isValidCodePoint_9a6ad 8 = .ok (.if_icmp .ge 7, 3) := by decide +kernel
theorem dJ11_isValidCodePoint_9a6ad_11 : decode cJ11_isValidCodePoint_9a6ad 11 = .ok (.iconst 1, 1) := by decide +kernel
theorem dJ11_isValidCodePoint_9a6ad_12 : decode cJ11_isValidCodePoint_9a6ad 12 = .ok (.goto 4, 3) := by decide +kernel
theorem dJ11_isValidCodePoint_9a6ad_15 : decode cJ11_isValidCodePoint_9a6ad 15 = .ok (.iconst 0, 1) := by decide +kernel
theorem dJ11_isValidCodePoint_9a6ad_16 : decode cJ11_isValidCodePoint_9a6ad 16 = .ok (.ireturn, 1) := by decide +kernel
theorem dJ11_highSurrogate_5068e_0 : decode cJ11_highSurrogate_5068e 0 = .ok (.iload_n 0, 1) := by decide +kernel
theorem dJ11_highSurrogate_5068e_1 : decode cJ11_highSurrogate_5068e 1 = .ok (.bipush 10, 2) := by decide +kernel
theorem dJ11_highSurrogate_5068e_3 : decode cJ11_highSurrogate_5068e 3 = .ok (.iushr, 1) := by decide +kernel
theorem dJ11_highSurrogate_5068e_4 : decode cJ11_highSurrogate_5068e 4 = .ok (.ldc 110, 2) := by decide +kernel
theorem dJ11_highSurrogate_5068e_6 : decode cJ11_highSurrogate_5068e 6 = .ok (.iadd, 1) := by decide +kernel
theorem dJ11_highSurrogate_5068e_7 : decode cJ11_highSurrogate_5068e 7 = .ok (.i2c, 1) := by decide +kernel
theorem dJ11_highSurrogate_5068e_8 : decode cJ11_highSurrogate_5068e 8 = .ok (.ireturn, 1) := by decide +kernel
theorem dJ11_lowSurrogate_5068e_0 : decode cJ11_lowSurrogate_5068e 0 = .ok (.iload_n 0, 1) := by decide +kernel
theorem dJ11_lowSurrogate_5068e_1 : decode cJ11_lowSurrogate_5068e 1 = .ok (.sipush 1023, 3) := by decide +kernel
theorem dJ11_lowSurrogate_5068e_4 : decode cJ11_lowSurrogate_5068e 4 = .ok (.iand, 1) := by decide +kernel
theorem dJ11_lowSurrogate_5068e_5 : decode cJ11_lowSurrogate_5068e 5 = .ok (.ldc 76, 2) := by decide +kernel
theorem dJ11_lowSurrogate_5068e_7 : decode cJ11_lowSurrogate_5068e 7 = .ok (.iadd, 1) := by decide +kernel
theorem dJ11_lowSurrogate_5068e_8 : decode cJ11_lowSurrogate_5068e 8 = .ok (.i2c, 1) := by decide +kernel
theorem dJ11_lowSurrogate_5068e_9 : decode cJ11_lowSurrogate_5068e 9 = .ok (.ireturn, 1) := by decide +kernel
theorem dJ6_bitCount_0f7a4_0 : decode cJ6_bitCount_0f7a4 0 = .ok (.iload_n 0, 1) := by decide +kernel
theorem dJ6_bitCount_0f7a4_1 : decode cJ6_bitCount_0f7a4 1 = .ok (.iload_n 0, 1) := by decide +kernel
theorem dJ6_bitCount_0f7a4_2 : decode cJ6_bitCount_0f7a4 2 = .ok (.iconst 1, 1) := by decide +kernel
theorem dJ6_bitCount_0f7a4_3 : decode cJ6_bitCount_0f7a4 3 = .ok (.iushr, 1) := by decide +kernel
theorem dJ6_bitCount_0f7a4_4 : decode cJ6_bitCount_0f7a4 4 = .ok (.ldc_w 265, 3) := by decide +kernel
theorem dJ6_bitCount_0f7a4_7 : decode cJ6_bitCount_0f7a4 7 = .ok (.iand, 1) := by decide +kernel
theorem dJ6_bitCount_0f7a4_8 : decode cJ6_bitCount_0f7a4 8 = .ok (.isub, 1) := by decide +kernel
theorem dJ6_bitCount_0f7a4_9 : decode cJ6_bitCount_0f7a4 9 = .ok (.istore_n 0, 1) := by decide +kernel
theorem dJ6_bitCount_0f7a4_10 : decode cJ6_bitCount_0f7a4 10 = .ok (.iload_n 0, 1) := by decide +kernel
theorem dJ6_bitCount_0f7a4_11 : decode cJ6_bitCount_0f7a4 11 = .ok (.ldc_w 266, 3) := by decide +kernel
theorem dJ6_bitCount_0f7a4_14 : decode cJ6_bitCount_0f7a4 14 = .ok (.iand, 1) := by decide +kernel
theorem dJ6_bitCount_0f7a4_15 : decode cJ6_bitCount_0f7a4 15 = .ok (.iload_n 0, 1) := by decide +kernel
theorem dJ6_bitCount_0f7a4_16 : decode cJ6_bitCount_0f7a4 16 = .ok (.iconst 2, 1) := by decide +kernel
theorem dJ6_bitCount_0f7a4_17 : decode cJ6_bitCount_0f7a4 17 = .ok (.iushr, 1) := by decide +kernel
theorem dJ6_bitCount_0f7a4_18 : decode cJ6_bitCount_0f7a4 18 = .ok (.ldc_w 266, 3) := by decide +kernel
theorem dJ6_bitCount_0f7a4_21 : decode cJ6_bitCount_0f7a4 21 = .ok (.iand, 1) := by decide +kernel
theorem dJ6_bitCount_0f7a4_22 : decode cJ6_bitCount_0f7a4 22 = .ok (.iadd, 1) := by decide +kernel
theorem dJ6_bitCount_0f7a4_23 : decode cJ6_bitCount_0f7a4 23 = .ok (.istore_n 0, 1) := by decide +kernel
theorem dJ6_bitCount_0f7a4_24 : decode cJ6_bitCount_0f7a4 24 = .ok (.iload_n 0, 1) := by decide +kernel
theorem dJ6_bitCount_0f7a4_25 : decode cJ6_bitCount_0f7a4 25 = .ok (.iload_n 0, 1) := by decide +kernel
theorem dJ6_bitCount_0f7a4_26 : decode cJ6_bitCount_0f7a4 26 = .ok (.iconst 4, 1) := by decide +kernel
theorem dJ6_bitCount_0f7a4_27 : decode cJ6_bitCount_0f7a4 27 = .ok (.iushr, 1) := by decide +kernel
theorem dJ6_bitCount_0f7a4_28 : decode cJ6_bitCount_0f7a4 28 = .ok (.iadd, 1) := by decide +kernel
theorem dJ6_bitCount_0f7a4_29 : decode cJ6_bitCount_0f7a4 29 = .ok (.ldc_w 267, 3) := by decide +kernel
theorem dJ6_bitCount_0f7a4_32 : decode cJ6_bitCount_0f7a4 32 = .ok (.iand, 1) := by decide +kernel
theorem dJ6_bitCount_0f7a4_33 : decode cJ6_bitCount_0f7a4 33 = .ok (.istore_n 0, 1) := by decide +kernel
theorem dJ6_bitCount_0f7a4_34 : decode cJ6_bitCount_0f7a4 34 = .ok (.iload_n 0, 1) := by decide +kernel
theorem dJ6_bitCount_0f7a4_35 : decode cJ6_bitCount_0f7a4 35 = .ok (.iload_n 0, 1) := by decide +kernel
theorem dJ6_bitCount_0f7a4_36 : decode cJ6_bitCount_0f7a4 36 = .ok (.bipush 8, 2) := by decide +kernel
theorem dJ6_bitCount_0f7a4_38 : decode cJ6_bitCount_0f7a4 38 = .ok (.iushr, 1) := by decide +kernel
theorem dJ6_bitCount_0f7a4_39 : decode cJ6_bitCount_0f7a4 39 = .ok (.iadd, 1) := by decide +kernel
theorem dJ6_bitCount_0f7a4_40 : decode cJ6_bitCount_0f7a4 40 = .ok (.istore_n 0, 1) := by decide +kernel
theorem dJ6_bitCount_0f7a4_41 : decode cJ6_bitCount_0f7a4 41 = .ok (.iload_n 0, 1) := by decide +kernel
theorem dJ6_bitCount_0f7a4_42 : decode cJ6_bitCount_0f7a4 42 = .ok (.iload_n 0, 1) := by decide +kernel
theorem dJ6_bitCount_0f7a4_43 : decode cJ6_bitCount_0f7a4 43 = .ok (.bipush 16, 2) := by decide +kernel
theorem dJ6_bitCount_0f7a4_45 : decode cJ6_bitCount_0f7a4 45 = .ok (.iushr, 1) := by decide +kernel
theorem dJ6_bitCount_0f7a4_46 : decode cJ6_bitCount_0f7a4 46 = .ok (.iadd, 1) := by decide +kernel
theorem dJ6_bitCount_0f7a4_47 : decode cJ6_bitCount_0f7a4 47 = .ok (.istore_n 0, 1) := by decide +kernel
theorem dJ6_bitCount_0f7a4_48 : decode cJ6_bitCount_0f7a4 48 = .ok (.iload_n 0, 1) := by decide +kernel
theorem dJ6_bitCount_0f7a4_49 : decode cJ6_bitCount_0f7a4 49 = .ok (.bipush 63, 2) := by decide +kernel
theorem dJ6_bitCount_0f7a4_51 : decode cJ6_bitCount_0f7a4 51 = .ok (.iand, 1) := by decide +kernel
theorem dJ6_bitCount_0f7a4_52 : decode cJ6_bitCount_0f7a4 52 = .ok (.ireturn, 1) := by decide +kernel
theorem dJ9_max_7cf53_0 : decode cJ9_max_7cf53 0 = .ok (.iload_n 0, 1) := by decide +kernel
theorem dJ9_max_7cf53_1 : decode cJ9_max_7cf53 1 = .ok (.iload_n 1, 1) := by decide +kernel
theorem dJ9_max_7cf53_2 : decode cJ9_max_7cf53 2 = .ok (.if_icmp .lt 7, 3) := by decide +kernel
theorem dJ9_max_7cf53_5 : decode cJ9_max_7cf53 5 = .ok (.iload_n 0, 1) := by decide +kernel
theorem dJ9_max_7cf53_6 : decode cJ9_max_7cf53 6 = .ok (.goto 4, 3) := by decide +kernel
theorem dJ9_max_7cf53_9 : decode cJ9_max_7cf53 9 = .ok (.iload_n 1, 1) := by decide +kernel
theorem dJ9_max_7cf53_10 : decode cJ9_max_7cf53 10 = .ok (.ireturn, 1) := by decide +kernel
theorem dJ9_min_7cf53_0 : decode cJ9_min_7cf53 0 = .ok (.iload_n 0, 1) := by decide +kernel
theorem dJ9_min_7cf53_1 : decode cJ9_min_7cf53 1 = .ok (.iload_n 1, 1) := by decide +kernel
theorem dJ9_min_7cf53_2 : decode cJ9_min_7cf53 2 = .ok (.if_icmp .gt 7, 3) := by decide +kernel
theorem dJ9_min_7cf53_5 : decode cJ9_min_7cf53 5 = .ok (.iload_n 0, 1) := by decide +kernel
theorem dJ9_min_7cf53_6 : decode cJ9_min_7cf53 6 = .ok (.goto 4, 3) := by decide +kernel
theorem dJ9_min_7cf53_9 : decode cJ9_min_7cf53 9 = .ok (.iload_n 1, 1) := by decide +kernel
theorem dJ9_min_7cf53_10 : decode cJ9_min_7cf53 10 = .ok (.ireturn, 1) := by decide +kernel
theorem dJ0_length_8abf5_0 : decode cJ0_length_8abf5 0 = .ok (.aload_n 0, 1) := by decide +kernel
theorem dJ0_length_8abf5_1 : decode cJ0_length_8abf5 1 = .ok (.getfield 9, 3) := by decide +kernel
theorem dJ0_length_8abf5_4 : decode cJ0_length_8abf5 4 = .ok (.arraylength, 1) := by decide +kernel
theorem dJ0_length_8abf5_5 : decode cJ0_length_8abf5 5 = .ok (.aload_n 0, 1) := by decide +kernel
theorem dJ0_length_8abf5_6 : decode cJ0_length_8abf5 6 = .ok (.invokevirtual 335, 3) := by decide +kernel
theorem dJ0_length_8abf5_9 : decode cJ0_length_8abf5 9 = .ok (.ishr, 1) := by decide +kernel
theorem dJ0_length_8abf5_10 : decode cJ0_length_8abf5 10 = .ok (.ireturn, 1) := by decide +kernel
theorem dJ0_indexOf_0f7a4_0 : decode cJ0_indexOf_0f7a4 0 = .ok (.aload_n 0, 1) := by decide +kernel
theorem dJ0_indexOf_0f7a4_1 : decode cJ0_indexOf_0f7a4 1 = .ok (.iload_n 1, 1) := by decide +kernel
theorem dJ0_indexOf_0f7a4_2 : decode cJ0_indexOf_0f7a4 2 = .ok (.iconst 0, 1) := by decide +kernel
theorem dJ0_indexOf_0f7a4_3 : decode cJ0_indexOf_0f7a4 3 = .ok (.invokevirtual 633, 3) := by decide +kernel
theorem dJ0_indexOf_0f7a4_6 : decode cJ0_indexOf_0f7a4 6 = .ok (.ireturn, 1) := by decide +kernel
theorem dJ0_indexOf_7cf53_0 : decode cJ0_indexOf_7cf53 0 = .ok (.aload_n 0, 1) := by decide +kernel
theorem dJ0_indexOf_7cf53_1 : decode cJ0_indexOf_7cf53 1 = .ok (.invokevirtual 492, 3) := by decide +kernel
theorem dJ0_indexOf_7cf53_4 : decode cJ0_indexOf_7cf53 4 = .ok (.ifCond .eq 19, 3) := by decide +kernel
theorem dJ0_indexOf_7cf53_7 : decode cJ0_indexOf_7cf53 7 = .ok (.aload_n 0, 1) := by decide +kernel
theorem dJ0_indexOf_7cf53_8 : decode cJ0_indexOf_7cf53 8 = .ok (.getfield 9, 3) := by decide +kernel
theorem dJ0_indexOf_7cf53_11 : decode cJ0_indexOf_7cf53 11 = .ok (.iload_n 1, 1) := by decide +kernel
theorem dJ0_indexOf_7cf53_12 : decode cJ0_indexOf_7cf53 12 = .ok (.iload_n 2, 1) := by decide +kernel
theorem dJ0_indexOf_7cf53_13 : decode cJ0_indexOf_7cf53 13 = .ok (.aload_n 0, 1) := by decide +kernel
theorem dJ0_indexOf_7cf53_14 : decode cJ0_indexOf_7cf53 14 = .ok (.invokevirtual 505, 3) := by decide +kernel
theorem dJ0_indexOf_7cf53_17 : decode cJ0_indexOf_7cf53 17 = .ok (.invokestatic 637, 3) := by decide +kernel
theorem dJ0_indexOf_7cf53_20 : decode cJ0_indexOf_7cf53 20 = .ok (.goto 16, 3) := by decide +kernel
theorem dJ0_indexOf_7cf53_23 : decode cJ0_indexOf_7cf53 23 = .ok (.aload_n 0, 1) := by decide +kernel
theorem dJ0_indexOf_7cf53_24 : decode cJ0_indexOf_7cf53 24 = .ok (.getfield 9, 3) := by decide +kernel
theorem dJ0_indexOf_7cf53_27 : decode cJ0_indexOf_7cf53 27 = .ok (.iload_n 1, 1) := by decide +kernel
theorem dJ0_indexOf_7cf53_28 : decode cJ0_indexOf_7cf53 28 = .ok (.iload_n 2, 1) := by decide +kernel
theorem dJ0_indexOf_7cf53_29 : decode cJ0_indexOf_7cf53 29 = .ok (.aload_n 0, 1) := by decide +kernel
theorem dJ0_indexOf_7cf53_30 : decode cJ0_indexOf_7cf53 30 = .ok (.invokevirtual 505, 3) := by decide +kernel
theorem dJ0_indexOf_7cf53_33 : decode cJ0_indexOf_7cf53 33 = .ok (.invokestatic 640, 3) := by decide +kernel
theorem dJ0_indexOf_7cf53_36 : decode cJ0_indexOf_7cf53 36 = .ok (.ireturn, 1) := by decide +kernel
theorem dJ0_coder_7d493_0 : decode cJ0_coder_7d493 0 = .ok (.getstatic 38, 3) := by decide +kernel
theorem dJ0_coder_7d493_3 : decode cJ0_coder_7d493 3 = .ok (.ifCond .eq 10, 3) := by decide +kernel
theorem dJ0_coder_7d493_6 : decode cJ0_coder_7d493 6 = .ok (.aload_n 0, 1) := by decide +kernel
theorem dJ0_coder_7d493_7 : decode cJ0_coder_7d493 7 = .ok (.getfield 15, 3) := by decide +kernel
theorem dJ0_coder_7d493_10 : decode cJ0_coder_7d493 10 = .ok (.goto 4, 3) := by decide +kernel
theorem dJ0_coder_7d493_13 : decode cJ0_coder_7d493 13 = .ok (.iconst 1, 1) := by decide +kernel
theorem dJ0_coder_7d493_14 : decode cJ0_coder_7d493 14 = .ok (.ireturn, 1) := by decide +kernel
theorem dJ0_isLatin1_aae02_0 : decode cJ0_isLatin1_aae02 0 = .ok (.getstatic 38, 3) := by decide +kernel
theorem dJ0_isLatin1_aae02_3 : decode cJ0_isLatin1_aae02 3 = .ok (.ifCond .eq 14, 3) := by decide +kernel
theorem dJ0_isLatin1_aae02_6 : decode cJ0_isLatin1_aae02 6 = .ok (.aload_n 0, 1) := by decide +kernel
theorem dJ0_isLatin1_aae02_7 : decode cJ0_isLatin1_aae02 7 = .ok (.getfield 15, 3) := by decide +kernel
theorem dJ0_isLatin1_aae02_10 : decode cJ0_isLatin1_aae02 10 = .ok (.ifCond .ne 7, 3) := by decide +kernel
theorem dJ0_isLatin1_aae02_13 : decode cJ0_isLatin1_aae02 13 = .ok (.iconst 1, 1) := by decide +kernel
theorem dJ0_isLatin1_aae02_14 : decode cJ0_isLatin1_aae02 14 = .ok (.goto 4, 3) := by decide +kernel
theorem dJ0_isLatin1_aae02_17 : decode cJ0_isLatin1_aae02 17 = .ok (.iconst 0, 1) := by decide +kernel
theorem dJ0_isLatin1_aae02_18 : decode cJ0_isLatin1_aae02 18 = .ok (.ireturn, 1) := by decide +kernel
theorem dJ0_checkBoundsBeginEnd_23922_0 : decode cJ0_checkBoundsBeginEnd_23922 0 = .ok (.iload_n 0, 1) := by decide +kernel
theorem dJ0_checkBoundsBeginEnd_23922_1 : decode cJ0_checkBoundsBeginEnd_23922 1 = .ok (.iload_n 1, 1) := by decide +kernel
theorem dJ0_checkBoundsBeginEnd_23922_2 : decode cJ0_checkBoundsBeginEnd_23922 2 = .ok (.iload_n 2, 1) := by decide +kernel
theorem dJ0_checkBoundsBeginEnd_23922_3 : decode cJ0_checkBoundsBeginEnd_23922 3 = .ok (.getstatic 1053, 3) := by decide +kernel
theorem dJ0_checkBoundsBeginEnd_23922_6 : decode cJ0_checkBoundsBeginEnd_23922 6 = .ok (.invokestatic 1062, 3) := by decide +kernel
theorem dJ0_checkBoundsBeginEnd_23922_9 : decode cJ0_checkBoundsBeginEnd_23922 9 = .ok (.pop, 1) := by decide +kernel
theorem dJ0_checkBoundsBeginEnd_23922_10 : decode cJ0_checkBoundsBeginEnd_23922 10 = .ok (.return_, 1) := by decide +kernel
theorem dJ1_canEncode_9a6ad_0 : decode cJ1_canEncode_9a6ad 0 = .ok (.iload_n 0, 1) := by decide +kernel
theorem dJ1_canEncode_9a6ad_1 : decode cJ1_canEncode_9a6ad 1 = .ok (.ifCond .lt 14, 3) := by decide +kernel
theorem dJ1_canEncode_9a6ad_4 : decode cJ1_canEncode_9a6ad 4 = .ok (.iload_n 0, 1) := by decide +kernel
theorem dJ1_canEncode_9a6ad_5 : decode cJ1_canEncode_9a6ad 5 = .ok (.sipush 255, 3) := by decide +kernel
theorem dJ1_canEncode_9a6ad_8 : decode cJ1_canEncode_9a6ad 8 = .ok (.if_icmp .gt 7, 3) := by decide +kernel
theorem dJ1_canEncode_9a6ad_11 : decode cJ1_canEncode_9a6ad 11 = .ok (.iconst 1, 1) := by decide +kernel
theorem dJ1_canEncode_9a6ad_12 : decode cJ1_canEncode_9a6ad 12 = .ok (.goto 4, 3) := by decide +kernel
theorem dJ1_canEncode_9a6ad_15 : decode cJ1_canEncode_9a6ad 15 = .ok (.iconst 0, 1) := by decide +kernel
theorem dJ1_canEncode_9a6ad_16 : decode cJ1_canEncode_9a6ad 16 = .ok (.ireturn, 1) := by decide +kernel
theorem dJ1_indexOf_4cfef_0 : decode cJ1_indexOf_4cfef 0 = .ok (.iload_n 1, 1) := by decide +kernel
theorem dJ1_indexOf_4cfef_1 : decode cJ1_indexOf_4cfef 1 = .ok (.invokestatic 88, 3) := by decide +kernel
theorem dJ1_indexOf_4cfef_4 : decode cJ1_indexOf_4cfef 4 = .ok (.ifCond .ne 5, 3) := by decide +kernel
theorem dJ1_indexOf_4cfef_7 : decode cJ1_indexOf_4cfef 7 = .ok (.iconst (-1), 1) := by decide +kernel
theorem dJ1_indexOf_4cfef_8 : decode cJ1_indexOf_4cfef 8 = .ok (.ireturn, 1) := by decide +kernel
theorem dJ1_indexOf_4cfef_9 : decode cJ1_indexOf_4cfef 9 = .ok (.iload_n 2, 1) := by decide +kernel
theorem dJ1_indexOf_4cfef_10 : decode cJ1_indexOf_4cfef 10 = .ok (.iconst 0, 1) := by decide +kernel
theorem dJ1_indexOf_4cfef_11 : decode cJ1_indexOf_4cfef 11 = .ok (.invokestatic 92, 3) := by decide +kernel
theorem dJ1_indexOf_4cfef_14 : decode cJ1_indexOf_4cfef 14 = .ok (.istore_n 2, 1) := by decide +kernel
theorem dJ1_indexOf_4cfef_15 : decode cJ1_indexOf_4cfef 15 = .ok (.iload_n 3, 1) := by decide +kernel
theorem dJ1_indexOf_4cfef_16 : decode cJ1_indexOf_4cfef 16 = .ok (.aload_n 0, 1) := by decide +kernel
theorem dJ1_indexOf_4cfef_17 : decode cJ1_indexOf_4cfef 17 = .ok (.arraylength, 1) := by decide +kernel
theorem dJ1_indexOf_4cfef_18 : decode cJ1_indexOf_4cfef 18 = .ok (.invokestatic 38, 3) := by decide +kernel
theorem dJ1_indexOf_4cfef_21 : decode cJ1_indexOf_4cfef 21 = .ok (.istore_n 3, 1) := by decide +kernel
theorem dJ1_indexOf_4cfef_22 : decode cJ1_indexOf_4cfef 22 = .ok (.iload_n 2, 1) := by decide +kernel
theorem dJ1_indexOf_4cfef_23 : decode cJ1_indexOf_4cfef 23 = .ok (.iload_n 3, 1) := by decide +kernel
theorem dJ1_indexOf_4cfef_24 : decode cJ1_indexOf_4cfef 24 = .ok (.if_icmp .lt 5, 3) := by decide +kernel
theorem dJ1_indexOf_4cfef_27 : decode cJ1_indexOf_4cfef 27 = .ok (.iconst (-1), 1) := by decide +kernel
theorem dJ1_indexOf_4cfef_28 : decode cJ1_indexOf_4cfef 28 = .ok (.ireturn, 1) := by decide +kernel
theorem dJ1_indexOf_4cfef_29 : decode cJ1_indexOf_4cfef 29 = .ok (.aload_n 0, 1) := by decide +kernel
theorem dJ1_indexOf_4cfef_30 : decode cJ1_indexOf_4cfef 30 = .ok (.iload_n 1, 1) := by decide +kernel
theorem dJ1_indexOf_4cfef_31 : decode cJ1_indexOf_4cfef 31 = .ok (.iload_n 2, 1) := by decide +kernel
theorem dJ1_indexOf_4cfef_32 : decode cJ1_indexOf_4cfef 32 = .ok (.iload_n 3, 1) := by decide +kernel
theorem dJ1_indexOf_4cfef_33 : decode cJ1_indexOf_4cfef 33 = .ok (.invokestatic 95, 3) := by decide +kernel
theorem dJ1_indexOf_4cfef_36 : decode cJ1_indexOf_4cfef 36 = .ok (.ireturn, 1) := by decide +kernel
theorem dJ1_indexOfChar_4cfef_0 : decode cJ1_indexOfChar_4cfef 0 = .ok (.iload_n 1, 1) := by decide +kernel
theorem dJ1_indexOfChar_4cfef_1 : decode cJ1_indexOfChar_4cfef 1 = .ok (.i2b, 1) := by decide +kernel
theorem dJ1_indexOfChar_4cfef_2 : decode cJ1_indexOfChar_4cfef 2 = .ok (.istore 4, 2) := by decide +kernel
theorem dJ1_indexOfChar_4cfef_4 : decode cJ1_indexOfChar_4cfef 4 = .ok (.iload_n 2, 1) := by decide +kernel
theorem dJ1_indexOfChar_4cfef_5 : decode cJ1_indexOfChar_4cfef 5 = .ok (.istore 5, 2) := by decide +kernel
theorem dJ1_indexOfChar_4cfef_7 : decode cJ1_indexOfChar_4cfef 7 = .ok (.iload 5, 2) := by decide +kernel
theorem dJ1_indexOfChar_4cfef_9 : decode cJ1_indexOfChar_4cfef 9 = .ok (.iload_n 3, 1) := by decide +kernel
theorem dJ1_indexOfChar_4cfef_10 : decode cJ1_indexOfChar_4cfef 10 = .ok (.if_icmp .ge 21, 3) := by decide +kernel
theorem dJ1_indexOfChar_4cfef_13 : decode cJ1_indexOfChar_4cfef 13 = .ok (.aload_n 0, 1) := by decide +kernel
theorem dJ1_indexOfChar_4cfef_14 : decode cJ1_indexOfChar_4cfef 14 = .ok (.iload 5, 2) := by decide +kernel
theorem dJ1_indexOfChar_4cfef_16 : decode cJ1_indexOfChar_4cfef 16 = .ok (.baload, 1) := by decide +kernel
theorem dJ1_indexOfChar_4cfef_17 : decode cJ1_indexOfChar_4cfef 17 = .ok (.iload 4, 2) := by decide +kernel
theorem dJ1_indexOfChar_4cfef_19 : decode cJ1_indexOfChar_4cfef 19 = .ok (.if_icmp .ne 6, 3) := by decide +kernel
theorem dJ1_indexOfChar_4cfef_22 : decode cJ1_indexOfChar_4cfef 22 = .ok (.iload 5, 2) := by decide +kernel
theorem dJ1_indexOfChar_4cfef_24 : decode cJ1_indexOfChar_4cfef 24 = .ok (.ireturn, 1) := by decide +kernel
theorem dJ1_indexOfChar_4cfef_25 : decode cJ1_indexOfChar_4cfef 25 = .ok (.iinc 5 1, 3) := by decide +kernel
theorem dJ1_indexOfChar_4cfef_28 : decode cJ1_indexOfChar_4cfef 28 = .ok (.goto (-21), 3) := by decide +kernel
theorem dJ1_indexOfChar_4cfef_31 : decode cJ1_indexOfChar_4cfef 31 = .ok (.iconst (-1), 1) := by decide +kernel
theorem dJ1_indexOfChar_4cfef_32 : decode cJ1_indexOfChar_4cfef 32 = .ok (.ireturn, 1) := by decide +kernel
theorem dJ2_getChar_3b067_0 : decode cJ2_getChar_3b067 0 = .ok (.getstatic 44, 3) := by decide +kernel
theorem dJ2_getChar_3b067_3 : decode cJ2_getChar_3b067 3 = .ok (.ifCond .ne 25, 3) := by decide +kernel
theorem dJ2_getChar_3b067_6 : decode cJ2_getChar_3b067 6 = .ok (.iload_n 1, 1) := by decide +kernel
theorem dJ2_getChar_3b067_7 : decode cJ2_getChar_3b067 7 = .ok (.ifCond .lt 11, 3) := by decide +kernel
theorem dJ2_getChar_3b067_10 : decode cJ2_getChar_3b067 10 = .ok (.iload_n 1, 1) := by decide +kernel
theorem dJ2_getChar_3b067_11 : decode cJ2_getChar_3b067 11 = .ok (.aload_n 0, 1) := by decide +kernel
theorem dJ2_getChar_3b067_12 : decode cJ2_getChar_3b067 12 = .ok (.invokestatic 48, 3) := by decide +kernel
theorem dJ2_getChar_3b067_15 : decode cJ2_getChar_3b067 15 = .ok (.if_icmp .lt 13, 3) := by decide +kernel
theorem dJ2_getChar_3b067_18 : decode cJ2_getChar_3b067 18 = .ok (.new 52, 3) := by decide +kernel
theorem dJ2_getChar_3b067_21 : decode cJ2_getChar_3b067 21 = .ok (.dup, 1) := by decide +kernel
theorem dJ2_getChar_3b067_22 : decode cJ2_getChar_3b067 22 = .ok (.ldc 54, 2) := by decide +kernel
theorem dJ2_getChar_3b067_24 : decode cJ2_getChar_3b067 24 = .ok (.invokespecial 56, 3) := by decide +kernel
theorem dJ2_getChar_3b067_27 : decode cJ2_getChar_3b067 27 = .ok (.athrow, 1) := by decide +kernel
theorem dJ2_getChar_3b067_28 : decode cJ2_getChar_3b067 28 = .ok (.iload_n 1, 1) := by decide +kernel
theorem dJ2_getChar_3b067_29 : decode cJ2_getChar_3b067 29 = .ok (.iconst 1, 1) := by decide +kernel
theorem dJ2_getChar_3b067_30 : decode cJ2_getChar_3b067 30 = .ok (.ishl, 1) := by decide +kernel
theorem dJ2_getChar_3b067_31 : decode cJ2_getChar_3b067 31 = .ok (.istore_n 1, 1) := by decide +kernel
theorem dJ2_getChar_3b067_32 : decode cJ2_getChar_3b067 32 = .ok (.aload_n 0, 1) := by decide +kernel
theorem dJ2_getChar_3b067_33 : decode cJ2_getChar_3b067 33 = .ok (.iload_n 1, 1) := by decide +kernel
theorem dJ2_getChar_3b067_34 : decode cJ2_getChar_3b067 34 = .ok (.iinc 1 1, 3) := by decide +kernel
theorem dJ2_getChar_3b067_37 : decode cJ2_getChar_3b067 37 = .ok (.baload, 1) := by decide +kernel
theorem dJ2_getChar_3b067_38 : decode cJ2_getChar_3b067 38 = .ok (.sipush 255, 3) := by decide +kernel
theorem dJ2_getChar_3b067_41 : decode cJ2_getChar_3b067 41 = .ok (.iand, 1) := by decide +kernel
theorem dJ2_getChar_3b067_42 : decode cJ2_getChar_3b067 42 = .ok (.getstatic 59, 3) := by decide +kernel
theorem dJ2_getChar_3b067_45 : decode cJ2_getChar_3b067 45 = .ok (.ishl, 1) := by decide +kernel
theorem dJ2_getChar_3b067_46 : decode cJ2_getChar_3b067 46 = .ok (.aload_n 0, 1) := by decide +kernel
theorem dJ2_getChar_3b067_47 : decode cJ2_getChar_3b067 47 = .ok (.iload_n 1, 1) := by decide +kernel
theorem dJ2_getChar_3b067_48 : decode cJ2_getChar_3b067 48 = .ok (.baload, 1) := by decide +kernel
theorem dJ2_getChar_3b067_49 : decode cJ2_getChar_3b067 49 = .ok (.sipush 255, 3) := by decide +kernel
theorem dJ2_getChar_3b067_52 : decode cJ2_getChar_3b067 52 = .ok (.iand, 1) := by decide +kernel
theorem dJ2_getChar_3b067_53 : decode cJ2_getChar_3b067 53 = .ok (.getstatic 63, 3) := by decide +kernel
theorem dJ2_getChar_3b067_56 : decode cJ2_getChar_3b067 56 = .ok (.ishl, 1) := by decide +kernel
theorem dJ2_getChar_3b067_57 : decode cJ2_getChar_3b067 57 = .ok (.ior, 1) := by decide +kernel
theorem dJ2_getChar_3b067_58 : decode cJ2_getChar_3b067 58 = .ok (.i2c, 1) := by decide +kernel
theorem dJ2_getChar_3b067_59 : decode cJ2_getChar_3b067 59 = .ok (.ireturn, 1) := by decide +kernel
theorem dJ2_length_9d52b_0 : decode cJ2_length_9d52b 0 = .ok (.aload_n 0, 1) := by decide +kernel
theorem dJ2_length_9d52b_1 : decode cJ2_length_9d52b 1 = .ok (.arraylength, 1) := by decide +kernel
theorem dJ2_length_9d52b_2 : decode cJ2_length_9d52b 2 = .ok (.iconst 1, 1) := by decide +kernel
theorem dJ2_length_9d52b_3 : decode cJ2_length_9d52b 3 = .ok (.ishr, 1) := by decide +kernel
theorem dJ2_length_9d52b_4 : decode cJ2_length_9d52b 4 = .ok (.ireturn, 1) := by decide +kernel
theorem dJ2_indexOf_4cfef_0 : decode cJ2_indexOf_4cfef 0 = .ok (.iload_n 2, 1) := by decide +kernel
theorem dJ2_indexOf_4cfef_1 : decode cJ2_indexOf_4cfef 1 = .ok (.iconst 0, 1) := by decide +kernel
theorem dJ2_indexOf_4cfef_2 : decode cJ2_indexOf_4cfef 2 = .ok (.invokestatic 224, 3) := by decide +kernel
theorem dJ2_indexOf_4cfef_5 : decode cJ2_indexOf_4cfef 5 = .ok (.istore_n 2, 1) := by decide +kernel
theorem dJ2_indexOf_4cfef_6 : decode cJ2_indexOf_4cfef 6 = .ok (.iload_n 3, 1) := by decide +kernel
theorem dJ2_indexOf_4cfef_7 : decode cJ2_indexOf_4cfef 7 = .ok (.aload_n 0, 1) := by decide +kernel
theorem dJ2_indexOf_4cfef_8 : decode cJ2_indexOf_4cfef 8 = .ok (.arraylength, 1) := by decide +kernel
theorem dJ2_indexOf_4cfef_9 : decode cJ2_indexOf_4cfef 9 = .ok (.iconst 1, 1) := by decide +kernel
theorem dJ2_indexOf_4cfef_10 : decode cJ2_indexOf_4cfef 10 = .ok (.ishr, 1) := by decide +kernel
theorem dJ2_indexOf_4cfef_11 : decode cJ2_indexOf_4cfef 11 = .ok (.invokestatic 183, 3) := by decide +kernel
theorem dJ2_indexOf_4cfef_14 : decode cJ2_indexOf_4cfef 14 = .ok (.istore_n 3, 1) := by decide +kernel
theorem dJ2_indexOf_4cfef_15 : decode cJ2_indexOf_4cfef 15 = .ok (.iload_n 2, 1) := by decide +kernel
theorem dJ2_indexOf_4cfef_16 : decode cJ2_indexOf_4cfef 16 = .ok (.iload_n 3, 1) := by decide +kernel
theorem dJ2_indexOf_4cfef_17 : decode cJ2_indexOf_4cfef 17 = .ok (.if_icmp .lt 5, 3) := by decide +kernel
theorem dJ2_indexOf_4cfef_20 : decode cJ2_indexOf_4cfef 20 = .ok (.iconst (-1), 1) := by decide +kernel
theorem dJ2_indexOf_4cfef_21 : decode cJ2_indexOf_4cfef 21 = .ok (.ireturn, 1) := by decide +kernel
theorem dJ2_indexOf_4cfef_22 : decode cJ2_indexOf_4cfef 22 = .ok (.iload_n 1, 1) := by decide +kernel
theorem dJ2_indexOf_4cfef_23 : decode cJ2_indexOf_4cfef 23 = .ok (.ldc 227, 2) := by decide +kernel
theorem dJ2_indexOf_4cfef_25 : decode cJ2_indexOf_4cfef 25 = .ok (.if_icmp .ge 11, 3) := by decide +kernel
theorem dJ2_indexOf_4cfef_28 : decode cJ2_indexOf_4cfef 28 = .ok (.aload_n 0, 1) := by decide +kernel
theorem dJ2_indexOf_4cfef_29 : decode cJ2_indexOf_4cfef 29 = .ok (.iload_n 1, 1) := by decide +kernel
theorem dJ2_indexOf_4cfef_30 : decode cJ2_indexOf_4cfef 30 = .ok (.iload_n 2, 1) := by decide +kernel
theorem dJ2_indexOf_4cfef_31 : decode cJ2_indexOf_4cfef 31 = .ok (.iload_n 3, 1) := by decide +kernel
theorem dJ2_indexOf_4cfef_32 : decode cJ2_indexOf_4cfef 32 = .ok (.invokestatic 228, 3) := by decide +kernel
theorem dJ2_indexOf_4cfef_35 : decode cJ2_indexOf_4cfef 35 = .ok (.ireturn, 1) := by decide +kernel
theorem dJ2_indexOf_4cfef_36 : decode cJ2_indexOf_4cfef 36 = .ok (.aload_n 0, 1) := by decide +kernel
theorem dJ2_indexOf_4cfef_37 : decode cJ2_indexOf_4cfef 37 = .ok (.iload_n 1, 1) := by decide +kernel
theorem dJ2_indexOf_4cfef_38 : decode cJ2_indexOf_4cfef 38 = .ok (.iload_n 2, 1) := by decide +kernel
theorem dJ2_indexOf_4cfef_39 : decode cJ2_indexOf_4cfef 39 = .ok (.iload_n 3, 1) := by decide +kernel
theorem dJ2_indexOf_4cfef_40 : decode cJ2_indexOf_4cfef 40 = .ok (.invokestatic 232, 3) := by decide +kernel
theorem dJ2_indexOf_4cfef_43 : decode cJ2_indexOf_4cfef 43 = .ok (.ireturn, 1) := by decide +kernel
theorem dJ2_indexOfChar_4cfef_0 : decode cJ2_indexOfChar_4cfef 0 = .ok (.iload_n 2, 1) := by decide +kernel
theorem dJ2_indexOfChar_4cfef_1 : decode cJ2_indexOfChar_4cfef 1 = .ok (.iload_n 3, 1) := by decide +kernel
theorem dJ2_indexOfChar_4cfef_2 : decode cJ2_indexOfChar_4cfef 2 = .ok (.aload_n 0, 1) := by decide +kernel
theorem dJ2_indexOfChar_4cfef_3 : decode cJ2_indexOfChar_4cfef 3 = .ok (.invokestatic 96, 3) := by decide +kernel
theorem dJ2_indexOfChar_4cfef_6 : decode cJ2_indexOfChar_4cfef 6 = .ok (.aload_n 0, 1) := by decide +kernel
theorem dJ2_indexOfChar_4cfef_7 : decode cJ2_indexOfChar_4cfef 7 = .ok (.iload_n 1, 1) := by decide +kernel
theorem dJ2_indexOfChar_4cfef_8 : decode cJ2_indexOfChar_4cfef 8 = .ok (.iload_n 2, 1) := by decide +kernel
theorem dJ2_indexOfChar_4cfef_9 : decode cJ2_indexOfChar_4cfef 9 = .ok (.iload_n 3, 1) := by decide +kernel
theorem dJ2_indexOfChar_4cfef_10 : decode cJ2_indexOfChar_4cfef 10 = .ok (.invokestatic 244, 3) := by decide +kernel
theorem dJ2_indexOfChar_4cfef_13 : decode cJ2_indexOfChar_4cfef 13 = .ok (.ireturn, 1) := by decide +kernel
theorem dJ2_indexOfCharUnsafe_4cfef_0 : decode cJ2_indexOfCharUnsafe_4cfef 0 = .ok (.iload_n 2, 1) := by decide +kernel
theorem dJ2_indexOfCharUnsafe_4cfef_1 : decode cJ2_indexOfCharUnsafe_4cfef 1 = .ok (.istore 4, 2) := by decide +kernel
theorem dJ2_indexOfCharUnsafe_4cfef_3 : decode cJ2_indexOfCharUnsafe_4cfef 3 = .ok (.iload 4, 2) := by decide +kernel
theorem dJ2_indexOfCharUnsafe_4cfef_5 : decode cJ2_indexOfCharUnsafe_4cfef 5 = .ok (.iload_n 3, 1) := by decide +kernel
theorem dJ2_indexOfCharUnsafe_4cfef_6 : decode cJ2_indexOfCharUnsafe_4cfef 6 = .ok (.if_icmp .ge 22, 3) := by decide +kernel
theorem dJ2_indexOfCharUnsafe_4cfef_9 : decode cJ2_indexOfCharUnsafe_4cfef 9 = .ok (.aload_n 0, 1) := by decide +kernel
theorem dJ2_indexOfCharUnsafe_4cfef_10 : decode cJ2_indexOfCharUnsafe_4cfef 10 = .ok (.iload 4, 2) := by decide +kernel
theorem dJ2_indexOfCharUnsafe_4cfef_12 : decode cJ2_indexOfCharUnsafe_4cfef 12 = .ok (.invokestatic 71, 3) := by decide +kernel
theorem dJ2_indexOfCharUnsafe_4cfef_15 : decode cJ2_indexOfCharUnsafe_4cfef 15 = .ok (.iload_n 1, 1) := by decide +kernel
theorem dJ2_indexOfCharUnsafe_4cfef_16 : decode cJ2_indexOfCharUnsafe_4cfef 16 = .ok (.if_icmp .ne 6, 3) := by decide +kernel
theorem dJ2_indexOfCharUnsafe_4cfef_19 : decode cJ2_indexOfCharUnsafe_4cfef 19 = .ok (.iload 4, 2) := by decide +kernel
theorem dJ2_indexOfCharUnsafe_4cfef_21 : decode cJ2_indexOfCharUnsafe_4cfef 21 = .ok (.ireturn, 1) := by decide +kernel
theorem dJ2_indexOfCharUnsafe_4cfef_22 : decode cJ2_indexOfCharUnsafe_4cfef 22 = .ok (.iinc 4 1, 3) := by decide +kernel
theorem dJ2_indexOfCharUnsafe_4cfef_25 : decode cJ2_indexOfCharUnsafe_4cfef 25 = .ok (.goto (-22), 3) := by decide +kernel
theorem dJ2_indexOfCharUnsafe_4cfef_28 : decode cJ2_indexOfCharUnsafe_4cfef 28 = .ok (.iconst (-1), 1) := by decide +kernel
theorem dJ2_indexOfCharUnsafe_4cfef_29 : decode cJ2_indexOfCharUnsafe_4cfef 29 = .ok (.ireturn, 1) := by decide +kernel
theorem dJ2_indexOfSupplementary_4cfef_0 : decode cJ2_indexOfSupplementary_4cfef 0 = .ok (.iload_n 1, 1) := by decide +kernel
theorem dJ2_indexOfSupplementary_4cfef_1 : decode cJ2_indexOfSupplementary_4cfef 1 = .ok (.invokestatic 164, 3) := by decide +kernel
theorem dJ2_indexOfSupplementary_4cfef_4 : decode cJ2_indexOfSupplementary_4cfef 4 = .ok (.ifCond .eq 65, 3) := by decide +kernel
theorem dJ2_indexOfSupplementary_4cfef_7 : decode cJ2_indexOfSupplementary_4cfef 7 = .ok (.iload_n 1, 1) := by decide +kernel
theorem dJ2_indexOfSupplementary_4cfef_8 : decode cJ2_indexOfSupplementary_4cfef 8 = .ok (.invokestatic 157, 3) := by decide +kernel
theorem dJ2_indexOfSupplementary_4cfef_11 : decode cJ2_indexOfSupplementary_4cfef 11 = .ok (.istore 4, 2) := by decide +kernel
theorem dJ2_indexOfSupplementary_4cfef_13 : decode cJ2_indexOfSupplementary_4cfef 13 = .ok (.iload_n 1, 1) := by decide +kernel
theorem dJ2_indexOfSupplementary_4cfef_14 : decode cJ2_indexOfSupplementary_4cfef 14 = .ok (.invokestatic 161, 3) := by decide +kernel
theorem dJ2_indexOfSupplementary_4cfef_17 : decode cJ2_indexOfSupplementary_4cfef 17 = .ok (.istore 5, 2) := by decide +kernel
theorem dJ2_indexOfSupplementary_4cfef_19 : decode cJ2_indexOfSupplementary_4cfef 19 = .ok (.iload_n 2, 1) := by decide +kernel
theorem dJ2_indexOfSupplementary_4cfef_20 : decode cJ2_indexOfSupplementary_4cfef 20 = .ok (.iload_n 3, 1) := by decide +kernel
theorem dJ2_indexOfSupplementary_4cfef_21 : decode cJ2_indexOfSupplementary_4cfef 21 = .ok (.aload_n 0, 1) := by decide +kernel
theorem dJ2_indexOfSupplementary_4cfef_22 : decode cJ2_indexOfSupplementary_4cfef 22 = .ok (.invokestatic 96, 3) := by decide +kernel
theorem dJ2_indexOfSupplementary_4cfef_25 : decode cJ2_indexOfSupplementary_4cfef 25 = .ok (.iload_n 2, 1) := by decide +kernel
theorem dJ2_indexOfSupplementary_4cfef_26 : decode cJ2_indexOfSupplementary_4cfef 26 = .ok (.istore 6, 2) := by decide +kernel
theorem dJ2_indexOfSupplementary_4cfef_28 : decode cJ2_indexOfSupplementary_4cfef 28 = .ok (.iload 6, 2) := by decide +kernel
theorem dJ2_indexOfSupplementary_4cfef_30 : decode cJ2_indexOfSupplementary_4cfef 30 = .ok (.iload_n 3, 1) := by decide +kernel
theorem dJ2_indexOfSupplementary_4cfef_31 : decode cJ2_indexOfSupplementary_4cfef 31 = .ok (.iconst 1, 1) := by decide +kernel
theorem dJ2_indexOfSupplementary_4cfef_32 : decode cJ2_indexOfSupplementary_4cfef 32 = .ok (.isub, 1) := by decide +kernel
theorem dJ2_indexOfSupplementary_4cfef_33 : decode cJ2_indexOfSupplementary_4cfef 33 = .ok (.if_icmp .ge 36, 3) := by decide +kernel
theorem dJ2_indexOfSupplementary_4cfef_36 : decode cJ2_indexOfSupplementary_4cfef 36 = .ok (.aload_n 0, 1) := by decide +kernel
theorem dJ2_indexOfSupplementary_4cfef_37 : decode cJ2_indexOfSupplementary_4cfef 37 = .ok (.iload 6, 2) := by decide +kernel
theorem dJ2_indexOfSupplementary_4cfef_39 : decode cJ2_indexOfSupplementary_4cfef 39 = .ok (.invokestatic 71, 3) := by decide +kernel
theorem dJ2_indexOfSupplementary_4cfef_42 : decode cJ2_indexOfSupplementary_4cfef 42 = .ok (.iload 4, 2) := by decide +kernel
theorem dJ2_indexOfSupplementary_4cfef_44 : decode cJ2_indexOfSupplementary_4cfef 44 = .ok (.if_icmp .ne 19, 3) := by decide +kernel
theorem dJ2_indexOfSupplementary_4cfef_47 : decode cJ2_indexOfSupplementary_4cfef 47 = .ok (.aload_n 0, 1) := by decide +kernel
theorem dJ2_indexOfSupplementary_4cfef_48 : decode cJ2_indexOfSupplementary_4cfef 48 = .ok (.iload 6, 2) := by decide +kernel
theorem dJ2_indexOfSupplementary_4cfef_50 : decode cJ2_indexOfSupplementary_4cfef 50 = .ok (.iconst 1, 1) := by decide +kernel
theorem dJ2_indexOfSupplementary_4cfef_51 : decode cJ2_indexOfSupplementary_4cfef 51 = .ok (.iadd, 1) := by decide +kernel
theorem dJ2_indexOfSupplementary_4cfef_52 : decode cJ2_indexOfSupplementary_4cfef 52 = .ok (.invokestatic 71, 3) := by decide +kernel
theorem dJ2_indexOfSupplementary_4cfef_55 : decode cJ2_indexOfSupplementary_4cfef 55 = .ok (.iload 5, 2) := by decide +kernel
theorem dJ2_indexOfSupplementary_4cfef_57 : decode cJ2_indexOfSupplementary_4cfef 57 = .ok (.if_icmp .ne 6, 3) := by decide +kernel
theorem dJ2_indexOfSupplementary_4cfef_60 : decode cJ2_indexOfSupplementary_4cfef 60 = .ok (.iload 6, 2) := by decide +kernel
theorem dJ2_indexOfSupplementary_4cfef_62 : decode cJ2_indexOfSupplementary_4cfef 62 = .ok (.ireturn, 1) := by decide +kernel
theorem dJ2_indexOfSupplementary_4cfef_63 : decode cJ2_indexOfSupplementary_4cfef 63 = .ok (.iinc 6 1, 3) := by decide +kernel
theorem dJ2_indexOfSupplementary_4cfef_66 : decode cJ2_indexOfSupplementary_4cfef 66 = .ok (.goto (-38), 3) := by decide +kernel
theorem dJ2_indexOfSupplementary_4cfef_69 : decode cJ2_indexOfSupplementary_4cfef 69 = .ok (.iconst (-1), 1) := by decide +kernel
theorem dJ2_indexOfSupplementary_4cfef_70 : decode cJ2_indexOfSupplementary_4cfef 70 = .ok (.ireturn, 1) := by decide +kernel
theorem dJ2_checkBoundsBeginEnd_d044e_0 : decode cJ2_checkBoundsBeginEnd_d044e 0 = .ok (.iload_n 0, 1) := by decide +kernel
theorem dJ2_checkBoundsBeginEnd_d044e_1 : decode cJ2_checkBoundsBeginEnd_d044e 1 = .ok (.iload_n 1, 1) := by decide +kernel
theorem dJ2_checkBoundsBeginEnd_d044e_2 : decode cJ2_checkBoundsBeginEnd_d044e 2 = .ok (.aload_n 2, 1) := by decide +kernel
theorem dJ2_checkBoundsBeginEnd_d044e_3 : decode cJ2_checkBoundsBeginEnd_d044e 3 = .ok (.invokestatic 48, 3) := by decide +kernel
theorem dJ2_checkBoundsBeginEnd_d044e_6 : decode cJ2_checkBoundsBeginEnd_d044e 6 = .ok (.invokestatic 241, 3) := by decide +kernel
theorem dJ2_checkBoundsBeginEnd_d044e_9 : decode cJ2_checkBoundsBeginEnd_d044e 9 = .ok (.return_, 1) := by decide +kernel
theorem dJ7_fill_53178_0 : decode cJ7_fill_53178 0 = .ok (.iconst 0, 1) := by decide +kernel
theorem dJ7_fill_53178_1 : decode cJ7_fill_53178 1 = .ok (.istore_n 2, 1) := by decide +kernel
theorem dJ7_fill_53178_2 : decode cJ7_fill_53178 2 = .ok (.aload_n 0, 1) := by decide +kernel
theorem dJ7_fill_53178_3 : decode cJ7_fill_53178 3 = .ok (.arraylength, 1) := by decide +kernel
theorem dJ7_fill_53178_4 : decode cJ7_fill_53178 4 = .ok (.istore_n 3, 1) := by decide +kernel
theorem dJ7_fill_53178_5 : decode cJ7_fill_53178 5 = .ok (.iload_n 2, 1) := by decide +kernel
theorem dJ7_fill_53178_6 : decode cJ7_fill_53178 6 = .ok (.iload_n 3, 1) := by decide +kernel
theorem dJ7_fill_53178_7 : decode cJ7_fill_53178 7 = .ok (.if_icmp .ge 13, 3) := by decide +kernel
theorem dJ7_fill_53178_10 : decode cJ7_fill_53178 10 = .ok (.aload_n 0, 1) := by decide +kernel
theorem dJ7_fill_53178_11 : decode cJ7_fill_53178 11 = .ok (.iload_n 2, 1) := by decide +kernel
theorem dJ7_fill_53178_12 : decode cJ7_fill_53178 12 = .ok (.iload_n 1, 1) := by decide +kernel
theorem dJ7_fill_53178_13 : decode cJ7_fill_53178 13 = .ok (.iastore, 1) := by decide +kernel
theorem dJ7_fill_53178_14 : decode cJ7_fill_53178 14 = .ok (.iinc 2 1, 3) := by decide +kernel
theorem dJ7_fill_53178_17 : decode cJ7_fill_53178 17 = .ok (.goto (-12), 3) := by decide +kernel
theorem dJ7_fill_53178_20 : decode cJ7_fill_53178 20 = .ok (.return_, 1) := by decide +kernel
theorem dJ3_checkFromToIndex_8c36e_0 : decode cJ3_checkFromToIndex_8c36e 0 = .ok (.iload_n 0, 1) := by decide +kernel
theorem dJ3_checkFromToIndex_8c36e_1 : decode cJ3_checkFromToIndex_8c36e 1 = .ok (.ifCond .lt 13, 3) := by decide +kernel
theorem dJ3_checkFromToIndex_8c36e_4 : decode cJ3_checkFromToIndex_8c36e 4 = .ok (.iload_n 0, 1) := by decide +kernel
theorem dJ3_checkFromToIndex_8c36e_5 : decode cJ3_checkFromToIndex_8c36e 5 = .ok (.iload_n 1, 1) := by decide +kernel
theorem dJ3_checkFromToIndex_8c36e_6 : decode cJ3_checkFromToIndex_8c36e 6 = .ok (.if_icmp .gt 8, 3) := by decide +kernel
theorem dJ3_checkFromToIndex_8c36e_9 : decode cJ3_checkFromToIndex_8c36e 9 = .ok (.iload_n 1, 1) := by decide +kernel
theorem dJ3_checkFromToIndex_8c36e_10 : decode cJ3_checkFromToIndex_8c36e 10 = .ok (.iload_n 2, 1) := by decide +kernel
theorem dJ3_checkFromToIndex_8c36e_11 : decode cJ3_checkFromToIndex_8c36e 11 = .ok (.if_icmp .le 11, 3) := by decide +kernel
theorem dJ3_checkFromToIndex_8c36e_14 : decode cJ3_checkFromToIndex_8c36e 14 = .ok (.aload_n 3, 1) := by decide +kernel
theorem dJ3_checkFromToIndex_8c36e_15 : decode cJ3_checkFromToIndex_8c36e 15 = .ok (.iload_n 0, 1) := by decide +kernel
theorem dJ3_checkFromToIndex_8c36e_16 : decode cJ3_checkFromToIndex_8c36e 16 = .ok (.iload_n 1, 1) := by decide +kernel
theorem dJ3_checkFromToIndex_8c36e_17 : decode cJ3_checkFromToIndex_8c36e 17 = .ok (.iload_n 2, 1) := by decide +kernel
theorem dJ3_checkFromToIndex_8c36e_18 : decode cJ3_checkFromToIndex_8c36e 18 = .ok (.invokestatic 99, 3) := by decide +kernel
theorem dJ3_checkFromToIndex_8c36e_21 : decode cJ3_checkFromToIndex_8c36e 21 = .ok (.athrow, 1) := by decide +kernel
theorem dJ3_checkFromToIndex_8c36e_22 : decode cJ3_checkFromToIndex_8c36e 22 = .ok (.iload_n 0, 1) := by decide +kernel
theorem dJ3_checkFromToIndex_8c36e_23 : decode cJ3_checkFromToIndex_8c36e 23 = .ok (.ireturn, 1) := by decide +kernel
theorem dL_law_0 : decode cL_law 0 = .ok (.new 7, 3) := by decide +kernel
theorem dL_law_3 : decode cL_law 3 = .ok (.dup, 1) := by decide +kernel
theorem dL_law_4 : decode cL_law 4 = .ok (.invokespecial 9, 3) := by decide +kernel
theorem dL_law_7 : decode cL_law 7 = .ok (.astore_n 1, 1) := by decide +kernel
theorem dL_law_8 : decode cL_law 8 = .ok (.new 10, 3) := by decide +kernel
theorem dL_law_11 : decode cL_law 11 = .ok (.dup, 1) := by decide +kernel
theorem dL_law_12 : decode cL_law 12 = .ok (.invokespecial 12, 3) := by decide +kernel
theorem dL_law_15 : decode cL_law 15 = .ok (.astore_n 2, 1) := by decide +kernel
theorem dL_law_16 : decode cL_law 16 = .ok (.iconst 0, 1) := by decide +kernel
theorem dL_law_17 : decode cL_law 17 = .ok (.istore_n 3, 1) := by decide +kernel
theorem dL_law_18 : decode cL_law 18 = .ok (.iload_n 3, 1) := by decide +kernel
theorem dL_law_19 : decode cL_law 19 = .ok (.aload_n 0, 1) := by decide +kernel
theorem dL_law_20 : decode cL_law 20 = .ok (.arraylength, 1) := by decide +kernel
theorem dL_law_21 : decode cL_law 21 = .ok (.bipush 6, 2) := by decide +kernel
theorem dL_law_23 : decode cL_law 23 = .ok (.isub, 1) := by decide +kernel
theorem dL_law_24 : decode cL_law 24 = .ok (.if_icmp .gt 1298, 3) := by decide +kernel
theorem dL_law_27 : decode cL_law 27 = .ok (.aload_n 0, 1) := by decide +kernel
theorem dL_law_28 : decode cL_law 28 = .ok (.iload_n 3, 1) := by decide +kernel
theorem dL_law_29 : decode cL_law 29 = .ok (.iaload, 1) := by decide +kernel
theorem dL_law_30 : decode cL_law 30 = .ok (.bipush 63, 2) := by decide +kernel
theorem dL_law_32 : decode cL_law 32 = .ok (.iand, 1) := by decide +kernel
theorem dL_law_33 : decode cL_law 33 = .ok (.tableswitch 1283 0 37 #[167, 200, 223, 246, 269, 302, 335, 358, 401, 414, 437, 480, 513, 536, 549, 582, 605, 628, 641, 654, 687, 720, 753, 776, 819, 832, 845, 878, 901, 945, 988, 1031, 1054, 1107, 1150, 1213, 1246, 1269], 167) := by decide +kernel
theorem dL_law_200 : decode cL_law 200 = .ok (.aload_n 1, 1) := by decide +kernel
theorem dL_law_201 : decode cL_law 201 = .ok (.aload_n 0, 1) := by decide +kernel
theorem dL_law_202 : decode cL_law 202 = .ok (.iload_n 3, 1) := by decide +kernel
theorem dL_law_203 : decode cL_law 203 = .ok (.iconst 1, 1) := by decide +kernel
theorem dL_law_204 : decode cL_law 204 = .ok (.iadd, 1) := by decide +kernel
theorem dL_law_205 : decode cL_law 205 = .ok (.iaload, 1) := by decide +kernel
theorem dL_law_206 : decode cL_law 206 = .ok (.aload_n 0, 1) := by decide +kernel
theorem dL_law_207 : decode cL_law 207 = .ok (.iload_n 3, 1) := by decide +kernel
theorem dL_law_208 : decode cL_law 208 = .ok (.iconst 2, 1) := by decide +kernel
theorem dL_law_209 : decode cL_law 209 = .ok (.iadd, 1) := by decide +kernel
theorem dL_law_210 : decode cL_law 210 = .ok (.iaload, 1) := by decide +kernel
theorem dL_law_211 : decode cL_law 211 = .ok (.invokevirtual 13, 3) := by decide +kernel
theorem dL_law_214 : decode cL_law 214 = .ok (.aload_n 2, 1) := by decide +kernel
theorem dL_law_215 : decode cL_law 215 = .ok (.aload_n 0, 1) := by decide +kernel
theorem dL_law_216 : decode cL_law 216 = .ok (.iload_n 3, 1) := by decide +kernel
theorem dL_law_217 : decode cL_law 217 = .ok (.iconst 1, 1) := by decide +kernel
theorem dL_law_218 : decode cL_law 218 = .ok (.iadd, 1) := by decide +kernel
theorem dL_law_219 : decode cL_law 219 = .ok (.iaload, 1) := by decide +kernel
theorem dL_law_220 : decode cL_law 220 = .ok (.aload_n 0, 1) := by decide +kernel
theorem dL_law_221 : decode cL_law 221 = .ok (.iload_n 3, 1) := by decide +kernel
theorem dL_law_222 : decode cL_law 222 = .ok (.iconst 2, 1) := by decide +kernel
theorem dL_law_223 : decode cL_law 223 = .ok (.iadd, 1) := by decide +kernel
theorem dL_law_224 : decode cL_law 224 = .ok (.iaload, 1) := by decide +kernel
theorem dL_law_225 : decode cL_law 225 = .ok (.invokevirtual 17, 3) := by decide +kernel
theorem dL_law_228 : decode cL_law 228 = .ok (.if_icmp .eq 1088, 3) := by decide +kernel
theorem dL_law_231 : decode cL_law 231 = .ok (.iconst 0, 1) := by decide +kernel
theorem dL_law_232 : decode cL_law 232 = .ok (.ireturn, 1) := by decide +kernel
theorem dL_law_233 : decode cL_law 233 = .ok (.aload_n 1, 1) := by decide +kernel
theorem dL_law_234 : decode cL_law 234 = .ok (.aload_n 0, 1) := by decide +kernel
theorem dL_law_235 : decode cL_law 235 = .ok (.iload_n 3, 1) := by decide +kernel
theorem dL_law_236 : decode cL_law 236 = .ok (.iconst 1, 1) := by decide +kernel
theorem dL_law_237 : decode cL_law 237 = .ok (.iadd, 1) := by decide +kernel
theorem dL_law_238 : decode cL_law 238 = .ok (.iaload, 1) := by decide +kernel
theorem dL_law_239 : decode cL_law 239 = .ok (.invokevirtual 18, 3) := by decide +kernel
theorem dL_law_242 : decode cL_law 242 = .ok (.aload_n 2, 1) := by decide +kernel
theorem dL_law_243 : decode cL_law 243 = .ok (.aload_n 0, 1) := by decide +kernel
theorem dL_law_244 : decode cL_law 244 = .ok (.iload_n 3, 1) := by decide +kernel
theorem dL_law_245 : decode cL_law 245 = .ok (.iconst 1, 1) := by decide +kernel
theorem dL_law_246 : decode cL_law 246 = .ok (.iadd, 1) := by decide +kernel
theorem dL_law_247 : decode cL_law 247 = .ok (.iaload, 1) := by decide +kernel
theorem dL_law_248 : decode cL_law 248 = .ok (.invokevirtual 22, 3) := by decide +kernel
theorem dL_law_251 : decode cL_law 251 = .ok (.if_icmp .eq 1065, 3) := by decide +kernel
theorem dL_law_254 : decode cL_law 254 = .ok (.iconst 0, 1) := by decide +kernel
theorem dL_law_255 : decode cL_law 255 = .ok (.ireturn, 1) := by decide +kernel
theorem dL_law_256 : decode cL_law 256 = .ok (.aload_n 1, 1) := by decide +kernel
theorem dL_law_257 : decode cL_law 257 = .ok (.aload_n 0, 1) := by decide +kernel
theorem dL_law_258 : decode cL_law 258 = .ok (.iload_n 3, 1) := by decide +kernel
theorem dL_law_259 : decode cL_law 259 = .ok (.iconst 1, 1) := by decide +kernel
theorem dL_law_260 : decode cL_law 260 = .ok (.iadd, 1) := by decide +kernel
theorem dL_law_261 : decode cL_law 261 = .ok (.iaload, 1) := by decide +kernel
theorem dL_law_262 : decode cL_law 262 = .ok (.invokevirtual 23, 3) := by decide +kernel
theorem dL_law_265 : decode cL_law 265 = .ok (.aload_n 2, 1) := by decide +kernel
theorem dL_law_266 : decode cL_law 266 = .ok (.aload_n 0, 1) := by decide +kernel
theorem dL_law_267 : decode cL_law 267 = .ok (.iload_n 3, 1) := by decide +kernel
theorem dL_law_268 : decode cL_law 268 = .ok (.iconst 1, 1) := by decide +kernel
theorem dL_law_269 : decode cL_law 269 = .ok (.iadd, 1) := by decide +kernel
theorem dL_law_270 : decode cL_law 270 = .ok (.iaload, 1) := by decide +kernel
theorem dL_law_271 : decode cL_law 271 = .ok (.invokevirtual 26, 3) := by decide +kernel
theorem dL_law_274 : decode cL_law 274 = .ok (.if_icmp .eq 1042, 3) := by decide +kernel
theorem dL_law_277 : decode cL_law 277 = .ok (.iconst 0, 1) := by decide +kernel
theorem dL_law_278 : decode cL_law 278 = .ok (.ireturn, 1) := by decide +kernel
theorem dL_law_279 : decode cL_law 279 = .ok (.aload_n 1, 1) := by decide +kernel
theorem dL_law_280 : decode cL_law 280 = .ok (.aload_n 0, 1) := by decide +kernel
theorem dL_law_281 : decode cL_law 281 = .ok (.iload_n 3, 1) := by decide +kernel
theorem dL_law_282 : decode cL_law 282 = .ok (.iconst 1, 1) := by decide +kernel
theorem dL_law_283 : decode cL_law 283 = .ok (.iadd, 1) := by decide +kernel
theorem dL_law_284 : decode cL_law 284 = .ok (.iaload, 1) := by decide +kernel
theorem dL_law_285 : decode cL_law 285 = .ok (.invokevirtual 27, 3) := by decide +kernel
theorem dL_law_288 : decode cL_law 288 = .ok (.aload_n 2, 1) := by decide +kernel
theorem dL_law_289 : decode cL_law 289 = .ok (.aload_n 0, 1) := by decide +kernel
theorem dL_law_290 : decode cL_law 290 = .ok (.iload_n 3, 1) := by decide +kernel
theorem dL_law_291 : decode cL_law 291 = .ok (.iconst 1, 1) := by decide +kernel
theorem dL_law_292 : decode cL_law 292 = .ok (.iadd, 1) := by decide +kernel
theorem dL_law_293 : decode cL_law 293 = .ok (.iaload, 1) := by decide +kernel
theorem dL_law_294 : decode cL_law 294 = .ok (.invokevirtual 30, 3) := by decide +kernel
theorem dL_law_297 : decode cL_law 297 = .ok (.if_icmp .eq 1019, 3) := by decide +kernel
theorem dL_law_300 : decode cL_law 300 = .ok (.iconst 0, 1) := by decide +kernel
theorem dL_law_301 : decode cL_law 301 = .ok (.ireturn, 1) := by decide +kernel
theorem dL_law_302 : decode cL_law 302 = .ok (.aload_n 1, 1) := by decide +kernel
theorem dL_law_303 : decode cL_law 303 = .ok (.aload_n 0, 1) := by decide +kernel
theorem dL_law_304 : decode cL_law 304 = .ok (.iload_n 3, 1) := by decide +kernel
theorem dL_law_305 : decode cL_law 305 = .ok (.iconst 1, 1) := by decide +kernel
theorem dL_law_306 : decode cL_law 306 = .ok (.iadd, 1) := by decide +kernel
theorem dL_law_307 : decode cL_law 307 = .ok (.iaload, 1) := by decide +kernel
theorem dL_law_308 : decode cL_law 308 = .ok (.aload_n 0, 1) := by decide +kernel
theorem dL_law_309 : decode cL_law 309 = .ok (.iload_n 3, 1) := by decide +kernel
theorem dL_law_310 : decode cL_law 310 = .ok (.iconst 2, 1) := by decide +kernel
theorem dL_law_311 : decode cL_law 311 = .ok (.iadd, 1) := by decide +kernel
theorem dL_law_312 : decode cL_law 312 = .ok (.iaload, 1) := by decide +kernel
theorem dL_law_313 : decode cL_law 313 = .ok (.invokevirtual 31, 3) := by decide +kernel
theorem dL_law_316 : decode cL_law 316 = .ok (.aload_n 2, 1) := by decide +kernel
theorem dL_law_317 : decode cL_law 317 = .ok (.aload_n 0, 1) := by decide +kernel
theorem dL_law_318 : decode cL_law 318 = .ok (.iload_n 3, 1) := by decide +kernel
theorem dL_law_319 : decode cL_law 319 = .ok (.iconst 1, 1) := by decide +kernel
theorem dL_law_320 : decode cL_law 320 = .ok (.iadd, 1) := by decide +kernel
theorem dL_law_321 : decode cL_law 321 = .ok (.iaload, 1) := by decide +kernel
theorem dL_law_322 : decode cL_law 322 = .ok (.aload_n 0, 1) := by decide +kernel
theorem dL_law_323 : decode cL_law 323 = .ok (.iload_n 3, 1) := by decide +kernel
theorem dL_law_324 : decode cL_law 324 = .ok (.iconst 2, 1) := by decide +kernel
theorem dL_law_325 : decode cL_law 325 = .ok (.iadd, 1) := by decide +kernel
theorem dL_law_326 : decode cL_law 326 = .ok (.iaload, 1) := by decide +kernel
theorem dL_law_327 : decode cL_law 327 = .ok (.invokevirtual 34, 3) := by decide +kernel
theorem dL_law_330 : decode cL_law 330 = .ok (.if_icmp .eq 986, 3) := by decide +kernel
theorem dL_law_333 : decode cL_law 333 = .ok (.iconst 0, 1) := by decide +kernel
theorem dL_law_334 : decode cL_law 334 = .ok (.ireturn, 1) := by decide +kernel
theorem dL_law_335 : decode cL_law 335 = .ok (.aload_n 1, 1) := by decide +kernel
theorem dL_law_336 : decode cL_law 336 = .ok (.aload_n 0, 1) := by decide +kernel
theorem dL_law_337 : decode cL_law 337 = .ok (.iload_n 3, 1) := by decide +kernel
theorem dL_law_338 : decode cL_law 338 = .ok (.iconst 1, 1) := by decide +kernel
theorem dL_law_339 : decode cL_law 339 = .ok (.iadd, 1) := by decide +kernel
theorem dL_law_340 : decode cL_law 340 = .ok (.iaload, 1) := by decide +kernel
theorem dL_law_341 : decode cL_law 341 = .ok (.aload_n 0, 1) := by decide +kernel
theorem dL_law_342 : decode cL_law 342 = .ok (.iload_n 3, 1) := by decide +kernel
theorem dL_law_343 : decode cL_law 343 = .ok (.iconst 2, 1) := by decide +kernel
theorem dL_law_344 : decode cL_law 344 = .ok (.iadd, 1) := by decide +kernel
theorem dL_law_345 : decode cL_law 345 = .ok (.iaload, 1) := by decide +kernel
theorem dL_law_346 : decode cL_law 346 = .ok (.invokevirtual 35, 3) := by decide +kernel
theorem dL_law_349 : decode cL_law 349 = .ok (.aload_n 2, 1) := by decide +kernel
theorem dL_law_350 : decode cL_law 350 = .ok (.aload_n 0, 1) := by decide +kernel
theorem dL_law_351 : decode cL_law 351 = .ok (.iload_n 3, 1) := by decide +kernel
theorem dL_law_352 : decode cL_law 352 = .ok (.iconst 1, 1) := by decide +kernel
theorem dL_law_353 : decode cL_law 353 = .ok (.iadd, 1) := by decide +kernel
theorem dL_law_354 : decode cL_law 354 = .ok (.iaload, 1) := by decide +kernel
theorem dL_law_355 : decode cL_law 355 = .ok (.aload_n 0, 1) := by decide +kernel
theorem dL_law_356 : decode cL_law 356 = .ok (.iload_n 3, 1) := by decide +kernel
theorem dL_law_357 : decode cL_law 357 = .ok (.iconst 2, 1) := by decide +kernel
theorem dL_law_358 : decode cL_law 358 = .ok (.iadd, 1) := by decide +kernel
theorem dL_law_359 : decode cL_law 359 = .ok (.iaload, 1) := by decide +kernel
theorem dL_law_360 : decode cL_law 360 = .ok (.invokevirtual 38, 3) := by decide +kernel
theorem dL_law_363 : decode cL_law 363 = .ok (.if_icmp .eq 953, 3) := by decide +kernel
theorem dL_law_366 : decode cL_law 366 = .ok (.iconst 0, 1) := by decide +kernel
theorem dL_law_367 : decode cL_law 367 = .ok (.ireturn, 1) := by decide +kernel
theorem dL_law_368 : decode cL_law 368 = .ok (.aload_n 1, 1) := by decide +kernel
theorem dL_law_369 : decode cL_law 369 = .ok (.aload_n 0, 1) := by decide +kernel
theorem dL_law_370 : decode cL_law 370 = .ok (.iload_n 3, 1) := by decide +kernel
theorem dL_law_371 : decode cL_law 371 = .ok (.iconst 1, 1) := by decide +kernel
theorem dL_law_372 : decode cL_law 372 = .ok (.iadd, 1) := by decide +kernel
theorem dL_law_373 : decode cL_law 373 = .ok (.iaload, 1) := by decide +kernel
theorem dL_law_374 : decode cL_law 374 = .ok (.invokevirtual 39, 3) := by decide +kernel
theorem dL_law_377 : decode cL_law 377 = .ok (.aload_n 2, 1) := by decide +kernel
theorem dL_law_378 : decode cL_law 378 = .ok (.aload_n 0, 1) := by decide +kernel
theorem dL_law_379 : decode cL_law 379 = .ok (.iload_n 3, 1) := by decide +kernel
theorem dL_law_380 : decode cL_law 380 = .ok (.iconst 1, 1) := by decide +kernel
theorem dL_law_381 : decode cL_law 381 = .ok (.iadd, 1) := by decide +kernel
theorem dL_law_382 : decode cL_law 382 = .ok (.iaload, 1) := by decide +kernel
theorem dL_law_383 : decode cL_law 383 = .ok (.invokevirtual 42, 3) := by decide +kernel
theorem dL_law_386 : decode cL_law 386 = .ok (.if_icmp .eq 930, 3) := by decide +kernel
theorem dL_law_389 : decode cL_law 389 = .ok (.iconst 0, 1) := by decide +kernel
theorem dL_law_390 : decode cL_law 390 = .ok (.ireturn, 1) := by decide +kernel
theorem dL_law_391 : decode cL_law 391 = .ok (.aload_n 1, 1) := by decide +kernel
theorem dL_law_392 : decode cL_law 392 = .ok (.aload_n 0, 1) := by decide +kernel
theorem dL_law_393 : decode cL_law 393 = .ok (.iload_n 3, 1) := by decide +kernel
theorem dL_law_394 : decode cL_law 394 = .ok (.iconst 1, 1) := by decide +kernel
theorem dL_law_395 : decode cL_law 395 = .ok (.iadd, 1) := by decide +kernel
theorem dL_law_396 : decode cL_law 396 = .ok (.iaload, 1) := by decide +kernel
theorem dL_law_397 : decode cL_law 397 = .ok (.aload_n 0, 1) := by decide +kernel
theorem dL_law_398 : decode cL_law 398 = .ok (.iload_n 3, 1) := by decide +kernel
theorem dL_law_399 : decode cL_law 399 = .ok (.iconst 2, 1) := by decide +kernel
theorem dL_law_400 : decode cL_law 400 = .ok (.iadd, 1) := by decide +kernel
theorem dL_law_401 : decode cL_law 401 = .ok (.iaload, 1) := by decide +kernel
theorem dL_law_402 : decode cL_law 402 = .ok (.aload_n 0, 1) := by decide +kernel
theorem dL_law_403 : decode cL_law 403 = .ok (.iload_n 3, 1) := by decide +kernel
theorem dL_law_404 : decode cL_law 404 = .ok (.iconst 3, 1) := by decide +kernel
theorem dL_law_405 : decode cL_law 405 = .ok (.iadd, 1) := by decide +kernel
theorem dL_law_406 : decode cL_law 406 = .ok (.iaload, 1) := by decide +kernel
theorem dL_law_407 : decode cL_law 407 = .ok (.invokevirtual 43, 3) := by decide +kernel
theorem dL_law_410 : decode cL_law 410 = .ok (.aload_n 2, 1) := by decide +kernel
theorem dL_law_411 : decode cL_law 411 = .ok (.aload_n 0, 1) := by decide +kernel
theorem dL_law_412 : decode cL_law 412 = .ok (.iload_n 3, 1) := by decide +kernel
theorem dL_law_413 : decode cL_law 413 = .ok (.iconst 1, 1) := by decide +kernel
theorem dL_law_414 : decode cL_law 414 = .ok (.iadd, 1) := by decide +kernel
theorem dL_law_415 : decode cL_law 415 = .ok (.iaload, 1) := by decide +kernel
theorem dL_law_416 : decode cL_law 416 = .ok (.aload_n 0, 1) := by decide +kernel
theorem dL_law_417 : decode cL_law 417 = .ok (.iload_n 3, 1) := by decide +kernel
theorem dL_law_418 : decode cL_law 418 = .ok (.iconst 2, 1) := by decide +kernel
theorem dL_law_419 : decode cL_law 419 = .ok (.iadd, 1) := by decide +kernel
theorem dL_law_420 : decode cL_law 420 = .ok (.iaload, 1) := by decide +kernel
theorem dL_law_421 : decode cL_law 421 = .ok (.aload_n 0, 1) := by decide +kernel
theorem dL_law_422 : decode cL_law 422 = .ok (.iload_n 3, 1) := by decide +kernel
theorem dL_law_423 : decode cL_law 423 = .ok (.iconst 3, 1) := by decide +kernel
theorem dL_law_424 : decode cL_law 424 = .ok (.iadd, 1) := by decide +kernel
theorem dL_law_425 : decode cL_law 425 = .ok (.iaload, 1) := by decide +kernel
theorem dL_law_426 : decode cL_law 426 = .ok (.invokevirtual 47, 3) := by decide +kernel
theorem dL_law_429 : decode cL_law 429 = .ok (.if_icmp .eq 887, 3) := by decide +kernel
theorem dL_law_432 : decode cL_law 432 = .ok (.iconst 0, 1) := by decide +kernel
theorem dL_law_433 : decode cL_law 433 = .ok (.ireturn, 1) := by decide +kernel
theorem dL_law_434 : decode cL_law 434 = .ok (.aload_n 1, 1) := by decide +kernel
theorem dL_law_435 : decode cL_law 435 = .ok (.invokevirtual 48, 3) := by decide +kernel
theorem dL_law_438 : decode cL_law 438 = .ok (.aload_n 2, 1) := by decide +kernel
theorem dL_law_439 : decode cL_law 439 = .ok (.invokevirtual 52, 3) := by decide +kernel
theorem dL_law_442 : decode cL_law 442 = .ok (.if_icmp .eq 874, 3) := by decide +kernel
theorem dL_law_445 : decode cL_law 445 = .ok (.iconst 0, 1) := by decide +kernel
theorem dL_law_446 : decode cL_law 446 = .ok (.ireturn, 1) := by decide +kernel
theorem dL_law_447 : decode cL_law 447 = .ok (.aload_n 1, 1) := by decide +kernel
theorem dL_law_448 : decode cL_law 448 = .ok (.aload_n 0, 1) := by decide +kernel
theorem dL_law_449 : decode cL_law 449 = .ok (.iload_n 3, 1) := by decide +kernel
theorem dL_law_450 : decode cL_law 450 = .ok (.iconst 1, 1) := by decide +kernel
theorem dL_law_451 : decode cL_law 451 = .ok (.iadd, 1) := by decide +kernel
theorem dL_law_452 : decode cL_law 452 = .ok (.iaload, 1) := by decide +kernel
theorem dL_law_453 : decode cL_law 453 = .ok (.invokevirtual 53, 3) := by decide +kernel
theorem dL_law_456 : decode cL_law 456 = .ok (.aload_n 2, 1) := by decide +kernel
theorem dL_law_457 : decode cL_law 457 = .ok (.aload_n 0, 1) := by decide +kernel
theorem dL_law_458 : decode cL_law 458 = .ok (.iload_n 3, 1) := by decide +kernel
theorem dL_law_459 : decode cL_law 459 = .ok (.iconst 1, 1) := by decide +kernel
theorem dL_law_460 : decode cL_law 460 = .ok (.iadd, 1) := by decide +kernel
theorem dL_law_461 : decode cL_law 461 = .ok (.iaload, 1) := by decide +kernel
theorem dL_law_462 : decode cL_law 462 = .ok (.invokevirtual 56, 3) := by decide +kernel
theorem dL_law_465 : decode cL_law 465 = .ok (.if_icmp .eq 851, 3) := by decide +kernel
theorem dL_law_468 : decode cL_law 468 = .ok (.iconst 0, 1) := by decide +kernel
theorem dL_law_469 : decode cL_law 469 = .ok (.ireturn, 1) := by decide +kernel
theorem dL_law_470 : decode cL_law 470 = .ok (.aload_n 1, 1) := by decide +kernel
theorem dL_law_471 : decode cL_law 471 = .ok (.aload_n 0, 1) := by decide +kernel
theorem dL_law_472 : decode cL_law 472 = .ok (.iload_n 3, 1) := by decide +kernel
theorem dL_law_473 : decode cL_law 473 = .ok (.iconst 1, 1) := by decide +kernel
theorem dL_law_474 : decode cL_law 474 = .ok (.iadd, 1) := by decide +kernel
theorem dL_law_475 : decode cL_law 475 = .ok (.iaload, 1) := by decide +kernel
theorem dL_law_476 : decode cL_law 476 = .ok (.aload_n 0, 1) := by decide +kernel
theorem dL_law_477 : decode cL_law 477 = .ok (.iload_n 3, 1) := by decide +kernel
theorem dL_law_478 : decode cL_law 478 = .ok (.iconst 2, 1) := by decide +kernel
theorem dL_law_479 : decode cL_law 479 = .ok (.iadd, 1) := by decide +kernel
theorem dL_law_480 : decode cL_law 480 = .ok (.iaload, 1) := by decide +kernel
theorem dL_law_481 : decode cL_law 481 = .ok (.aload_n 0, 1) := by decide +kernel
theorem dL_law_482 : decode cL_law 482 = .ok (.iload_n 3, 1) := by decide +kernel
theorem dL_law_483 : decode cL_law 483 = .ok (.iconst 3, 1) := by decide +kernel
theorem dL_law_484 : decode cL_law 484 = .ok (.iadd, 1) := by decide +kernel
theorem dL_law_485 : decode cL_law 485 = .ok (.iaload, 1) := by decide +kernel
theorem dL_law_486 : decode cL_law 486 = .ok (.invokevirtual 57, 3) := by decide +kernel
theorem dL_law_489 : decode cL_law 489 = .ok (.aload_n 2, 1) := by decide +kernel
theorem dL_law_490 : decode cL_law 490 = .ok (.aload_n 0, 1) := by decide +kernel
theorem dL_law_491 : decode cL_law 491 = .ok (.iload_n 3, 1) := by decide +kernel
theorem dL_law_492 : decode cL_law 492 = .ok (.iconst 1, 1) := by decide +kernel
theorem dL_law_493 : decode cL_law 493 = .ok (.iadd, 1) := by decide +kernel
theorem dL_law_494 : decode cL_law 494 = .ok (.iaload, 1) := by decide +kernel
theorem dL_law_495 : decode cL_law 495 = .ok (.aload_n 0, 1) := by decide +kernel
theorem dL_law_496 : decode cL_law 496 = .ok (.iload_n 3, 1) := by decide +kernel
theorem dL_law_497 : decode cL_law 497 = .ok (.iconst 2, 1) := by decide +kernel
theorem dL_law_498 : decode cL_law 498 = .ok (.iadd, 1) := by decide +kernel
theorem dL_law_499 : decode cL_law 499 = .ok (.iaload, 1) := by decide +kernel
theorem dL_law_500 : decode cL_law 500 = .ok (.aload_n 0, 1) := by decide +kernel
theorem dL_law_501 : decode cL_law 501 = .ok (.iload_n 3, 1) := by decide +kernel
theorem dL_law_502 : decode cL_law 502 = .ok (.iconst 3, 1) := by decide +kernel
theorem dL_law_503 : decode cL_law 503 = .ok (.iadd, 1) := by decide +kernel
theorem dL_law_504 : decode cL_law 504 = .ok (.iaload, 1) := by decide +kernel
theorem dL_law_505 : decode cL_law 505 = .ok (.invokevirtual 60, 3) := by decide +kernel
theorem dL_law_508 : decode cL_law 508 = .ok (.if_icmp .eq 808, 3) := by decide +kernel
theorem dL_law_511 : decode cL_law 511 = .ok (.iconst 0, 1) := by decide +kernel
theorem dL_law_512 : decode cL_law 512 = .ok (.ireturn, 1) := by decide +kernel
theorem dL_law_513 : decode cL_law 513 = .ok (.aload_n 1, 1) := by decide +kernel
theorem dL_law_514 : decode cL_law 514 = .ok (.aload_n 0, 1) := by decide +kernel
theorem dL_law_515 : decode cL_law 515 = .ok (.iload_n 3, 1) := by decide +kernel
theorem dL_law_516 : decode cL_law 516 = .ok (.iconst 1, 1) := by decide +kernel
theorem dL_law_517 : decode cL_law 517 = .ok (.iadd, 1) := by decide +kernel
theorem dL_law_518 : decode cL_law 518 = .ok (.iaload, 1) := by decide +kernel
theorem dL_law_519 : decode cL_law 519 = .ok (.aload_n 0, 1) := by decide +kernel
theorem dL_law_520 : decode cL_law 520 = .ok (.iload_n 3, 1) := by decide +kernel
theorem dL_law_521 : decode cL_law 521 = .ok (.iconst 2, 1) := by decide +kernel
theorem dL_law_522 : decode cL_law 522 = .ok (.iadd, 1) := by decide +kernel
theorem dL_law_523 : decode cL_law 523 = .ok (.iaload, 1) := by decide +kernel
theorem dL_law_524 : decode cL_law 524 = .ok (.invokevirtual 61, 3) := by decide +kernel
theorem dL_law_527 : decode cL_law 527 = .ok (.aload_n 2, 1) := by decide +kernel
theorem dL_law_528 : decode cL_law 528 = .ok (.aload_n 0, 1) := by decide +kernel
theorem dL_law_529 : decode cL_law 529 = .ok (.iload_n 3, 1) := by decide +kernel
theorem dL_law_530 : decode cL_law 530 = .ok (.iconst 1, 1) := by decide +kernel
theorem dL_law_531 : decode cL_law 531 = .ok (.iadd, 1) := by decide +kernel
theorem dL_law_532 : decode cL_law 532 = .ok (.iaload, 1) := by decide +kernel
theorem dL_law_533 : decode cL_law 533 = .ok (.aload_n 0, 1) := by decide +kernel
theorem dL_law_534 : decode cL_law 534 = .ok (.iload_n 3, 1) := by decide +kernel
theorem dL_law_535 : decode cL_law 535 = .ok (.iconst 2, 1) := by decide +kernel
theorem dL_law_536 : decode cL_law 536 = .ok (.iadd, 1) := by decide +kernel
theorem dL_law_537 : decode cL_law 537 = .ok (.iaload, 1) := by decide +kernel
theorem dL_law_538 : decode cL_law 538 = .ok (.invokevirtual 64, 3) := by decide +kernel
theorem dL_law_541 : decode cL_law 541 = .ok (.if_icmp .eq 775, 3) := by decide +kernel
theorem dL_law_544 : decode cL_law 544 = .ok (.iconst 0, 1) := by decide +kernel
theorem dL_law_545 : decode cL_law 545 = .ok (.ireturn, 1) := by decide +kernel
theorem dL_law_546 : decode cL_law 546 = .ok (.aload_n 1, 1) := by decide +kernel
theorem dL_law_547 : decode cL_law 547 = .ok (.aload_n 0, 1) := by decide +kernel
theorem dL_law_548 : decode cL_law 548 = .ok (.iload_n 3, 1) := by decide +kernel
theorem dL_law_549 : decode cL_law 549 = .ok (.iconst 1, 1) := by decide +kernel
theorem dL_law_550 : decode cL_law 550 = .ok (.iadd, 1) := by decide +kernel
theorem dL_law_551 : decode cL_law 551 = .ok (.iaload, 1) := by decide +kernel
theorem dL_law_552 : decode cL_law 552 = .ok (.invokevirtual 65, 3) := by decide +kernel
theorem dL_law_555 : decode cL_law 555 = .ok (.aload_n 2, 1) := by decide +kernel
theorem dL_law_556 : decode cL_law 556 = .ok (.aload_n 0, 1) := by decide +kernel
theorem dL_law_557 : decode cL_law 557 = .ok (.iload_n 3, 1) := by decide +kernel
theorem dL_law_558 : decode cL_law 558 = .ok (.iconst 1, 1) := by decide +kernel
theorem dL_law_559 : decode cL_law 559 = .ok (.iadd, 1) := by decide +kernel
theorem dL_law_560 : decode cL_law 560 = .ok (.iaload, 1) := by decide +kernel
theorem dL_law_561 : decode cL_law 561 = .ok (.invokevirtual 68, 3) := by decide +kernel
theorem dL_law_564 : decode cL_law 564 = .ok (.if_icmp .eq 752, 3) := by decide +kernel
theorem dL_law_567 : decode cL_law 567 = .ok (.iconst 0, 1) := by decide +kernel
theorem dL_law_568 : decode cL_law 568 = .ok (.ireturn, 1) := by decide +kernel
theorem dL_law_569 : decode cL_law 569 = .ok (.aload_n 1, 1) := by decide +kernel
theorem dL_law_570 : decode cL_law 570 = .ok (.invokevirtual 69, 3) := by decide +kernel
theorem dL_law_573 : decode cL_law 573 = .ok (.aload_n 2, 1) := by decide +kernel
theorem dL_law_574 : decode cL_law 574 = .ok (.invokevirtual 72, 3) := by decide +kernel
theorem dL_law_577 : decode cL_law 577 = .ok (.if_icmp .eq 739, 3) := by decide +kernel
theorem dL_law_580 : decode cL_law 580 = .ok (.iconst 0, 1) := by decide +kernel
theorem dL_law_581 : decode cL_law 581 = .ok (.ireturn, 1) := by decide +kernel
theorem dL_law_582 : decode cL_law 582 = .ok (.aload_n 1, 1) := by decide +kernel
theorem dL_law_583 : decode cL_law 583 = .ok (.aload_n 0, 1) := by decide +kernel
theorem dL_law_584 : decode cL_law 584 = .ok (.iload_n 3, 1) := by decide +kernel
theorem dL_law_585 : decode cL_law 585 = .ok (.iconst 1, 1) := by decide +kernel
theorem dL_law_586 : decode cL_law 586 = .ok (.iadd, 1) := by decide +kernel
theorem dL_law_587 : decode cL_law 587 = .ok (.iaload, 1) := by decide +kernel
theorem dL_law_588 : decode cL_law 588 = .ok (.aload_n 0, 1) := by decide +kernel
theorem dL_law_589 : decode cL_law 589 = .ok (.iload_n 3, 1) := by decide +kernel
theorem dL_law_590 : decode cL_law 590 = .ok (.iconst 2, 1) := by decide +kernel
theorem dL_law_591 : decode cL_law 591 = .ok (.iadd, 1) := by decide +kernel
theorem dL_law_592 : decode cL_law 592 = .ok (.iaload, 1) := by decide +kernel
theorem dL_law_593 : decode cL_law 593 = .ok (.invokevirtual 73, 3) := by decide +kernel
theorem dL_law_596 : decode cL_law 596 = .ok (.aload_n 2, 1) := by decide +kernel
theorem dL_law_597 : decode cL_law 597 = .ok (.aload_n 0, 1) := by decide +kernel
theorem dL_law_598 : decode cL_law 598 = .ok (.iload_n 3, 1) := by decide +kernel
theorem dL_law_599 : decode cL_law 599 = .ok (.iconst 1, 1) := by decide +kernel
theorem dL_law_600 : decode cL_law 600 = .ok (.iadd, 1) := by decide +kernel
theorem dL_law_601 : decode cL_law 601 = .ok (.iaload, 1) := by decide +kernel
theorem dL_law_602 : decode cL_law 602 = .ok (.aload_n 0, 1) := by decide +kernel
theorem dL_law_603 : decode cL_law 603 = .ok (.iload_n 3, 1) := by decide +kernel
theorem dL_law_604 : decode cL_law 604 = .ok (.iconst 2, 1) := by decide +kernel
theorem dL_law_605 : decode cL_law 605 = .ok (.iadd, 1) := by decide +kernel
theorem dL_law_606 : decode cL_law 606 = .ok (.iaload, 1) := by decide +kernel
theorem dL_law_607 : decode cL_law 607 = .ok (.invokevirtual 76, 3) := by decide +kernel
theorem dL_law_610 : decode cL_law 610 = .ok (.if_icmp .eq 706, 3) := by decide +kernel
theorem dL_law_613 : decode cL_law 613 = .ok (.iconst 0, 1) := by decide +kernel
theorem dL_law_614 : decode cL_law 614 = .ok (.ireturn, 1) := by decide +kernel
theorem dL_law_615 : decode cL_law 615 = .ok (.aload_n 1, 1) := by decide +kernel
theorem dL_law_616 : decode cL_law 616 = .ok (.aload_n 0, 1) := by decide +kernel
theorem dL_law_617 : decode cL_law 617 = .ok (.iload_n 3, 1) := by decide +kernel
theorem dL_law_618 : decode cL_law 618 = .ok (.iconst 1, 1) := by decide +kernel
theorem dL_law_619 : decode cL_law 619 = .ok (.iadd, 1) := by decide +kernel
theorem dL_law_620 : decode cL_law 620 = .ok (.iaload, 1) := by decide +kernel
theorem dL_law_621 : decode cL_law 621 = .ok (.invokevirtual 77, 3) := by decide +kernel
theorem dL_law_624 : decode cL_law 624 = .ok (.aload_n 2, 1) := by decide +kernel
theorem dL_law_625 : decode cL_law 625 = .ok (.aload_n 0, 1) := by decide +kernel
theorem dL_law_626 : decode cL_law 626 = .ok (.iload_n 3, 1) := by decide +kernel
theorem dL_law_627 : decode cL_law 627 = .ok (.iconst 1, 1) := by decide +kernel
theorem dL_law_628 : decode cL_law 628 = .ok (.iadd, 1) := by decide +kernel
theorem dL_law_629 : decode cL_law 629 = .ok (.iaload, 1) := by decide +kernel
theorem dL_law_630 : decode cL_law 630 = .ok (.invokevirtual 80, 3) := by decide +kernel
theorem dL_law_633 : decode cL_law 633 = .ok (.if_icmp .eq 683, 3) := by decide +kernel
theorem dL_law_636 : decode cL_law 636 = .ok (.iconst 0, 1) := by decide +kernel
theorem dL_law_637 : decode cL_law 637 = .ok (.ireturn, 1) := by decide +kernel
theorem dL_law_638 : decode cL_law 638 = .ok (.aload_n 1, 1) := by decide +kernel
theorem dL_law_639 : decode cL_law 639 = .ok (.aload_n 0, 1) := by decide +kernel
theorem dL_law_640 : decode cL_law 640 = .ok (.iload_n 3, 1) := by decide +kernel
theorem dL_law_641 : decode cL_law 641 = .ok (.iconst 1, 1) := by decide +kernel
theorem dL_law_642 : decode cL_law 642 = .ok (.iadd, 1) := by decide +kernel
theorem dL_law_643 : decode cL_law 643 = .ok (.iaload, 1) := by decide +kernel
theorem dL_law_644 : decode cL_law 644 = .ok (.invokevirtual 81, 3) := by decide +kernel
theorem dL_law_647 : decode cL_law 647 = .ok (.aload_n 2, 1) := by decide +kernel
theorem dL_law_648 : decode cL_law 648 = .ok (.aload_n 0, 1) := by decide +kernel
theorem dL_law_649 : decode cL_law 649 = .ok (.iload_n 3, 1) := by decide +kernel
theorem dL_law_650 : decode cL_law 650 = .ok (.iconst 1, 1) := by decide +kernel
theorem dL_law_651 : decode cL_law 651 = .ok (.iadd, 1) := by decide +kernel
theorem dL_law_652 : decode cL_law 652 = .ok (.iaload, 1) := by decide +kernel
theorem dL_law_653 : decode cL_law 653 = .ok (.invokevirtual 84, 3) := by decide +kernel
theorem dL_law_656 : decode cL_law 656 = .ok (.if_icmp .eq 660, 3) := by decide +kernel
theorem dL_law_659 : decode cL_law 659 = .ok (.iconst 0, 1) := by decide +kernel
theorem dL_law_660 : decode cL_law 660 = .ok (.ireturn, 1) := by decide +kernel
theorem dL_law_661 : decode cL_law 661 = .ok (.aload_n 1, 1) := by decide +kernel
theorem dL_law_662 : decode cL_law 662 = .ok (.invokevirtual 85, 3) := by decide +kernel
theorem dL_law_665 : decode cL_law 665 = .ok (.aload_n 2, 1) := by decide +kernel
theorem dL_law_666 : decode cL_law 666 = .ok (.invokevirtual 88, 3) := by decide +kernel
theorem dL_law_669 : decode cL_law 669 = .ok (.if_icmp .eq 647, 3) := by decide +kernel
theorem dL_law_672 : decode cL_law 672 = .ok (.iconst 0, 1) := by decide +kernel
theorem dL_law_673 : decode cL_law 673 = .ok (.ireturn, 1) := by decide +kernel
theorem dL_law_674 : decode cL_law 674 = .ok (.aload_n 1, 1) := by decide +kernel
theorem dL_law_675 : decode cL_law 675 = .ok (.invokevirtual 89, 3) := by decide +kernel
theorem dL_law_678 : decode cL_law 678 = .ok (.aload_n 2, 1) := by decide +kernel
theorem dL_law_679 : decode cL_law 679 = .ok (.invokevirtual 92, 3) := by decide +kernel
theorem dL_law_682 : decode cL_law 682 = .ok (.if_icmp .eq 634, 3) := by decide +kernel
theorem dL_law_685 : decode cL_law 685 = .ok (.iconst 0, 1) := by decide +kernel
theorem dL_law_686 : decode cL_law 686 = .ok (.ireturn, 1) := by decide +kernel
theorem dL_law_687 : decode cL_law 687 = .ok (.aload_n 1, 1) := by decide +kernel
theorem dL_law_688 : decode cL_law 688 = .ok (.aload_n 0, 1) := by decide +kernel
theorem dL_law_689 : decode cL_law 689 = .ok (.iload_n 3, 1) := by decide +kernel
theorem dL_law_690 : decode cL_law 690 = .ok (.iconst 1, 1) := by decide +kernel
theorem dL_law_691 : decode cL_law 691 = .ok (.iadd, 1) := by decide +kernel
theorem dL_law_692 : decode cL_law 692 = .ok (.iaload, 1) := by decide +kernel
theorem dL_law_693 : decode cL_law 693 = .ok (.aload_n 0, 1) := by decide +kernel
theorem dL_law_694 : decode cL_law 694 = .ok (.iload_n 3, 1) := by decide +kernel
theorem dL_law_695 : decode cL_law 695 = .ok (.iconst 2, 1) := by decide +kernel
theorem dL_law_696 : decode cL_law 696 = .ok (.iadd, 1) := by decide +kernel
theorem dL_law_697 : decode cL_law 697 = .ok (.iaload, 1) := by decide +kernel
theorem dL_law_698 : decode cL_law 698 = .ok (.invokevirtual 93, 3) := by decide +kernel
theorem dL_law_701 : decode cL_law 701 = .ok (.aload_n 2, 1) := by decide +kernel
theorem dL_law_702 : decode cL_law 702 = .ok (.aload_n 0, 1) := by decide +kernel
theorem dL_law_703 : decode cL_law 703 = .ok (.iload_n 3, 1) := by decide +kernel
theorem dL_law_704 : decode cL_law 704 = .ok (.iconst 1, 1) := by decide +kernel
theorem dL_law_705 : decode cL_law 705 = .ok (.iadd, 1) := by decide +kernel
theorem dL_law_706 : decode cL_law 706 = .ok (.iaload, 1) := by decide +kernel
theorem dL_law_707 : decode cL_law 707 = .ok (.aload_n 0, 1) := by decide +kernel
theorem dL_law_708 : decode cL_law 708 = .ok (.iload_n 3, 1) := by decide +kernel
theorem dL_law_709 : decode cL_law 709 = .ok (.iconst 2, 1) := by decide +kernel
theorem dL_law_710 : decode cL_law 710 = .ok (.iadd, 1) := by decide +kernel
theorem dL_law_711 : decode cL_law 711 = .ok (.iaload, 1) := by decide +kernel
theorem dL_law_712 : decode cL_law 712 = .ok (.invokevirtual 96, 3) := by decide +kernel
theorem dL_law_715 : decode cL_law 715 = .ok (.if_icmp .eq 601, 3) := by decide +kernel
theorem dL_law_718 : decode cL_law 718 = .ok (.iconst 0, 1) := by decide +kernel
theorem dL_law_719 : decode cL_law 719 = .ok (.ireturn, 1) := by decide +kernel
theorem dL_law_720 : decode cL_law 720 = .ok (.aload_n 1, 1) := by decide +kernel
theorem dL_law_721 : decode cL_law 721 = .ok (.aload_n 0, 1) := by decide +kernel
theorem dL_law_722 : decode cL_law 722 = .ok (.iload_n 3, 1) := by decide +kernel
theorem dL_law_723 : decode cL_law 723 = .ok (.iconst 1, 1) := by decide +kernel
theorem dL_law_724 : decode cL_law 724 = .ok (.iadd, 1) := by decide +kernel
theorem dL_law_725 : decode cL_law 725 = .ok (.iaload, 1) := by decide +kernel
theorem dL_law_726 : decode cL_law 726 = .ok (.aload_n 0, 1) := by decide +kernel
theorem dL_law_727 : decode cL_law 727 = .ok (.iload_n 3, 1) := by decide +kernel
theorem dL_law_728 : decode cL_law 728 = .ok (.iconst 2, 1) := by decide +kernel
theorem dL_law_729 : decode cL_law 729 = .ok (.iadd, 1) := by decide +kernel
theorem dL_law_730 : decode cL_law 730 = .ok (.iaload, 1) := by decide +kernel
theorem dL_law_731 : decode cL_law 731 = .ok (.invokevirtual 97, 3) := by decide +kernel
theorem dL_law_734 : decode cL_law 734 = .ok (.aload_n 2, 1) := by decide +kernel
theorem dL_law_735 : decode cL_law 735 = .ok (.aload_n 0, 1) := by decide +kernel
theorem dL_law_736 : decode cL_law 736 = .ok (.iload_n 3, 1) := by decide +kernel
theorem dL_law_737 : decode cL_law 737 = .ok (.iconst 1, 1) := by decide +kernel
theorem dL_law_738 : decode cL_law 738 = .ok (.iadd, 1) := by decide +kernel
theorem dL_law_739 : decode cL_law 739 = .ok (.iaload, 1) := by decide +kernel
theorem dL_law_740 : decode cL_law 740 = .ok (.aload_n 0, 1) := by decide +kernel
theorem dL_law_741 : decode cL_law 741 = .ok (.iload_n 3, 1) := by decide +kernel
theorem dL_law_742 : decode cL_law 742 = .ok (.iconst 2, 1) := by decide +kernel
theorem dL_law_743 : decode cL_law 743 = .ok (.iadd, 1) := by decide +kernel
theorem dL_law_744 : decode cL_law 744 = .ok (.iaload, 1) := by decide +kernel
theorem dL_law_745 : decode cL_law 745 = .ok (.invokevirtual 100, 3) := by decide +kernel
theorem dL_law_748 : decode cL_law 748 = .ok (.if_icmp .eq 568, 3) := by decide +kernel
theorem dL_law_751 : decode cL_law 751 = .ok (.iconst 0, 1) := by decide +kernel
theorem dL_law_752 : decode cL_law 752 = .ok (.ireturn, 1) := by decide +kernel
theorem dL_law_753 : decode cL_law 753 = .ok (.aload_n 1, 1) := by decide +kernel
theorem dL_law_754 : decode cL_law 754 = .ok (.aload_n 0, 1) := by decide +kernel
theorem dL_law_755 : decode cL_law 755 = .ok (.iload_n 3, 1) := by decide +kernel
theorem dL_law_756 : decode cL_law 756 = .ok (.iconst 1, 1) := by decide +kernel
theorem dL_law_757 : decode cL_law 757 = .ok (.iadd, 1) := by decide +kernel
theorem dL_law_758 : decode cL_law 758 = .ok (.iaload, 1) := by decide +kernel
theorem dL_law_759 : decode cL_law 759 = .ok (.aload_n 0, 1) := by decide +kernel
theorem dL_law_760 : decode cL_law 760 = .ok (.iload_n 3, 1) := by decide +kernel
theorem dL_law_761 : decode cL_law 761 = .ok (.iconst 2, 1) := by decide +kernel
theorem dL_law_762 : decode cL_law 762 = .ok (.iadd, 1) := by decide +kernel
theorem dL_law_763 : decode cL_law 763 = .ok (.iaload, 1) := by decide +kernel
theorem dL_law_764 : decode cL_law 764 = .ok (.invokevirtual 101, 3) := by decide +kernel
theorem dL_law_767 : decode cL_law 767 = .ok (.aload_n 2, 1) := by decide +kernel
theorem dL_law_768 : decode cL_law 768 = .ok (.aload_n 0, 1) := by decide +kernel
theorem dL_law_769 : decode cL_law 769 = .ok (.iload_n 3, 1) := by decide +kernel
theorem dL_law_770 : decode cL_law 770 = .ok (.iconst 1, 1) := by decide +kernel
theorem dL_law_771 : decode cL_law 771 = .ok (.iadd, 1) := by decide +kernel
theorem dL_law_772 : decode cL_law 772 = .ok (.iaload, 1) := by decide +kernel
theorem dL_law_773 : decode cL_law 773 = .ok (.aload_n 0, 1) := by decide +kernel
theorem dL_law_774 : decode cL_law 774 = .ok (.iload_n 3, 1) := by decide +kernel
theorem dL_law_775 : decode cL_law 775 = .ok (.iconst 2, 1) := by decide +kernel
theorem dL_law_776 : decode cL_law 776 = .ok (.iadd, 1) := by decide +kernel
theorem dL_law_777 : decode cL_law 777 = .ok (.iaload, 1) := by decide +kernel
theorem dL_law_778 : decode cL_law 778 = .ok (.invokevirtual 104, 3) := by decide +kernel
theorem dL_law_781 : decode cL_law 781 = .ok (.if_icmp .eq 535, 3) := by decide +kernel
theorem dL_law_784 : decode cL_law 784 = .ok (.iconst 0, 1) := by decide +kernel
theorem dL_law_785 : decode cL_law 785 = .ok (.ireturn, 1) := by decide +kernel
theorem dL_law_786 : decode cL_law 786 = .ok (.aload_n 1, 1) := by decide +kernel
theorem dL_law_787 : decode cL_law 787 = .ok (.aload_n 0, 1) := by decide +kernel
theorem dL_law_788 : decode cL_law 788 = .ok (.iload_n 3, 1) := by decide +kernel
theorem dL_law_789 : decode cL_law 789 = .ok (.iconst 1, 1) := by decide +kernel
theorem dL_law_790 : decode cL_law 790 = .ok (.iadd, 1) := by decide +kernel
theorem dL_law_791 : decode cL_law 791 = .ok (.iaload, 1) := by decide +kernel
theorem dL_law_792 : decode cL_law 792 = .ok (.invokevirtual 105, 3) := by decide +kernel
theorem dL_law_795 : decode cL_law 795 = .ok (.aload_n 2, 1) := by decide +kernel
theorem dL_law_796 : decode cL_law 796 = .ok (.aload_n 0, 1) := by decide +kernel
theorem dL_law_797 : decode cL_law 797 = .ok (.iload_n 3, 1) := by decide +kernel
theorem dL_law_798 : decode cL_law 798 = .ok (.iconst 1, 1) := by decide +kernel
theorem dL_law_799 : decode cL_law 799 = .ok (.iadd, 1) := by decide +kernel
theorem dL_law_800 : decode cL_law 800 = .ok (.iaload, 1) := by decide +kernel
theorem dL_law_801 : decode cL_law 801 = .ok (.invokevirtual 108, 3) := by decide +kernel
theorem dL_law_804 : decode cL_law 804 = .ok (.if_icmp .eq 512, 3) := by decide +kernel
theorem dL_law_807 : decode cL_law 807 = .ok (.iconst 0, 1) := by decide +kernel
theorem dL_law_808 : decode cL_law 808 = .ok (.ireturn, 1) := by decide +kernel
theorem dL_law_809 : decode cL_law 809 = .ok (.aload_n 1, 1) := by decide +kernel
theorem dL_law_810 : decode cL_law 810 = .ok (.aload_n 0, 1) := by decide +kernel
theorem dL_law_811 : decode cL_law 811 = .ok (.iload_n 3, 1) := by decide +kernel
theorem dL_law_812 : decode cL_law 812 = .ok (.iconst 1, 1) := by decide +kernel
theorem dL_law_813 : decode cL_law 813 = .ok (.iadd, 1) := by decide +kernel
theorem dL_law_814 : decode cL_law 814 = .ok (.iaload, 1) := by decide +kernel
theorem dL_law_815 : decode cL_law 815 = .ok (.aload_n 0, 1) := by decide +kernel
theorem dL_law_816 : decode cL_law 816 = .ok (.iload_n 3, 1) := by decide +kernel
theorem dL_law_817 : decode cL_law 817 = .ok (.iconst 2, 1) := by decide +kernel
theorem dL_law_818 : decode cL_law 818 = .ok (.iadd, 1) := by decide +kernel
theorem dL_law_819 : decode cL_law 819 = .ok (.iaload, 1) := by decide +kernel
theorem dL_law_820 : decode cL_law 820 = .ok (.aload_n 0, 1) := by decide +kernel
theorem dL_law_821 : decode cL_law 821 = .ok (.iload_n 3, 1) := by decide +kernel
theorem dL_law_822 : decode cL_law 822 = .ok (.iconst 3, 1) := by decide +kernel
theorem dL_law_823 : decode cL_law 823 = .ok (.iadd, 1) := by decide +kernel
theorem dL_law_824 : decode cL_law 824 = .ok (.iaload, 1) := by decide +kernel
theorem dL_law_825 : decode cL_law 825 = .ok (.invokevirtual 109, 3) := by decide +kernel
theorem dL_law_828 : decode cL_law 828 = .ok (.aload_n 2, 1) := by decide +kernel
theorem dL_law_829 : decode cL_law 829 = .ok (.aload_n 0, 1) := by decide +kernel
theorem dL_law_830 : decode cL_law 830 = .ok (.iload_n 3, 1) := by decide +kernel
theorem dL_law_831 : decode cL_law 831 = .ok (.iconst 1, 1) := by decide +kernel
theorem dL_law_832 : decode cL_law 832 = .ok (.iadd, 1) := by decide +kernel
theorem dL_law_833 : decode cL_law 833 = .ok (.iaload, 1) := by decide +kernel
theorem dL_law_834 : decode cL_law 834 = .ok (.aload_n 0, 1) := by decide +kernel
theorem dL_law_835 : decode cL_law 835 = .ok (.iload_n 3, 1) := by decide +kernel
theorem dL_law_836 : decode cL_law 836 = .ok (.iconst 2, 1) := by decide +kernel
theorem dL_law_837 : decode cL_law 837 = .ok (.iadd, 1) := by decide +kernel
theorem dL_law_838 : decode cL_law 838 = .ok (.iaload, 1) := by decide +kernel
theorem dL_law_839 : decode cL_law 839 = .ok (.aload_n 0, 1) := by decide +kernel
theorem dL_law_840 : decode cL_law 840 = .ok (.iload_n 3, 1) := by decide +kernel
theorem dL_law_841 : decode cL_law 841 = .ok (.iconst 3, 1) := by decide +kernel
theorem dL_law_842 : decode cL_law 842 = .ok (.iadd, 1) := by decide +kernel
theorem dL_law_843 : decode cL_law 843 = .ok (.iaload, 1) := by decide +kernel
theorem dL_law_844 : decode cL_law 844 = .ok (.invokevirtual 112, 3) := by decide +kernel
theorem dL_law_847 : decode cL_law 847 = .ok (.if_icmp .eq 469, 3) := by decide +kernel
theorem dL_law_850 : decode cL_law 850 = .ok (.iconst 0, 1) := by decide +kernel
theorem dL_law_851 : decode cL_law 851 = .ok (.ireturn, 1) := by decide +kernel
theorem dL_law_852 : decode cL_law 852 = .ok (.aload_n 1, 1) := by decide +kernel
theorem dL_law_853 : decode cL_law 853 = .ok (.invokevirtual 113, 3) := by decide +kernel
theorem dL_law_856 : decode cL_law 856 = .ok (.aload_n 2, 1) := by decide +kernel
theorem dL_law_857 : decode cL_law 857 = .ok (.invokevirtual 116, 3) := by decide +kernel
theorem dL_law_860 : decode cL_law 860 = .ok (.if_icmp .eq 456, 3) := by decide +kernel
theorem dL_law_863 : decode cL_law 863 = .ok (.iconst 0, 1) := by decide +kernel
theorem dL_law_864 : decode cL_law 864 = .ok (.ireturn, 1) := by decide +kernel
theorem dL_law_865 : decode cL_law 865 = .ok (.aload_n 1, 1) := by decide +kernel
theorem dL_law_866 : decode cL_law 866 = .ok (.invokevirtual 117, 3) := by decide +kernel
theorem dL_law_869 : decode cL_law 869 = .ok (.aload_n 2, 1) := by decide +kernel
theorem dL_law_870 : decode cL_law 870 = .ok (.invokevirtual 120, 3) := by decide +kernel
theorem dL_law_873 : decode cL_law 873 = .ok (.if_icmp .eq 443, 3) := by decide +kernel
theorem dL_law_876 : decode cL_law 876 = .ok (.iconst 0, 1) := by decide +kernel
theorem dL_law_877 : decode cL_law 877 = .ok (.ireturn, 1) := by decide +kernel
theorem dL_law_878 : decode cL_law 878 = .ok (.aload_n 1, 1) := by decide +kernel
theorem dL_law_879 : decode cL_law 879 = .ok (.aload_n 0, 1) := by decide +kernel
theorem dL_law_880 : decode cL_law 880 = .ok (.iload_n 3, 1) := by decide +kernel
theorem dL_law_881 : decode cL_law 881 = .ok (.iconst 1, 1) := by decide +kernel
theorem dL_law_882 : decode cL_law 882 = .ok (.iadd, 1) := by decide +kernel
theorem dL_law_883 : decode cL_law 883 = .ok (.iaload, 1) := by decide +kernel
theorem dL_law_884 : decode cL_law 884 = .ok (.aload_n 0, 1) := by decide +kernel
theorem dL_law_885 : decode cL_law 885 = .ok (.iload_n 3, 1) := by decide +kernel
theorem dL_law_886 : decode cL_law 886 = .ok (.iconst 2, 1) := by decide +kernel
theorem dL_law_887 : decode cL_law 887 = .ok (.iadd, 1) := by decide +kernel
theorem dL_law_888 : decode cL_law 888 = .ok (.iaload, 1) := by decide +kernel
theorem dL_law_889 : decode cL_law 889 = .ok (.invokevirtual 121, 3) := by decide +kernel
theorem dL_law_892 : decode cL_law 892 = .ok (.aload_n 2, 1) := by decide +kernel
theorem dL_law_893 : decode cL_law 893 = .ok (.aload_n 0, 1) := by decide +kernel
theorem dL_law_894 : decode cL_law 894 = .ok (.iload_n 3, 1) := by decide +kernel
theorem dL_law_895 : decode cL_law 895 = .ok (.iconst 1, 1) := by decide +kernel
theorem dL_law_896 : decode cL_law 896 = .ok (.iadd, 1) := by decide +kernel
theorem dL_law_897 : decode cL_law 897 = .ok (.iaload, 1) := by decide +kernel
theorem dL_law_898 : decode cL_law 898 = .ok (.aload_n 0, 1) := by decide +kernel
theorem dL_law_899 : decode cL_law 899 = .ok (.iload_n 3, 1) := by decide +kernel
theorem dL_law_900 : decode cL_law 900 = .ok (.iconst 2, 1) := by decide +kernel
theorem dL_law_901 : decode cL_law 901 = .ok (.iadd, 1) := by decide +kernel
theorem dL_law_902 : decode cL_law 902 = .ok (.iaload, 1) := by decide +kernel
theorem dL_law_903 : decode cL_law 903 = .ok (.invokevirtual 124, 3) := by decide +kernel
theorem dL_law_906 : decode cL_law 906 = .ok (.if_icmp .eq 410, 3) := by decide +kernel
theorem dL_law_909 : decode cL_law 909 = .ok (.iconst 0, 1) := by decide +kernel
theorem dL_law_910 : decode cL_law 910 = .ok (.ireturn, 1) := by decide +kernel
theorem dL_law_911 : decode cL_law 911 = .ok (.aload_n 1, 1) := by decide +kernel
theorem dL_law_912 : decode cL_law 912 = .ok (.aload_n 0, 1) := by decide +kernel
theorem dL_law_913 : decode cL_law 913 = .ok (.iload_n 3, 1) := by decide +kernel
theorem dL_law_914 : decode cL_law 914 = .ok (.iconst 1, 1) := by decide +kernel
theorem dL_law_915 : decode cL_law 915 = .ok (.iadd, 1) := by decide +kernel
theorem dL_law_916 : decode cL_law 916 = .ok (.iaload, 1) := by decide +kernel
theorem dL_law_917 : decode cL_law 917 = .ok (.invokevirtual 125, 3) := by decide +kernel
theorem dL_law_920 : decode cL_law 920 = .ok (.aload_n 2, 1) := by decide +kernel
theorem dL_law_921 : decode cL_law 921 = .ok (.aload_n 0, 1) := by decide +kernel
theorem dL_law_922 : decode cL_law 922 = .ok (.iload_n 3, 1) := by decide +kernel
theorem dL_law_923 : decode cL_law 923 = .ok (.iconst 1, 1) := by decide +kernel
theorem dL_law_924 : decode cL_law 924 = .ok (.iadd, 1) := by decide +kernel
theorem dL_law_925 : decode cL_law 925 = .ok (.iaload, 1) := by decide +kernel
theorem dL_law_926 : decode cL_law 926 = .ok (.invokevirtual 128, 3) := by decide +kernel
theorem dL_law_929 : decode cL_law 929 = .ok (.if_icmp .eq 387, 3) := by decide +kernel
theorem dL_law_932 : decode cL_law 932 = .ok (.iconst 0, 1) := by decide +kernel
theorem dL_law_933 : decode cL_law 933 = .ok (.ireturn, 1) := by decide +kernel
theorem dL_law_934 : decode cL_law 934 = .ok (.aload_n 1, 1) := by decide +kernel
theorem dL_law_935 : decode cL_law 935 = .ok (.aload_n 0, 1) := by decide +kernel
theorem dL_law_936 : decode cL_law 936 = .ok (.iload_n 3, 1) := by decide +kernel
theorem dL_law_937 : decode cL_law 937 = .ok (.iconst 1, 1) := by decide +kernel
theorem dL_law_938 : decode cL_law 938 = .ok (.iadd, 1) := by decide +kernel
theorem dL_law_939 : decode cL_law 939 = .ok (.iaload, 1) := by decide +kernel
theorem dL_law_940 : decode cL_law 940 = .ok (.aload_n 0, 1) := by decide +kernel
theorem dL_law_941 : decode cL_law 941 = .ok (.iload_n 3, 1) := by decide +kernel
theorem dL_law_942 : decode cL_law 942 = .ok (.iconst 2, 1) := by decide +kernel
theorem dL_law_943 : decode cL_law 943 = .ok (.iadd, 1) := by decide +kernel
theorem dL_law_944 : decode cL_law 944 = .ok (.iaload, 1) := by decide +kernel
theorem dL_law_945 : decode cL_law 945 = .ok (.aload_n 0, 1) := by decide +kernel
theorem dL_law_946 : decode cL_law 946 = .ok (.iload_n 3, 1) := by decide +kernel
theorem dL_law_947 : decode cL_law 947 = .ok (.iconst 3, 1) := by decide +kernel
theorem dL_law_948 : decode cL_law 948 = .ok (.iadd, 1) := by decide +kernel
theorem dL_law_949 : decode cL_law 949 = .ok (.iaload, 1) := by decide +kernel
theorem dL_law_950 : decode cL_law 950 = .ok (.invokevirtual 129, 3) := by decide +kernel
theorem dL_law_953 : decode cL_law 953 = .ok (.aload_n 2, 1) := by decide +kernel
theorem dL_law_954 : decode cL_law 954 = .ok (.aload_n 0, 1) := by decide +kernel
theorem dL_law_955 : decode cL_law 955 = .ok (.iload_n 3, 1) := by decide +kernel
theorem dL_law_956 : decode cL_law 956 = .ok (.iconst 1, 1) := by decide +kernel
theorem dL_law_957 : decode cL_law 957 = .ok (.iadd, 1) := by decide +kernel
theorem dL_law_958 : decode cL_law 958 = .ok (.iaload, 1) := by decide +kernel
theorem dL_law_959 : decode cL_law 959 = .ok (.aload_n 0, 1) := by decide +kernel
theorem dL_law_960 : decode cL_law 960 = .ok (.iload_n 3, 1) := by decide +kernel
theorem dL_law_961 : decode cL_law 961 = .ok (.iconst 2, 1) := by decide +kernel
theorem dL_law_962 : decode cL_law 962 = .ok (.iadd, 1) := by decide +kernel
theorem dL_law_963 : decode cL_law 963 = .ok (.iaload, 1) := by decide +kernel
theorem dL_law_964 : decode cL_law 964 = .ok (.aload_n 0, 1) := by decide +kernel
theorem dL_law_965 : decode cL_law 965 = .ok (.iload_n 3, 1) := by decide +kernel
theorem dL_law_966 : decode cL_law 966 = .ok (.iconst 3, 1) := by decide +kernel
theorem dL_law_967 : decode cL_law 967 = .ok (.iadd, 1) := by decide +kernel
theorem dL_law_968 : decode cL_law 968 = .ok (.iaload, 1) := by decide +kernel
theorem dL_law_969 : decode cL_law 969 = .ok (.invokevirtual 133, 3) := by decide +kernel
theorem dL_law_972 : decode cL_law 972 = .ok (.lcmp, 1) := by decide +kernel
theorem dL_law_973 : decode cL_law 973 = .ok (.ifCond .eq 343, 3) := by decide +kernel
theorem dL_law_976 : decode cL_law 976 = .ok (.iconst 0, 1) := by decide +kernel
theorem dL_law_977 : decode cL_law 977 = .ok (.ireturn, 1) := by decide +kernel
theorem dL_law_978 : decode cL_law 978 = .ok (.aload_n 1, 1) := by decide +kernel
theorem dL_law_979 : decode cL_law 979 = .ok (.aload_n 0, 1) := by decide +kernel
theorem dL_law_980 : decode cL_law 980 = .ok (.iload_n 3, 1) := by decide +kernel
theorem dL_law_981 : decode cL_law 981 = .ok (.iconst 1, 1) := by decide +kernel
theorem dL_law_982 : decode cL_law 982 = .ok (.iadd, 1) := by decide +kernel
theorem dL_law_983 : decode cL_law 983 = .ok (.iaload, 1) := by decide +kernel
theorem dL_law_984 : decode cL_law 984 = .ok (.aload_n 0, 1) := by decide +kernel
theorem dL_law_985 : decode cL_law 985 = .ok (.iload_n 3, 1) := by decide +kernel
theorem dL_law_986 : decode cL_law 986 = .ok (.iconst 2, 1) := by decide +kernel
theorem dL_law_987 : decode cL_law 987 = .ok (.iadd, 1) := by decide +kernel
theorem dL_law_988 : decode cL_law 988 = .ok (.iaload, 1) := by decide +kernel
theorem dL_law_989 : decode cL_law 989 = .ok (.aload_n 0, 1) := by decide +kernel
theorem dL_law_990 : decode cL_law 990 = .ok (.iload_n 3, 1) := by decide +kernel
theorem dL_law_991 : decode cL_law 991 = .ok (.iconst 3, 1) := by decide +kernel
theorem dL_law_992 : decode cL_law 992 = .ok (.iadd, 1) := by decide +kernel
theorem dL_law_993 : decode cL_law 993 = .ok (.iaload, 1) := by decide +kernel
theorem dL_law_994 : decode cL_law 994 = .ok (.invokevirtual 134, 3) := by decide +kernel
theorem dL_law_997 : decode cL_law 997 = .ok (.aload_n 2, 1) := by decide +kernel
theorem dL_law_998 : decode cL_law 998 = .ok (.aload_n 0, 1) := by decide +kernel
theorem dL_law_999 : decode cL_law 999 = .ok (.iload_n 3, 1) := by decide +kernel
theorem dL_law_1000 : decode cL_law 1000 = .ok (.iconst 1, 1) := by decide +kernel
theorem dL_law_1001 : decode cL_law 1001 = .ok (.iadd, 1) := by decide +kernel
theorem dL_law_1002 : decode cL_law 1002 = .ok (.iaload, 1) := by decide +kernel
theorem dL_law_1003 : decode cL_law 1003 = .ok (.aload_n 0, 1) := by decide +kernel
theorem dL_law_1004 : decode cL_law 1004 = .ok (.iload_n 3, 1) := by decide +kernel
theorem dL_law_1005 : decode cL_law 1005 = .ok (.iconst 2, 1) := by decide +kernel
theorem dL_law_1006 : decode cL_law 1006 = .ok (.iadd, 1) := by decide +kernel
theorem dL_law_1007 : decode cL_law 1007 = .ok (.iaload, 1) := by decide +kernel
theorem dL_law_1008 : decode cL_law 1008 = .ok (.aload_n 0, 1) := by decide +kernel
theorem dL_law_1009 : decode cL_law 1009 = .ok (.iload_n 3, 1) := by decide +kernel
theorem dL_law_1010 : decode cL_law 1010 = .ok (.iconst 3, 1) := by decide +kernel
theorem dL_law_1011 : decode cL_law 1011 = .ok (.iadd, 1) := by decide +kernel
theorem dL_law_1012 : decode cL_law 1012 = .ok (.iaload, 1) := by decide +kernel
theorem dL_law_1013 : decode cL_law 1013 = .ok (.invokevirtual 137, 3) := by decide +kernel
theorem dL_law_1016 : decode cL_law 1016 = .ok (.if_icmp .eq 300, 3) := by decide +kernel
theorem dL_law_1019 : decode cL_law 1019 = .ok (.iconst 0, 1) := by decide +kernel
theorem dL_law_1020 : decode cL_law 1020 = .ok (.ireturn, 1) := by decide +kernel
theorem dL_law_1021 : decode cL_law 1021 = .ok (.aload_n 1, 1) := by decide +kernel
theorem dL_law_1022 : decode cL_law 1022 = .ok (.aload_n 0, 1) := by decide +kernel
theorem dL_law_1023 : decode cL_law 1023 = .ok (.iload_n 3, 1) := by decide +kernel
theorem dL_law_1024 : decode cL_law 1024 = .ok (.iconst 1, 1) := by decide +kernel
theorem dL_law_1025 : decode cL_law 1025 = .ok (.iadd, 1) := by decide +kernel
theorem dL_law_1026 : decode cL_law 1026 = .ok (.iaload, 1) := by decide +kernel
theorem dL_law_1027 : decode cL_law 1027 = .ok (.aload_n 0, 1) := by decide +kernel
theorem dL_law_1028 : decode cL_law 1028 = .ok (.iload_n 3, 1) := by decide +kernel
theorem dL_law_1029 : decode cL_law 1029 = .ok (.iconst 2, 1) := by decide +kernel
theorem dL_law_1030 : decode cL_law 1030 = .ok (.iadd, 1) := by decide +kernel
theorem dL_law_1031 : decode cL_law 1031 = .ok (.iaload, 1) := by decide +kernel
theorem dL_law_1032 : decode cL_law 1032 = .ok (.aload_n 0, 1) := by decide +kernel
theorem dL_law_1033 : decode cL_law 1033 = .ok (.iload_n 3, 1) := by decide +kernel
theorem dL_law_1034 : decode cL_law 1034 = .ok (.iconst 3, 1) := by decide +kernel
theorem dL_law_1035 : decode cL_law 1035 = .ok (.iadd, 1) := by decide +kernel
theorem dL_law_1036 : decode cL_law 1036 = .ok (.iaload, 1) := by decide +kernel
theorem dL_law_1037 : decode cL_law 1037 = .ok (.invokevirtual 138, 3) := by decide +kernel
theorem dL_law_1040 : decode cL_law 1040 = .ok (.aload_n 2, 1) := by decide +kernel
theorem dL_law_1041 : decode cL_law 1041 = .ok (.aload_n 0, 1) := by decide +kernel
theorem dL_law_1042 : decode cL_law 1042 = .ok (.iload_n 3, 1) := by decide +kernel
theorem dL_law_1043 : decode cL_law 1043 = .ok (.iconst 1, 1) := by decide +kernel
theorem dL_law_1044 : decode cL_law 1044 = .ok (.iadd, 1) := by decide +kernel
theorem dL_law_1045 : decode cL_law 1045 = .ok (.iaload, 1) := by decide +kernel
theorem dL_law_1046 : decode cL_law 1046 = .ok (.aload_n 0, 1) := by decide +kernel
theorem dL_law_1047 : decode cL_law 1047 = .ok (.iload_n 3, 1) := by decide +kernel
theorem dL_law_1048 : decode cL_law 1048 = .ok (.iconst 2, 1) := by decide +kernel
theorem dL_law_1049 : decode cL_law 1049 = .ok (.iadd, 1) := by decide +kernel
theorem dL_law_1050 : decode cL_law 1050 = .ok (.iaload, 1) := by decide +kernel
theorem dL_law_1051 : decode cL_law 1051 = .ok (.aload_n 0, 1) := by decide +kernel
theorem dL_law_1052 : decode cL_law 1052 = .ok (.iload_n 3, 1) := by decide +kernel
theorem dL_law_1053 : decode cL_law 1053 = .ok (.iconst 3, 1) := by decide +kernel
theorem dL_law_1054 : decode cL_law 1054 = .ok (.iadd, 1) := by decide +kernel
theorem dL_law_1055 : decode cL_law 1055 = .ok (.iaload, 1) := by decide +kernel
theorem dL_law_1056 : decode cL_law 1056 = .ok (.invokevirtual 141, 3) := by decide +kernel
theorem dL_law_1059 : decode cL_law 1059 = .ok (.if_icmp .eq 257, 3) := by decide +kernel
theorem dL_law_1062 : decode cL_law 1062 = .ok (.iconst 0, 1) := by decide +kernel
theorem dL_law_1063 : decode cL_law 1063 = .ok (.ireturn, 1) := by decide +kernel
theorem dL_law_1064 : decode cL_law 1064 = .ok (.aload_n 1, 1) := by decide +kernel
theorem dL_law_1065 : decode cL_law 1065 = .ok (.aload_n 0, 1) := by decide +kernel
theorem dL_law_1066 : decode cL_law 1066 = .ok (.iload_n 3, 1) := by decide +kernel
theorem dL_law_1067 : decode cL_law 1067 = .ok (.iconst 1, 1) := by decide +kernel
theorem dL_law_1068 : decode cL_law 1068 = .ok (.iadd, 1) := by decide +kernel
theorem dL_law_1069 : decode cL_law 1069 = .ok (.iaload, 1) := by decide +kernel
theorem dL_law_1070 : decode cL_law 1070 = .ok (.invokevirtual 142, 3) := by decide +kernel
theorem dL_law_1073 : decode cL_law 1073 = .ok (.aload_n 2, 1) := by decide +kernel
theorem dL_law_1074 : decode cL_law 1074 = .ok (.aload_n 0, 1) := by decide +kernel
theorem dL_law_1075 : decode cL_law 1075 = .ok (.iload_n 3, 1) := by decide +kernel
theorem dL_law_1076 : decode cL_law 1076 = .ok (.iconst 1, 1) := by decide +kernel
theorem dL_law_1077 : decode cL_law 1077 = .ok (.iadd, 1) := by decide +kernel
theorem dL_law_1078 : decode cL_law 1078 = .ok (.iaload, 1) := by decide +kernel
theorem dL_law_1079 : decode cL_law 1079 = .ok (.invokevirtual 145, 3) := by decide +kernel
theorem dL_law_1082 : decode cL_law 1082 = .ok (.if_icmp .eq 234, 3) := by decide +kernel
theorem dL_law_1085 : decode cL_law 1085 = .ok (.iconst 0, 1) := by decide +kernel
theorem dL_law_1086 : decode cL_law 1086 = .ok (.ireturn, 1) := by decide +kernel
theorem dL_law_1087 : decode cL_law 1087 = .ok (.aload_n 1, 1) := by decide +kernel
theorem dL_law_1088 : decode cL_law 1088 = .ok (.aload_n 0, 1) := by decide +kernel
theorem dL_law_1089 : decode cL_law 1089 = .ok (.iload_n 3, 1) := by decide +kernel
theorem dL_law_1090 : decode cL_law 1090 = .ok (.iconst 1, 1) := by decide +kernel
theorem dL_law_1091 : decode cL_law 1091 = .ok (.iadd, 1) := by decide +kernel
theorem dL_law_1092 : decode cL_law 1092 = .ok (.iaload, 1) := by decide +kernel
theorem dL_law_1093 : decode cL_law 1093 = .ok (.aload_n 0, 1) := by decide +kernel
theorem dL_law_1094 : decode cL_law 1094 = .ok (.iload_n 3, 1) := by decide +kernel
theorem dL_law_1095 : decode cL_law 1095 = .ok (.iconst 2, 1) := by decide +kernel
theorem dL_law_1096 : decode cL_law 1096 = .ok (.iadd, 1) := by decide +kernel
theorem dL_law_1097 : decode cL_law 1097 = .ok (.iaload, 1) := by decide +kernel
theorem dL_law_1098 : decode cL_law 1098 = .ok (.aload_n 0, 1) := by decide +kernel
theorem dL_law_1099 : decode cL_law 1099 = .ok (.iload_n 3, 1) := by decide +kernel
theorem dL_law_1100 : decode cL_law 1100 = .ok (.iconst 3, 1) := by decide +kernel
theorem dL_law_1101 : decode cL_law 1101 = .ok (.iadd, 1) := by decide +kernel
theorem dL_law_1102 : decode cL_law 1102 = .ok (.iaload, 1) := by decide +kernel
theorem dL_law_1103 : decode cL_law 1103 = .ok (.aload_n 0, 1) := by decide +kernel
theorem dL_law_1104 : decode cL_law 1104 = .ok (.iload_n 3, 1) := by decide +kernel
theorem dL_law_1105 : decode cL_law 1105 = .ok (.iconst 4, 1) := by decide +kernel
theorem dL_law_1106 : decode cL_law 1106 = .ok (.iadd, 1) := by decide +kernel
theorem dL_law_1107 : decode cL_law 1107 = .ok (.iaload, 1) := by decide +kernel
theorem dL_law_1108 : decode cL_law 1108 = .ok (.invokevirtual 146, 3) := by decide +kernel
theorem dL_law_1111 : decode cL_law 1111 = .ok (.aload_n 2, 1) := by decide +kernel
theorem dL_law_1112 : decode cL_law 1112 = .ok (.aload_n 0, 1) := by decide +kernel
theorem dL_law_1113 : decode cL_law 1113 = .ok (.iload_n 3, 1) := by decide +kernel
theorem dL_law_1114 : decode cL_law 1114 = .ok (.iconst 1, 1) := by decide +kernel
theorem dL_law_1115 : decode cL_law 1115 = .ok (.iadd, 1) := by decide +kernel
theorem dL_law_1116 : decode cL_law 1116 = .ok (.iaload, 1) := by decide +kernel
theorem dL_law_1117 : decode cL_law 1117 = .ok (.aload_n 0, 1) := by decide +kernel
theorem dL_law_1118 : decode cL_law 1118 = .ok (.iload_n 3, 1) := by decide +kernel
theorem dL_law_1119 : decode cL_law 1119 = .ok (.iconst 2, 1) := by decide +kernel
theorem dL_law_1120 : decode cL_law 1120 = .ok (.iadd, 1) := by decide +kernel
theorem dL_law_1121 : decode cL_law 1121 = .ok (.iaload, 1) := by decide +kernel
theorem dL_law_1122 : decode cL_law 1122 = .ok (.aload_n 0, 1) := by decide +kernel
theorem dL_law_1123 : decode cL_law 1123 = .ok (.iload_n 3, 1) := by decide +kernel
theorem dL_law_1124 : decode cL_law 1124 = .ok (.iconst 3, 1) := by decide +kernel
theorem dL_law_1125 : decode cL_law 1125 = .ok (.iadd, 1) := by decide +kernel
theorem dL_law_1126 : decode cL_law 1126 = .ok (.iaload, 1) := by decide +kernel
theorem dL_law_1127 : decode cL_law 1127 = .ok (.aload_n 0, 1) := by decide +kernel
theorem dL_law_1128 : decode cL_law 1128 = .ok (.iload_n 3, 1) := by decide +kernel
theorem dL_law_1129 : decode cL_law 1129 = .ok (.iconst 4, 1) := by decide +kernel
theorem dL_law_1130 : decode cL_law 1130 = .ok (.iadd, 1) := by decide +kernel
theorem dL_law_1131 : decode cL_law 1131 = .ok (.iaload, 1) := by decide +kernel
theorem dL_law_1132 : decode cL_law 1132 = .ok (.invokevirtual 150, 3) := by decide +kernel
theorem dL_law_1135 : decode cL_law 1135 = .ok (.if_icmp .eq 181, 3) := by decide +kernel
theorem dL_law_1138 : decode cL_law 1138 = .ok (.iconst 0, 1) := by decide +kernel
theorem dL_law_1139 : decode cL_law 1139 = .ok (.ireturn, 1) := by decide +kernel
theorem dL_law_1140 : decode cL_law 1140 = .ok (.aload_n 1, 1) := by decide +kernel
theorem dL_law_1141 : decode cL_law 1141 = .ok (.aload_n 0, 1) := by decide +kernel
theorem dL_law_1142 : decode cL_law 1142 = .ok (.iload_n 3, 1) := by decide +kernel
theorem dL_law_1143 : decode cL_law 1143 = .ok (.iconst 1, 1) := by decide +kernel
theorem dL_law_1144 : decode cL_law 1144 = .ok (.iadd, 1) := by decide +kernel
theorem dL_law_1145 : decode cL_law 1145 = .ok (.iaload, 1) := by decide +kernel
theorem dL_law_1146 : decode cL_law 1146 = .ok (.aload_n 0, 1) := by decide +kernel
theorem dL_law_1147 : decode cL_law 1147 = .ok (.iload_n 3, 1) := by decide +kernel
theorem dL_law_1148 : decode cL_law 1148 = .ok (.iconst 2, 1) := by decide +kernel
theorem dL_law_1149 : decode cL_law 1149 = .ok (.iadd, 1) := by decide +kernel
theorem dL_law_1150 : decode cL_law 1150 = .ok (.iaload, 1) := by decide +kernel
theorem dL_law_1151 : decode cL_law 1151 = .ok (.aload_n 0, 1) := by decide +kernel
theorem dL_law_1152 : decode cL_law 1152 = .ok (.iload_n 3, 1) := by decide +kernel
theorem dL_law_1153 : decode cL_law 1153 = .ok (.iconst 3, 1) := by decide +kernel
theorem dL_law_1154 : decode cL_law 1154 = .ok (.iadd, 1) := by decide +kernel
theorem dL_law_1155 : decode cL_law 1155 = .ok (.iaload, 1) := by decide +kernel
theorem dL_law_1156 : decode cL_law 1156 = .ok (.invokevirtual 151, 3) := by decide +kernel
theorem dL_law_1159 : decode cL_law 1159 = .ok (.aload_n 2, 1) := by decide +kernel
theorem dL_law_1160 : decode cL_law 1160 = .ok (.aload_n 0, 1) := by decide +kernel
theorem dL_law_1161 : decode cL_law 1161 = .ok (.iload_n 3, 1) := by decide +kernel
theorem dL_law_1162 : decode cL_law 1162 = .ok (.iconst 1, 1) := by decide +kernel
theorem dL_law_1163 : decode cL_law 1163 = .ok (.iadd, 1) := by decide +kernel
theorem dL_law_1164 : decode cL_law 1164 = .ok (.iaload, 1) := by decide +kernel
theorem dL_law_1165 : decode cL_law 1165 = .ok (.aload_n 0, 1) := by decide +kernel
theorem dL_law_1166 : decode cL_law 1166 = .ok (.iload_n 3, 1) := by decide +kernel
theorem dL_law_1167 : decode cL_law 1167 = .ok (.iconst 2, 1) := by decide +kernel
theorem dL_law_1168 : decode cL_law 1168 = .ok (.iadd, 1) := by decide +kernel
theorem dL_law_1169 : decode cL_law 1169 = .ok (.iaload, 1) := by decide +kernel
theorem dL_law_1170 : decode cL_law 1170 = .ok (.aload_n 0, 1) := by decide +kernel
theorem dL_law_1171 : decode cL_law 1171 = .ok (.iload_n 3, 1) := by decide +kernel
theorem dL_law_1172 : decode cL_law 1172 = .ok (.iconst 3, 1) := by decide +kernel
theorem dL_law_1173 : decode cL_law 1173 = .ok (.iadd, 1) := by decide +kernel
theorem dL_law_1174 : decode cL_law 1174 = .ok (.iaload, 1) := by decide +kernel
theorem dL_law_1175 : decode cL_law 1175 = .ok (.invokevirtual 154, 3) := by decide +kernel
theorem dL_law_1178 : decode cL_law 1178 = .ok (.if_icmp .eq 138, 3) := by decide +kernel
theorem dL_law_1181 : decode cL_law 1181 = .ok (.iconst 0, 1) := by decide +kernel
theorem dL_law_1182 : decode cL_law 1182 = .ok (.ireturn, 1) := by decide +kernel
theorem dL_law_1183 : decode cL_law 1183 = .ok (.aload_n 1, 1) := by decide +kernel
theorem dL_law_1184 : decode cL_law 1184 = .ok (.aload_n 0, 1) := by decide +kernel
theorem dL_law_1185 : decode cL_law 1185 = .ok (.iload_n 3, 1) := by decide +kernel
theorem dL_law_1186 : decode cL_law 1186 = .ok (.iconst 1, 1) := by decide +kernel
theorem dL_law_1187 : decode cL_law 1187 = .ok (.iadd, 1) := by decide +kernel
theorem dL_law_1188 : decode cL_law 1188 = .ok (.iaload, 1) := by decide +kernel
theorem dL_law_1189 : decode cL_law 1189 = .ok (.aload_n 0, 1) := by decide +kernel
theorem dL_law_1190 : decode cL_law 1190 = .ok (.iload_n 3, 1) := by decide +kernel
theorem dL_law_1191 : decode cL_law 1191 = .ok (.iconst 2, 1) := by decide +kernel
theorem dL_law_1192 : decode cL_law 1192 = .ok (.iadd, 1) := by decide +kernel
theorem dL_law_1193 : decode cL_law 1193 = .ok (.iaload, 1) := by decide +kernel
theorem dL_law_1194 : decode cL_law 1194 = .ok (.aload_n 0, 1) := by decide +kernel
theorem dL_law_1195 : decode cL_law 1195 = .ok (.iload_n 3, 1) := by decide +kernel
theorem dL_law_1196 : decode cL_law 1196 = .ok (.iconst 3, 1) := by decide +kernel
theorem dL_law_1197 : decode cL_law 1197 = .ok (.iadd, 1) := by decide +kernel
theorem dL_law_1198 : decode cL_law 1198 = .ok (.iaload, 1) := by decide +kernel
theorem dL_law_1199 : decode cL_law 1199 = .ok (.aload_n 0, 1) := by decide +kernel
theorem dL_law_1200 : decode cL_law 1200 = .ok (.iload_n 3, 1) := by decide +kernel
theorem dL_law_1201 : decode cL_law 1201 = .ok (.iconst 4, 1) := by decide +kernel
theorem dL_law_1202 : decode cL_law 1202 = .ok (.iadd, 1) := by decide +kernel
theorem dL_law_1203 : decode cL_law 1203 = .ok (.iaload, 1) := by decide +kernel
theorem dL_law_1204 : decode cL_law 1204 = .ok (.aload_n 0, 1) := by decide +kernel
theorem dL_law_1205 : decode cL_law 1205 = .ok (.iload_n 3, 1) := by decide +kernel
theorem dL_law_1206 : decode cL_law 1206 = .ok (.iconst 5, 1) := by decide +kernel
theorem dL_law_1207 : decode cL_law 1207 = .ok (.iadd, 1) := by decide +kernel
theorem dL_law_1208 : decode cL_law 1208 = .ok (.iaload, 1) := by decide +kernel
theorem dL_law_1209 : decode cL_law 1209 = .ok (.invokevirtual 155, 3) := by decide +kernel
theorem dL_law_1212 : decode cL_law 1212 = .ok (.aload_n 2, 1) := by decide +kernel
theorem dL_law_1213 : decode cL_law 1213 = .ok (.aload_n 0, 1) := by decide +kernel
theorem dL_law_1214 : decode cL_law 1214 = .ok (.iload_n 3, 1) := by decide +kernel
theorem dL_law_1215 : decode cL_law 1215 = .ok (.iconst 1, 1) := by decide +kernel
theorem dL_law_1216 : decode cL_law 1216 = .ok (.iadd, 1) := by decide +kernel
theorem dL_law_1217 : decode cL_law 1217 = .ok (.iaload, 1) := by decide +kernel
theorem dL_law_1218 : decode cL_law 1218 = .ok (.aload_n 0, 1) := by decide +kernel
theorem dL_law_1219 : decode cL_law 1219 = .ok (.iload_n 3, 1) := by decide +kernel
theorem dL_law_1220 : decode cL_law 1220 = .ok (.iconst 2, 1) := by decide +kernel
theorem dL_law_1221 : decode cL_law 1221 = .ok (.iadd, 1) := by decide +kernel
theorem dL_law_1222 : decode cL_law 1222 = .ok (.iaload, 1) := by decide +kernel
theorem dL_law_1223 : decode cL_law 1223 = .ok (.aload_n 0, 1) := by decide +kernel
theorem dL_law_1224 : decode cL_law 1224 = .ok (.iload_n 3, 1) := by decide +kernel
theorem dL_law_1225 : decode cL_law 1225 = .ok (.iconst 3, 1) := by decide +kernel
theorem dL_law_1226 : decode cL_law 1226 = .ok (.iadd, 1) := by decide +kernel
theorem dL_law_1227 : decode cL_law 1227 = .ok (.iaload, 1) := by decide +kernel
theorem dL_law_1228 : decode cL_law 1228 = .ok (.aload_n 0, 1) := by decide +kernel
theorem dL_law_1229 : decode cL_law 1229 = .ok (.iload_n 3, 1) := by decide +kernel
theorem dL_law_1230 : decode cL_law 1230 = .ok (.iconst 4, 1) := by decide +kernel
theorem dL_law_1231 : decode cL_law 1231 = .ok (.iadd, 1) := by decide +kernel
theorem dL_law_1232 : decode cL_law 1232 = .ok (.iaload, 1) := by decide +kernel
theorem dL_law_1233 : decode cL_law 1233 = .ok (.aload_n 0, 1) := by decide +kernel
theorem dL_law_1234 : decode cL_law 1234 = .ok (.iload_n 3, 1) := by decide +kernel
theorem dL_law_1235 : decode cL_law 1235 = .ok (.iconst 5, 1) := by decide +kernel
theorem dL_law_1236 : decode cL_law 1236 = .ok (.iadd, 1) := by decide +kernel
theorem dL_law_1237 : decode cL_law 1237 = .ok (.iaload, 1) := by decide +kernel
theorem dL_law_1238 : decode cL_law 1238 = .ok (.invokevirtual 159, 3) := by decide +kernel
theorem dL_law_1241 : decode cL_law 1241 = .ok (.if_icmp .eq 75, 3) := by decide +kernel
theorem dL_law_1244 : decode cL_law 1244 = .ok (.iconst 0, 1) := by decide +kernel
theorem dL_law_1245 : decode cL_law 1245 = .ok (.ireturn, 1) := by decide +kernel
theorem dL_law_1246 : decode cL_law 1246 = .ok (.aload_n 1, 1) := by decide +kernel
theorem dL_law_1247 : decode cL_law 1247 = .ok (.aload_n 0, 1) := by decide +kernel
theorem dL_law_1248 : decode cL_law 1248 = .ok (.iload_n 3, 1) := by decide +kernel
theorem dL_law_1249 : decode cL_law 1249 = .ok (.iconst 1, 1) := by decide +kernel
theorem dL_law_1250 : decode cL_law 1250 = .ok (.iadd, 1) := by decide +kernel
theorem dL_law_1251 : decode cL_law 1251 = .ok (.iaload, 1) := by decide +kernel
theorem dL_law_1252 : decode cL_law 1252 = .ok (.aload_n 0, 1) := by decide +kernel
theorem dL_law_1253 : decode cL_law 1253 = .ok (.iload_n 3, 1) := by decide +kernel
theorem dL_law_1254 : decode cL_law 1254 = .ok (.iconst 2, 1) := by decide +kernel
theorem dL_law_1255 : decode cL_law 1255 = .ok (.iadd, 1) := by decide +kernel
theorem dL_law_1256 : decode cL_law 1256 = .ok (.iaload, 1) := by decide +kernel
theorem dL_law_1257 : decode cL_law 1257 = .ok (.invokevirtual 160, 3) := by decide +kernel
theorem dL_law_1260 : decode cL_law 1260 = .ok (.aload_n 2, 1) := by decide +kernel
theorem dL_law_1261 : decode cL_law 1261 = .ok (.aload_n 0, 1) := by decide +kernel
theorem dL_law_1262 : decode cL_law 1262 = .ok (.iload_n 3, 1) := by decide +kernel
theorem dL_law_1263 : decode cL_law 1263 = .ok (.iconst 1, 1) := by decide +kernel
theorem dL_law_1264 : decode cL_law 1264 = .ok (.iadd, 1) := by decide +kernel
theorem dL_law_1265 : decode cL_law 1265 = .ok (.iaload, 1) := by decide +kernel
theorem dL_law_1266 : decode cL_law 1266 = .ok (.aload_n 0, 1) := by decide +kernel
theorem dL_law_1267 : decode cL_law 1267 = .ok (.iload_n 3, 1) := by decide +kernel
theorem dL_law_1268 : decode cL_law 1268 = .ok (.iconst 2, 1) := by decide +kernel
theorem dL_law_1269 : decode cL_law 1269 = .ok (.iadd, 1) := by decide +kernel
theorem dL_law_1270 : decode cL_law 1270 = .ok (.iaload, 1) := by decide +kernel
theorem dL_law_1271 : decode cL_law 1271 = .ok (.invokevirtual 163, 3) := by decide +kernel
theorem dL_law_1274 : decode cL_law 1274 = .ok (.if_icmp .eq 42, 3) := by decide +kernel
theorem dL_law_1277 : decode cL_law 1277 = .ok (.iconst 0, 1) := by decide +kernel
theorem dL_law_1278 : decode cL_law 1278 = .ok (.ireturn, 1) := by decide +kernel
theorem dL_law_1279 : decode cL_law 1279 = .ok (.aload_n 1, 1) := by decide +kernel
theorem dL_law_1280 : decode cL_law 1280 = .ok (.aload_n 0, 1) := by decide +kernel
theorem dL_law_1281 : decode cL_law 1281 = .ok (.iload_n 3, 1) := by decide +kernel
theorem dL_law_1282 : decode cL_law 1282 = .ok (.iconst 1, 1) := by decide +kernel
theorem dL_law_1283 : decode cL_law 1283 = .ok (.iadd, 1) := by decide +kernel
theorem dL_law_1284 : decode cL_law 1284 = .ok (.iaload, 1) := by decide +kernel
theorem dL_law_1285 : decode cL_law 1285 = .ok (.invokevirtual 164, 3) := by decide +kernel
theorem dL_law_1288 : decode cL_law 1288 = .ok (.aload_n 2, 1) := by decide +kernel
theorem dL_law_1289 : decode cL_law 1289 = .ok (.aload_n 0, 1) := by decide +kernel
theorem dL_law_1290 : decode cL_law 1290 = .ok (.iload_n 3, 1) := by decide +kernel
theorem dL_law_1291 : decode cL_law 1291 = .ok (.iconst 1, 1) := by decide +kernel
theorem dL_law_1292 : decode cL_law 1292 = .ok (.iadd, 1) := by decide +kernel
theorem dL_law_1293 : decode cL_law 1293 = .ok (.iaload, 1) := by decide +kernel
theorem dL_law_1294 : decode cL_law 1294 = .ok (.invokevirtual 167, 3) := by decide +kernel
theorem dL_law_1297 : decode cL_law 1297 = .ok (.if_icmp .eq 19, 3) := by decide +kernel
theorem dL_law_1300 : decode cL_law 1300 = .ok (.iconst 0, 1) := by decide +kernel
theorem dL_law_1301 : decode cL_law 1301 = .ok (.ireturn, 1) := by decide +kernel
theorem dL_law_1302 : decode cL_law 1302 = .ok (.aload_n 1, 1) := by decide +kernel
theorem dL_law_1303 : decode cL_law 1303 = .ok (.invokevirtual 168, 3) := by decide +kernel
theorem dL_law_1306 : decode cL_law 1306 = .ok (.aload_n 2, 1) := by decide +kernel
theorem dL_law_1307 : decode cL_law 1307 = .ok (.invokevirtual 172, 3) := by decide +kernel
theorem dL_law_1310 : decode cL_law 1310 = .ok (.lcmp, 1) := by decide +kernel
theorem dL_law_1311 : decode cL_law 1311 = .ok (.ifCond .eq 5, 3) := by decide +kernel
theorem dL_law_1314 : decode cL_law 1314 = .ok (.iconst 0, 1) := by decide +kernel
theorem dL_law_1315 : decode cL_law 1315 = .ok (.ireturn, 1) := by decide +kernel
theorem dL_law_1316 : decode cL_law 1316 = .ok (.iinc 3 6, 3) := by decide +kernel
theorem dL_law_1319 : decode cL_law 1319 = .ok (.goto (-1301), 3) := by decide +kernel
theorem dL_law_1322 : decode cL_law 1322 = .ok (.iconst 1, 1) := by decide +kernel
theorem dL_law_1323 : decode cL_law 1323 = .ok (.ireturn, 1) := by decide +kernel
end
section
-- the cells as the constructors lay them: a kind (below 100 the class number, 100 int row, 101 boolean row, 102 row of int rows), and what it holds: of an object a number a field (0: a number; r + 1: cell r), of a row its length, of a row of rows the rows
def gk_sk_0 : List (Nat × List Nat) := [(7, [2, 4, 6, 8, 12, 16, 20, 24, 26, 28, 30, 32, 43, 67, 91, 0, 0, 0]), (5, [3, 0, 0]), (100, [47]), (5, [5, 0, 0]), (100, [47]), (5, [7, 0, 0]), (100, [47]), (6, [1001, 0, 0, 9, 10, 11, 0, 0]), (100, [12]), (100, [12]), (100, [12]), (6, [1002, 0, 0, 13, 14, 15, 0, 0]), (100, [12]), (100, [12]), (100, [12]), (0, [17, 18, 19, 0]), (100, [8]), (100, [8]), (100, [8]), (4, [21, 22, 23, 0]), (100, [8]), (100, [8]), (100, [8]), (3, [25, 0, 0, 0]), (100, [60]), (3, [27, 0, 0, 0]), (100, [60])]
def gk_sk_1 : List (Nat × List Nat) := [(3, [29, 0, 0, 0]), (100, [60]), (3, [31, 0, 0, 0]), (100, [60]), (1, [0, 33, 34, 35, 36, 37, 40, 41, 42]), (100, [6]), (100, [6]), (100, [6]), (100, [6]), (102, [37, 38]), (100, [24]), (100, [24]), (100, [24]), (101, [24]), (101, [24]), (2, [44, 51, 58, 61, 62, 63, 64, 65, 66, 0, 0, 0, 0]), (102, [44, 45, 46, 47, 48, 49]), (100, [24]), (100, [24]), (100, [24]), (100, [24]), (100, [24]), (100, [24]), (102, [51, 52, 53, 54, 55, 56]), (100, [24]), (100, [24]), (100, [24])]
def gk_sk_2 : List (Nat × List Nat) := [(100, [24]), (100, [24]), (100, [24]), (102, [58, 59]), (100, [24]), (100, [24]), (100, [24]), (100, [6]), (100, [6]), (100, [6]), (100, [2]), (100, [2]), (2, [68, 75, 82, 85, 86, 87, 88, 89, 90, 0, 0, 0, 0]), (102, [68, 69, 70, 71, 72, 73]), (100, [24]), (100, [24]), (100, [24]), (100, [24]), (100, [24]), (100, [24]), (102, [75, 76, 77, 78, 79, 80]), (100, [24]), (100, [24]), (100, [24]), (100, [24]), (100, [24]), (100, [24])]
def gk_sk_3 : List (Nat × List Nat) := [(102, [82, 83]), (100, [24]), (100, [24]), (100, [24]), (100, [6]), (100, [6]), (100, [6]), (100, [2]), (100, [2]), (102, [91, 92, 93, 94, 95, 96, 97, 98, 99, 100]), (100, [24]), (100, [24]), (100, [24]), (100, [24]), (100, [24]), (100, [24]), (100, [24]), (100, [24]), (100, [24]), (100, [24]), (8, [103, 104, 0, 105, 106, 107, 0, 108, 109, 110, 0, 111, 0, 112, 113, 114, 115, 0, 0, 0, 0, 116, 117, 118, 0, 119, 120, 0, 0, 0, 0, 121, 122, 123, 124, 125, 126, 0, 127, 128, 129, 130, 131, 132, 133, 134, 135, 0]), (100, [3]), (100, [141]), (100, [7]), (100, [7]), (100, [7]), (100, [13])]
def gk_sk_4 : List (Nat × List Nat) := [(100, [13]), (100, [13]), (100, [24]), (100, [8]), (100, [8]), (100, [8]), (100, [24]), (100, [6]), (100, [6]), (100, [6]), (100, [2]), (100, [2]), (100, [48]), (100, [24]), (100, [24]), (100, [144]), (100, [144]), (100, [2]), (100, [8]), (100, [8]), (100, [8]), (100, [240]), (101, [4]), (100, [4]), (100, [4]), (100, [240]), (100, [60])]
def gk_skL : List (Nat × List Nat) := (gk_sk_0 ++ (gk_sk_1 ++ (gk_sk_2 ++ (gk_sk_3 ++ gk_sk_4))))
def gk_N : Nat := 135
def gk_sk (i : Nat) : Nat × List Nat := gk_skL.getD i (999, [])
theorem gk_skN : gk_skL.length = gk_N := by decide +kernel
end
section
/-! THE LIGHT JUDGEMENT. The cells are those of gk_sk, for ever; what changes are numbers: mu (cell, place). Go: from this pc, these locals and stack, with these numbers, the method comes to its end with an answer and numbers of which Q holds. gk_CT: a method's contract, in the same words. -/
abbrev gk_St : Type := Nat → Nat → Int32
def gk_up (μ : gk_St) (a i : Nat) (x : Int32) : gk_St := fun b => if b = a then upd (μ a) i x else μ b
def gk_sa (μ : gk_St) (a : Nat) (f : Nat → Int32) : gk_St := fun b => if b = a then f else μ b
theorem gk_up_sa (μ : gk_St) (a i : Nat) (x : Int32) : gk_up μ a i x = gk_sa μ a (upd (μ a) i x) := rfl
def gk_isO (o c : Nat) : Prop := (gk_sk o).1 = c
def gk_rf (o k : Nat) : Nat := (gk_sk o).2.getD k 0 - 1
def gk_ln (a : Nat) : Nat := (gk_sk a).2.getD 0 0
def gk_rl (a : Nat) : Nat := (gk_sk a).2.length
def gk_rw (a i : Nat) : Nat := (gk_sk a).2.getD i 0
def gk_num (o k : Nat) : Prop := (gk_sk o).2[k]? = some 0
def gk_ref (o k : Nat) : Prop := ∃ r, (gk_sk o).2[k]? = some (r + 1)
def gk_b (x : Int32) : Prop := x = 0 ∨ x = 1
def gk_tr (α : Nat → Nat) (v : Value) : Value := match v with
  | .ref i => .ref (α i)
  | v => v
theorem gk_tr_cat (α : Nat → Nat) (v : Value) : (gk_tr α v).category = v.category := by cases v <;> rfl
def gk_ce (α : Nat → Nat) (cI cB cR : ClassId) (k : Nat × List Nat) (f : Nat → Int32) : va_E :=
  if k.1 = 100 then .inl (cI, k.2.getD 0 0, .inl f) else if k.1 = 101 then .inl (cB, k.2.getD 0 0, .inl f) else if k.1 = 102 then .inl (cR, k.2.length, .inr (.inr (.inr (.inr (fun i => (k.2[i]?).map α))))) else .inr (k.1, k.2.mapIdx (fun j r => if r = 0 then Value.int (f j) else Value.ref (α (r - 1))))
def gk_ws (α : Nat → Nat) (cI cB cR : ClassId) (μ : gk_St) : va_W := (List.range gk_N).map (fun i => (α i, gk_ce α cI cB cR (gk_sk i) (μ i)))
theorem gk_ws_get {α : Nat → Nat} {cI cB cR : ClassId} {μ : gk_St} {o : Nat} (h : o < gk_N) : (gk_ws α cI cB cR μ)[o]? = some (α o, gk_ce α cI cB cR (gk_sk o) (μ o)) := by
  unfold gk_ws
  rw [List.getElem?_map, List.getElem?_range h]
  rfl
theorem gk_ws_lt {α : Nat → Nat} {cI cB cR : ClassId} {μ : gk_St} {k : Nat} {q : Nat × va_E} (h : (gk_ws α cI cB cR μ)[k]? = some q) : k < gk_N ∧ q.1 = α k := by
  unfold gk_ws at h
  rw [List.getElem?_map] at h
  by_cases hk : k < gk_N
  · rw [List.getElem?_range hk] at h
    cases h
    exact ⟨hk, rfl⟩
  · rw [List.getElem?_eq_none (by rw [List.length_range]; omega)] at h
    cases h
theorem gk_ws_set {α : Nat → Nat} {cI cB cR : ClassId} {μ : gk_St} {o : Nat} {g : Nat → Int32} {e : Nat × va_E} (h : o < gk_N) (he : e = (α o, gk_ce α cI cB cR (gk_sk o) g)) : (gk_ws α cI cB cR μ).set o e = gk_ws α cI cB cR (gk_sa μ o g) := by
  subst he
  apply List.ext_getElem?
  intro k
  rw [List.getElem?_set]
  by_cases hk : k < gk_N
  · rw [gk_ws_get hk, gk_ws_get hk]
    by_cases e : o = k
    · subst e
      have : o < (gk_ws α cI cB cR μ).length := by unfold gk_ws; rw [List.length_map, List.length_range]; exact h
      simp [this, gk_sa]
    · have e2 : ¬ k = o := fun q => e q.symm
      simp [e, gk_sa, e2]
  · have e : ¬ o = k := fun q => hk (q ▸ h)
    have n1 : (gk_ws α cI cB cR μ)[k]? = none := List.getElem?_eq_none (by unfold gk_ws; rw [List.length_map, List.length_range]; omega)
    have n2 : (gk_ws α cI cB cR (gk_sa μ o g))[k]? = none := List.getElem?_eq_none (by unfold gk_ws; rw [List.length_map, List.length_range]; omega)
    simp [e, n1, n2]
theorem gk_lt {o : Nat} (h : (gk_sk o).1 ≠ 999) : o < gk_N := by
  rcases Nat.lt_or_ge o gk_N with q | q
  · exact q
  · exfalso
    apply h
    unfold gk_sk
    rw [List.getD_eq_getElem?_getD, List.getElem?_eq_none (by rw [gk_skN]; exact q)]
    rfl
theorem gk_ce_o {α : Nat → Nat} {cI cB cR : ClassId} {o c : Nat} {f : Nat → Int32} (h : gk_isO o c) (hc : c < 100) : gk_ce α cI cB cR (gk_sk o) f = .inr (c, (gk_sk o).2.mapIdx (fun j r => if r = 0 then Value.int (f j) else Value.ref (α (r - 1)))) := by
  unfold gk_isO at h
  unfold gk_ce
  rw [h, if_neg (by omega), if_neg (by omega), if_neg (by omega)]
theorem gk_ce_i {α : Nat → Nat} {cI cB cR : ClassId} {a : Nat} {f : Nat → Int32} (h : gk_isO a 100) : gk_ce α cI cB cR (gk_sk a) f = .inl (cI, gk_ln a, .inl f) := by
  unfold gk_isO at h
  unfold gk_ce
  rw [h, if_pos rfl]
  rfl
theorem gk_ce_b {α : Nat → Nat} {cI cB cR : ClassId} {a : Nat} {f : Nat → Int32} (h : gk_isO a 101) : gk_ce α cI cB cR (gk_sk a) f = .inl (cB, gk_ln a, .inl f) := by
  unfold gk_isO at h
  unfold gk_ce
  rw [h, if_neg (by decide), if_pos rfl]
  rfl
theorem gk_ce_r {α : Nat → Nat} {cI cB cR : ClassId} {a : Nat} {f : Nat → Int32} (h : gk_isO a 102) : gk_ce α cI cB cR (gk_sk a) f = .inl (cR, gk_rl a, .inr (.inr (.inr (.inr (fun i => ((gk_sk a).2[i]?).map α))))) := by
  unfold gk_isO at h
  unfold gk_ce
  rw [h, if_neg (by decide), if_neg (by decide), if_pos rfl]
  rfl
/-- which cells may change -/
def gk_A (α : Nat → Nat) (sz : Nat) : Nat → Prop := fun q => (∃ i, i < gk_N ∧ α i = q) ∨ sz ≤ q
/-- what was there before the law began: unchanged; the two texts -/
def gk_RO (s0 : State) (a0 : Array Value) (α : Nat → Nat) (U : State) (H : Heap) : Prop :=
  (Jvm.Cond.and given_1 narrow_1).before a0 s0 = true ∧ s0.vm.Alike U.vm ∧ s0.heap.size ≤ H.size ∧ (∀ q : Nat, q < s0.heap.size → H[q]? = s0.heap[q]?) ∧ (∀ i, i < gk_N → s0.heap.size ≤ α i) ∧ (Term.string "CableCars" 26).eval #[] s0 none [] s0 = some (.ref (α 1000)) ∧ (Term.string "CableCars" 35).eval #[] s0 none [] s0 = some (.ref (α 1001))
theorem gk_RO.moved {s0 : State} {a0 : Array Value} {α : Nat → Nat} {u U : State} {H : Heap} (hvm : u.vm.Alike U.vm) (h : gk_RO s0 a0 α u H) : gk_RO s0 a0 α U H := ⟨h.1, h.2.1.trans hvm, h.2.2⟩
theorem gk_RO.kept {s0 : State} {a0 : Array Value} {α : Nat → Nat} {U : State} {H0 H : Heap} {locs : List Loc} (h : gk_RO s0 a0 α U H0) (hS : va_S (gk_A α H0.size) H0 H locs) : gk_RO s0 a0 α U H := by
  obtain ⟨h1, h2, h3, h4, h5, h6⟩ := h
  refine ⟨h1, h2, Nat.le_trans h3 hS.1, fun q hq => ?_, h5, h6⟩
  rw [hS.2.1 q (Nat.lt_of_lt_of_le hq h3) (fun z => ?_)]
  · exact h4 q hq
  · rcases z with ⟨i, hi, e⟩ | z
    · have := h5 i hi
      omega
    · omega
abbrev gk_tys (cI cB cR : ClassId) : List (ClassId × FieldType) := [(cI, .int), (cB, .boolean), (cR, .array .int)]
def gk_rm (d : Nat) : Room := { frames := d, cells := 0, slots := 0, locals := 40 * d }
def gk_Env (own : String) (cc : ByteArray) (mL : Nat) (ret : Option FieldType) (D : va_G) (α : Nat → Nat) (cI cB cR : ClassId) (s0 : State) (a0 : Array Value) (p : Program) (s : State) (m : MethodId) (args : Array Value) (meth : Method) (c : Code) : Prop :=
  p.tables.exec = Jvm.exec ∧ c.code = cc ∧ c.maxLocals = mL ∧ meth.sig.returnType = ret ∧ meth.locks = false ∧ s.vm.findClass own = some m.cls ∧ (∀ w ∈ gk_tb, w.before args s = true) ∧ va_K D vwCl (gk_tys cI cB cR) s ∧ gk_RO s0 a0 α s s.heap
def gk_H (D : va_G) (α : Nat → Nat) (cI cB cR : ClassId) (μ : gk_St) (s : State) (H : Heap) (locs : List Loc) : Prop :=
  va_P D vwCl (gk_ws α cI cB cR μ) H ∧ va_D (gk_A α s.heap.size) (gk_ws α cI cB cR μ) ∧ va_S (gk_A α s.heap.size) s.heap H locs
def gk_Qc (D : va_G) (α : Nat → Nat) (cI cB cR : ClassId) (sz : Nat) (Q : Option Value → gk_St → Prop) : Array Value → State → Outcome → State → Prop := fun _ st o t =>
  (∃ (r : Option Value) (μ : gk_St), o = .returned (r.map (gk_tr α)) ∧ Q r μ ∧ va_P D vwCl (gk_ws α cI cB cR μ) t.heap ∧ va_K D vwCl (gk_tys cI cB cR) t ∧ va_D (gk_A α sz) (gk_ws α cI cB cR μ)) ∧ va_F (gk_A α sz) st t
def Go (own : String) (cc : ByteArray) (mL : Nat) (ret : Option FieldType) (d pc : Nat) (lv : List (Nat × Value)) (st : List Value) (μ : gk_St) (Q : Option Value → gk_St → Prop) : Prop :=
  ∀ (p : Program) (l : Launch) (e : Env) (s : State) (m : MethodId) (args : Array Value) (below : List Frame) (meth : Method) (c : Code) (D : va_G) (α : Nat → Nat) (cI cB cR : ClassId) (s0 : State) (a0 : Array Value) (H : Heap) (locs : List Loc) (ls : Array Slot),
    gk_Env own cc mL ret D α cI cB cR s0 a0 p s m args meth c → gk_H D α cI cB cR μ s H locs → lv_has ls mL (lv.map (fun q => (q.1, gk_tr α q.2))) →
    W p l e (gk_rm d) s m args below meth c H locs 0 0 (MQ below (gk_Qc D α cI cB cR s.heap.size Q) args s 0 0 (gk_A α s.heap.size)) (F0 m pc ls (st.map (gk_tr α)))
def gk_Pc (D : va_G) (α : Nat → Nat) (cI cB cR : ClassId) (s0 : State) (a0 : Array Value) (sz : Nat) (avs : List Value) (μ : gk_St) : Array Value → State → Prop :=
  va_Pc (avs.map (gk_tr α)) (fun U => U.heap.size = sz ∧ va_P D vwCl (gk_ws α cI cB cR μ) U.heap ∧ va_K D vwCl (gk_tys cI cB cR) U ∧ va_D (fun _ => True) (gk_ws α cI cB cR μ) ∧ gk_RO s0 a0 α U U.heap)
def gk_CT (y : MethodName) (cc : ByteArray) (mL : Nat) (ret : Option FieldType) (d : Nat) (avs : List Value) (μ : gk_St) (Q : Option Value → gk_St → Prop) : Prop :=
  ∀ (l : Launch) (D : va_G) (α : Nat → Nat) (cI cB cR : ClassId) (s0 : State) (a0 : Array Value) (sz : Nat),
    Met l y (Cond.code y cc mL ret :: gk_tb) (gk_rm d) (gk_Pc D α cI cB cR s0 a0 sz avs μ) (gk_Qc D α cI cB cR sz Q) 0 0 (gk_A α sz)
theorem gk_lv_args (α : Nat → Nat) : ∀ (vs : List Value) (i : Nat), lv_args i (vs.map (gk_tr α)) = (lv_args i vs).map (fun q => (q.1, gk_tr α q.2))
  | [], _ => rfl
  | v :: vs, i => by
    simp only [List.map_cons, lv_args, gk_tr_cat]
    rw [gk_lv_args α vs]
theorem gk_sl_len (α : Nat → Nat) : ∀ (vs : List Value), (lg_sl (vs.map (gk_tr α))).length = (lg_sl vs).length
  | [] => rfl
  | v :: vs => by
    have := gk_sl_len α vs
    unfold lg_sl at this ⊢
    simp only [List.map_cons, List.flatMap_cons, List.length_append, gk_tr_cat, this]
    by_cases h : v.category = 2 <;> simp [h]
theorem gk_D_true {α : Nat → Nat} {cI cB cR : ClassId} {μ : gk_St} {A : Nat → Prop} {sz : Nat} (h : va_D A (gk_ws α cI cB cR μ)) : va_D (gk_A α sz) (gk_ws α cI cB cR μ) :=
  ⟨h.1, fun k q hk => by
    obtain ⟨h1, h2⟩ := gk_ws_lt hk
    exact Or.inl ⟨k, h1, h2.symm⟩⟩
/-- a contract out of a walk from the entry -/
theorem gk_enter {y : MethodName} {cc : ByteArray} {mL : Nat} {ret : Option FieldType} {d : Nat} {avs : List Value} {μ : gk_St} {Q : Option Value → gk_St → Prop} (hy : plainName y.cls = true) (hlen : (lg_sl avs).length ≤ mL) (k : Go y.cls cc mL ret d 0 (lv_args 0 avs) [] μ Q) : gk_CT y cc mL ret d avs μ Q := by
  intro l D α cI cB cR s0 a0 sz
  refine Met.ofW (cc := cc) (maxL := mL) (ret := ret) hy rfl ?_
  intro p e s m args below meth c s₁ B hml hv
  obtain ⟨rfl, hsz, hP, hK, hD0, hRO⟩ := hv
  have hts := atoms_spec (ws := Cond.code y cc mL ret :: gk_tb) B.pre
  subst hsz
  have hl := lv_entry (avs.map (gk_tr α)) (n := mL) (by rw [gk_sl_len]; exact hlen)
  rw [lg_entry_eq]
  rw [gk_lv_args] at hl
  exact k p l e s m _ below meth c D α cI cB cR s0 a0 s.heap [] _ ⟨B.exec, B.bytes, hml, B.returns, B.notSynchronized, findClass_of_methodNamed B.named, fun w hw => hts w (List.mem_cons_of_mem _ hw), hK, hRO⟩ ⟨hP, gk_D_true hD0, va_S.rf⟩ hl
end
section
section GoRules
variable {own : String} {cc : ByteArray} {mL : Nat} {ret : Option FieldType} {d pc : Nat} {lv : List (Nat × Value)} {rest : List Value} {μ : gk_St} {Q : Option Value → gk_St → Prop}
theorem go_iadd {x y : Int32} (hd : decode cc pc = .ok (.iadd, 1)) (k : Go own cc mL ret d (pc + 1) lv (.int (x + y) :: rest) μ Q) : Go own cc mL ret d pc lv (.int y :: .int x :: rest) μ Q := by
  intro p l e s m args below meth c D α cI cB cR s0 a0 H locs ls hE hH hl
  exact lv_iadd hE.1 hE.2.1 hd (k p l e s m args below meth c D α cI cB cR s0 a0 H locs ls hE hH hl)
theorem go_isub {x y : Int32} (hd : decode cc pc = .ok (.isub, 1)) (k : Go own cc mL ret d (pc + 1) lv (.int (x - y) :: rest) μ Q) : Go own cc mL ret d pc lv (.int y :: .int x :: rest) μ Q := by
  intro p l e s m args below meth c D α cI cB cR s0 a0 H locs ls hE hH hl
  exact lv_isub hE.1 hE.2.1 hd (k p l e s m args below meth c D α cI cB cR s0 a0 H locs ls hE hH hl)
theorem go_imul {x y : Int32} (hd : decode cc pc = .ok (.imul, 1)) (k : Go own cc mL ret d (pc + 1) lv (.int (x * y) :: rest) μ Q) : Go own cc mL ret d pc lv (.int y :: .int x :: rest) μ Q := by
  intro p l e s m args below meth c D α cI cB cR s0 a0 H locs ls hE hH hl
  exact lv_imul hE.1 hE.2.1 hd (k p l e s m args below meth c D α cI cB cR s0 a0 H locs ls hE hH hl)
theorem go_iand {x y : Int32} (hd : decode cc pc = .ok (.iand, 1)) (k : Go own cc mL ret d (pc + 1) lv (.int (x &&& y) :: rest) μ Q) : Go own cc mL ret d pc lv (.int y :: .int x :: rest) μ Q := by
  intro p l e s m args below meth c D α cI cB cR s0 a0 H locs ls hE hH hl
  exact lv_iand hE.1 hE.2.1 hd (k p l e s m args below meth c D α cI cB cR s0 a0 H locs ls hE hH hl)
theorem go_ior {x y : Int32} (hd : decode cc pc = .ok (.ior, 1)) (k : Go own cc mL ret d (pc + 1) lv (.int (x ||| y) :: rest) μ Q) : Go own cc mL ret d pc lv (.int y :: .int x :: rest) μ Q := by
  intro p l e s m args below meth c D α cI cB cR s0 a0 H locs ls hE hH hl
  exact lv_ior hE.1 hE.2.1 hd (k p l e s m args below meth c D α cI cB cR s0 a0 H locs ls hE hH hl)
theorem go_ixor {x y : Int32} (hd : decode cc pc = .ok (.ixor, 1)) (k : Go own cc mL ret d (pc + 1) lv (.int (x ^^^ y) :: rest) μ Q) : Go own cc mL ret d pc lv (.int y :: .int x :: rest) μ Q := by
  intro p l e s m args below meth c D α cI cB cR s0 a0 H locs ls hE hH hl
  exact lv_ixor hE.1 hE.2.1 hd (k p l e s m args below meth c D α cI cB cR s0 a0 H locs ls hE hH hl)
theorem go_ishl {x y : Int32} (hd : decode cc pc = .ok (.ishl, 1)) (k : Go own cc mL ret d (pc + 1) lv (.int (x <<< (y &&& 31)) :: rest) μ Q) : Go own cc mL ret d pc lv (.int y :: .int x :: rest) μ Q := by
  intro p l e s m args below meth c D α cI cB cR s0 a0 H locs ls hE hH hl
  exact lv_ishl hE.1 hE.2.1 hd (k p l e s m args below meth c D α cI cB cR s0 a0 H locs ls hE hH hl)
theorem go_ishr {x y : Int32} (hd : decode cc pc = .ok (.ishr, 1)) (k : Go own cc mL ret d (pc + 1) lv (.int (x >>> (y &&& 31)) :: rest) μ Q) : Go own cc mL ret d pc lv (.int y :: .int x :: rest) μ Q := by
  intro p l e s m args below meth c D α cI cB cR s0 a0 H locs ls hE hH hl
  exact lv_ishr hE.1 hE.2.1 hd (k p l e s m args below meth c D α cI cB cR s0 a0 H locs ls hE hH hl)
theorem go_iushr {x y : Int32} (hd : decode cc pc = .ok (.iushr, 1)) (k : Go own cc mL ret d (pc + 1) lv (.int ((x.toUInt32 >>> (y.toUInt32 &&& Int32.toUInt32 31)).toInt32) :: rest) μ Q) : Go own cc mL ret d pc lv (.int y :: .int x :: rest) μ Q := by
  intro p l e s m args below meth c D α cI cB cR s0 a0 H locs ls hE hH hl
  exact lv_iushr hE.1 hE.2.1 hd rfl (k p l e s m args below meth c D α cI cB cR s0 a0 H locs ls hE hH hl)
theorem go_idiv {x y : Int32} (hd : decode cc pc = .ok (.idiv, 1)) (hne : ¬ y = 0) (k : Go own cc mL ret d (pc + 1) lv (.int (x / y) :: rest) μ Q) : Go own cc mL ret d pc lv (.int y :: .int x :: rest) μ Q := by
  intro p l e s m args below meth c D α cI cB cR s0 a0 H locs ls hE hH hl
  exact lv_idiv hE.1 hE.2.1 hd hne (k p l e s m args below meth c D α cI cB cR s0 a0 H locs ls hE hH hl)
theorem go_irem {x y : Int32} (hd : decode cc pc = .ok (.irem, 1)) (hne : ¬ y = 0) (k : Go own cc mL ret d (pc + 1) lv (.int (x - x / y * y) :: rest) μ Q) : Go own cc mL ret d pc lv (.int y :: .int x :: rest) μ Q := by
  intro p l e s m args below meth c D α cI cB cR s0 a0 H locs ls hE hH hl
  exact lv_irem hE.1 hE.2.1 hd hne (k p l e s m args below meth c D α cI cB cR s0 a0 H locs ls hE hH hl)
theorem go_ineg {x : Int32} (hd : decode cc pc = .ok (.ineg, 1)) (k : Go own cc mL ret d (pc + 1) lv (.int (-x) :: rest) μ Q) : Go own cc mL ret d pc lv (.int x :: rest) μ Q := by
  intro p l e s m args below meth c D α cI cB cR s0 a0 H locs ls hE hH hl
  exact lv_ineg hE.1 hE.2.1 hd (k p l e s m args below meth c D α cI cB cR s0 a0 H locs ls hE hH hl)
theorem go_ladd {x y : Int64} (hd : decode cc pc = .ok (.ladd, 1)) (k : Go own cc mL ret d (pc + 1) lv (.long (x + y) :: rest) μ Q) : Go own cc mL ret d pc lv (.long y :: .long x :: rest) μ Q := by
  intro p l e s m args below meth c D α cI cB cR s0 a0 H locs ls hE hH hl
  exact lv_ladd hE.1 hE.2.1 hd (k p l e s m args below meth c D α cI cB cR s0 a0 H locs ls hE hH hl)
theorem go_lsub {x y : Int64} (hd : decode cc pc = .ok (.lsub, 1)) (k : Go own cc mL ret d (pc + 1) lv (.long (x - y) :: rest) μ Q) : Go own cc mL ret d pc lv (.long y :: .long x :: rest) μ Q := by
  intro p l e s m args below meth c D α cI cB cR s0 a0 H locs ls hE hH hl
  exact lv_lsub hE.1 hE.2.1 hd (k p l e s m args below meth c D α cI cB cR s0 a0 H locs ls hE hH hl)
theorem go_lmul {x y : Int64} (hd : decode cc pc = .ok (.lmul, 1)) (k : Go own cc mL ret d (pc + 1) lv (.long (x * y) :: rest) μ Q) : Go own cc mL ret d pc lv (.long y :: .long x :: rest) μ Q := by
  intro p l e s m args below meth c D α cI cB cR s0 a0 H locs ls hE hH hl
  exact lv_lmul hE.1 hE.2.1 hd (k p l e s m args below meth c D α cI cB cR s0 a0 H locs ls hE hH hl)
theorem go_ldiv {x y : Int64} (hd : decode cc pc = .ok (.ldiv, 1)) (hne : ¬ y = 0) (k : Go own cc mL ret d (pc + 1) lv (.long (x / y) :: rest) μ Q) : Go own cc mL ret d pc lv (.long y :: .long x :: rest) μ Q := by
  intro p l e s m args below meth c D α cI cB cR s0 a0 H locs ls hE hH hl
  exact lv_ldiv hE.1 hE.2.1 hd hne (k p l e s m args below meth c D α cI cB cR s0 a0 H locs ls hE hH hl)
theorem go_lrem {x y : Int64} (hd : decode cc pc = .ok (.lrem, 1)) (hne : ¬ y = 0) (k : Go own cc mL ret d (pc + 1) lv (.long (x - x / y * y) :: rest) μ Q) : Go own cc mL ret d pc lv (.long y :: .long x :: rest) μ Q := by
  intro p l e s m args below meth c D α cI cB cR s0 a0 H locs ls hE hH hl
  exact lv_lrem hE.1 hE.2.1 hd hne (k p l e s m args below meth c D α cI cB cR s0 a0 H locs ls hE hH hl)
theorem go_lshl {x : Int64} {y : Int32} (hd : decode cc pc = .ok (.lshl, 1)) (k : Go own cc mL ret d (pc + 1) lv (.long (x <<< (y.toInt64 &&& 63)) :: rest) μ Q) : Go own cc mL ret d pc lv (.int y :: .long x :: rest) μ Q := by
  intro p l e s m args below meth c D α cI cB cR s0 a0 H locs ls hE hH hl
  exact lv_lshl hE.1 hE.2.1 hd rfl (k p l e s m args below meth c D α cI cB cR s0 a0 H locs ls hE hH hl)
theorem go_i2l {x : Int32} (hd : decode cc pc = .ok (.i2l, 1)) (k : Go own cc mL ret d (pc + 1) lv (.long x.toInt64 :: rest) μ Q) : Go own cc mL ret d pc lv (.int x :: rest) μ Q := by
  intro p l e s m args below meth c D α cI cB cR s0 a0 H locs ls hE hH hl
  exact lv_i2l hE.1 hE.2.1 hd rfl (k p l e s m args below meth c D α cI cB cR s0 a0 H locs ls hE hH hl)
theorem go_i2b {x : Int32} (hd : decode cc pc = .ok (.i2b, 1)) (k : Go own cc mL ret d (pc + 1) lv (.int x.toInt8.toInt32 :: rest) μ Q) : Go own cc mL ret d pc lv (.int x :: rest) μ Q := by
  intro p l e s m args below meth c D α cI cB cR s0 a0 H locs ls hE hH hl
  exact lv_i2b hE.1 hE.2.1 hd rfl (k p l e s m args below meth c D α cI cB cR s0 a0 H locs ls hE hH hl)
theorem go_i2s {x : Int32} (hd : decode cc pc = .ok (.i2s, 1)) (k : Go own cc mL ret d (pc + 1) lv (.int x.toInt16.toInt32 :: rest) μ Q) : Go own cc mL ret d pc lv (.int x :: rest) μ Q := by
  intro p l e s m args below meth c D α cI cB cR s0 a0 H locs ls hE hH hl
  exact lv_i2s hE.1 hE.2.1 hd rfl (k p l e s m args below meth c D α cI cB cR s0 a0 H locs ls hE hH hl)
theorem go_i2c {x : Int32} (hd : decode cc pc = .ok (.i2c, 1)) (k : Go own cc mL ret d (pc + 1) lv (.int (x.toUInt32 % 65536).toInt32 :: rest) μ Q) : Go own cc mL ret d pc lv (.int x :: rest) μ Q := by
  intro p l e s m args below meth c D α cI cB cR s0 a0 H locs ls hE hH hl
  exact lv_i2c hE.1 hE.2.1 hd rfl (k p l e s m args below meth c D α cI cB cR s0 a0 H locs ls hE hH hl)
theorem go_lcmp {x y : Int64} (hd : decode cc pc = .ok (.lcmp, 1)) (k : Go own cc mL ret d (pc + 1) lv (.int (lg_cmp x y) :: rest) μ Q) : Go own cc mL ret d pc lv (.long y :: .long x :: rest) μ Q := by
  intro p l e s m args below meth c D α cI cB cR s0 a0 H locs ls hE hH hl
  exact W.lcmp hE.1 hE.2.1 hd (k p l e s m args below meth c D α cI cB cR s0 a0 H locs ls hE hH hl)
theorem go_iconst {n : Int} {v : Int32} (hd : decode cc pc = .ok (.iconst n, 1)) (hv : Int32.ofInt n = v) (k : Go own cc mL ret d (pc + 1) lv (.int v :: rest) μ Q) : Go own cc mL ret d pc lv rest μ Q := by
  intro p l e s m args below meth c D α cI cB cR s0 a0 H locs ls hE hH hl
  exact lv_iconst hE.1 hE.2.1 hd hv (k p l e s m args below meth c D α cI cB cR s0 a0 H locs ls hE hH hl)
theorem go_bipush {n : Int} {v : Int32} (hd : decode cc pc = .ok (.bipush n, 2)) (hv : (Int8.ofInt n).toInt32 = v) (k : Go own cc mL ret d (pc + 2) lv (.int v :: rest) μ Q) : Go own cc mL ret d pc lv rest μ Q := by
  intro p l e s m args below meth c D α cI cB cR s0 a0 H locs ls hE hH hl
  exact lv_bipush hE.1 hE.2.1 hd hv (k p l e s m args below meth c D α cI cB cR s0 a0 H locs ls hE hH hl)
theorem go_sipush {n : Int} {v : Int32} (hd : decode cc pc = .ok (.sipush n, 3)) (hv : (Int16.ofInt n).toInt32 = v) (k : Go own cc mL ret d (pc + 3) lv (.int v :: rest) μ Q) : Go own cc mL ret d pc lv rest μ Q := by
  intro p l e s m args below meth c D α cI cB cR s0 a0 H locs ls hE hH hl
  exact lv_sipush hE.1 hE.2.1 hd hv (k p l e s m args below meth c D α cI cB cR s0 a0 H locs ls hE hH hl)
theorem go_lconst {n : Fin 2} {v : Int64} (hd : decode cc pc = .ok (.lconst n, 1)) (hv : Int64.ofNat (n : Nat) = v) (k : Go own cc mL ret d (pc + 1) lv (.long v :: rest) μ Q) : Go own cc mL ret d pc lv rest μ Q := by
  intro p l e s m args below meth c D α cI cB cR s0 a0 H locs ls hE hH hl
  exact lv_lconst hE.1 hE.2.1 hd hv (k p l e s m args below meth c D α cI cB cR s0 a0 H locs ls hE hH hl)
theorem go_null (hd : decode cc pc = .ok (.aconst_null, 1)) (k : Go own cc mL ret d (pc + 1) lv (.null :: rest) μ Q) : Go own cc mL ret d pc lv rest μ Q := by
  intro p l e s m args below meth c D α cI cB cR s0 a0 H locs ls hE hH hl
  exact lv_null hE.1 hE.2.1 hd (k p l e s m args below meth c D α cI cB cR s0 a0 H locs ls hE hH hl)
theorem go_dup {v : Value} (hd : decode cc pc = .ok (.dup, 1)) (hv : v.category = 1) (k : Go own cc mL ret d (pc + 1) lv (v :: v :: rest) μ Q) : Go own cc mL ret d pc lv (v :: rest) μ Q := by
  intro p l e s m args below meth c D α cI cB cR s0 a0 H locs ls hE hH hl
  exact lv_dup hE.1 hE.2.1 hd ((gk_tr_cat α v).trans hv) (k p l e s m args below meth c D α cI cB cR s0 a0 H locs ls hE hH hl)
theorem go_pop {v : Value} (hd : decode cc pc = .ok (.pop, 1)) (hv : v.category = 1) (k : Go own cc mL ret d (pc + 1) lv rest μ Q) : Go own cc mL ret d pc lv (v :: rest) μ Q := by
  intro p l e s m args below meth c D α cI cB cR s0 a0 H locs ls hE hH hl
  exact lv_pop hE.1 hE.2.1 hd ((gk_tr_cat α v).trans hv) (k p l e s m args below meth c D α cI cB cR s0 a0 H locs ls hE hH hl)
theorem go_dup2 {v w : Value} (hd : decode cc pc = .ok (.dup2, 1)) (hv : v.category = 1) (hw : w.category = 1) (k : Go own cc mL ret d (pc + 1) lv (v :: w :: v :: w :: rest) μ Q) : Go own cc mL ret d pc lv (v :: w :: rest) μ Q := by
  intro p l e s m args below meth c D α cI cB cR s0 a0 H locs ls hE hH hl
  exact lv_dup2_11 hE.1 hE.2.1 hd ((gk_tr_cat α v).trans hv) ((gk_tr_cat α w).trans hw) (k p l e s m args below meth c D α cI cB cR s0 a0 H locs ls hE hH hl)
theorem go_ldc {index : Nat} {v : Int32} (hd : decode cc pc = .ok (.ldc index, 2)) (hc : Cond.constant own index v ∈ gk_tb) (k : Go own cc mL ret d (pc + 2) lv (.int v :: rest) μ Q) : Go own cc mL ret d pc lv rest μ Q := by
  intro p l e s m args below meth c D α cI cB cR s0 a0 H locs ls hE hH hl
  exact lv_ldc hE.1 hE.2.1 hE.2.2.2.2.2.1 (hE.2.2.2.2.2.2.1 _ hc) hd (k p l e s m args below meth c D α cI cB cR s0 a0 H locs ls hE hH hl)
theorem go_ldc_w {index : Nat} {v : Int32} (hd : decode cc pc = .ok (.ldc_w index, 3)) (hc : Cond.constant own index v ∈ gk_tb) (k : Go own cc mL ret d (pc + 3) lv (.int v :: rest) μ Q) : Go own cc mL ret d pc lv rest μ Q := by
  intro p l e s m args below meth c D α cI cB cR s0 a0 H locs ls hE hH hl
  exact lv_ldcw hE.1 hE.2.1 hE.2.2.2.2.2.1 (hE.2.2.2.2.2.2.1 _ hc) hd (k p l e s m args below meth c D α cI cB cR s0 a0 H locs ls hE hH hl)
theorem go_ldc2_w {index : Nat} {v : Int64} (hd : decode cc pc = .ok (.ldc2_w index, 3)) (hc : Cond.constantLong own index v ∈ gk_tb) (k : Go own cc mL ret d (pc + 3) lv (.long v :: rest) μ Q) : Go own cc mL ret d pc lv rest μ Q := by
  intro p l e s m args below meth c D α cI cB cR s0 a0 H locs ls hE hH hl
  exact lv_ldc2 hE.1 hE.2.1 hE.2.2.2.2.2.1 (hE.2.2.2.2.2.2.1 _ hc) hd (k p l e s m args below meth c D α cI cB cR s0 a0 H locs ls hE hH hl)
theorem gk_lv_at {α : Nat → Nat} {ls : Array Slot} {lv : List (Nat × Value)} {mL i k : Nat} {v : Value} (hl : lv_has ls mL (lv.map (fun q => (q.1, gk_tr α q.2)))) (hk : lv[k]? = some (i, v)) : ls[i]? = some (.val (gk_tr α v)) := lv_at hl k (by rw [List.getElem?_map, hk]; rfl)
theorem go_iload_n {j : Fin 4} {i : Nat} {x : Int32} (n : Nat) (hd : decode cc pc = .ok (.iload_n j, 1)) (hi : (j : Nat) = i) (hk : lv[n]? = some (i, .int x)) (k : Go own cc mL ret d (pc + 1) lv (.int x :: rest) μ Q) : Go own cc mL ret d pc lv rest μ Q := by
  intro p l e s m args below meth c D α cI cB cR s0 a0 H locs ls hE hH hl
  exact lv_iload_n hE.1 hE.2.1 hd hi (gk_lv_at hl hk) (k p l e s m args below meth c D α cI cB cR s0 a0 H locs ls hE hH hl)
theorem go_iload {i : Nat} {x : Int32} (n : Nat) (hd : decode cc pc = .ok (.iload i, 2)) (hk : lv[n]? = some (i, .int x)) (k : Go own cc mL ret d (pc + 2) lv (.int x :: rest) μ Q) : Go own cc mL ret d pc lv rest μ Q := by
  intro p l e s m args below meth c D α cI cB cR s0 a0 H locs ls hE hH hl
  exact lv_iload hE.1 hE.2.1 hd (gk_lv_at hl hk) (k p l e s m args below meth c D α cI cB cR s0 a0 H locs ls hE hH hl)
theorem go_lload_n {j : Fin 4} {i : Nat} {x : Int64} (n : Nat) (hd : decode cc pc = .ok (.lload_n j, 1)) (hi : (j : Nat) = i) (hk : lv[n]? = some (i, .long x)) (k : Go own cc mL ret d (pc + 1) lv (.long x :: rest) μ Q) : Go own cc mL ret d pc lv rest μ Q := by
  intro p l e s m args below meth c D α cI cB cR s0 a0 H locs ls hE hH hl
  exact lv_lload_n hE.1 hE.2.1 hd hi (gk_lv_at hl hk) (k p l e s m args below meth c D α cI cB cR s0 a0 H locs ls hE hH hl)
theorem go_lload {i : Nat} {x : Int64} (n : Nat) (hd : decode cc pc = .ok (.lload i, 2)) (hk : lv[n]? = some (i, .long x)) (k : Go own cc mL ret d (pc + 2) lv (.long x :: rest) μ Q) : Go own cc mL ret d pc lv rest μ Q := by
  intro p l e s m args below meth c D α cI cB cR s0 a0 H locs ls hE hH hl
  exact lv_lload hE.1 hE.2.1 hd (gk_lv_at hl hk) (k p l e s m args below meth c D α cI cB cR s0 a0 H locs ls hE hH hl)
theorem go_aload_n {j : Fin 4} {i : Nat} {x : Nat} (n : Nat) (hd : decode cc pc = .ok (.aload_n j, 1)) (hi : (j : Nat) = i) (hk : lv[n]? = some (i, .ref x)) (k : Go own cc mL ret d (pc + 1) lv (.ref x :: rest) μ Q) : Go own cc mL ret d pc lv rest μ Q := by
  intro p l e s m args below meth c D α cI cB cR s0 a0 H locs ls hE hH hl
  exact lv_aload_n hE.1 hE.2.1 hd hi (gk_lv_at hl hk) (k p l e s m args below meth c D α cI cB cR s0 a0 H locs ls hE hH hl)
theorem go_aload {i : Nat} {x : Nat} (n : Nat) (hd : decode cc pc = .ok (.aload i, 2)) (hk : lv[n]? = some (i, .ref x)) (k : Go own cc mL ret d (pc + 2) lv (.ref x :: rest) μ Q) : Go own cc mL ret d pc lv rest μ Q := by
  intro p l e s m args below meth c D α cI cB cR s0 a0 H locs ls hE hH hl
  exact lv_aload hE.1 hE.2.1 hd (gk_lv_at hl hk) (k p l e s m args below meth c D α cI cB cR s0 a0 H locs ls hE hH hl)
theorem go_aload_nN {j : Fin 4} {i : Nat} (n : Nat) (hd : decode cc pc = .ok (.aload_n j, 1)) (hi : (j : Nat) = i) (hk : lv[n]? = some (i, .null)) (k : Go own cc mL ret d (pc + 1) lv (.null :: rest) μ Q) : Go own cc mL ret d pc lv rest μ Q := by
  intro p l e s m args below meth c D α cI cB cR s0 a0 H locs ls hE hH hl
  exact lv_aload_nN hE.1 hE.2.1 hd hi (gk_lv_at hl hk) (k p l e s m args below meth c D α cI cB cR s0 a0 H locs ls hE hH hl)
theorem go_aloadN {i : Nat} (n : Nat) (hd : decode cc pc = .ok (.aload i, 2)) (hk : lv[n]? = some (i, .null)) (k : Go own cc mL ret d (pc + 2) lv (.null :: rest) μ Q) : Go own cc mL ret d pc lv rest μ Q := by
  intro p l e s m args below meth c D α cI cB cR s0 a0 H locs ls hE hH hl
  exact lv_aloadN hE.1 hE.2.1 hd (gk_lv_at hl hk) (k p l e s m args below meth c D α cI cB cR s0 a0 H locs ls hE hH hl)
theorem gk_filt1 (α : Nat → Nat) (i : Nat) (lv : List (Nat × Value)) : (lv.map (fun q => (q.1, gk_tr α q.2))).filter (fun q => !(q.1 == i) && !(q.1 + 1 == i && q.2.category == 2)) = (lv.filter (fun q => !(q.1 == i) && !(q.1 + 1 == i && q.2.category == 2))).map (fun q => (q.1, gk_tr α q.2)) := by
  rw [List.filter_map]
  refine congrArg _ (List.filter_congr fun q _ => ?_)
  simp only [Function.comp, gk_tr_cat]
theorem gk_filt2 (α : Nat → Nat) (i : Nat) (lv : List (Nat × Value)) : (lv.map (fun q => (q.1, gk_tr α q.2))).filter (fun q => !(q.1 == i) && (!(q.1 == i + 1) && !(q.1 + 1 == i && q.2.category == 2))) = (lv.filter (fun q => !(q.1 == i) && (!(q.1 == i + 1) && !(q.1 + 1 == i && q.2.category == 2)))).map (fun q => (q.1, gk_tr α q.2)) := by
  rw [List.filter_map]
  refine congrArg _ (List.filter_congr fun q _ => ?_)
  simp only [Function.comp, gk_tr_cat]
theorem go_istore_n {j : Fin 4} {i : Nat} {x : Int32} (lv' : List (Nat × Value)) (hd : decode cc pc = .ok (.istore_n j, 1)) (hi : (j : Nat) = i) (hn : i < mL) (hl' : (i, Value.int x) :: lv.filter (fun q => !(q.1 == i) && !(q.1 + 1 == i && q.2.category == 2)) = lv') (k : Go own cc mL ret d (pc + 1) lv' rest μ Q) : Go own cc mL ret d pc lv (.int x :: rest) μ Q := by
  intro p l e s m args below meth c D α cI cB cR s0 a0 H locs ls hE hH hl
  subst hl'
  exact lv_istore_n hE.1 hE.2.1 hd hi hl hn (by rw [gk_filt1]; rfl) (fun ls hl => k p l e s m args below meth c D α cI cB cR s0 a0 H locs ls hE hH hl)
theorem go_istore {i : Nat} {x : Int32} (lv' : List (Nat × Value)) (hd : decode cc pc = .ok (.istore i, 2)) (hn : i < mL) (hl' : (i, Value.int x) :: lv.filter (fun q => !(q.1 == i) && !(q.1 + 1 == i && q.2.category == 2)) = lv') (k : Go own cc mL ret d (pc + 2) lv' rest μ Q) : Go own cc mL ret d pc lv (.int x :: rest) μ Q := by
  intro p l e s m args below meth c D α cI cB cR s0 a0 H locs ls hE hH hl
  subst hl'
  exact lv_istore hE.1 hE.2.1 hd hl hn (by rw [gk_filt1]; rfl) (fun ls hl => k p l e s m args below meth c D α cI cB cR s0 a0 H locs ls hE hH hl)
theorem go_astore_n {j : Fin 4} {i : Nat} {x : Nat} (lv' : List (Nat × Value)) (hd : decode cc pc = .ok (.astore_n j, 1)) (hi : (j : Nat) = i) (hn : i < mL) (hl' : (i, Value.ref x) :: lv.filter (fun q => !(q.1 == i) && !(q.1 + 1 == i && q.2.category == 2)) = lv') (k : Go own cc mL ret d (pc + 1) lv' rest μ Q) : Go own cc mL ret d pc lv (.ref x :: rest) μ Q := by
  intro p l e s m args below meth c D α cI cB cR s0 a0 H locs ls hE hH hl
  subst hl'
  exact lv_astore_n hE.1 hE.2.1 hd hi hl hn (by rw [gk_filt1]; rfl) (fun ls hl => k p l e s m args below meth c D α cI cB cR s0 a0 H locs ls hE hH hl)
theorem go_astore {i : Nat} {x : Nat} (lv' : List (Nat × Value)) (hd : decode cc pc = .ok (.astore i, 2)) (hn : i < mL) (hl' : (i, Value.ref x) :: lv.filter (fun q => !(q.1 == i) && !(q.1 + 1 == i && q.2.category == 2)) = lv') (k : Go own cc mL ret d (pc + 2) lv' rest μ Q) : Go own cc mL ret d pc lv (.ref x :: rest) μ Q := by
  intro p l e s m args below meth c D α cI cB cR s0 a0 H locs ls hE hH hl
  subst hl'
  exact lv_astore hE.1 hE.2.1 hd hl hn (by rw [gk_filt1]; rfl) (fun ls hl => k p l e s m args below meth c D α cI cB cR s0 a0 H locs ls hE hH hl)
theorem go_lstore_n {j : Fin 4} {i : Nat} {x : Int64} (lv' : List (Nat × Value)) (hd : decode cc pc = .ok (.lstore_n j, 1)) (hi : (j : Nat) = i) (hn : i + 1 < mL) (hl' : (i, Value.long x) :: lv.filter (fun q => !(q.1 == i) && (!(q.1 == i + 1) && !(q.1 + 1 == i && q.2.category == 2))) = lv') (k : Go own cc mL ret d (pc + 1) lv' rest μ Q) : Go own cc mL ret d pc lv (.long x :: rest) μ Q := by
  intro p l e s m args below meth c D α cI cB cR s0 a0 H locs ls hE hH hl
  subst hl'
  exact lv_lstore_n hE.1 hE.2.1 hd hi hl hn (by rw [gk_filt2]; rfl) (fun ls hl => k p l e s m args below meth c D α cI cB cR s0 a0 H locs ls hE hH hl)
theorem go_lstore {i : Nat} {x : Int64} (lv' : List (Nat × Value)) (hd : decode cc pc = .ok (.lstore i, 2)) (hn : i + 1 < mL) (hl' : (i, Value.long x) :: lv.filter (fun q => !(q.1 == i) && (!(q.1 == i + 1) && !(q.1 + 1 == i && q.2.category == 2))) = lv') (k : Go own cc mL ret d (pc + 2) lv' rest μ Q) : Go own cc mL ret d pc lv (.long x :: rest) μ Q := by
  intro p l e s m args below meth c D α cI cB cR s0 a0 H locs ls hE hH hl
  subst hl'
  exact lv_lstore hE.1 hE.2.1 hd hl hn (by rw [gk_filt2]; rfl) (fun ls hl => k p l e s m args below meth c D α cI cB cR s0 a0 H locs ls hE hH hl)
theorem go_astore_nN {j : Fin 4} {i : Nat} (lv' : List (Nat × Value)) (hd : decode cc pc = .ok (.astore_n j, 1)) (hi : (j : Nat) = i) (hn : i < mL) (hl' : (i, Value.null) :: lv.filter (fun q => !(q.1 == i) && !(q.1 + 1 == i && q.2.category == 2)) = lv') (k : Go own cc mL ret d (pc + 1) lv' rest μ Q) : Go own cc mL ret d pc lv (.null :: rest) μ Q := by
  intro p l e s m args below meth c D α cI cB cR s0 a0 H locs ls hE hH hl
  subst hl'
  exact lv_astore_nN hE.1 hE.2.1 hd hi hl hn (by rw [gk_filt1]; rfl) (fun ls hl => k p l e s m args below meth c D α cI cB cR s0 a0 H locs ls hE hH hl)
theorem go_astoreN {i : Nat} (lv' : List (Nat × Value)) (hd : decode cc pc = .ok (.astore i, 2)) (hn : i < mL) (hl' : (i, Value.null) :: lv.filter (fun q => !(q.1 == i) && !(q.1 + 1 == i && q.2.category == 2)) = lv') (k : Go own cc mL ret d (pc + 2) lv' rest μ Q) : Go own cc mL ret d pc lv (.null :: rest) μ Q := by
  intro p l e s m args below meth c D α cI cB cR s0 a0 H locs ls hE hH hl
  subst hl'
  exact lv_astoreN hE.1 hE.2.1 hd hl hn (by rw [gk_filt1]; rfl) (fun ls hl => k p l e s m args below meth c D α cI cB cR s0 a0 H locs ls hE hH hl)
theorem go_iinc {i : Nat} {n : Int} {x v : Int32} (j : Nat) (lv' : List (Nat × Value)) (hd : decode cc pc = .ok (.iinc i n, 3)) (hk : lv[j]? = some (i, .int x)) (hv : x + Int32.ofInt n = v) (hn : i < mL) (hl' : (i, Value.int v) :: lv.filter (fun q => !(q.1 == i) && !(q.1 + 1 == i && q.2.category == 2)) = lv') (k : Go own cc mL ret d (pc + 3) lv' rest μ Q) : Go own cc mL ret d pc lv rest μ Q := by
  intro p l e s m args below meth c D α cI cB cR s0 a0 H locs ls hE hH hl
  subst hl'
  exact lv_iinc (k := j) hE.1 hE.2.1 hd hl (by rw [List.getElem?_map, hk]; rfl) hv hn (by rw [gk_filt1]; rfl) (fun ls hl => k p l e s m args below meth c D α cI cB cR s0 a0 H locs ls hE hH hl)
theorem go_lv {lv' : List (Nat × Value)} {st : List Value} (ks : List Nat) (h : lv_pick lv ks = lv') (k : Go own cc mL ret d pc lv' st μ Q) : Go own cc mL ret d pc lv st μ Q := by
  intro p l e s m args below meth c D α cI cB cR s0 a0 H locs ls hE hH hl
  refine k p l e s m args below meth c D α cI cB cR s0 a0 H locs ls hE hH (lv_sub hl ks ?_)
  rw [← h]
  unfold lv_pick
  rw [List.map_filterMap]
  refine congrArg (fun g => List.filterMap g ks) (funext fun j => ?_)
  rw [List.getElem?_map]
theorem go_if_eq {x : Int32} {off : Int} (tgt : Nat) (hd : decode cc pc = .ok (.ifCond .eq off, 3)) (ht : (pc : Int) + off = (tgt : Int)) (kt : x = 0 → Go own cc mL ret d tgt lv rest μ Q) (kf : ¬ x = 0 → Go own cc mL ret d (pc + 3) lv rest μ Q) : Go own cc mL ret d pc lv (.int x :: rest) μ Q := by
  intro p l e s m args below meth c D α cI cB cR s0 a0 H locs ls hE hH hl
  exact lv_if_eq hE.1 hE.2.1 hd ht (fun q => kt q p l e s m args below meth c D α cI cB cR s0 a0 H locs ls hE hH hl) (fun q => kf q p l e s m args below meth c D α cI cB cR s0 a0 H locs ls hE hH hl)
theorem go_if_ne {x : Int32} {off : Int} (tgt : Nat) (hd : decode cc pc = .ok (.ifCond .ne off, 3)) (ht : (pc : Int) + off = (tgt : Int)) (kt : ¬ x = 0 → Go own cc mL ret d tgt lv rest μ Q) (kf : x = 0 → Go own cc mL ret d (pc + 3) lv rest μ Q) : Go own cc mL ret d pc lv (.int x :: rest) μ Q := by
  intro p l e s m args below meth c D α cI cB cR s0 a0 H locs ls hE hH hl
  exact lv_if_ne hE.1 hE.2.1 hd ht (fun q => kt q p l e s m args below meth c D α cI cB cR s0 a0 H locs ls hE hH hl) (fun q => kf q p l e s m args below meth c D α cI cB cR s0 a0 H locs ls hE hH hl)
theorem go_if_lt {x : Int32} {off : Int} (tgt : Nat) (hd : decode cc pc = .ok (.ifCond .lt off, 3)) (ht : (pc : Int) + off = (tgt : Int)) (kt : x < 0 → Go own cc mL ret d tgt lv rest μ Q) (kf : ¬ x < 0 → Go own cc mL ret d (pc + 3) lv rest μ Q) : Go own cc mL ret d pc lv (.int x :: rest) μ Q := by
  intro p l e s m args below meth c D α cI cB cR s0 a0 H locs ls hE hH hl
  exact lv_if_lt hE.1 hE.2.1 hd ht (fun q => kt q p l e s m args below meth c D α cI cB cR s0 a0 H locs ls hE hH hl) (fun q => kf q p l e s m args below meth c D α cI cB cR s0 a0 H locs ls hE hH hl)
theorem go_if_ge {x : Int32} {off : Int} (tgt : Nat) (hd : decode cc pc = .ok (.ifCond .ge off, 3)) (ht : (pc : Int) + off = (tgt : Int)) (kt : 0 ≤ x → Go own cc mL ret d tgt lv rest μ Q) (kf : ¬ 0 ≤ x → Go own cc mL ret d (pc + 3) lv rest μ Q) : Go own cc mL ret d pc lv (.int x :: rest) μ Q := by
  intro p l e s m args below meth c D α cI cB cR s0 a0 H locs ls hE hH hl
  exact lv_if_ge hE.1 hE.2.1 hd ht (fun q => kt q p l e s m args below meth c D α cI cB cR s0 a0 H locs ls hE hH hl) (fun q => kf q p l e s m args below meth c D α cI cB cR s0 a0 H locs ls hE hH hl)
theorem go_if_gt {x : Int32} {off : Int} (tgt : Nat) (hd : decode cc pc = .ok (.ifCond .gt off, 3)) (ht : (pc : Int) + off = (tgt : Int)) (kt : 0 < x → Go own cc mL ret d tgt lv rest μ Q) (kf : ¬ 0 < x → Go own cc mL ret d (pc + 3) lv rest μ Q) : Go own cc mL ret d pc lv (.int x :: rest) μ Q := by
  intro p l e s m args below meth c D α cI cB cR s0 a0 H locs ls hE hH hl
  exact lv_if_gt hE.1 hE.2.1 hd ht (fun q => kt q p l e s m args below meth c D α cI cB cR s0 a0 H locs ls hE hH hl) (fun q => kf q p l e s m args below meth c D α cI cB cR s0 a0 H locs ls hE hH hl)
theorem go_if_le {x : Int32} {off : Int} (tgt : Nat) (hd : decode cc pc = .ok (.ifCond .le off, 3)) (ht : (pc : Int) + off = (tgt : Int)) (kt : x ≤ 0 → Go own cc mL ret d tgt lv rest μ Q) (kf : ¬ x ≤ 0 → Go own cc mL ret d (pc + 3) lv rest μ Q) : Go own cc mL ret d pc lv (.int x :: rest) μ Q := by
  intro p l e s m args below meth c D α cI cB cR s0 a0 H locs ls hE hH hl
  exact lv_if_le hE.1 hE.2.1 hd ht (fun q => kt q p l e s m args below meth c D α cI cB cR s0 a0 H locs ls hE hH hl) (fun q => kf q p l e s m args below meth c D α cI cB cR s0 a0 H locs ls hE hH hl)
theorem go_icmp_eq {x y : Int32} {off : Int} (tgt : Nat) (hd : decode cc pc = .ok (.if_icmp .eq off, 3)) (ht : (pc : Int) + off = (tgt : Int)) (kt : x = y → Go own cc mL ret d tgt lv rest μ Q) (kf : ¬ x = y → Go own cc mL ret d (pc + 3) lv rest μ Q) : Go own cc mL ret d pc lv (.int y :: .int x :: rest) μ Q := by
  intro p l e s m args below meth c D α cI cB cR s0 a0 H locs ls hE hH hl
  exact lv_icmp_eq hE.1 hE.2.1 hd ht (fun q => kt q p l e s m args below meth c D α cI cB cR s0 a0 H locs ls hE hH hl) (fun q => kf q p l e s m args below meth c D α cI cB cR s0 a0 H locs ls hE hH hl)
theorem go_icmp_ne {x y : Int32} {off : Int} (tgt : Nat) (hd : decode cc pc = .ok (.if_icmp .ne off, 3)) (ht : (pc : Int) + off = (tgt : Int)) (kt : ¬ x = y → Go own cc mL ret d tgt lv rest μ Q) (kf : x = y → Go own cc mL ret d (pc + 3) lv rest μ Q) : Go own cc mL ret d pc lv (.int y :: .int x :: rest) μ Q := by
  intro p l e s m args below meth c D α cI cB cR s0 a0 H locs ls hE hH hl
  exact lv_icmp_ne hE.1 hE.2.1 hd ht (fun q => kt q p l e s m args below meth c D α cI cB cR s0 a0 H locs ls hE hH hl) (fun q => kf q p l e s m args below meth c D α cI cB cR s0 a0 H locs ls hE hH hl)
theorem go_icmp_lt {x y : Int32} {off : Int} (tgt : Nat) (hd : decode cc pc = .ok (.if_icmp .lt off, 3)) (ht : (pc : Int) + off = (tgt : Int)) (kt : x < y → Go own cc mL ret d tgt lv rest μ Q) (kf : ¬ x < y → Go own cc mL ret d (pc + 3) lv rest μ Q) : Go own cc mL ret d pc lv (.int y :: .int x :: rest) μ Q := by
  intro p l e s m args below meth c D α cI cB cR s0 a0 H locs ls hE hH hl
  exact lv_icmp_lt hE.1 hE.2.1 hd ht (fun q => kt q p l e s m args below meth c D α cI cB cR s0 a0 H locs ls hE hH hl) (fun q => kf q p l e s m args below meth c D α cI cB cR s0 a0 H locs ls hE hH hl)
theorem go_icmp_ge {x y : Int32} {off : Int} (tgt : Nat) (hd : decode cc pc = .ok (.if_icmp .ge off, 3)) (ht : (pc : Int) + off = (tgt : Int)) (kt : y ≤ x → Go own cc mL ret d tgt lv rest μ Q) (kf : ¬ y ≤ x → Go own cc mL ret d (pc + 3) lv rest μ Q) : Go own cc mL ret d pc lv (.int y :: .int x :: rest) μ Q := by
  intro p l e s m args below meth c D α cI cB cR s0 a0 H locs ls hE hH hl
  exact lv_icmp_ge hE.1 hE.2.1 hd ht (fun q => kt q p l e s m args below meth c D α cI cB cR s0 a0 H locs ls hE hH hl) (fun q => kf q p l e s m args below meth c D α cI cB cR s0 a0 H locs ls hE hH hl)
theorem go_icmp_gt {x y : Int32} {off : Int} (tgt : Nat) (hd : decode cc pc = .ok (.if_icmp .gt off, 3)) (ht : (pc : Int) + off = (tgt : Int)) (kt : y < x → Go own cc mL ret d tgt lv rest μ Q) (kf : ¬ y < x → Go own cc mL ret d (pc + 3) lv rest μ Q) : Go own cc mL ret d pc lv (.int y :: .int x :: rest) μ Q := by
  intro p l e s m args below meth c D α cI cB cR s0 a0 H locs ls hE hH hl
  exact lv_icmp_gt hE.1 hE.2.1 hd ht (fun q => kt q p l e s m args below meth c D α cI cB cR s0 a0 H locs ls hE hH hl) (fun q => kf q p l e s m args below meth c D α cI cB cR s0 a0 H locs ls hE hH hl)
theorem go_icmp_le {x y : Int32} {off : Int} (tgt : Nat) (hd : decode cc pc = .ok (.if_icmp .le off, 3)) (ht : (pc : Int) + off = (tgt : Int)) (kt : x ≤ y → Go own cc mL ret d tgt lv rest μ Q) (kf : ¬ x ≤ y → Go own cc mL ret d (pc + 3) lv rest μ Q) : Go own cc mL ret d pc lv (.int y :: .int x :: rest) μ Q := by
  intro p l e s m args below meth c D α cI cB cR s0 a0 H locs ls hE hH hl
  exact lv_icmp_le hE.1 hE.2.1 hd ht (fun q => kt q p l e s m args below meth c D α cI cB cR s0 a0 H locs ls hE hH hl) (fun q => kf q p l e s m args below meth c D α cI cB cR s0 a0 H locs ls hE hH hl)
theorem go_goto {off : Int} (tgt : Nat) (hd : decode cc pc = .ok (.goto off, 3)) (ht : (pc : Int) + off = (tgt : Int)) (k : Go own cc mL ret d tgt lv rest μ Q) : Go own cc mL ret d pc lv rest μ Q := by
  intro p l e s m args below meth c D α cI cB cR s0 a0 H locs ls hE hH hl
  exact lv_goto hE.1 hE.2.1 hd ht (k p l e s m args below meth c D α cI cB cR s0 a0 H locs ls hE hH hl)
theorem go_ifnull {x : Nat} {off : Int} (hd : decode cc pc = .ok (.ifnull off, 3)) (k : Go own cc mL ret d (pc + 3) lv rest μ Q) : Go own cc mL ret d pc lv (.ref x :: rest) μ Q := by
  intro p l e s m args below meth c D α cI cB cR s0 a0 H locs ls hE hH hl
  exact lv_ifnull hE.1 hE.2.1 hd (k p l e s m args below meth c D α cI cB cR s0 a0 H locs ls hE hH hl)
theorem go_ifnonnull {x : Nat} {off : Int} (tgt : Nat) (hd : decode cc pc = .ok (.ifnonnull off, 3)) (ht : (pc : Int) + off = (tgt : Int)) (k : Go own cc mL ret d tgt lv rest μ Q) : Go own cc mL ret d pc lv (.ref x :: rest) μ Q := by
  intro p l e s m args below meth c D α cI cB cR s0 a0 H locs ls hE hH hl
  exact lv_ifnonnull hE.1 hE.2.1 hd ht (k p l e s m args below meth c D α cI cB cR s0 a0 H locs ls hE hH hl)
theorem go_ifnullN {off : Int} (tgt : Nat) (hd : decode cc pc = .ok (.ifnull off, 3)) (ht : (pc : Int) + off = (tgt : Int)) (k : Go own cc mL ret d tgt lv rest μ Q) : Go own cc mL ret d pc lv (.null :: rest) μ Q := by
  intro p l e s m args below meth c D α cI cB cR s0 a0 H locs ls hE hH hl
  exact lv_ifnullN hE.1 hE.2.1 hd ht (k p l e s m args below meth c D α cI cB cR s0 a0 H locs ls hE hH hl)
theorem go_ifnonnullN {off : Int} (hd : decode cc pc = .ok (.ifnonnull off, 3)) (k : Go own cc mL ret d (pc + 3) lv rest μ Q) : Go own cc mL ret d pc lv (.null :: rest) μ Q := by
  intro p l e s m args below meth c D α cI cB cR s0 a0 H locs ls hE hH hl
  exact lv_ifnonnullN hE.1 hE.2.1 hd (k p l e s m args below meth c D α cI cB cR s0 a0 H locs ls hE hH hl)
theorem go_tableIn {dflt lo hi : Int} {offs : Array Int} {len : Nat} {x k : Int32} {off : Int} (tgt : Nat) (hd : decode cc pc = .ok (.tableswitch dflt lo hi offs, len)) (hx : x = k) (h1 : ¬ k.toInt < lo) (h2 : ¬ hi < k.toInt) (ho : offs[(k.toInt - lo).toNat]? = some off) (ht : (pc : Int) + off = (tgt : Int)) (kk : Go own cc mL ret d tgt lv rest μ Q) : Go own cc mL ret d pc lv (.int x :: rest) μ Q := by
  intro p l e s m args below meth c D α cI cB cR s0 a0 H locs ls hE hH hl
  subst hx
  exact lv_tableIn hE.1 hE.2.1 hd h1 h2 ho ht (kk p l e s m args below meth c D α cI cB cR s0 a0 H locs ls hE hH hl)
theorem go_tableOut {dflt lo hi : Int} {offs : Array Int} {len : Nat} {x : Int32} (tgt : Nat) (hd : decode cc pc = .ok (.tableswitch dflt lo hi offs, len)) (h : x.toInt < lo ∨ hi < x.toInt) (ht : (pc : Int) + dflt = (tgt : Int)) (kk : Go own cc mL ret d tgt lv rest μ Q) : Go own cc mL ret d pc lv (.int x :: rest) μ Q := by
  intro p l e s m args below meth c D α cI cB cR s0 a0 H locs ls hE hH hl
  exact lv_tableOut hE.1 hE.2.1 hd h ht (kk p l e s m args below meth c D α cI cB cR s0 a0 H locs ls hE hH hl)
theorem go_lookup {dflt : Int} {ps : Array (Int × Int)} {len : Nat} {x : Int32} {off : Int} (tgt : Nat) (hd : decode cc pc = .ok (.lookupswitch dflt ps, len)) (hp : (ps.toList.zip (ps.toList.drop 1)).all (fun (a, next) => a.1 < next.1) = true) (ho : Op.lookupswitch.offset ps.toList dflt x.toInt = off) (ht : (pc : Int) + off = (tgt : Int)) (kk : Go own cc mL ret d tgt lv rest μ Q) : Go own cc mL ret d pc lv (.int x :: rest) μ Q := by
  intro p l e s m args below meth c D α cI cB cR s0 a0 H locs ls hE hH hl
  exact lv_lookup hE.1 hE.2.1 hd hp ho ht (kk p l e s m args below meth c D α cI cB cR s0 a0 H locs ls hE hH hl)
theorem go_iret {x : Int32} (hd : decode cc pc = .ok (.ireturn, 1)) (h : Q (some (.int x)) μ) : Go own cc mL (some .int) d pc lv [.int x] μ Q := by
  intro p l e s m args below meth c D α cI cB cR s0 a0 H locs ls hE hH hl
  exact W.iret hE.1 hE.2.1 hE.2.2.2.1 (fun t ht hW => ⟨⟨some (.int x), μ, rfl, h, by rw [ht]; exact hH.1, va_K.moved hW.alike hE.2.2.2.2.2.2.2.1, hH.2.1⟩, hH.2.2.F ht⟩) hH.2.2.2.2 hd hE.2.2.2.2.1
theorem gk_nb {x : Int32} (h : gk_b x) : narrow .boolean (.int x) = .int x := by rcases h with rfl | rfl <;> rfl
theorem gk_fb {x : Int32} (h : gk_b x) : fits .boolean (.int x) = true := by rcases h with rfl | rfl <;> rfl
theorem go_zret {x : Int32} (hd : decode cc pc = .ok (.ireturn, 1)) (hx : gk_b x) (h : Q (some (.int x)) μ) : Go own cc mL (some .boolean) d pc lv [.int x] μ Q := by
  intro p l e s m args below meth c D α cI cB cR s0 a0 H locs ls hE hH hl
  exact W.zret hE.1 hE.2.1 hE.2.2.2.1 (gk_nb hx) (fun t ht hW => ⟨⟨some (.int x), μ, rfl, h, by rw [ht]; exact hH.1, va_K.moved hW.alike hE.2.2.2.2.2.2.2.1, hH.2.1⟩, hH.2.2.F ht⟩) hH.2.2.2.2 hd hE.2.2.2.2.1
theorem go_lret {x : Int64} (hd : decode cc pc = .ok (.lreturn, 1)) (h : Q (some (.long x)) μ) : Go own cc mL (some .long) d pc lv [.long x] μ Q := by
  intro p l e s m args below meth c D α cI cB cR s0 a0 H locs ls hE hH hl
  exact W.lret hE.1 hE.2.1 hE.2.2.2.1 (fun t ht hW => ⟨⟨some (.long x), μ, rfl, h, by rw [ht]; exact hH.1, va_K.moved hW.alike hE.2.2.2.2.2.2.2.1, hH.2.1⟩, hH.2.2.F ht⟩) hH.2.2.2.2 hd hE.2.2.2.2.1
theorem go_vret (hd : decode cc pc = .ok (.return_, 1)) (h : Q none μ) : Go own cc mL none d pc lv [] μ Q := by
  intro p l e s m args below meth c D α cI cB cR s0 a0 H locs ls hE hH hl
  exact W.vret hE.1 hE.2.1 hE.2.2.2.1 (fun t ht hW => ⟨⟨none, μ, rfl, h, by rw [ht]; exact hH.1, va_K.moved hW.alike hE.2.2.2.2.2.2.2.1, hH.2.1⟩, hH.2.2.F ht⟩) hH.2.2.2.2 hd hE.2.2.2.2.1
theorem go_aret {x : Nat} {C : String} (hd : decode cc pc = .ok (.areturn, 1)) (h : Q (some (.ref x)) μ) : Go own cc mL (some (.object C)) d pc lv [.ref x] μ Q := by
  intro p l e s m args below meth c D α cI cB cR s0 a0 H locs ls hE hH hl
  exact W.aret hE.1 hE.2.1 hE.2.2.2.1 (Or.inl ⟨C, rfl⟩) (Or.inr ⟨α x, rfl⟩) (fun t ht hW => ⟨⟨some (.ref x), μ, rfl, h, by rw [ht]; exact hH.1, va_K.moved hW.alike hE.2.2.2.2.2.2.2.1, hH.2.1⟩, hH.2.2.F ht⟩) hH.2.2.2.2 hd hE.2.2.2.2.1
theorem go_aretN {C : String} (hd : decode cc pc = .ok (.areturn, 1)) (h : Q (some .null) μ) : Go own cc mL (some (.object C)) d pc lv [.null] μ Q := by
  intro p l e s m args below meth c D α cI cB cR s0 a0 H locs ls hE hH hl
  exact W.aret hE.1 hE.2.1 hE.2.2.2.1 (Or.inl ⟨C, rfl⟩) (Or.inl rfl) (fun t ht hW => ⟨⟨some .null, μ, rfl, h, by rw [ht]; exact hH.1, va_K.moved hW.alike hE.2.2.2.2.2.2.2.1, hH.2.1⟩, hH.2.2.F ht⟩) hH.2.2.2.2 hd hE.2.2.2.2.1
end GoRules
end
section
/-! rules of Go for fields, rows, calls -/
/-- a class of the tables, with all that a field needs -/
def gk_cl (ci : Nat) (C : String) (T : u_T) (N : Nat) (ty0 : Nat → FieldType) : Prop := ci < 100 ∧ vwCl[ci]? = some (C, T, N) ∧ (∀ w ∈ u_ws C T N, w ∈ gk_tb) ∧ (∀ k, k < N → parseFieldDescriptor (T k).2.2.1 = some (ty0 k)) ∧ (∀ a, a < N → ∀ b, b < N → a ≠ b → (T a).2.1 ≠ (T b).2.1)
def gk_fl (own : String) (idx ci k : Nat) : Prop := ∃ (C : String) (T : u_T) (N : Nat) (ty0 : Nat → FieldType), gk_cl ci C T N ty0 ∧ k < N ∧ Cond.fieldLink own idx (T k).1 (T k).2.1 (T k).2.2.1 ∈ gk_tb
def gk_fp (own : String) (idx ci k : Nat) (ty : FieldType) : Prop := ∃ (C : String) (T : u_T) (N : Nat) (ty0 : Nat → FieldType), gk_cl ci C T N ty0 ∧ k < N ∧ Cond.fieldLink own idx (T k).1 (T k).2.1 (T k).2.2.1 ∈ gk_tb ∧ (T k).2.2.2 = false ∧ ty0 k = ty
theorem gk_isO_lt {o c : Nat} (h : gk_isO o c) (hc : c < 999) : o < gk_N := gk_lt (fun q => by unfold gk_isO at h; omega)
theorem gk_mapIdx_set {α : Nat → Nat} {f : Nat → Int32} {k : Nat} {v : Int32} : ∀ (l : List Nat), l[k]? = some 0 → (l.mapIdx (fun j r => if r = 0 then Value.int (f j) else Value.ref (α (r - 1)))).set k (.int v) = l.mapIdx (fun j r => if r = 0 then Value.int (upd f k v j) else Value.ref (α (r - 1))) := by
  intro l hl
  apply List.ext_getElem?
  intro j
  rw [List.getElem?_set, List.length_mapIdx]
  have hk : k < l.length := (List.getElem?_eq_some_iff.mp hl).1
  by_cases e : k = j
  · subst e
    simp [List.getElem?_mapIdx, hk, upd]
    exact (List.getElem?_eq_some_iff.mp hl).2
  · have e2 : ¬ j = k := fun q => e q.symm
    simp [List.getElem?_mapIdx, e, upd, e2]
section GoMem
variable {own : String} {cc : ByteArray} {mL : Nat} {ret : Option FieldType} {d pc : Nat} {lv : List (Nat × Value)} {rest : List Value} {μ : gk_St} {Q : Option Value → gk_St → Prop}
theorem go_getI {idx ci k o : Nat} (hd : decode cc pc = .ok (.getfield idx, 3)) (hf : gk_fl own idx ci k) (ho : gk_isO o ci) (hn : gk_num o k) (kk : Go own cc mL ret d (pc + 3) lv (.int (μ o k) :: rest) μ Q) : Go own cc mL ret d pc lv (.ref o :: rest) μ Q := by
  intro p l e s m args below meth c D α cI cB cR s0 a0 H locs ls hE hH hl
  obtain ⟨C, T, N, ty0, ⟨hc, h1, h2, h3, h4⟩, hk, hlink⟩ := hf
  refine va_get (D := D) (v := .int (μ o k)) hE.1 hE.2.1 hE.2.2.2.2.2.2.1 h2 hE.2.2.2.2.2.1 hE.2.2.2.2.2.2.2.1 hH.1 o (fs := (gk_sk o).2.mapIdx (fun j r => if r = 0 then Value.int (μ o j) else Value.ref (α (r - 1)))) ?_ h1 k hk (hE.2.2.2.2.2.2.1 _ hlink) (fun _ h => h) ?_ hd (kk p l e s m args below meth c D α cI cB cR s0 a0 H locs ls hE hH hl)
  · rw [gk_ws_get (gk_isO_lt ho (by omega)), gk_ce_o ho hc]
  · rw [List.getElem?_mapIdx, hn]
    rfl
theorem go_getR {idx ci k o : Nat} (hd : decode cc pc = .ok (.getfield idx, 3)) (hf : gk_fl own idx ci k) (ho : gk_isO o ci) (hn : gk_ref o k) (kk : Go own cc mL ret d (pc + 3) lv (.ref (gk_rf o k) :: rest) μ Q) : Go own cc mL ret d pc lv (.ref o :: rest) μ Q := by
  intro p l e s m args below meth c D α cI cB cR s0 a0 H locs ls hE hH hl
  obtain ⟨C, T, N, ty0, ⟨hc, h1, h2, h3, h4⟩, hk, hlink⟩ := hf
  obtain ⟨r, hr⟩ := hn
  have hg : gk_rf o k = r := by
    unfold gk_rf
    rw [List.getD_eq_getElem?_getD, hr]
    simp
  refine va_get (D := D) (v := .ref (α (gk_rf o k))) hE.1 hE.2.1 hE.2.2.2.2.2.2.1 h2 hE.2.2.2.2.2.1 hE.2.2.2.2.2.2.2.1 hH.1 o (fs := (gk_sk o).2.mapIdx (fun j r => if r = 0 then Value.int (μ o j) else Value.ref (α (r - 1)))) ?_ h1 k hk (hE.2.2.2.2.2.2.1 _ hlink) (fun _ h => h) ?_ hd (kk p l e s m args below meth c D α cI cB cR s0 a0 H locs ls hE hH hl)
  · rw [gk_ws_get (gk_isO_lt ho (by omega)), gk_ce_o ho hc]
  · rw [List.getElem?_mapIdx, hr, hg]
    simp
theorem go_put {idx ci k o : Nat} {ty : FieldType} {x : Int32} (hd : decode cc pc = .ok (.putfield idx, 3)) (hf : gk_fp own idx ci k ty) (ho : gk_isO o ci) (hn : gk_num o k) (hx1 : narrow ty (.int x) = .int x) (hx2 : fits ty (.int x) = true) (kk : Go own cc mL ret d (pc + 3) lv rest (gk_up μ o k x) Q) : Go own cc mL ret d pc lv (.int x :: .ref o :: rest) μ Q := by
  intro p l e s m args below meth c D α cI cB cR s0 a0 H locs ls hE hH hl
  obtain ⟨C, T, N, ty0, ⟨hc, h1, h2, h3, h4⟩, hk, hlink, hfin, hty⟩ := hf
  have hlt := gk_isO_lt ho (by omega)
  have hset : (gk_ws α cI cB cR μ).set o (α o, .inr (ci, ((gk_sk o).2.mapIdx (fun j r => if r = 0 then Value.int (μ o j) else Value.ref (α (r - 1)))).set k (.int x))) = gk_ws α cI cB cR (gk_up μ o k x) :=
    gk_ws_set hlt (by rw [gk_ce_o ho hc, gk_mapIdx_set _ hn])
  refine va_put (D := D) (v := .int x) (ty := ty) hE.1 hE.2.1 hE.2.2.2.2.2.2.1 h2 ty0 h3 h4 hE.2.2.2.2.2.1 hE.2.2.2.2.2.2.2.1 hH.1 hH.2.1 hH.2.2 o (fs := (gk_sk o).2.mapIdx (fun j r => if r = 0 then Value.int (μ o j) else Value.ref (α (r - 1)))) ?_ h1 k hk (hE.2.2.2.2.2.2.1 _ hlink) (fun _ h => h) hfin (by rw [h3 k hk, hty]) hx1 hx2 ?_ hd (fun H1 locs1 hP hD hS => ?_)
  · rw [gk_ws_get hlt, gk_ce_o ho hc]
  · rw [List.length_mapIdx]
    exact (List.getElem?_eq_some_iff.mp hn).1
  · rw [hset] at hP hD
    exact kk p l e s m args below meth c D α cI cB cR s0 a0 H1 locs1 ls hE ⟨hP, hD, hS⟩ hl
theorem go_putI {idx ci k o : Nat} {x : Int32} (hd : decode cc pc = .ok (.putfield idx, 3)) (hf : gk_fp own idx ci k .int) (ho : gk_isO o ci) (hn : gk_num o k) (kk : Go own cc mL ret d (pc + 3) lv rest (gk_up μ o k x) Q) : Go own cc mL ret d pc lv (.int x :: .ref o :: rest) μ Q := go_put hd hf ho hn rfl rfl kk
theorem go_putZ {idx ci k o : Nat} {x : Int32} (hd : decode cc pc = .ok (.putfield idx, 3)) (hf : gk_fp own idx ci k .boolean) (ho : gk_isO o ci) (hn : gk_num o k) (hx : gk_b x) (kk : Go own cc mL ret d (pc + 3) lv rest (gk_up μ o k x) Q) : Go own cc mL ret d pc lv (.int x :: .ref o :: rest) μ Q := go_put hd hf ho hn (gk_nb hx) (gk_fb hx) kk
theorem go_iaload {a : Nat} {i : Int32} (hd : decode cc pc = .ok (.iaload, 1)) (ha : gk_isO a 100) (hin : vp_in i (gk_ln a)) (kk : Go own cc mL ret d (pc + 1) lv (.int (μ a i.toNatClampNeg) :: rest) μ Q) : Go own cc mL ret d pc lv (.int i :: .ref a :: rest) μ Q := by
  intro p l e s m args below meth c D α cI cB cR s0 a0 H locs ls hE hH hl
  exact va_iald (D := D) hE.1 hE.2.1 hE.2.2.2.2.2.2.2.1 hH.1 a 0 (by rw [gk_ws_get (gk_isO_lt ha (by omega)), gk_ce_i ha]) rfl hin hd (kk p l e s m args below meth c D α cI cB cR s0 a0 H locs ls hE hH hl)
theorem go_baload {a : Nat} {i : Int32} (hd : decode cc pc = .ok (.baload, 1)) (ha : gk_isO a 101) (hin : vp_in i (gk_ln a)) (kk : Go own cc mL ret d (pc + 1) lv (.int (μ a i.toNatClampNeg) :: rest) μ Q) : Go own cc mL ret d pc lv (.int i :: .ref a :: rest) μ Q := by
  intro p l e s m args below meth c D α cI cB cR s0 a0 H locs ls hE hH hl
  exact va_zald (D := D) hE.1 hE.2.1 hE.2.2.2.2.2.2.2.1 hH.1 a 1 (by rw [gk_ws_get (gk_isO_lt ha (by omega)), gk_ce_b ha]) rfl hin hd (kk p l e s m args below meth c D α cI cB cR s0 a0 H locs ls hE hH hl)
theorem go_alen {a : Nat} (hd : decode cc pc = .ok (.arraylength, 1)) (ha : gk_isO a 100) (kk : Go own cc mL ret d (pc + 1) lv (.int (Int32.ofNat (gk_ln a)) :: rest) μ Q) : Go own cc mL ret d pc lv (.ref a :: rest) μ Q := by
  intro p l e s m args below meth c D α cI cB cR s0 a0 H locs ls hE hH hl
  exact va_alen (D := D) hE.1 hE.2.1 hE.2.2.2.2.2.2.2.1 hH.1 a 0 (x := (gk_ln a, .inl (μ a))) (by rw [gk_ws_get (gk_isO_lt ha (by omega)), gk_ce_i ha]) (ty := .int) rfl rfl hd (kk p l e s m args below meth c D α cI cB cR s0 a0 H locs ls hE hH hl)
theorem go_iastore {a : Nat} {i x : Int32} (hd : decode cc pc = .ok (.iastore, 1)) (ha : gk_isO a 100) (hin : vp_in i (gk_ln a)) (kk : Go own cc mL ret d (pc + 1) lv rest (gk_up μ a i.toNatClampNeg x) Q) : Go own cc mL ret d pc lv (.int x :: .int i :: .ref a :: rest) μ Q := by
  intro p l e s m args below meth c D α cI cB cR s0 a0 H locs ls hE hH hl
  have hlt := gk_isO_lt ha (by omega)
  have hset : (gk_ws α cI cB cR μ).set a (α a, .inl (cI, gk_ln a, .inl (upd (μ a) i.toNatClampNeg x))) = gk_ws α cI cB cR (gk_up μ a i.toNatClampNeg x) := gk_ws_set hlt (by rw [gk_ce_i ha])
  refine va_iast (D := D) hE.1 hE.2.1 hE.2.2.2.2.2.2.2.1 hH.1 hH.2.1 hH.2.2 a 0 (by rw [gk_ws_get hlt, gk_ce_i ha]) rfl hin hd (fun H1 locs1 hP hD hS => ?_)
  rw [hset] at hP hD
  exact kk p l e s m args below meth c D α cI cB cR s0 a0 H1 locs1 ls hE ⟨hP, hD, hS⟩ hl
theorem gk_vnb {x : Int32} (h : gk_b x) : vp_nar .boolean x = x := by rcases h with rfl | rfl <;> rfl
theorem go_bastore {a : Nat} {i x : Int32} (hd : decode cc pc = .ok (.bastore, 1)) (ha : gk_isO a 101) (hin : vp_in i (gk_ln a)) (hx : gk_b x) (kk : Go own cc mL ret d (pc + 1) lv rest (gk_up μ a i.toNatClampNeg x) Q) : Go own cc mL ret d pc lv (.int x :: .int i :: .ref a :: rest) μ Q := by
  intro p l e s m args below meth c D α cI cB cR s0 a0 H locs ls hE hH hl
  have hlt := gk_isO_lt ha (by omega)
  have hset : (gk_ws α cI cB cR μ).set a (α a, .inl (cB, gk_ln a, .inl (upd (μ a) i.toNatClampNeg x))) = gk_ws α cI cB cR (gk_up μ a i.toNatClampNeg x) := gk_ws_set hlt (by rw [gk_ce_b ha])
  refine va_zast (D := D) hE.1 hE.2.1 hE.2.2.2.2.2.2.2.1 hH.1 hH.2.1 hH.2.2 a 1 (by rw [gk_ws_get hlt, gk_ce_b ha]) rfl hin hd (fun H1 locs1 hP hD hS => ?_)
  rw [gk_vnb hx, hset] at hP hD
  exact kk p l e s m args below meth c D α cI cB cR s0 a0 H1 locs1 ls hE ⟨hP, hD, hS⟩ hl
theorem go_aaload {a : Nat} {i : Int32} (hd : decode cc pc = .ok (.aaload, 1)) (ha : gk_isO a 102) (hin : vp_in i (gk_rl a)) (kk : Go own cc mL ret d (pc + 1) lv (.ref (gk_rw a i.toNatClampNeg) :: rest) μ Q) : Go own cc mL ret d pc lv (.int i :: .ref a :: rest) μ Q := by
  intro p l e s m args below meth c D α cI cB cR s0 a0 H locs ls hE hH hl
  have hlt : i.toNatClampNeg < gk_rl a := Nat.not_le.mp fun q => hin (Or.inr q)
  have hw := hH.1 a _ (by rw [gk_ws_get (gk_isO_lt ha (by omega)), gk_ce_r ha])
  have hK := hE.2.2.2.2.2.2.2.1
  refine W.aald (v := .ref (α (gk_rw a i.toNatClampNeg))) (ty := .array .int) hE.1 hE.2.1 hw ((hK.2 2 (cR, .array .int) rfl).1 (gk_rl a) _) rfl (fun q => by cases q) (by show ¬ (i < 0 ∨ (arrV _ _ _).slots.size ≤ _); rw [arrV_size]; exact hin) ?_ rfl rfl hd (kk p l e s m args below meth c D α cI cB cR s0 a0 H locs ls hE hH hl)
  show (arrV _ _ _).slots[_]? = _
  rw [arrV_read _ _ hlt]
  unfold gk_rl at hlt
  unfold gk_rw
  have h9 := List.getElem?_eq_getElem hlt
  show some (va_rf (Option.map α ((gk_sk a).2[i.toNatClampNeg]?))) = _
  rw [List.getD_eq_getElem?_getD, h9]
  rfl
theorem go_mmin {idx : Nat} {x y : Int32} (hd : decode cc pc = .ok (.invokestatic idx, 3)) (h1 : Cond.methodLink own idx Lib.Math.min.name ∈ gk_tb) (h2 : Cond.static Lib.Math.min.name ∈ gk_tb) (h3 : Cond.initialized "java/lang/Math" ∈ gk_tb) (h4 : Cond.code Lib.Math.min.name Lib.Math.min.code 2 (some .int) ∈ gk_tb) (hr : (rest.map fun v => v.category).sum ≤ 8) (hdd : 1 ≤ d) (kk : Go own cc mL ret d (pc + 3) lv (.int (if y < x then y else x) :: rest) μ Q) : Go own cc mL ret d pc lv (.int y :: .int x :: rest) μ Q := by
  intro p l e s m args below meth c D α cI cB cR s0 a0 H locs ls hE hH hl
  have ht := hE.2.2.2.2.2.2.1
  have hr2 : ((rest.map (gk_tr α)).map fun v => v.category).sum ≤ 8 := by simpa only [List.map_map, Function.comp_def, gk_tr_cat] using hr
  refine va_mmin hE.1 hE.2.1 (hE.2.2.1.trans hl.1.symm) hE.2.2.2.2.2.1 (ht _ h1) (ht _ h2) (ht _ h3) (ht _ h4) hdd ?_ (Nat.le_refl _) (Nat.le_refl _) hd (kk p l e s m args below meth c D α cI cB cR s0 a0 H locs ls hE hH hl)
  show _ ≤ 40 * d
  omega
theorem go_mmax {idx : Nat} {x y : Int32} (hd : decode cc pc = .ok (.invokestatic idx, 3)) (h1 : Cond.methodLink own idx Lib.Math.max.name ∈ gk_tb) (h2 : Cond.static Lib.Math.max.name ∈ gk_tb) (h3 : Cond.initialized "java/lang/Math" ∈ gk_tb) (h4 : Cond.code Lib.Math.max.name Lib.Math.max.code 2 (some .int) ∈ gk_tb) (hr : (rest.map fun v => v.category).sum ≤ 8) (hdd : 1 ≤ d) (kk : Go own cc mL ret d (pc + 3) lv (.int (if x < y then y else x) :: rest) μ Q) : Go own cc mL ret d pc lv (.int y :: .int x :: rest) μ Q := by
  intro p l e s m args below meth c D α cI cB cR s0 a0 H locs ls hE hH hl
  have ht := hE.2.2.2.2.2.2.1
  have hr2 : ((rest.map (gk_tr α)).map fun v => v.category).sum ≤ 8 := by simpa only [List.map_map, Function.comp_def, gk_tr_cat] using hr
  refine va_mmax hE.1 hE.2.1 (hE.2.2.1.trans hl.1.symm) hE.2.2.2.2.2.1 (ht _ h1) (ht _ h2) (ht _ h3) (ht _ h4) hdd ?_ (Nat.le_refl _) (Nat.le_refl _) hd (kk p l e s m args below meth c D α cI cB cR s0 a0 H locs ls hE hH hl)
  show _ ≤ 40 * d
  omega
theorem go_acopy {idx a b : Nat} {sp dp n : Int32} (hd : decode cc pc = .ok (.invokestatic idx, 3)) (w1 : Cond.methodLink own idx arraycopyName ∈ gk_tb) (w2 : Cond.native arraycopyName ∈ gk_tb) (w3 : Cond.static arraycopyName ∈ gk_tb) (w4 : Cond.initialized "java/lang/System" ∈ gk_tb) (ha : gk_isO a 100) (hb : gk_isO b 100) (h1 : ¬ sp < 0) (h2 : ¬ dp < 0) (h3 : ¬ n < 0) (h4 : sp.toNatClampNeg + n.toNatClampNeg ≤ gk_ln a) (h5 : dp.toNatClampNeg + n.toNatClampNeg ≤ gk_ln b) (hr : (rest.map fun v => v.category).sum ≤ 8) (hdd : 1 ≤ d) (kk : Go own cc mL ret d (pc + 3) lv rest (gk_sa μ b (va_cpy (μ a) (μ b) sp.toNatClampNeg dp.toNatClampNeg n.toNatClampNeg)) Q) : Go own cc mL ret d pc lv (.int n :: .int dp :: .ref b :: .int sp :: .ref a :: rest) μ Q := by
  intro p l e s m args below meth c D α cI cB cR s0 a0 H locs ls hE hH hl
  have ht := hE.2.2.2.2.2.2.1
  have hr2 : ((rest.map (gk_tr α)).map fun v => v.category).sum ≤ 8 := by simpa only [List.map_map, Function.comp_def, gk_tr_cat] using hr
  have hlt := gk_isO_lt hb (by omega)
  have hset : (gk_ws α cI cB cR μ).set b (α b, .inl (cI, gk_ln b, .inl (va_cpy (μ a) (μ b) sp.toNatClampNeg dp.toNatClampNeg n.toNatClampNeg))) = gk_ws α cI cB cR (gk_sa μ b (va_cpy (μ a) (μ b) sp.toNatClampNeg dp.toNatClampNeg n.toNatClampNeg)) := gk_ws_set hlt (by rw [gk_ce_i hb])
  refine va_copyi (D := D) hE.1 hE.2.1 (hE.2.2.1.trans hl.1.symm) hE.2.2.2.2.2.1 (ht _ w1) (ht _ w2) (ht _ w3) (ht _ w4) hE.2.2.2.2.2.2.2.1 hH.1 hH.2.1 hH.2.2 a b 0 0 (ty := .int) (by rw [gk_ws_get (gk_isO_lt ha (by omega)), gk_ce_i ha]) (by rw [gk_ws_get hlt, gk_ce_i hb]) rfl rfl rfl h1 h2 h3 h4 h5 (fun _ _ => rfl) hdd ?_ hd (fun H1 locs1 hP hD hS => ?_)
  · show _ + _ ≤ 40 * d
    have : nativeFrameWords "java/lang/System" "arraycopy" 5 + 11 ≤ 32 := by decide
    omega
  · rw [hset] at hP hD
    exact kk p l e s m args below meth c D α cI cB cR s0 a0 H1 locs1 ls hE ⟨hP, hD, hS⟩ hl
end GoMem
/-- a call's words -/
def gk_cw (own : String) (idx : Nat) (y : MethodName) (cc : ByteArray) (mL : Nat) (ret : Option FieldType) (n : Nat) : Prop := Cond.methodLink own idx y ∈ gk_tb ∧ Cond.code y cc mL ret ∈ gk_tb ∧ Cond.initialized y.cls ∈ gk_tb ∧ (y.cls ≠ "java/lang/invoke/MethodHandle" ∧ y.cls ≠ "java/lang/invoke/VarHandle" ∧ (parseMethodDescriptor y.desc).map (fun d => d.parameters.length) = some n) ∧ mL ≤ 21
theorem gk_good_code {y : MethodName} {cc : ByteArray} {mL : Nat} {ret : Option FieldType} (h : Cond.code y cc mL ret ∈ gk_tb) : GoodIn gk_tb (Cond.code y cc mL ret :: gk_tb) := fun w hw => by
  rcases List.mem_cons.mp hw with rfl | q
  · exact gk_tb_good _ h
  · exact gk_tb_good _ q
theorem gk_blind {D : va_G} {α : Nat → Nat} {cI cB cR : ClassId} {s0 : State} {a0 : Array Value} {sz : Nat} {avs : List Value} {μ : gk_St} : FrameBlind (gk_Pc D α cI cB cR s0 a0 sz avs μ) := fun a U g mk q => by
  obtain ⟨q0, q1, qP, qK, qD, qR⟩ := q
  exact ⟨q0, q1, qP, va_K.moved (u := U) (U := U.calling g mk a) (Vm.Alike.refl U.vm) qK, qD, gk_RO.moved (u := U) (U := U.calling g mk a) (Vm.Alike.refl U.vm) qR⟩
theorem gk_A_mono {α : Nat → Nat} {a b : Nat} (h : a ≤ b) : ∀ q, gk_A α b q → gk_A α a q := fun q hq => hq.elim Or.inl (fun z => Or.inr (Nat.le_trans h z))
section GoCall
variable {own : String} {cc : ByteArray} {mL : Nat} {ret : Option FieldType} {d pc : Nat} {lv : List (Nat × Value)} {rest : List Value} {μ : gk_St} {Q : Option Value → gk_St → Prop}
theorem gk_after {p : Program} {l : Launch} {e : Env} {s : State} {m : MethodId} {args : Array Value} {below : List Frame} {meth : Method} {c : Code} {D : va_G} {α : Nat → Nat} {cI cB cR : ClassId} {s0 : State} {a0 : Array Value} {H : Heap} {locs : List Loc} {ls : Array Slot} {st0 : List Value} {a : Array Value} {Qa : Option Value → gk_St → Prop}
    (hr : va_Run p l e (gk_rm d) s m args below meth c H locs 0 0 0 0 (F0 m pc ls st0) (rest.map (gk_tr α)) (gk_Qc D α cI cB cR H.size Qa a) (gk_A α H.size)) (hE : gk_Env own cc mL ret D α cI cB cR s0 a0 p s m args meth c) (hH : gk_H D α cI cB cR μ s H locs) (hl : lv_has ls mL (lv.map (fun q => (q.1, gk_tr α q.2))))
    (k : ∀ (r : Option Value) (μ' : gk_St), Qa r μ' → Go own cc mL ret d (pc + 3) lv (r.toList ++ rest) μ' Q) : W p l e (gk_rm d) s m args below meth c H locs 0 0 (MQ below (gk_Qc D α cI cB cR s.heap.size Q) args s 0 0 (gk_A α s.heap.size)) (F0 m pc ls st0) := by
  intro T hT X
  obtain ⟨v, st₀, t, T', L, h0, X', hL, e1, e2, ⟨⟨r, μ', hv, hq, hP, hK, hD⟩, hz, hk⟩, st⟩ := hr T hT X
  have hv : v = r.map (gk_tr α) := by cases hv; rfl
  subst hv
  rw [h0] at hz hk
  have hle : s.heap.size ≤ H.size := hH.2.2.1
  have hS : va_S (gk_A α s.heap.size) s.heap T'.heap (locs ++ L) :=
    ⟨Nat.le_trans hle (by rw [e1]; exact hz), fun q h1 h2 => by rw [e1, hk q (Nat.lt_of_lt_of_le h1 hle) (fun z => h2 (gk_A_mono hle q z))]; exact hH.2.2.2.1 q h1 h2, fun q hq => by
      rcases List.mem_append.mp hq with h | h
      · exact hH.2.2.2.2 q h
      · exact gk_A_mono hle _ (hL q h)⟩
  obtain ⟨t2, a1, b1⟩ := k r μ' hq p l e s m args below meth c D α cI cB cR s0 a0 T'.heap (locs ++ L) ls hE ⟨by rw [e1]; exact hP, hD.weaken (fun _ _ _ h => gk_A_mono hle _ h), hS⟩ hl T' rfl X'
  refine ⟨t2, st t2 ?_, b1⟩
  have hst : (r.toList ++ rest).map (gk_tr α) = (r.map (gk_tr α)).toList ++ rest.map (gk_tr α) := by cases r <;> simp
  rw [hst] at a1
  exact a1
theorem gk_room {mL' d' : Nat} (h : mL' ≤ 21) (hdd : d' + 1 ≤ d) : (gk_rm d').frames + 1 ≤ (gk_rm d).frames ∧ 8 + (mL' + 11) + (gk_rm d').locals ≤ (gk_rm d).locals := ⟨hdd, by
  show 8 + (mL' + 11) + 40 * d' ≤ 40 * d
  omega⟩
theorem gk_pre {p : Program} {s : State} {m : MethodId} {args : Array Value} {meth : Method} {c : Code} {D : va_G} {α : Nat → Nat} {cI cB cR : ClassId} {s0 : State} {a0 : Array Value} {H : Heap} {locs : List Loc} (hE : gk_Env own cc mL ret D α cI cB cR s0 a0 p s m args meth c) (hH : gk_H D α cI cB cR μ s H locs) (avs : List Value) : ∀ U : State, U.heap = H → s.WarmedH U.vm → gk_Pc D α cI cB cR s0 a0 H.size avs μ (avs.map (gk_tr α)).toArray U := fun U hU hW =>
  ⟨rfl, by rw [hU], by rw [hU]; exact hH.1, va_K.moved hW.alike hE.2.2.2.2.2.2.2.1, hH.2.1.weaken (fun _ _ _ _ => trivial), by rw [hU]; exact (hE.2.2.2.2.2.2.2.2.kept hH.2.2).moved hW.alike⟩
/-- invokevirtual -/
theorem go_callV {idx : Nat} {y : MethodName} {cc' : ByteArray} {mL' d' n ci o : Nat} {ret' : Option FieldType} {T : u_T} {N : Nat} {Qa : Option Value → gk_St → Prop} (As : List Value) (hd : decode cc pc = .ok (.invokevirtual idx, 3)) (hw : gk_cw own idx y cc' mL' ret' n) (hi : Cond.instanceMethod y ∈ gk_tb) (hs : Cond.selects y.cls y y ∈ gk_tb) (hc : vwCl[ci]? = some (y.cls, T, N)) (hci : ci < 100) (ho : gk_isO o ci) (hn : As.length = n) (hr : (rest.map fun v => v.category).sum ≤ 8) (hdd : d' + 1 ≤ d) (hM : gk_CT y cc' mL' ret' d' (.ref o :: As) μ Qa)
    (k : ∀ (r : Option Value) (μ' : gk_St), Qa r μ' → Go own cc mL ret d (pc + 3) lv (r.toList ++ rest) μ' Q) : Go own cc mL ret d pc lv (As.reverse ++ .ref o :: rest) μ Q := by
  intro p l e s m args below meth c D α cI cB cR s0 a0 H locs ls hE hH hl
  have ht := hE.2.2.2.2.2.2.1
  obtain ⟨w1, w2, w3, w4, w5⟩ := hw
  have hr2 : ((rest.map (gk_tr α)).map fun v => v.category).sum ≤ 8 := by simpa only [List.map_map, Function.comp_def, gk_tr_cat] using hr
  have cw : CallW (gk_rm d) s args own y.cls idx y cc' mL' ret' (Cond.code y cc' mL' ret' :: gk_tb) (gk_rm d') 0 0 n := ⟨callB_of n ht (gk_good_code w2) rfl rfl rfl (ht _ w3) (ht _ w1) w4 (gk_room w5 hdd), ht _ hi, ht _ hs⟩
  have hrec := va_recv hE.2.2.2.2.2.2.2.1 hH.1 hc (a := α o) (q0 := o) (fs := (gk_sk o).2.mapIdx (fun j r => if r = 0 then Value.int (μ o j) else Value.ref (α (r - 1)))) (by rw [gk_ws_get (gk_isO_lt ho (by omega)), gk_ce_o ho hci])
  exact gk_after (va_runV (As := As.map (gk_tr α)) (rest := rest.map (gk_tr α)) (b := α o) ⟨hE.1, hE.2.1, hE.2.2.1, hE.2.2.2.2.2.1, ht⟩ (hM l D α cI cB cR s0 a0 H.size) cw ⟨gk_blind, hrec, gk_pre hE hH (.ref o :: As)⟩ rfl (by rw [List.length_map]; exact hn) hl.1 (by show (As.reverse ++ .ref o :: rest).map (gk_tr α) = _; rw [List.map_append, List.map_reverse]; rfl) (lv_room hr2) hd ⟨Nat.zero_le _, Nat.zero_le _⟩) hE hH hl k
/-- invokestatic -/
theorem go_callS {idx : Nat} {y : MethodName} {cc' : ByteArray} {mL' d' n : Nat} {ret' : Option FieldType} {Qa : Option Value → gk_St → Prop} (As : List Value) (hd : decode cc pc = .ok (.invokestatic idx, 3)) (hw : gk_cw own idx y cc' mL' ret' n) (hi : Cond.static y ∈ gk_tb) (hn : As.length = n) (hr : (rest.map fun v => v.category).sum ≤ 8) (hdd : d' + 1 ≤ d) (hM : gk_CT y cc' mL' ret' d' As μ Qa)
    (k : ∀ (r : Option Value) (μ' : gk_St), Qa r μ' → Go own cc mL ret d (pc + 3) lv (r.toList ++ rest) μ' Q) : Go own cc mL ret d pc lv (As.reverse ++ rest) μ Q := by
  intro p l e s m args below meth c D α cI cB cR s0 a0 H locs ls hE hH hl
  have ht := hE.2.2.2.2.2.2.1
  obtain ⟨w1, w2, w3, w4, w5⟩ := hw
  have hr2 : ((rest.map (gk_tr α)).map fun v => v.category).sum ≤ 8 := by simpa only [List.map_map, Function.comp_def, gk_tr_cat] using hr
  have cw : CallB (gk_rm d) s args own idx y cc' mL' ret' (Cond.code y cc' mL' ret' :: gk_tb) (gk_rm d') 0 0 n := callB_of n ht (gk_good_code w2) rfl rfl rfl (ht _ w3) (ht _ w1) w4 (gk_room w5 hdd)
  exact gk_after (va_runS (As := As.map (gk_tr α)) (rest := rest.map (gk_tr α)) ⟨hE.1, hE.2.1, hE.2.2.1, hE.2.2.2.2.2.1, ht⟩ (hM l D α cI cB cR s0 a0 H.size) ⟨cw, ht _ hi⟩ ⟨gk_blind, gk_pre hE hH As⟩ rfl (by rw [List.length_map]; exact hn) hl.1 (by show (As.reverse ++ rest).map (gk_tr α) = _; rw [List.map_append, List.map_reverse]) (lv_room hr2) hd ⟨Nat.zero_le _, Nat.zero_le _⟩) hE hH hl k
/-- invokestatic of a nest mate's private method -/
theorem go_callSN {idx : Nat} {y : MethodName} {host : String} {cc' : ByteArray} {mL' d' n : Nat} {ret' : Option FieldType} {Qa : Option Value → gk_St → Prop} (As : List Value) (hd : decode cc pc = .ok (.invokestatic idx, 3)) (w1 : Cond.methodLinkNest own idx y host ∈ gk_tb) (w2 : Cond.code y cc' mL' ret' ∈ gk_tb) (w3 : Cond.initialized y.cls ∈ gk_tb) (w4 : y.cls ≠ "java/lang/invoke/MethodHandle" ∧ y.cls ≠ "java/lang/invoke/VarHandle" ∧ (parseMethodDescriptor y.desc).map (fun d => d.parameters.length) = some n) (w5 : mL' ≤ 21) (hi : Cond.static y ∈ gk_tb) (hn : As.length = n) (hr : (rest.map fun v => v.category).sum ≤ 8) (hdd : d' + 1 ≤ d) (hM : gk_CT y cc' mL' ret' d' As μ Qa)
    (k : ∀ (r : Option Value) (μ' : gk_St), Qa r μ' → Go own cc mL ret d (pc + 3) lv (r.toList ++ rest) μ' Q) : Go own cc mL ret d pc lv (As.reverse ++ rest) μ Q := by
  intro p l e s m args below meth c D α cI cB cR s0 a0 H locs ls hE hH hl
  have ht := hE.2.2.2.2.2.2.1
  have hr2 : ((rest.map (gk_tr α)).map fun v => v.category).sum ≤ 8 := by simpa only [List.map_map, Function.comp_def, gk_tr_cat] using hr
  have cw : va_CN (gk_rm d) s args own idx y host cc' mL' ret' (Cond.code y cc' mL' ret' :: gk_tb) (gk_rm d') 0 0 n := va_cnB n ht (gk_good_code w2) rfl rfl rfl (ht _ w1) (ht _ w3) w4 (gk_room w5 hdd)
  exact gk_after (va_runSN (As := As.map (gk_tr α)) (rest := rest.map (gk_tr α)) ⟨hE.1, hE.2.1, hE.2.2.1, hE.2.2.2.2.2.1, ht⟩ (hM l D α cI cB cR s0 a0 H.size) ⟨cw, ht _ hi, trivial⟩ ⟨gk_blind, gk_pre hE hH As⟩ rfl (by rw [List.length_map]; exact hn) hl.1 (by show (As.reverse ++ rest).map (gk_tr α) = _; rw [List.map_append, List.map_reverse]) (lv_room hr2) hd ⟨Nat.zero_le _, Nat.zero_le _⟩) hE hH hl k
end GoCall
/-! answers by kind -/
def gk_Qi (Q : Int32 → gk_St → Prop) : Option Value → gk_St → Prop := fun r μ => ∃ v, r = some (.int v) ∧ Q v μ
def gk_Ql (Q : Int64 → gk_St → Prop) : Option Value → gk_St → Prop := fun r μ => ∃ v, r = some (.long v) ∧ Q v μ
def gk_Qv (Q : gk_St → Prop) : Option Value → gk_St → Prop := fun r μ => r = none ∧ Q μ
def gk_Qr (ci : Nat) (Q : Nat → gk_St → Prop) : Option Value → gk_St → Prop := fun r μ => ∃ o, r = some (.ref o) ∧ gk_isO o ci ∧ Q o μ
def gk_Qq (ci : Nat) (Q : Option Nat → gk_St → Prop) : Option Value → gk_St → Prop := fun r μ => (r = some .null ∧ Q none μ) ∨ ∃ o, r = some (.ref o) ∧ gk_isO o ci ∧ Q (some o) μ
section GoAns
variable {own : String} {cc : ByteArray} {mL : Nat} {ret : Option FieldType} {d pc : Nat} {lv : List (Nat × Value)} {rest : List Value} {Q : Option Value → gk_St → Prop}
theorem gk_ki {Qa : Int32 → gk_St → Prop} (k : ∀ (v : Int32) (μ : gk_St), Qa v μ → Go own cc mL ret d pc lv (.int v :: rest) μ Q) : ∀ (r : Option Value) (μ : gk_St), gk_Qi Qa r μ → Go own cc mL ret d pc lv (r.toList ++ rest) μ Q := by
  rintro r μ ⟨v, rfl, h⟩
  exact k v μ h
theorem gk_kl {Qa : Int64 → gk_St → Prop} (k : ∀ (v : Int64) (μ : gk_St), Qa v μ → Go own cc mL ret d pc lv (.long v :: rest) μ Q) : ∀ (r : Option Value) (μ : gk_St), gk_Ql Qa r μ → Go own cc mL ret d pc lv (r.toList ++ rest) μ Q := by
  rintro r μ ⟨v, rfl, h⟩
  exact k v μ h
theorem gk_kv {Qa : gk_St → Prop} (k : ∀ (μ : gk_St), Qa μ → Go own cc mL ret d pc lv rest μ Q) : ∀ (r : Option Value) (μ : gk_St), gk_Qv Qa r μ → Go own cc mL ret d pc lv (r.toList ++ rest) μ Q := by
  rintro r μ ⟨rfl, h⟩
  exact k μ h
theorem gk_kr {ci : Nat} {Qa : Nat → gk_St → Prop} (k : ∀ (o : Nat) (μ : gk_St), gk_isO o ci → Qa o μ → Go own cc mL ret d pc lv (.ref o :: rest) μ Q) : ∀ (r : Option Value) (μ : gk_St), gk_Qr ci Qa r μ → Go own cc mL ret d pc lv (r.toList ++ rest) μ Q := by
  rintro r μ ⟨v, rfl, h1, h⟩
  exact k v μ h1 h
theorem gk_kq {ci : Nat} {Qa : Option Nat → gk_St → Prop} (k0 : ∀ (μ : gk_St), Qa none μ → Go own cc mL ret d pc lv (.null :: rest) μ Q) (k : ∀ (o : Nat) (μ : gk_St), gk_isO o ci → Qa (some o) μ → Go own cc mL ret d pc lv (.ref o :: rest) μ Q) : ∀ (r : Option Value) (μ : gk_St), gk_Qq ci Qa r μ → Go own cc mL ret d pc lv (r.toList ++ rest) μ Q := by
  rintro r μ (⟨rfl, h⟩ | ⟨v, rfl, h1, h⟩)
  · exact k0 μ h
  · exact k v μ h1 h
end GoAns
theorem gk_ip {c A B : Prop} {dc : Decidable c} (h : @ite Prop c dc A B) (hc : c) : A := by rw [if_pos hc] at h; exact h
theorem gk_in {c A B : Prop} {dc : Decidable c} (h : @ite Prop c dc A B) (hc : ¬ c) : B := by rw [if_neg hc] at h; exact h
theorem gk_chk {P : Nat → Bool} (h : (List.range gk_N).all P = true) {o : Nat} (ho : o < gk_N) : P o = true := List.all_eq_true.mp h o (List.mem_range.mpr ho)
end
