set_option maxRecDepth 100000 in
theorem sl_RX7_323 : Cond.fieldLink RX7 323 "CableCars" "DIGEST_MOMENTS" "[I" ∈ gk_tb := gk_tb_in 923 (by decide +kernel) (by decide +kernel)
set_option maxRecDepth 100000 in
theorem sl_RJ0_9 : Cond.fieldLink RJ0 9 "java/lang/String" "value" "[B" ∈ gk_tb := gk_tb_in 1495 (by decide +kernel) (by decide +kernel)
set_option maxRecDepth 100000 in
theorem sl_RJ0_15 : Cond.fieldLink RJ0 15 "java/lang/String" "coder" "B" ∈ gk_tb := gk_tb_in 1494 (by decide +kernel) (by decide +kernel)
set_option maxRecDepth 100000 in
theorem sl_RJ0_38 : Cond.fieldLink RJ0 38 "java/lang/String" "COMPACT_STRINGS" "Z" ∈ gk_tb := gk_tb_in 455 (by decide +kernel) (by decide +kernel)
set_option maxRecDepth 100000 in
theorem sl_RJ0_1053 : Cond.fieldLink RJ0 1053 "jdk/internal/util/Preconditions" "SIOOBE_FORMATTER" "Ljava/util/function/BiFunction;" ∈ gk_tb := gk_tb_in 496 (by decide +kernel) (by decide +kernel)
set_option maxRecDepth 100000 in
theorem sl_RJ2_44 : Cond.fieldLink RJ2 44 "java/lang/StringUTF16" "$assertionsDisabled" "Z" ∈ gk_tb := gk_tb_in 507 (by decide +kernel) (by decide +kernel)
set_option maxRecDepth 100000 in
theorem sl_RJ2_59 : Cond.fieldLink RJ2 59 "java/lang/StringUTF16" "HI_BYTE_SHIFT" "I" ∈ gk_tb := gk_tb_in 509 (by decide +kernel) (by decide +kernel)
set_option maxRecDepth 100000 in
theorem sl_RJ2_63 : Cond.fieldLink RJ2 63 "java/lang/StringUTF16" "LO_BYTE_SHIFT" "I" ∈ gk_tb := gk_tb_in 511 (by decide +kernel) (by decide +kernel)
set_option maxRecDepth 100000 in
theorem kc_X7_init : Cond.code yX7_init cX7_init 1 none ∈ gk_tb := gk_tb_in 107 (by decide +kernel) (by decide +kernel)
set_option maxRecDepth 100000 in
theorem ki_X7_init : Cond.instanceMethod yX7_init ∈ gk_tb := gk_tb_in 106 (by decide +kernel) (by decide +kernel)
set_option maxRecDepth 100000 in
theorem kn_X7_init : Cond.initialized yX7_init.cls ∈ gk_tb := gk_tb_in 85 (by decide +kernel) (by decide +kernel)
set_option maxRecDepth 100000 in
theorem kc_X7_anotherHangsAt : Cond.code yX7_anotherHangsAt cX7_anotherHangsAt 4 (some .boolean) ∈ gk_tb := gk_tb_in 741 (by decide +kernel) (by decide +kernel)
set_option maxRecDepth 100000 in
theorem ki_X7_anotherHangsAt : Cond.instanceMethod yX7_anotherHangsAt ∈ gk_tb := gk_tb_in 740 (by decide +kernel) (by decide +kernel)
set_option maxRecDepth 100000 in
theorem ks_X7_anotherHangsAt : Cond.selects yX7_anotherHangsAt.cls yX7_anotherHangsAt yX7_anotherHangsAt ∈ gk_tb := gk_tb_in 20 (by decide +kernel) (by decide +kernel)
set_option maxRecDepth 100000 in
theorem kn_X7_anotherHangsAt : Cond.initialized yX7_anotherHangsAt.cls ∈ gk_tb := gk_tb_in 85 (by decide +kernel) (by decide +kernel)
set_option maxRecDepth 100000 in
theorem kc_X7_asTold : Cond.code yX7_asTold cX7_asTold 1 (some (.object "CableCars$Ride")) ∈ gk_tb := gk_tb_in 613 (by decide +kernel) (by decide +kernel)
set_option maxRecDepth 100000 in
theorem ki_X7_asTold : Cond.instanceMethod yX7_asTold ∈ gk_tb := gk_tb_in 612 (by decide +kernel) (by decide +kernel)
set_option maxRecDepth 100000 in
theorem ks_X7_asTold : Cond.selects yX7_asTold.cls yX7_asTold yX7_asTold ∈ gk_tb := gk_tb_in 10 (by decide +kernel) (by decide +kernel)
set_option maxRecDepth 100000 in
theorem kn_X7_asTold : Cond.initialized yX7_asTold.cls ∈ gk_tb := gk_tb_in 85 (by decide +kernel) (by decide +kernel)
set_option maxRecDepth 100000 in
theorem kc_X7_ask : Cond.code yX7_ask cX7_ask 6 (some .int) ∈ gk_tb := gk_tb_in 815 (by decide +kernel) (by decide +kernel)
set_option maxRecDepth 100000 in
theorem ki_X7_ask : Cond.instanceMethod yX7_ask ∈ gk_tb := gk_tb_in 813 (by decide +kernel) (by decide +kernel)
set_option maxRecDepth 100000 in
theorem ks_X7_ask : Cond.selects yX7_ask.cls yX7_ask yX7_ask ∈ gk_tb := gk_tb_in 814 (by decide +kernel) (by decide +kernel)
set_option maxRecDepth 100000 in
theorem kn_X7_ask : Cond.initialized yX7_ask.cls ∈ gk_tb := gk_tb_in 85 (by decide +kernel) (by decide +kernel)
set_option maxRecDepth 100000 in
theorem kc_X7_at : Cond.code yX7_at cX7_at 5 (some .int) ∈ gk_tb := gk_tb_in 609 (by decide +kernel) (by decide +kernel)
set_option maxRecDepth 100000 in
theorem ki_X7_at : Cond.instanceMethod yX7_at ∈ gk_tb := gk_tb_in 607 (by decide +kernel) (by decide +kernel)
set_option maxRecDepth 100000 in
theorem ks_X7_at : Cond.selects yX7_at.cls yX7_at yX7_at ∈ gk_tb := gk_tb_in 608 (by decide +kernel) (by decide +kernel)
set_option maxRecDepth 100000 in
theorem kn_X7_at : Cond.initialized yX7_at.cls ∈ gk_tb := gk_tb_in 85 (by decide +kernel) (by decide +kernel)
set_option maxRecDepth 100000 in
theorem kc_X7_back : Cond.code yX7_back cX7_back 1 (some .int) ∈ gk_tb := gk_tb_in 592 (by decide +kernel) (by decide +kernel)
set_option maxRecDepth 100000 in
theorem ki_X7_back : Cond.instanceMethod yX7_back ∈ gk_tb := gk_tb_in 590 (by decide +kernel) (by decide +kernel)
set_option maxRecDepth 100000 in
theorem ks_X7_back : Cond.selects yX7_back.cls yX7_back yX7_back ∈ gk_tb := gk_tb_in 591 (by decide +kernel) (by decide +kernel)
set_option maxRecDepth 100000 in
theorem kn_X7_back : Cond.initialized yX7_back.cls ∈ gk_tb := gk_tb_in 85 (by decide +kernel) (by decide +kernel)
set_option maxRecDepth 100000 in
theorem kc_X7_car : Cond.code yX7_car cX7_car 3 (some .int) ∈ gk_tb := gk_tb_in 546 (by decide +kernel) (by decide +kernel)
set_option maxRecDepth 100000 in
theorem ki_X7_car : Cond.instanceMethod yX7_car ∈ gk_tb := gk_tb_in 544 (by decide +kernel) (by decide +kernel)
set_option maxRecDepth 100000 in
theorem ks_X7_car : Cond.selects yX7_car.cls yX7_car yX7_car ∈ gk_tb := gk_tb_in 545 (by decide +kernel) (by decide +kernel)
set_option maxRecDepth 100000 in
theorem kn_X7_car : Cond.initialized yX7_car.cls ∈ gk_tb := gk_tb_in 85 (by decide +kernel) (by decide +kernel)
set_option maxRecDepth 100000 in
theorem kc_X7_carried : Cond.code yX7_carried cX7_carried 2 (some .int) ∈ gk_tb := gk_tb_in 717 (by decide +kernel) (by decide +kernel)
set_option maxRecDepth 100000 in
theorem ki_X7_carried : Cond.instanceMethod yX7_carried ∈ gk_tb := gk_tb_in 715 (by decide +kernel) (by decide +kernel)
set_option maxRecDepth 100000 in
theorem ks_X7_carried : Cond.selects yX7_carried.cls yX7_carried yX7_carried ∈ gk_tb := gk_tb_in 716 (by decide +kernel) (by decide +kernel)
set_option maxRecDepth 100000 in
theorem kn_X7_carried : Cond.initialized yX7_carried.cls ∈ gk_tb := gk_tb_in 85 (by decide +kernel) (by decide +kernel)
set_option maxRecDepth 100000 in
theorem kc_X7_chance : Cond.code yX7_chance cX7_chance 9 (some .long) ∈ gk_tb := gk_tb_in 832 (by decide +kernel) (by decide +kernel)
set_option maxRecDepth 100000 in
theorem ki_X7_chance : Cond.instanceMethod yX7_chance ∈ gk_tb := gk_tb_in 830 (by decide +kernel) (by decide +kernel)
set_option maxRecDepth 100000 in
theorem ks_X7_chance : Cond.selects yX7_chance.cls yX7_chance yX7_chance ∈ gk_tb := gk_tb_in 831 (by decide +kernel) (by decide +kernel)
set_option maxRecDepth 100000 in
theorem kn_X7_chance : Cond.initialized yX7_chance.cls ∈ gk_tb := gk_tb_in 85 (by decide +kernel) (by decide +kernel)
set_option maxRecDepth 100000 in
theorem kc_X7_cheap : Cond.code yX7_cheap cX7_cheap 7 (some .int) ∈ gk_tb := gk_tb_in 749 (by decide +kernel) (by decide +kernel)
set_option maxRecDepth 100000 in
theorem ki_X7_cheap : Cond.instanceMethod yX7_cheap ∈ gk_tb := gk_tb_in 747 (by decide +kernel) (by decide +kernel)
set_option maxRecDepth 100000 in
theorem ks_X7_cheap : Cond.selects yX7_cheap.cls yX7_cheap yX7_cheap ∈ gk_tb := gk_tb_in 748 (by decide +kernel) (by decide +kernel)
set_option maxRecDepth 100000 in
theorem kn_X7_cheap : Cond.initialized yX7_cheap.cls ∈ gk_tb := gk_tb_in 85 (by decide +kernel) (by decide +kernel)
set_option maxRecDepth 100000 in
theorem kc_X7_comesOutAsSeen : Cond.code yX7_comesOutAsSeen cX7_comesOutAsSeen 1 (some .boolean) ∈ gk_tb := gk_tb_in 795 (by decide +kernel) (by decide +kernel)
set_option maxRecDepth 100000 in
theorem ki_X7_comesOutAsSeen : Cond.instanceMethod yX7_comesOutAsSeen ∈ gk_tb := gk_tb_in 794 (by decide +kernel) (by decide +kernel)
set_option maxRecDepth 100000 in
theorem ks_X7_comesOutAsSeen : Cond.selects yX7_comesOutAsSeen.cls yX7_comesOutAsSeen yX7_comesOutAsSeen ∈ gk_tb := gk_tb_in 23 (by decide +kernel) (by decide +kernel)
set_option maxRecDepth 100000 in
theorem kn_X7_comesOutAsSeen : Cond.initialized yX7_comesOutAsSeen.cls ∈ gk_tb := gk_tb_in 85 (by decide +kernel) (by decide +kernel)
set_option maxRecDepth 100000 in
theorem kc_X7_coming : Cond.code yX7_coming cX7_coming 3 (some .int) ∈ gk_tb := gk_tb_in 558 (by decide +kernel) (by decide +kernel)
set_option maxRecDepth 100000 in
theorem ki_X7_coming : Cond.instanceMethod yX7_coming ∈ gk_tb := gk_tb_in 556 (by decide +kernel) (by decide +kernel)
set_option maxRecDepth 100000 in
theorem ks_X7_coming : Cond.selects yX7_coming.cls yX7_coming yX7_coming ∈ gk_tb := gk_tb_in 557 (by decide +kernel) (by decide +kernel)
set_option maxRecDepth 100000 in
theorem kn_X7_coming : Cond.initialized yX7_coming.cls ∈ gk_tb := gk_tb_in 85 (by decide +kernel) (by decide +kernel)
set_option maxRecDepth 100000 in
theorem kc_X7_copy : Cond.code yX7_copy cX7_copy 8 (some .int) ∈ gk_tb := gk_tb_in 890 (by decide +kernel) (by decide +kernel)
set_option maxRecDepth 100000 in
theorem ki_X7_copy : Cond.instanceMethod yX7_copy ∈ gk_tb := gk_tb_in 888 (by decide +kernel) (by decide +kernel)
set_option maxRecDepth 100000 in
theorem ks_X7_copy : Cond.selects yX7_copy.cls yX7_copy yX7_copy ∈ gk_tb := gk_tb_in 889 (by decide +kernel) (by decide +kernel)
set_option maxRecDepth 100000 in
theorem kn_X7_copy : Cond.initialized yX7_copy.cls ∈ gk_tb := gk_tb_in 85 (by decide +kernel) (by decide +kernel)
set_option maxRecDepth 100000 in
theorem kc_X7_count : Cond.code yX7_count cX7_count 2 (some .int) ∈ gk_tb := gk_tb_in 903 (by decide +kernel) (by decide +kernel)
set_option maxRecDepth 100000 in
theorem ki_X7_count : Cond.instanceMethod yX7_count ∈ gk_tb := gk_tb_in 901 (by decide +kernel) (by decide +kernel)
set_option maxRecDepth 100000 in
theorem ks_X7_count : Cond.selects yX7_count.cls yX7_count yX7_count ∈ gk_tb := gk_tb_in 902 (by decide +kernel) (by decide +kernel)
set_option maxRecDepth 100000 in
theorem kn_X7_count : Cond.initialized yX7_count.cls ∈ gk_tb := gk_tb_in 85 (by decide +kernel) (by decide +kernel)
set_option maxRecDepth 100000 in
theorem kc_X7_crowd : Cond.code yX7_crowd cX7_crowd 6 (some .int) ∈ gk_tb := gk_tb_in 709 (by decide +kernel) (by decide +kernel)
set_option maxRecDepth 100000 in
theorem ki_X7_crowd : Cond.instanceMethod yX7_crowd ∈ gk_tb := gk_tb_in 707 (by decide +kernel) (by decide +kernel)
set_option maxRecDepth 100000 in
theorem ks_X7_crowd : Cond.selects yX7_crowd.cls yX7_crowd yX7_crowd ∈ gk_tb := gk_tb_in 708 (by decide +kernel) (by decide +kernel)
set_option maxRecDepth 100000 in
theorem kn_X7_crowd : Cond.initialized yX7_crowd.cls ∈ gk_tb := gk_tb_in 85 (by decide +kernel) (by decide +kernel)
set_option maxRecDepth 100000 in
theorem kc_X7_digest : Cond.code yX7_digest cX7_digest 8 (some .long) ∈ gk_tb := gk_tb_in 907 (by decide +kernel) (by decide +kernel)
set_option maxRecDepth 100000 in
theorem ki_X7_digest : Cond.instanceMethod yX7_digest ∈ gk_tb := gk_tb_in 905 (by decide +kernel) (by decide +kernel)
set_option maxRecDepth 100000 in
theorem ks_X7_digest : Cond.selects yX7_digest.cls yX7_digest yX7_digest ∈ gk_tb := gk_tb_in 906 (by decide +kernel) (by decide +kernel)
set_option maxRecDepth 100000 in
theorem kn_X7_digest : Cond.initialized yX7_digest.cls ∈ gk_tb := gk_tb_in 85 (by decide +kernel) (by decide +kernel)
set_option maxRecDepth 100000 in
theorem kc_X7_digestTold : Cond.code yX7_digestTold cX7_digestTold 7 (some .long) ∈ gk_tb := gk_tb_in 912 (by decide +kernel) (by decide +kernel)
set_option maxRecDepth 100000 in
theorem ki_X7_digestTold : Cond.instanceMethod yX7_digestTold ∈ gk_tb := gk_tb_in 911 (by decide +kernel) (by decide +kernel)
set_option maxRecDepth 100000 in
theorem ks_X7_digestTold : Cond.selects yX7_digestTold.cls yX7_digestTold yX7_digestTold ∈ gk_tb := gk_tb_in 30 (by decide +kernel) (by decide +kernel)
set_option maxRecDepth 100000 in
theorem kn_X7_digestTold : Cond.initialized yX7_digestTold.cls ∈ gk_tb := gk_tb_in 85 (by decide +kernel) (by decide +kernel)
set_option maxRecDepth 100000 in
theorem kc_X7_event : Cond.code yX7_event cX7_event 4 (some .int) ∈ gk_tb := gk_tb_in 573 (by decide +kernel) (by decide +kernel)
set_option maxRecDepth 100000 in
theorem ki_X7_event : Cond.instanceMethod yX7_event ∈ gk_tb := gk_tb_in 571 (by decide +kernel) (by decide +kernel)
set_option maxRecDepth 100000 in
theorem ks_X7_event : Cond.selects yX7_event.cls yX7_event yX7_event ∈ gk_tb := gk_tb_in 572 (by decide +kernel) (by decide +kernel)
set_option maxRecDepth 100000 in
theorem kn_X7_event : Cond.initialized yX7_event.cls ∈ gk_tb := gk_tb_in 85 (by decide +kernel) (by decide +kernel)
set_option maxRecDepth 100000 in
theorem kc_X7_fault : Cond.code yX7_fault cX7_fault 2 (some .int) ∈ gk_tb := gk_tb_in 542 (by decide +kernel) (by decide +kernel)
set_option maxRecDepth 100000 in
theorem ki_X7_fault : Cond.instanceMethod yX7_fault ∈ gk_tb := gk_tb_in 540 (by decide +kernel) (by decide +kernel)
set_option maxRecDepth 100000 in
theorem ks_X7_fault : Cond.selects yX7_fault.cls yX7_fault yX7_fault ∈ gk_tb := gk_tb_in 541 (by decide +kernel) (by decide +kernel)
set_option maxRecDepth 100000 in
theorem kn_X7_fault : Cond.initialized yX7_fault.cls ∈ gk_tb := gk_tb_in 85 (by decide +kernel) (by decide +kernel)
set_option maxRecDepth 100000 in
theorem kc_X7_faultOfSpeed : Cond.code yX7_faultOfSpeed cX7_faultOfSpeed 2 (some .int) ∈ gk_tb := gk_tb_in 530 (by decide +kernel) (by decide +kernel)
set_option maxRecDepth 100000 in
theorem ki_X7_faultOfSpeed : Cond.instanceMethod yX7_faultOfSpeed ∈ gk_tb := gk_tb_in 529 (by decide +kernel) (by decide +kernel)
set_option maxRecDepth 100000 in
theorem ks_X7_faultOfSpeed : Cond.selects yX7_faultOfSpeed.cls yX7_faultOfSpeed yX7_faultOfSpeed ∈ gk_tb := gk_tb_in 5 (by decide +kernel) (by decide +kernel)
set_option maxRecDepth 100000 in
theorem kn_X7_faultOfSpeed : Cond.initialized yX7_faultOfSpeed.cls ∈ gk_tb := gk_tb_in 85 (by decide +kernel) (by decide +kernel)
set_option maxRecDepth 100000 in
theorem kc_X7_first : Cond.code yX7_first cX7_first 2 (some .int) ∈ gk_tb := gk_tb_in 713 (by decide +kernel) (by decide +kernel)
set_option maxRecDepth 100000 in
theorem ki_X7_first : Cond.instanceMethod yX7_first ∈ gk_tb := gk_tb_in 711 (by decide +kernel) (by decide +kernel)
set_option maxRecDepth 100000 in
theorem ks_X7_first : Cond.selects yX7_first.cls yX7_first yX7_first ∈ gk_tb := gk_tb_in 712 (by decide +kernel) (by decide +kernel)
set_option maxRecDepth 100000 in
theorem kn_X7_first : Cond.initialized yX7_first.cls ∈ gk_tb := gk_tb_in 85 (by decide +kernel) (by decide +kernel)
set_option maxRecDepth 100000 in
theorem kc_X7_forget : Cond.code yX7_forget cX7_forget 2 (some .int) ∈ gk_tb := gk_tb_in 787 (by decide +kernel) (by decide +kernel)
set_option maxRecDepth 100000 in
theorem ki_X7_forget : Cond.instanceMethod yX7_forget ∈ gk_tb := gk_tb_in 785 (by decide +kernel) (by decide +kernel)
set_option maxRecDepth 100000 in
theorem ks_X7_forget : Cond.selects yX7_forget.cls yX7_forget yX7_forget ∈ gk_tb := gk_tb_in 786 (by decide +kernel) (by decide +kernel)
set_option maxRecDepth 100000 in
theorem kn_X7_forget : Cond.initialized yX7_forget.cls ∈ gk_tb := gk_tb_in 85 (by decide +kernel) (by decide +kernel)
set_option maxRecDepth 100000 in
theorem kc_X7_found : Cond.code yX7_found cX7_found 2 (some .int) ∈ gk_tb := gk_tb_in 604 (by decide +kernel) (by decide +kernel)
set_option maxRecDepth 100000 in
theorem ki_X7_found : Cond.instanceMethod yX7_found ∈ gk_tb := gk_tb_in 603 (by decide +kernel) (by decide +kernel)
set_option maxRecDepth 100000 in
theorem ks_X7_found : Cond.selects yX7_found.cls yX7_found yX7_found ∈ gk_tb := gk_tb_in 9 (by decide +kernel) (by decide +kernel)
set_option maxRecDepth 100000 in
theorem kn_X7_found : Cond.initialized yX7_found.cls ∈ gk_tb := gk_tb_in 85 (by decide +kernel) (by decide +kernel)
set_option maxRecDepth 100000 in
theorem kc_X7_get : Cond.code yX7_get cX7_get 6 (some .int) ∈ gk_tb := gk_tb_in 885 (by decide +kernel) (by decide +kernel)
set_option maxRecDepth 100000 in
theorem ki_X7_get : Cond.instanceMethod yX7_get ∈ gk_tb := gk_tb_in 883 (by decide +kernel) (by decide +kernel)
set_option maxRecDepth 100000 in
theorem ks_X7_get : Cond.selects yX7_get.cls yX7_get yX7_get ∈ gk_tb := gk_tb_in 884 (by decide +kernel) (by decide +kernel)
set_option maxRecDepth 100000 in
theorem kn_X7_get : Cond.initialized yX7_get.cls ∈ gk_tb := gk_tb_in 85 (by decide +kernel) (by decide +kernel)
set_option maxRecDepth 100000 in
theorem kc_X7_hang : Cond.code yX7_hang cX7_hang 6 (some .int) ∈ gk_tb := gk_tb_in 737 (by decide +kernel) (by decide +kernel)
set_option maxRecDepth 100000 in
theorem ki_X7_hang : Cond.instanceMethod yX7_hang ∈ gk_tb := gk_tb_in 735 (by decide +kernel) (by decide +kernel)
set_option maxRecDepth 100000 in
theorem ks_X7_hang : Cond.selects yX7_hang.cls yX7_hang yX7_hang ∈ gk_tb := gk_tb_in 736 (by decide +kernel) (by decide +kernel)
set_option maxRecDepth 100000 in
theorem kn_X7_hang : Cond.initialized yX7_hang.cls ∈ gk_tb := gk_tb_in 85 (by decide +kernel) (by decide +kernel)
set_option maxRecDepth 100000 in
theorem kc_X7_idle : Cond.code yX7_idle cX7_idle 1 (some .int) ∈ gk_tb := gk_tb_in 721 (by decide +kernel) (by decide +kernel)
set_option maxRecDepth 100000 in
theorem ki_X7_idle : Cond.instanceMethod yX7_idle ∈ gk_tb := gk_tb_in 719 (by decide +kernel) (by decide +kernel)
set_option maxRecDepth 100000 in
theorem ks_X7_idle : Cond.selects yX7_idle.cls yX7_idle yX7_idle ∈ gk_tb := gk_tb_in 720 (by decide +kernel) (by decide +kernel)
set_option maxRecDepth 100000 in
theorem kn_X7_idle : Cond.initialized yX7_idle.cls ∈ gk_tb := gk_tb_in 85 (by decide +kernel) (by decide +kernel)
set_option maxRecDepth 100000 in
theorem kc_X7_isCar : Cond.code yX7_isCar cX7_isCar 2 (some .boolean) ∈ gk_tb := gk_tb_in 550 (by decide +kernel) (by decide +kernel)
set_option maxRecDepth 100000 in
theorem ki_X7_isCar : Cond.instanceMethod yX7_isCar ∈ gk_tb := gk_tb_in 549 (by decide +kernel) (by decide +kernel)
set_option maxRecDepth 100000 in
theorem ks_X7_isCar : Cond.selects yX7_isCar.cls yX7_isCar yX7_isCar ∈ gk_tb := gk_tb_in 6 (by decide +kernel) (by decide +kernel)
set_option maxRecDepth 100000 in
theorem kn_X7_isCar : Cond.initialized yX7_isCar.cls ∈ gk_tb := gk_tb_in 85 (by decide +kernel) (by decide +kernel)
set_option maxRecDepth 100000 in
theorem kc_X7_isForm : Cond.code yX7_isForm cX7_isForm 1 (some .boolean) ∈ gk_tb := gk_tb_in 854 (by decide +kernel) (by decide +kernel)
set_option maxRecDepth 100000 in
theorem kt_X7_isForm : Cond.static yX7_isForm ∈ gk_tb := gk_tb_in 853 (by decide +kernel) (by decide +kernel)
set_option maxRecDepth 100000 in
theorem kn_X7_isForm : Cond.initialized yX7_isForm.cls ∈ gk_tb := gk_tb_in 85 (by decide +kernel) (by decide +kernel)
set_option maxRecDepth 100000 in
theorem kc_X7_isMoment : Cond.code yX7_isMoment cX7_isMoment 1 (some .boolean) ∈ gk_tb := gk_tb_in 565 (by decide +kernel) (by decide +kernel)
set_option maxRecDepth 100000 in
theorem kt_X7_isMoment : Cond.static yX7_isMoment ∈ gk_tb := gk_tb_in 564 (by decide +kernel) (by decide +kernel)
set_option maxRecDepth 100000 in
theorem kn_X7_isMoment : Cond.initialized yX7_isMoment.cls ∈ gk_tb := gk_tb_in 85 (by decide +kernel) (by decide +kernel)
set_option maxRecDepth 100000 in
theorem kc_X7_isStation : Cond.code yX7_isStation cX7_isStation 1 (some .boolean) ∈ gk_tb := gk_tb_in 697 (by decide +kernel) (by decide +kernel)
set_option maxRecDepth 100000 in
theorem kt_X7_isStation : Cond.static yX7_isStation ∈ gk_tb := gk_tb_in 696 (by decide +kernel) (by decide +kernel)
set_option maxRecDepth 100000 in
theorem kn_X7_isStation : Cond.initialized yX7_isStation.cls ∈ gk_tb := gk_tb_in 85 (by decide +kernel) (by decide +kernel)
set_option maxRecDepth 100000 in
theorem kc_X7_leastSpared : Cond.code yX7_leastSpared cX7_leastSpared 3 (some .int) ∈ gk_tb := gk_tb_in 757 (by decide +kernel) (by decide +kernel)
set_option maxRecDepth 100000 in
theorem ki_X7_leastSpared : Cond.instanceMethod yX7_leastSpared ∈ gk_tb := gk_tb_in 756 (by decide +kernel) (by decide +kernel)
set_option maxRecDepth 100000 in
theorem ks_X7_leastSpared : Cond.selects yX7_leastSpared.cls yX7_leastSpared yX7_leastSpared ∈ gk_tb := gk_tb_in 21 (by decide +kernel) (by decide +kernel)
set_option maxRecDepth 100000 in
theorem kn_X7_leastSpared : Cond.initialized yX7_leastSpared.cls ∈ gk_tb := gk_tb_in 85 (by decide +kernel) (by decide +kernel)
set_option maxRecDepth 100000 in
theorem kc_X7_left : Cond.code yX7_left cX7_left 1 (some .int) ∈ gk_tb := gk_tb_in 725 (by decide +kernel) (by decide +kernel)
set_option maxRecDepth 100000 in
theorem ki_X7_left : Cond.instanceMethod yX7_left ∈ gk_tb := gk_tb_in 723 (by decide +kernel) (by decide +kernel)
set_option maxRecDepth 100000 in
theorem ks_X7_left : Cond.selects yX7_left.cls yX7_left yX7_left ∈ gk_tb := gk_tb_in 724 (by decide +kernel) (by decide +kernel)
set_option maxRecDepth 100000 in
theorem kn_X7_left : Cond.initialized yX7_left.cls ∈ gk_tb := gk_tb_in 85 (by decide +kernel) (by decide +kernel)
set_option maxRecDepth 100000 in
theorem kc_X7_leftBehind : Cond.code yX7_leftBehind cX7_leftBehind 4 (some .int) ∈ gk_tb := gk_tb_in 729 (by decide +kernel) (by decide +kernel)
set_option maxRecDepth 100000 in
theorem ki_X7_leftBehind : Cond.instanceMethod yX7_leftBehind ∈ gk_tb := gk_tb_in 728 (by decide +kernel) (by decide +kernel)
set_option maxRecDepth 100000 in
theorem ks_X7_leftBehind : Cond.selects yX7_leftBehind.cls yX7_leftBehind yX7_leftBehind ∈ gk_tb := gk_tb_in 19 (by decide +kernel) (by decide +kernel)
set_option maxRecDepth 100000 in
theorem kn_X7_leftBehind : Cond.initialized yX7_leftBehind.cls ∈ gk_tb := gk_tb_in 85 (by decide +kernel) (by decide +kernel)
set_option maxRecDepth 100000 in
theorem kc_X7_likelyRooms : Cond.code yX7_likelyRooms cX7_likelyRooms 4 (some .int) ∈ gk_tb := gk_tb_in 807 (by decide +kernel) (by decide +kernel)
set_option maxRecDepth 100000 in
theorem ki_X7_likelyRooms : Cond.instanceMethod yX7_likelyRooms ∈ gk_tb := gk_tb_in 806 (by decide +kernel) (by decide +kernel)
set_option maxRecDepth 100000 in
theorem ks_X7_likelyRooms : Cond.selects yX7_likelyRooms.cls yX7_likelyRooms yX7_likelyRooms ∈ gk_tb := gk_tb_in 24 (by decide +kernel) (by decide +kernel)
set_option maxRecDepth 100000 in
theorem kn_X7_likelyRooms : Cond.initialized yX7_likelyRooms.cls ∈ gk_tb := gk_tb_in 85 (by decide +kernel) (by decide +kernel)
set_option maxRecDepth 100000 in
theorem kc_X7_likelySorts : Cond.code yX7_likelySorts cX7_likelySorts 4 (some .int) ∈ gk_tb := gk_tb_in 811 (by decide +kernel) (by decide +kernel)
set_option maxRecDepth 100000 in
theorem ki_X7_likelySorts : Cond.instanceMethod yX7_likelySorts ∈ gk_tb := gk_tb_in 810 (by decide +kernel) (by decide +kernel)
set_option maxRecDepth 100000 in
theorem ks_X7_likelySorts : Cond.selects yX7_likelySorts.cls yX7_likelySorts yX7_likelySorts ∈ gk_tb := gk_tb_in 25 (by decide +kernel) (by decide +kernel)
set_option maxRecDepth 100000 in
theorem kn_X7_likelySorts : Cond.initialized yX7_likelySorts.cls ∈ gk_tb := gk_tb_in 85 (by decide +kernel) (by decide +kernel)
set_option maxRecDepth 100000 in
theorem kc_X7_lose : Cond.code yX7_lose cX7_lose 3 (some .int) ∈ gk_tb := gk_tb_in 865 (by decide +kernel) (by decide +kernel)
set_option maxRecDepth 100000 in
theorem ki_X7_lose : Cond.instanceMethod yX7_lose ∈ gk_tb := gk_tb_in 863 (by decide +kernel) (by decide +kernel)
set_option maxRecDepth 100000 in
theorem ks_X7_lose : Cond.selects yX7_lose.cls yX7_lose yX7_lose ∈ gk_tb := gk_tb_in 864 (by decide +kernel) (by decide +kernel)
set_option maxRecDepth 100000 in
theorem kn_X7_lose : Cond.initialized yX7_lose.cls ∈ gk_tb := gk_tb_in 85 (by decide +kernel) (by decide +kernel)
set_option maxRecDepth 100000 in
theorem kc_X7_mix : Cond.code yX7_mix cX7_mix 4 (some .long) ∈ gk_tb := gk_tb_in 916 (by decide +kernel) (by decide +kernel)
set_option maxRecDepth 100000 in
theorem kt_X7_mix : Cond.static yX7_mix ∈ gk_tb := gk_tb_in 915 (by decide +kernel) (by decide +kernel)
set_option maxRecDepth 100000 in
theorem kn_X7_mix : Cond.initialized yX7_mix.cls ∈ gk_tb := gk_tb_in 85 (by decide +kernel) (by decide +kernel)
set_option maxRecDepth 100000 in
theorem kc_X7_mostAlike : Cond.code yX7_mostAlike cX7_mostAlike 7 (some .int) ∈ gk_tb := gk_tb_in 827 (by decide +kernel) (by decide +kernel)
set_option maxRecDepth 100000 in
theorem ki_X7_mostAlike : Cond.instanceMethod yX7_mostAlike ∈ gk_tb := gk_tb_in 826 (by decide +kernel) (by decide +kernel)
set_option maxRecDepth 100000 in
theorem ks_X7_mostAlike : Cond.selects yX7_mostAlike.cls yX7_mostAlike yX7_mostAlike ∈ gk_tb := gk_tb_in 27 (by decide +kernel) (by decide +kernel)
set_option maxRecDepth 100000 in
theorem kn_X7_mostAlike : Cond.initialized yX7_mostAlike.cls ∈ gk_tb := gk_tb_in 85 (by decide +kernel) (by decide +kernel)
set_option maxRecDepth 100000 in
theorem kc_X7_never : Cond.code yX7_never cX7_never 3 (some .int) ∈ gk_tb := gk_tb_in 791 (by decide +kernel) (by decide +kernel)
set_option maxRecDepth 100000 in
theorem ki_X7_never : Cond.instanceMethod yX7_never ∈ gk_tb := gk_tb_in 789 (by decide +kernel) (by decide +kernel)
set_option maxRecDepth 100000 in
theorem ks_X7_never : Cond.selects yX7_never.cls yX7_never yX7_never ∈ gk_tb := gk_tb_in 790 (by decide +kernel) (by decide +kernel)
set_option maxRecDepth 100000 in
theorem kn_X7_never : Cond.initialized yX7_never.cls ∈ gk_tb := gk_tb_in 85 (by decide +kernel) (by decide +kernel)
set_option maxRecDepth 100000 in
theorem kc_X7_nobodyLeftWithout : Cond.code yX7_nobodyLeftWithout cX7_nobodyLeftWithout 2 (some .boolean) ∈ gk_tb := gk_tb_in 761 (by decide +kernel) (by decide +kernel)
set_option maxRecDepth 100000 in
theorem ki_X7_nobodyLeftWithout : Cond.instanceMethod yX7_nobodyLeftWithout ∈ gk_tb := gk_tb_in 760 (by decide +kernel) (by decide +kernel)
set_option maxRecDepth 100000 in
theorem ks_X7_nobodyLeftWithout : Cond.selects yX7_nobodyLeftWithout.cls yX7_nobodyLeftWithout yX7_nobodyLeftWithout ∈ gk_tb := gk_tb_in 22 (by decide +kernel) (by decide +kernel)
set_option maxRecDepth 100000 in
theorem kn_X7_nobodyLeftWithout : Cond.initialized yX7_nobodyLeftWithout.cls ∈ gk_tb := gk_tb_in 85 (by decide +kernel) (by decide +kernel)
set_option maxRecDepth 100000 in
theorem kc_X7_noteCrowdsByRoom : Cond.code yX7_noteCrowdsByRoom cX7_noteCrowdsByRoom 5 none ∈ gk_tb := gk_tb_in 819 (by decide +kernel) (by decide +kernel)
set_option maxRecDepth 100000 in
theorem ki_X7_noteCrowdsByRoom : Cond.instanceMethod yX7_noteCrowdsByRoom ∈ gk_tb := gk_tb_in 818 (by decide +kernel) (by decide +kernel)
set_option maxRecDepth 100000 in
theorem ks_X7_noteCrowdsByRoom : Cond.selects yX7_noteCrowdsByRoom.cls yX7_noteCrowdsByRoom yX7_noteCrowdsByRoom ∈ gk_tb := gk_tb_in 26 (by decide +kernel) (by decide +kernel)
set_option maxRecDepth 100000 in
theorem kn_X7_noteCrowdsByRoom : Cond.initialized yX7_noteCrowdsByRoom.cls ∈ gk_tb := gk_tb_in 85 (by decide +kernel) (by decide +kernel)
set_option maxRecDepth 100000 in
theorem kc_X7_numberOfBit : Cond.code yX7_numberOfBit cX7_numberOfBit 4 (some .int) ∈ gk_tb := gk_tb_in 770 (by decide +kernel) (by decide +kernel)
set_option maxRecDepth 100000 in
theorem kt_X7_numberOfBit : Cond.static yX7_numberOfBit ∈ gk_tb := gk_tb_in 769 (by decide +kernel) (by decide +kernel)
set_option maxRecDepth 100000 in
theorem kn_X7_numberOfBit : Cond.initialized yX7_numberOfBit.cls ∈ gk_tb := gk_tb_in 85 (by decide +kernel) (by decide +kernel)
set_option maxRecDepth 100000 in
theorem kc_X7_over : Cond.code yX7_over cX7_over 2 (some .int) ∈ gk_tb := gk_tb_in 694 (by decide +kernel) (by decide +kernel)
set_option maxRecDepth 100000 in
theorem ki_X7_over : Cond.instanceMethod yX7_over ∈ gk_tb := gk_tb_in 692 (by decide +kernel) (by decide +kernel)
set_option maxRecDepth 100000 in
theorem ks_X7_over : Cond.selects yX7_over.cls yX7_over yX7_over ∈ gk_tb := gk_tb_in 693 (by decide +kernel) (by decide +kernel)
set_option maxRecDepth 100000 in
theorem kn_X7_over : Cond.initialized yX7_over.cls ∈ gk_tb := gk_tb_in 85 (by decide +kernel) (by decide +kernel)
set_option maxRecDepth 100000 in
theorem kc_X7_pace : Cond.code yX7_pace cX7_pace 6 (some .int) ∈ gk_tb := gk_tb_in 745 (by decide +kernel) (by decide +kernel)
set_option maxRecDepth 100000 in
theorem ki_X7_pace : Cond.instanceMethod yX7_pace ∈ gk_tb := gk_tb_in 743 (by decide +kernel) (by decide +kernel)
set_option maxRecDepth 100000 in
theorem ks_X7_pace : Cond.selects yX7_pace.cls yX7_pace yX7_pace ∈ gk_tb := gk_tb_in 744 (by decide +kernel) (by decide +kernel)
set_option maxRecDepth 100000 in
theorem kn_X7_pace : Cond.initialized yX7_pace.cls ∈ gk_tb := gk_tb_in 85 (by decide +kernel) (by decide +kernel)
set_option maxRecDepth 100000 in
theorem kc_X7_planAsTold : Cond.code yX7_planAsTold cX7_planAsTold 2 none ∈ gk_tb := gk_tb_in 617 (by decide +kernel) (by decide +kernel)
set_option maxRecDepth 100000 in
theorem ki_X7_planAsTold : Cond.instanceMethod yX7_planAsTold ∈ gk_tb := gk_tb_in 616 (by decide +kernel) (by decide +kernel)
set_option maxRecDepth 100000 in
theorem ks_X7_planAsTold : Cond.selects yX7_planAsTold.cls yX7_planAsTold yX7_planAsTold ∈ gk_tb := gk_tb_in 11 (by decide +kernel) (by decide +kernel)
set_option maxRecDepth 100000 in
theorem kn_X7_planAsTold : Cond.initialized yX7_planAsTold.cls ∈ gk_tb := gk_tb_in 85 (by decide +kernel) (by decide +kernel)
set_option maxRecDepth 100000 in
theorem kc_X7_put : Cond.code yX7_put cX7_put 7 (some .int) ∈ gk_tb := gk_tb_in 869 (by decide +kernel) (by decide +kernel)
set_option maxRecDepth 100000 in
theorem ki_X7_put : Cond.instanceMethod yX7_put ∈ gk_tb := gk_tb_in 867 (by decide +kernel) (by decide +kernel)
set_option maxRecDepth 100000 in
theorem ks_X7_put : Cond.selects yX7_put.cls yX7_put yX7_put ∈ gk_tb := gk_tb_in 868 (by decide +kernel) (by decide +kernel)
set_option maxRecDepth 100000 in
theorem kn_X7_put : Cond.initialized yX7_put.cls ∈ gk_tb := gk_tb_in 85 (by decide +kernel) (by decide +kernel)
set_option maxRecDepth 100000 in
theorem kc_X7_read : Cond.code yX7_read cX7_read 5 (some .int) ∈ gk_tb := gk_tb_in 596 (by decide +kernel) (by decide +kernel)
set_option maxRecDepth 100000 in
theorem ki_X7_read : Cond.instanceMethod yX7_read ∈ gk_tb := gk_tb_in 594 (by decide +kernel) (by decide +kernel)
set_option maxRecDepth 100000 in
theorem ks_X7_read : Cond.selects yX7_read.cls yX7_read yX7_read ∈ gk_tb := gk_tb_in 595 (by decide +kernel) (by decide +kernel)
set_option maxRecDepth 100000 in
theorem kn_X7_read : Cond.initialized yX7_read.cls ∈ gk_tb := gk_tb_in 85 (by decide +kernel) (by decide +kernel)
set_option maxRecDepth 100000 in
theorem kc_X7_readAgain : Cond.code yX7_readAgain cX7_readAgain 2 none ∈ gk_tb := gk_tb_in 425 (by decide +kernel) (by decide +kernel)
set_option maxRecDepth 100000 in
theorem ki_X7_readAgain : Cond.instanceMethod yX7_readAgain ∈ gk_tb := gk_tb_in 424 (by decide +kernel) (by decide +kernel)
set_option maxRecDepth 100000 in
theorem ks_X7_readAgain : Cond.selects yX7_readAgain.cls yX7_readAgain yX7_readAgain ∈ gk_tb := gk_tb_in 1 (by decide +kernel) (by decide +kernel)
set_option maxRecDepth 100000 in
theorem kn_X7_readAgain : Cond.initialized yX7_readAgain.cls ∈ gk_tb := gk_tb_in 85 (by decide +kernel) (by decide +kernel)
set_option maxRecDepth 100000 in
theorem kc_X7_seen : Cond.code yX7_seen cX7_seen 4 (some .int) ∈ gk_tb := gk_tb_in 774 (by decide +kernel) (by decide +kernel)
set_option maxRecDepth 100000 in
theorem ki_X7_seen : Cond.instanceMethod yX7_seen ∈ gk_tb := gk_tb_in 772 (by decide +kernel) (by decide +kernel)
set_option maxRecDepth 100000 in
theorem ks_X7_seen : Cond.selects yX7_seen.cls yX7_seen yX7_seen ∈ gk_tb := gk_tb_in 773 (by decide +kernel) (by decide +kernel)
set_option maxRecDepth 100000 in
theorem kn_X7_seen : Cond.initialized yX7_seen.cls ∈ gk_tb := gk_tb_in 85 (by decide +kernel) (by decide +kernel)
set_option maxRecDepth 100000 in
theorem kc_X7_sharesOf : Cond.code yX7_sharesOf cX7_sharesOf 6 (some .long) ∈ gk_tb := gk_tb_in 841 (by decide +kernel) (by decide +kernel)
set_option maxRecDepth 100000 in
theorem ki_X7_sharesOf : Cond.instanceMethod yX7_sharesOf ∈ gk_tb := gk_tb_in 840 (by decide +kernel) (by decide +kernel)
set_option maxRecDepth 100000 in
theorem ks_X7_sharesOf : Cond.selects yX7_sharesOf.cls yX7_sharesOf yX7_sharesOf ∈ gk_tb := gk_tb_in 29 (by decide +kernel) (by decide +kernel)
set_option maxRecDepth 100000 in
theorem kn_X7_sharesOf : Cond.initialized yX7_sharesOf.cls ∈ gk_tb := gk_tb_in 85 (by decide +kernel) (by decide +kernel)
set_option maxRecDepth 100000 in
theorem kc_X7_sharesWithNobodyWaiting : Cond.code yX7_sharesWithNobodyWaiting cX7_sharesWithNobodyWaiting 8 (some .long) ∈ gk_tb := gk_tb_in 837 (by decide +kernel) (by decide +kernel)
set_option maxRecDepth 100000 in
theorem ki_X7_sharesWithNobodyWaiting : Cond.instanceMethod yX7_sharesWithNobodyWaiting ∈ gk_tb := gk_tb_in 836 (by decide +kernel) (by decide +kernel)
set_option maxRecDepth 100000 in
theorem ks_X7_sharesWithNobodyWaiting : Cond.selects yX7_sharesWithNobodyWaiting.cls yX7_sharesWithNobodyWaiting yX7_sharesWithNobodyWaiting ∈ gk_tb := gk_tb_in 28 (by decide +kernel) (by decide +kernel)
set_option maxRecDepth 100000 in
theorem kn_X7_sharesWithNobodyWaiting : Cond.initialized yX7_sharesWithNobodyWaiting.cls ∈ gk_tb := gk_tb_in 85 (by decide +kernel) (by decide +kernel)
set_option maxRecDepth 100000 in
theorem kc_X7_sheet : Cond.code yX7_sheet cX7_sheet 5 (some .int) ∈ gk_tb := gk_tb_in 851 (by decide +kernel) (by decide +kernel)
set_option maxRecDepth 100000 in
theorem ki_X7_sheet : Cond.instanceMethod yX7_sheet ∈ gk_tb := gk_tb_in 849 (by decide +kernel) (by decide +kernel)
set_option maxRecDepth 100000 in
theorem ks_X7_sheet : Cond.selects yX7_sheet.cls yX7_sheet yX7_sheet ∈ gk_tb := gk_tb_in 850 (by decide +kernel) (by decide +kernel)
set_option maxRecDepth 100000 in
theorem kn_X7_sheet : Cond.initialized yX7_sheet.cls ∈ gk_tb := gk_tb_in 85 (by decide +kernel) (by decide +kernel)
set_option maxRecDepth 100000 in
theorem kc_X7_sheetOf : Cond.code yX7_sheetOf cX7_sheetOf 2 (some (.object "CableCars$Sheet")) ∈ gk_tb := gk_tb_in 600 (by decide +kernel) (by decide +kernel)
set_option maxRecDepth 100000 in
theorem ki_X7_sheetOf : Cond.instanceMethod yX7_sheetOf ∈ gk_tb := gk_tb_in 599 (by decide +kernel) (by decide +kernel)
set_option maxRecDepth 100000 in
theorem ks_X7_sheetOf : Cond.selects yX7_sheetOf.cls yX7_sheetOf yX7_sheetOf ∈ gk_tb := gk_tb_in 8 (by decide +kernel) (by decide +kernel)
set_option maxRecDepth 100000 in
theorem kn_X7_sheetOf : Cond.initialized yX7_sheetOf.cls ∈ gk_tb := gk_tb_in 85 (by decide +kernel) (by decide +kernel)
set_option maxRecDepth 100000 in
theorem kc_X7_spare : Cond.code yX7_spare cX7_spare 3 (some .int) ∈ gk_tb := gk_tb_in 753 (by decide +kernel) (by decide +kernel)
set_option maxRecDepth 100000 in
theorem ki_X7_spare : Cond.instanceMethod yX7_spare ∈ gk_tb := gk_tb_in 751 (by decide +kernel) (by decide +kernel)
set_option maxRecDepth 100000 in
theorem ks_X7_spare : Cond.selects yX7_spare.cls yX7_spare yX7_spare ∈ gk_tb := gk_tb_in 752 (by decide +kernel) (by decide +kernel)
set_option maxRecDepth 100000 in
theorem kn_X7_spare : Cond.initialized yX7_spare.cls ∈ gk_tb := gk_tb_in 85 (by decide +kernel) (by decide +kernel)
set_option maxRecDepth 100000 in
theorem kc_X7_speed : Cond.code yX7_speed cX7_speed 2 (some .int) ∈ gk_tb := gk_tb_in 562 (by decide +kernel) (by decide +kernel)
set_option maxRecDepth 100000 in
theorem ki_X7_speed : Cond.instanceMethod yX7_speed ∈ gk_tb := gk_tb_in 560 (by decide +kernel) (by decide +kernel)
set_option maxRecDepth 100000 in
theorem ks_X7_speed : Cond.selects yX7_speed.cls yX7_speed yX7_speed ∈ gk_tb := gk_tb_in 561 (by decide +kernel) (by decide +kernel)
set_option maxRecDepth 100000 in
theorem kn_X7_speed : Cond.initialized yX7_speed.cls ∈ gk_tb := gk_tb_in 85 (by decide +kernel) (by decide +kernel)
set_option maxRecDepth 100000 in
theorem kc_X7_sum : Cond.code yX7_sum cX7_sum 1 (some .int) ∈ gk_tb := gk_tb_in 701 (by decide +kernel) (by decide +kernel)
set_option maxRecDepth 100000 in
theorem ki_X7_sum : Cond.instanceMethod yX7_sum ∈ gk_tb := gk_tb_in 699 (by decide +kernel) (by decide +kernel)
set_option maxRecDepth 100000 in
theorem ks_X7_sum : Cond.selects yX7_sum.cls yX7_sum yX7_sum ∈ gk_tb := gk_tb_in 700 (by decide +kernel) (by decide +kernel)
set_option maxRecDepth 100000 in
theorem kn_X7_sum : Cond.initialized yX7_sum.cls ∈ gk_tb := gk_tb_in 85 (by decide +kernel) (by decide +kernel)
set_option maxRecDepth 100000 in
theorem kc_X7_textOf : Cond.code yX7_textOf cX7_textOf 2 (some (.object "CableCars$Text")) ∈ gk_tb := gk_tb_in 409 (by decide +kernel) (by decide +kernel)
set_option maxRecDepth 100000 in
theorem ki_X7_textOf : Cond.instanceMethod yX7_textOf ∈ gk_tb := gk_tb_in 408 (by decide +kernel) (by decide +kernel)
set_option maxRecDepth 100000 in
theorem ks_X7_textOf : Cond.selects yX7_textOf.cls yX7_textOf yX7_textOf ∈ gk_tb := gk_tb_in 0 (by decide +kernel) (by decide +kernel)
set_option maxRecDepth 100000 in
theorem kn_X7_textOf : Cond.initialized yX7_textOf.cls ∈ gk_tb := gk_tb_in 85 (by decide +kernel) (by decide +kernel)
set_option maxRecDepth 100000 in
theorem kc_X7_toldSpeed : Cond.code yX7_toldSpeed cX7_toldSpeed 2 (some .int) ∈ gk_tb := gk_tb_in 569 (by decide +kernel) (by decide +kernel)
set_option maxRecDepth 100000 in
theorem ki_X7_toldSpeed : Cond.instanceMethod yX7_toldSpeed ∈ gk_tb := gk_tb_in 568 (by decide +kernel) (by decide +kernel)
set_option maxRecDepth 100000 in
theorem ks_X7_toldSpeed : Cond.selects yX7_toldSpeed.cls yX7_toldSpeed yX7_toldSpeed ∈ gk_tb := gk_tb_in 7 (by decide +kernel) (by decide +kernel)
set_option maxRecDepth 100000 in
theorem kn_X7_toldSpeed : Cond.initialized yX7_toldSpeed.cls ∈ gk_tb := gk_tb_in 85 (by decide +kernel) (by decide +kernel)
set_option maxRecDepth 100000 in
theorem kc_X7_type : Cond.code yX7_type cX7_type 4 (some .int) ∈ gk_tb := gk_tb_in 405 (by decide +kernel) (by decide +kernel)
set_option maxRecDepth 100000 in
theorem ki_X7_type : Cond.instanceMethod yX7_type ∈ gk_tb := gk_tb_in 403 (by decide +kernel) (by decide +kernel)
set_option maxRecDepth 100000 in
theorem ks_X7_type : Cond.selects yX7_type.cls yX7_type yX7_type ∈ gk_tb := gk_tb_in 404 (by decide +kernel) (by decide +kernel)
set_option maxRecDepth 100000 in
theorem kn_X7_type : Cond.initialized yX7_type.cls ∈ gk_tb := gk_tb_in 85 (by decide +kernel) (by decide +kernel)
set_option maxRecDepth 100000 in
theorem kc_X7_undo : Cond.code yX7_undo cX7_undo 3 (some .int) ∈ gk_tb := gk_tb_in 538 (by decide +kernel) (by decide +kernel)
set_option maxRecDepth 100000 in
theorem ki_X7_undo : Cond.instanceMethod yX7_undo ∈ gk_tb := gk_tb_in 536 (by decide +kernel) (by decide +kernel)
set_option maxRecDepth 100000 in
theorem ks_X7_undo : Cond.selects yX7_undo.cls yX7_undo yX7_undo ∈ gk_tb := gk_tb_in 537 (by decide +kernel) (by decide +kernel)
set_option maxRecDepth 100000 in
theorem kn_X7_undo : Cond.initialized yX7_undo.cls ∈ gk_tb := gk_tb_in 85 (by decide +kernel) (by decide +kernel)
set_option maxRecDepth 100000 in
theorem kc_X7_waits : Cond.code yX7_waits cX7_waits 4 (some .int) ∈ gk_tb := gk_tb_in 686 (by decide +kernel) (by decide +kernel)
set_option maxRecDepth 100000 in
theorem ki_X7_waits : Cond.instanceMethod yX7_waits ∈ gk_tb := gk_tb_in 684 (by decide +kernel) (by decide +kernel)
set_option maxRecDepth 100000 in
theorem ks_X7_waits : Cond.selects yX7_waits.cls yX7_waits yX7_waits ∈ gk_tb := gk_tb_in 685 (by decide +kernel) (by decide +kernel)
set_option maxRecDepth 100000 in
theorem kn_X7_waits : Cond.initialized yX7_waits.cls ∈ gk_tb := gk_tb_in 85 (by decide +kernel) (by decide +kernel)
set_option maxRecDepth 100000 in
theorem kc_X7_was : Cond.code yX7_was cX7_was 3 (some .int) ∈ gk_tb := gk_tb_in 803 (by decide +kernel) (by decide +kernel)
set_option maxRecDepth 100000 in
theorem ki_X7_was : Cond.instanceMethod yX7_was ∈ gk_tb := gk_tb_in 801 (by decide +kernel) (by decide +kernel)
set_option maxRecDepth 100000 in
theorem ks_X7_was : Cond.selects yX7_was.cls yX7_was yX7_was ∈ gk_tb := gk_tb_in 802 (by decide +kernel) (by decide +kernel)
set_option maxRecDepth 100000 in
theorem kn_X7_was : Cond.initialized yX7_was.cls ∈ gk_tb := gk_tb_in 85 (by decide +kernel) (by decide +kernel)
set_option maxRecDepth 100000 in
theorem kc_X7_wipe : Cond.code yX7_wipe cX7_wipe 4 (some .int) ∈ gk_tb := gk_tb_in 534 (by decide +kernel) (by decide +kernel)
set_option maxRecDepth 100000 in
theorem ki_X7_wipe : Cond.instanceMethod yX7_wipe ∈ gk_tb := gk_tb_in 532 (by decide +kernel) (by decide +kernel)
set_option maxRecDepth 100000 in
theorem ks_X7_wipe : Cond.selects yX7_wipe.cls yX7_wipe yX7_wipe ∈ gk_tb := gk_tb_in 533 (by decide +kernel) (by decide +kernel)
set_option maxRecDepth 100000 in
theorem kn_X7_wipe : Cond.initialized yX7_wipe.cls ∈ gk_tb := gk_tb_in 85 (by decide +kernel) (by decide +kernel)
set_option maxRecDepth 100000 in
theorem kc_X7_within : Cond.code yX7_within cX7_within 3 (some .boolean) ∈ gk_tb := gk_tb_in 412 (by decide +kernel) (by decide +kernel)
set_option maxRecDepth 100000 in
theorem kt_X7_within : Cond.static yX7_within ∈ gk_tb := gk_tb_in 411 (by decide +kernel) (by decide +kernel)
set_option maxRecDepth 100000 in
theorem kn_X7_within : Cond.initialized yX7_within.cls ∈ gk_tb := gk_tb_in 85 (by decide +kernel) (by decide +kernel)
set_option maxRecDepth 100000 in
theorem kc_X7_write : Cond.code yX7_write cX7_write 7 (some .int) ∈ gk_tb := gk_tb_in 898 (by decide +kernel) (by decide +kernel)
set_option maxRecDepth 100000 in
theorem ki_X7_write : Cond.instanceMethod yX7_write ∈ gk_tb := gk_tb_in 896 (by decide +kernel) (by decide +kernel)
set_option maxRecDepth 100000 in
theorem ks_X7_write : Cond.selects yX7_write.cls yX7_write yX7_write ∈ gk_tb := gk_tb_in 897 (by decide +kernel) (by decide +kernel)
set_option maxRecDepth 100000 in
theorem kn_X7_write : Cond.initialized yX7_write.cls ∈ gk_tb := gk_tb_in 85 (by decide +kernel) (by decide +kernel)
set_option maxRecDepth 100000 in
theorem kc_X7_years : Cond.code yX7_years cX7_years 6 (some .int) ∈ gk_tb := gk_tb_in 846 (by decide +kernel) (by decide +kernel)
set_option maxRecDepth 100000 in
theorem ki_X7_years : Cond.instanceMethod yX7_years ∈ gk_tb := gk_tb_in 844 (by decide +kernel) (by decide +kernel)
set_option maxRecDepth 100000 in
theorem ks_X7_years : Cond.selects yX7_years.cls yX7_years yX7_years ∈ gk_tb := gk_tb_in 845 (by decide +kernel) (by decide +kernel)
set_option maxRecDepth 100000 in
theorem kn_X7_years : Cond.initialized yX7_years.cls ∈ gk_tb := gk_tb_in 85 (by decide +kernel) (by decide +kernel)
set_option maxRecDepth 100000 in
theorem kc_X0_init : Cond.code yX0_init cX0_init 1 none ∈ gk_tb := gk_tb_in 182 (by decide +kernel) (by decide +kernel)
set_option maxRecDepth 100000 in
theorem ki_X0_init : Cond.instanceMethod yX0_init ∈ gk_tb := gk_tb_in 181 (by decide +kernel) (by decide +kernel)
set_option maxRecDepth 100000 in
theorem kn_X0_init : Cond.initialized yX0_init.cls ∈ gk_tb := gk_tb_in 89 (by decide +kernel) (by decide +kernel)
set_option maxRecDepth 100000 in
theorem kc_X0_append : Cond.code yX0_append cX0_append 4 none ∈ gk_tb := gk_tb_in 587 (by decide +kernel) (by decide +kernel)
set_option maxRecDepth 100000 in
theorem ki_X0_append : Cond.instanceMethod yX0_append ∈ gk_tb := gk_tb_in 585 (by decide +kernel) (by decide +kernel)
set_option maxRecDepth 100000 in
theorem ks_X0_append : Cond.selects yX0_append.cls yX0_append yX0_append ∈ gk_tb := gk_tb_in 586 (by decide +kernel) (by decide +kernel)
set_option maxRecDepth 100000 in
theorem kn_X0_append : Cond.initialized yX0_append.cls ∈ gk_tb := gk_tb_in 89 (by decide +kernel) (by decide +kernel)
set_option maxRecDepth 100000 in
theorem kc_X0_hasSpace : Cond.code yX0_hasSpace cX0_hasSpace 1 (some .boolean) ∈ gk_tb := gk_tb_in 583 (by decide +kernel) (by decide +kernel)
set_option maxRecDepth 100000 in
theorem ki_X0_hasSpace : Cond.instanceMethod yX0_hasSpace ∈ gk_tb := gk_tb_in 581 (by decide +kernel) (by decide +kernel)
set_option maxRecDepth 100000 in
theorem ks_X0_hasSpace : Cond.selects yX0_hasSpace.cls yX0_hasSpace yX0_hasSpace ∈ gk_tb := gk_tb_in 582 (by decide +kernel) (by decide +kernel)
set_option maxRecDepth 100000 in
theorem kn_X0_hasSpace : Cond.initialized yX0_hasSpace.cls ∈ gk_tb := gk_tb_in 89 (by decide +kernel) (by decide +kernel)
set_option maxRecDepth 100000 in
theorem kc_X0_mayBe : Cond.code yX0_mayBe cX0_mayBe 4 (some .boolean) ∈ gk_tb := gk_tb_in 577 (by decide +kernel) (by decide +kernel)
set_option maxRecDepth 100000 in
theorem ki_X0_mayBe : Cond.instanceMethod yX0_mayBe ∈ gk_tb := gk_tb_in 575 (by decide +kernel) (by decide +kernel)
set_option maxRecDepth 100000 in
theorem ks_X0_mayBe : Cond.selects yX0_mayBe.cls yX0_mayBe yX0_mayBe ∈ gk_tb := gk_tb_in 576 (by decide +kernel) (by decide +kernel)
set_option maxRecDepth 100000 in
theorem kn_X0_mayBe : Cond.initialized yX0_mayBe.cls ∈ gk_tb := gk_tb_in 89 (by decide +kernel) (by decide +kernel)
set_option maxRecDepth 100000 in
theorem kc_X1_init : Cond.code yX1_init cX1_init 1 none ∈ gk_tb := gk_tb_in 249 (by decide +kernel) (by decide +kernel)
set_option maxRecDepth 100000 in
theorem ki_X1_init : Cond.instanceMethod yX1_init ∈ gk_tb := gk_tb_in 248 (by decide +kernel) (by decide +kernel)
set_option maxRecDepth 100000 in
theorem kn_X1_init : Cond.initialized yX1_init.cls ∈ gk_tb := gk_tb_in 92 (by decide +kernel) (by decide +kernel)
set_option maxRecDepth 100000 in
theorem kc_X1_isClosed : Cond.code yX1_isClosed cX1_isClosed 3 (some .boolean) ∈ gk_tb := gk_tb_in 660 (by decide +kernel) (by decide +kernel)
set_option maxRecDepth 100000 in
theorem ki_X1_isClosed : Cond.instanceMethod yX1_isClosed ∈ gk_tb := gk_tb_in 658 (by decide +kernel) (by decide +kernel)
set_option maxRecDepth 100000 in
theorem ks_X1_isClosed : Cond.selects yX1_isClosed.cls yX1_isClosed yX1_isClosed ∈ gk_tb := gk_tb_in 659 (by decide +kernel) (by decide +kernel)
set_option maxRecDepth 100000 in
theorem kn_X1_isClosed : Cond.initialized yX1_isClosed.cls ∈ gk_tb := gk_tb_in 92 (by decide +kernel) (by decide +kernel)
set_option maxRecDepth 100000 in
theorem kc_X1_places : Cond.code yX1_places cX1_places 2 (some .int) ∈ gk_tb := gk_tb_in 649 (by decide +kernel) (by decide +kernel)
set_option maxRecDepth 100000 in
theorem ki_X1_places : Cond.instanceMethod yX1_places ∈ gk_tb := gk_tb_in 647 (by decide +kernel) (by decide +kernel)
set_option maxRecDepth 100000 in
theorem ks_X1_places : Cond.selects yX1_places.cls yX1_places yX1_places ∈ gk_tb := gk_tb_in 648 (by decide +kernel) (by decide +kernel)
set_option maxRecDepth 100000 in
theorem kn_X1_places : Cond.initialized yX1_places.cls ∈ gk_tb := gk_tb_in 92 (by decide +kernel) (by decide +kernel)
set_option maxRecDepth 100000 in
theorem kc_X1_roomIn : Cond.code yX1_roomIn cX1_roomIn 2 (some .int) ∈ gk_tb := gk_tb_in 668 (by decide +kernel) (by decide +kernel)
set_option maxRecDepth 100000 in
theorem ki_X1_roomIn : Cond.instanceMethod yX1_roomIn ∈ gk_tb := gk_tb_in 666 (by decide +kernel) (by decide +kernel)
set_option maxRecDepth 100000 in
theorem ks_X1_roomIn : Cond.selects yX1_roomIn.cls yX1_roomIn yX1_roomIn ∈ gk_tb := gk_tb_in 667 (by decide +kernel) (by decide +kernel)
set_option maxRecDepth 100000 in
theorem kn_X1_roomIn : Cond.initialized yX1_roomIn.cls ∈ gk_tb := gk_tb_in 92 (by decide +kernel) (by decide +kernel)
set_option maxRecDepth 100000 in
theorem kc_X1_takeCars : Cond.code yX1_takeCars cX1_takeCars 3 none ∈ gk_tb := gk_tb_in 621 (by decide +kernel) (by decide +kernel)
set_option maxRecDepth 100000 in
theorem ki_X1_takeCars : Cond.instanceMethod yX1_takeCars ∈ gk_tb := gk_tb_in 619 (by decide +kernel) (by decide +kernel)
set_option maxRecDepth 100000 in
theorem ks_X1_takeCars : Cond.selects yX1_takeCars.cls yX1_takeCars yX1_takeCars ∈ gk_tb := gk_tb_in 620 (by decide +kernel) (by decide +kernel)
set_option maxRecDepth 100000 in
theorem kn_X1_takeCars : Cond.initialized yX1_takeCars.cls ∈ gk_tb := gk_tb_in 92 (by decide +kernel) (by decide +kernel)
set_option maxRecDepth 100000 in
theorem kc_X1_takeComings : Cond.code yX1_takeComings cX1_takeComings 3 none ∈ gk_tb := gk_tb_in 626 (by decide +kernel) (by decide +kernel)
set_option maxRecDepth 100000 in
theorem ki_X1_takeComings : Cond.instanceMethod yX1_takeComings ∈ gk_tb := gk_tb_in 624 (by decide +kernel) (by decide +kernel)
set_option maxRecDepth 100000 in
theorem ks_X1_takeComings : Cond.selects yX1_takeComings.cls yX1_takeComings yX1_takeComings ∈ gk_tb := gk_tb_in 625 (by decide +kernel) (by decide +kernel)
set_option maxRecDepth 100000 in
theorem kn_X1_takeComings : Cond.initialized yX1_takeComings.cls ∈ gk_tb := gk_tb_in 92 (by decide +kernel) (by decide +kernel)
set_option maxRecDepth 100000 in
theorem kc_X1_takeEvent : Cond.code yX1_takeEvent cX1_takeEvent 4 none ∈ gk_tb := gk_tb_in 637 (by decide +kernel) (by decide +kernel)
set_option maxRecDepth 100000 in
theorem ki_X1_takeEvent : Cond.instanceMethod yX1_takeEvent ∈ gk_tb := gk_tb_in 636 (by decide +kernel) (by decide +kernel)
set_option maxRecDepth 100000 in
theorem ks_X1_takeEvent : Cond.selects yX1_takeEvent.cls yX1_takeEvent yX1_takeEvent ∈ gk_tb := gk_tb_in 12 (by decide +kernel) (by decide +kernel)
set_option maxRecDepth 100000 in
theorem kn_X1_takeEvent : Cond.initialized yX1_takeEvent.cls ∈ gk_tb := gk_tb_in 92 (by decide +kernel) (by decide +kernel)
set_option maxRecDepth 100000 in
theorem kc_X1_takeEvents : Cond.code yX1_takeEvents cX1_takeEvents 4 none ∈ gk_tb := gk_tb_in 633 (by decide +kernel) (by decide +kernel)
set_option maxRecDepth 100000 in
theorem ki_X1_takeEvents : Cond.instanceMethod yX1_takeEvents ∈ gk_tb := gk_tb_in 631 (by decide +kernel) (by decide +kernel)
set_option maxRecDepth 100000 in
theorem ks_X1_takeEvents : Cond.selects yX1_takeEvents.cls yX1_takeEvents yX1_takeEvents ∈ gk_tb := gk_tb_in 632 (by decide +kernel) (by decide +kernel)
set_option maxRecDepth 100000 in
theorem kn_X1_takeEvents : Cond.initialized yX1_takeEvents.cls ∈ gk_tb := gk_tb_in 92 (by decide +kernel) (by decide +kernel)
set_option maxRecDepth 100000 in
theorem kc_X2_init : Cond.code yX2_init cX2_init 1 none ∈ gk_tb := gk_tb_in 293 (by decide +kernel) (by decide +kernel)
set_option maxRecDepth 100000 in
theorem ki_X2_init : Cond.instanceMethod yX2_init ∈ gk_tb := gk_tb_in 292 (by decide +kernel) (by decide +kernel)
set_option maxRecDepth 100000 in
theorem kn_X2_init : Cond.initialized yX2_init.cls ∈ gk_tb := gk_tb_in 93 (by decide +kernel) (by decide +kernel)
set_option maxRecDepth 100000 in
theorem kc_X2_allInside : Cond.code yX2_allInside cX2_allInside 4 (some .int) ∈ gk_tb := gk_tb_in 690 (by decide +kernel) (by decide +kernel)
set_option maxRecDepth 100000 in
theorem ki_X2_allInside : Cond.instanceMethod yX2_allInside ∈ gk_tb := gk_tb_in 688 (by decide +kernel) (by decide +kernel)
set_option maxRecDepth 100000 in
theorem ks_X2_allInside : Cond.selects yX2_allInside.cls yX2_allInside yX2_allInside ∈ gk_tb := gk_tb_in 689 (by decide +kernel) (by decide +kernel)
set_option maxRecDepth 100000 in
theorem kn_X2_allInside : Cond.initialized yX2_allInside.cls ∈ gk_tb := gk_tb_in 93 (by decide +kernel) (by decide +kernel)
set_option maxRecDepth 100000 in
theorem kc_X2_allOver : Cond.code yX2_allOver cX2_allOver 1 (some .int) ∈ gk_tb := gk_tb_in 733 (by decide +kernel) (by decide +kernel)
set_option maxRecDepth 100000 in
theorem ki_X2_allOver : Cond.instanceMethod yX2_allOver ∈ gk_tb := gk_tb_in 731 (by decide +kernel) (by decide +kernel)
set_option maxRecDepth 100000 in
theorem ks_X2_allOver : Cond.selects yX2_allOver.cls yX2_allOver yX2_allOver ∈ gk_tb := gk_tb_in 732 (by decide +kernel) (by decide +kernel)
set_option maxRecDepth 100000 in
theorem kn_X2_allOver : Cond.initialized yX2_allOver.cls ∈ gk_tb := gk_tb_in 93 (by decide +kernel) (by decide +kernel)
set_option maxRecDepth 100000 in
theorem kc_X2_allPower : Cond.code yX2_allPower cX2_allPower 3 (some .int) ∈ gk_tb := gk_tb_in 705 (by decide +kernel) (by decide +kernel)
set_option maxRecDepth 100000 in
theorem ki_X2_allPower : Cond.instanceMethod yX2_allPower ∈ gk_tb := gk_tb_in 703 (by decide +kernel) (by decide +kernel)
set_option maxRecDepth 100000 in
theorem ks_X2_allPower : Cond.selects yX2_allPower.cls yX2_allPower yX2_allPower ∈ gk_tb := gk_tb_in 704 (by decide +kernel) (by decide +kernel)
set_option maxRecDepth 100000 in
theorem kn_X2_allPower : Cond.initialized yX2_allPower.cls ∈ gk_tb := gk_tb_in 93 (by decide +kernel) (by decide +kernel)
set_option maxRecDepth 100000 in
theorem kc_X2_crowdKey : Cond.code yX2_crowdKey cX2_crowdKey 2 (some .int) ∈ gk_tb := gk_tb_in 823 (by decide +kernel) (by decide +kernel)
set_option maxRecDepth 100000 in
theorem ki_X2_crowdKey : Cond.instanceMethod yX2_crowdKey ∈ gk_tb := gk_tb_in 821 (by decide +kernel) (by decide +kernel)
set_option maxRecDepth 100000 in
theorem ks_X2_crowdKey : Cond.selects yX2_crowdKey.cls yX2_crowdKey yX2_crowdKey ∈ gk_tb := gk_tb_in 822 (by decide +kernel) (by decide +kernel)
set_option maxRecDepth 100000 in
theorem kn_X2_crowdKey : Cond.initialized yX2_crowdKey.cls ∈ gk_tb := gk_tb_in 93 (by decide +kernel) (by decide +kernel)
set_option maxRecDepth 100000 in
theorem kc_X2_goOn : Cond.code yX2_goOn cX2_goOn 6 (some .int) ∈ gk_tb := gk_tb_in 653 (by decide +kernel) (by decide +kernel)
set_option maxRecDepth 100000 in
theorem ki_X2_goOn : Cond.instanceMethod yX2_goOn ∈ gk_tb := gk_tb_in 652 (by decide +kernel) (by decide +kernel)
set_option maxRecDepth 100000 in
theorem ks_X2_goOn : Cond.selects yX2_goOn.cls yX2_goOn yX2_goOn ∈ gk_tb := gk_tb_in 14 (by decide +kernel) (by decide +kernel)
set_option maxRecDepth 100000 in
theorem kn_X2_goOn : Cond.initialized yX2_goOn.cls ∈ gk_tb := gk_tb_in 93 (by decide +kernel) (by decide +kernel)
set_option maxRecDepth 100000 in
theorem kc_X2_letIn : Cond.code yX2_letIn cX2_letIn 5 none ∈ gk_tb := gk_tb_in 672 (by decide +kernel) (by decide +kernel)
set_option maxRecDepth 100000 in
theorem ki_X2_letIn : Cond.instanceMethod yX2_letIn ∈ gk_tb := gk_tb_in 671 (by decide +kernel) (by decide +kernel)
set_option maxRecDepth 100000 in
theorem ks_X2_letIn : Cond.selects yX2_letIn.cls yX2_letIn yX2_letIn ∈ gk_tb := gk_tb_in 16 (by decide +kernel) (by decide +kernel)
set_option maxRecDepth 100000 in
theorem kn_X2_letIn : Cond.initialized yX2_letIn.cls ∈ gk_tb := gk_tb_in 93 (by decide +kernel) (by decide +kernel)
set_option maxRecDepth 100000 in
theorem kc_X2_letOut : Cond.code yX2_letOut cX2_letOut 4 none ∈ gk_tb := gk_tb_in 664 (by decide +kernel) (by decide +kernel)
set_option maxRecDepth 100000 in
theorem ki_X2_letOut : Cond.instanceMethod yX2_letOut ∈ gk_tb := gk_tb_in 663 (by decide +kernel) (by decide +kernel)
set_option maxRecDepth 100000 in
theorem ks_X2_letOut : Cond.selects yX2_letOut.cls yX2_letOut yX2_letOut ∈ gk_tb := gk_tb_in 15 (by decide +kernel) (by decide +kernel)
set_option maxRecDepth 100000 in
theorem kn_X2_letOut : Cond.initialized yX2_letOut.cls ∈ gk_tb := gk_tb_in 93 (by decide +kernel) (by decide +kernel)
set_option maxRecDepth 100000 in
theorem kc_X2_note : Cond.code yX2_note cX2_note 3 none ∈ gk_tb := gk_tb_in 682 (by decide +kernel) (by decide +kernel)
set_option maxRecDepth 100000 in
theorem ki_X2_note : Cond.instanceMethod yX2_note ∈ gk_tb := gk_tb_in 681 (by decide +kernel) (by decide +kernel)
set_option maxRecDepth 100000 in
theorem ks_X2_note : Cond.selects yX2_note.cls yX2_note yX2_note ∈ gk_tb := gk_tb_in 18 (by decide +kernel) (by decide +kernel)
set_option maxRecDepth 100000 in
theorem kn_X2_note : Cond.initialized yX2_note.cls ∈ gk_tb := gk_tb_in 93 (by decide +kernel) (by decide +kernel)
set_option maxRecDepth 100000 in
theorem kc_X2_run : Cond.code yX2_run cX2_run 7 none ∈ gk_tb := gk_tb_in 641 (by decide +kernel) (by decide +kernel)
set_option maxRecDepth 100000 in
theorem ki_X2_run : Cond.instanceMethod yX2_run ∈ gk_tb := gk_tb_in 639 (by decide +kernel) (by decide +kernel)
set_option maxRecDepth 100000 in
theorem ks_X2_run : Cond.selects yX2_run.cls yX2_run yX2_run ∈ gk_tb := gk_tb_in 640 (by decide +kernel) (by decide +kernel)
set_option maxRecDepth 100000 in
theorem kn_X2_run : Cond.initialized yX2_run.cls ∈ gk_tb := gk_tb_in 93 (by decide +kernel) (by decide +kernel)
set_option maxRecDepth 100000 in
theorem kc_X2_stand : Cond.code yX2_stand cX2_stand 5 none ∈ gk_tb := gk_tb_in 678 (by decide +kernel) (by decide +kernel)
set_option maxRecDepth 100000 in
theorem ki_X2_stand : Cond.instanceMethod yX2_stand ∈ gk_tb := gk_tb_in 677 (by decide +kernel) (by decide +kernel)
set_option maxRecDepth 100000 in
theorem ks_X2_stand : Cond.selects yX2_stand.cls yX2_stand yX2_stand ∈ gk_tb := gk_tb_in 17 (by decide +kernel) (by decide +kernel)
set_option maxRecDepth 100000 in
theorem kn_X2_stand : Cond.initialized yX2_stand.cls ∈ gk_tb := gk_tb_in 93 (by decide +kernel) (by decide +kernel)
set_option maxRecDepth 100000 in
theorem kc_X2_start : Cond.code yX2_start cX2_start 3 none ∈ gk_tb := gk_tb_in 645 (by decide +kernel) (by decide +kernel)
set_option maxRecDepth 100000 in
theorem ki_X2_start : Cond.instanceMethod yX2_start ∈ gk_tb := gk_tb_in 644 (by decide +kernel) (by decide +kernel)
set_option maxRecDepth 100000 in
theorem ks_X2_start : Cond.selects yX2_start.cls yX2_start yX2_start ∈ gk_tb := gk_tb_in 13 (by decide +kernel) (by decide +kernel)
set_option maxRecDepth 100000 in
theorem kn_X2_start : Cond.initialized yX2_start.cls ∈ gk_tb := gk_tb_in 93 (by decide +kernel) (by decide +kernel)
set_option maxRecDepth 100000 in
theorem kc_X2_stationAt : Cond.code yX2_stationAt cX2_stationAt 1 (some .int) ∈ gk_tb := gk_tb_in 656 (by decide +kernel) (by decide +kernel)
set_option maxRecDepth 100000 in
theorem kt_X2_stationAt : Cond.static yX2_stationAt ∈ gk_tb := gk_tb_in 655 (by decide +kernel) (by decide +kernel)
set_option maxRecDepth 100000 in
theorem kn_X2_stationAt : Cond.initialized yX2_stationAt.cls ∈ gk_tb := gk_tb_in 93 (by decide +kernel) (by decide +kernel)
set_option maxRecDepth 100000 in
theorem kc_X3_init : Cond.code yX3_init cX3_init 1 none ∈ gk_tb := gk_tb_in 226 (by decide +kernel) (by decide +kernel)
set_option maxRecDepth 100000 in
theorem ki_X3_init : Cond.instanceMethod yX3_init ∈ gk_tb := gk_tb_in 225 (by decide +kernel) (by decide +kernel)
set_option maxRecDepth 100000 in
theorem kn_X3_init : Cond.initialized yX3_init.cls ∈ gk_tb := gk_tb_in 91 (by decide +kernel) (by decide +kernel)
set_option maxRecDepth 100000 in
theorem kc_X3_hasRun : Cond.code yX3_hasRun cX3_hasRun 3 (some .boolean) ∈ gk_tb := gk_tb_in 877 (by decide +kernel) (by decide +kernel)
set_option maxRecDepth 100000 in
theorem ki_X3_hasRun : Cond.instanceMethod yX3_hasRun ∈ gk_tb := gk_tb_in 875 (by decide +kernel) (by decide +kernel)
set_option maxRecDepth 100000 in
theorem ks_X3_hasRun : Cond.selects yX3_hasRun.cls yX3_hasRun yX3_hasRun ∈ gk_tb := gk_tb_in 876 (by decide +kernel) (by decide +kernel)
set_option maxRecDepth 100000 in
theorem kn_X3_hasRun : Cond.initialized yX3_hasRun.cls ∈ gk_tb := gk_tb_in 91 (by decide +kernel) (by decide +kernel)
set_option maxRecDepth 100000 in
theorem kc_X3_renew : Cond.code yX3_renew cX3_renew 3 none ∈ gk_tb := gk_tb_in 858 (by decide +kernel) (by decide +kernel)
set_option maxRecDepth 100000 in
theorem ki_X3_renew : Cond.instanceMethod yX3_renew ∈ gk_tb := gk_tb_in 856 (by decide +kernel) (by decide +kernel)
set_option maxRecDepth 100000 in
theorem ks_X3_renew : Cond.selects yX3_renew.cls yX3_renew yX3_renew ∈ gk_tb := gk_tb_in 857 (by decide +kernel) (by decide +kernel)
set_option maxRecDepth 100000 in
theorem kn_X3_renew : Cond.initialized yX3_renew.cls ∈ gk_tb := gk_tb_in 91 (by decide +kernel) (by decide +kernel)
set_option maxRecDepth 100000 in
theorem kc_X3_store : Cond.code yX3_store cX3_store 3 none ∈ gk_tb := gk_tb_in 881 (by decide +kernel) (by decide +kernel)
set_option maxRecDepth 100000 in
theorem ki_X3_store : Cond.instanceMethod yX3_store ∈ gk_tb := gk_tb_in 879 (by decide +kernel) (by decide +kernel)
set_option maxRecDepth 100000 in
theorem ks_X3_store : Cond.selects yX3_store.cls yX3_store yX3_store ∈ gk_tb := gk_tb_in 880 (by decide +kernel) (by decide +kernel)
set_option maxRecDepth 100000 in
theorem kn_X3_store : Cond.initialized yX3_store.cls ∈ gk_tb := gk_tb_in 91 (by decide +kernel) (by decide +kernel)
set_option maxRecDepth 100000 in
theorem kc_X3_wrongWith : Cond.code yX3_wrongWith cX3_wrongWith 3 (some .int) ∈ gk_tb := gk_tb_in 873 (by decide +kernel) (by decide +kernel)
set_option maxRecDepth 100000 in
theorem ki_X3_wrongWith : Cond.instanceMethod yX3_wrongWith ∈ gk_tb := gk_tb_in 871 (by decide +kernel) (by decide +kernel)
set_option maxRecDepth 100000 in
theorem ks_X3_wrongWith : Cond.selects yX3_wrongWith.cls yX3_wrongWith yX3_wrongWith ∈ gk_tb := gk_tb_in 872 (by decide +kernel) (by decide +kernel)
set_option maxRecDepth 100000 in
theorem kn_X3_wrongWith : Cond.initialized yX3_wrongWith.cls ∈ gk_tb := gk_tb_in 91 (by decide +kernel) (by decide +kernel)
set_option maxRecDepth 100000 in
theorem kc_X4_init : Cond.code yX4_init cX4_init 1 none ∈ gk_tb := gk_tb_in 206 (by decide +kernel) (by decide +kernel)
set_option maxRecDepth 100000 in
theorem ki_X4_init : Cond.instanceMethod yX4_init ∈ gk_tb := gk_tb_in 205 (by decide +kernel) (by decide +kernel)
set_option maxRecDepth 100000 in
theorem kn_X4_init : Cond.initialized yX4_init.cls ∈ gk_tb := gk_tb_in 90 (by decide +kernel) (by decide +kernel)
set_option maxRecDepth 100000 in
theorem kc_X4_agreeWith : Cond.code yX4_agreeWith cX4_agreeWith 3 (some .boolean) ∈ gk_tb := gk_tb_in 799 (by decide +kernel) (by decide +kernel)
set_option maxRecDepth 100000 in
theorem ki_X4_agreeWith : Cond.instanceMethod yX4_agreeWith ∈ gk_tb := gk_tb_in 797 (by decide +kernel) (by decide +kernel)
set_option maxRecDepth 100000 in
theorem ks_X4_agreeWith : Cond.selects yX4_agreeWith.cls yX4_agreeWith yX4_agreeWith ∈ gk_tb := gk_tb_in 798 (by decide +kernel) (by decide +kernel)
set_option maxRecDepth 100000 in
theorem kn_X4_agreeWith : Cond.initialized yX4_agreeWith.cls ∈ gk_tb := gk_tb_in 90 (by decide +kernel) (by decide +kernel)
set_option maxRecDepth 100000 in
theorem kc_X4_append : Cond.code yX4_append cX4_append 4 none ∈ gk_tb := gk_tb_in 782 (by decide +kernel) (by decide +kernel)
set_option maxRecDepth 100000 in
theorem ki_X4_append : Cond.instanceMethod yX4_append ∈ gk_tb := gk_tb_in 780 (by decide +kernel) (by decide +kernel)
set_option maxRecDepth 100000 in
theorem ks_X4_append : Cond.selects yX4_append.cls yX4_append yX4_append ∈ gk_tb := gk_tb_in 781 (by decide +kernel) (by decide +kernel)
set_option maxRecDepth 100000 in
theorem kn_X4_append : Cond.initialized yX4_append.cls ∈ gk_tb := gk_tb_in 90 (by decide +kernel) (by decide +kernel)
set_option maxRecDepth 100000 in
theorem kc_X4_hasSpace : Cond.code yX4_hasSpace cX4_hasSpace 1 (some .boolean) ∈ gk_tb := gk_tb_in 778 (by decide +kernel) (by decide +kernel)
set_option maxRecDepth 100000 in
theorem ki_X4_hasSpace : Cond.instanceMethod yX4_hasSpace ∈ gk_tb := gk_tb_in 776 (by decide +kernel) (by decide +kernel)
set_option maxRecDepth 100000 in
theorem ks_X4_hasSpace : Cond.selects yX4_hasSpace.cls yX4_hasSpace yX4_hasSpace ∈ gk_tb := gk_tb_in 777 (by decide +kernel) (by decide +kernel)
set_option maxRecDepth 100000 in
theorem kn_X4_hasSpace : Cond.initialized yX4_hasSpace.cls ∈ gk_tb := gk_tb_in 90 (by decide +kernel) (by decide +kernel)
set_option maxRecDepth 100000 in
theorem kc_X5_init : Cond.code yX5_init cX5_init 2 none ∈ gk_tb := gk_tb_in 115 (by decide +kernel) (by decide +kernel)
set_option maxRecDepth 100000 in
theorem ki_X5_init : Cond.instanceMethod yX5_init ∈ gk_tb := gk_tb_in 114 (by decide +kernel) (by decide +kernel)
set_option maxRecDepth 100000 in
theorem kn_X5_init : Cond.initialized yX5_init.cls ∈ gk_tb := gk_tb_in 86 (by decide +kernel) (by decide +kernel)
set_option maxRecDepth 100000 in
theorem kc_X5_append : Cond.code yX5_append cX5_append 2 none ∈ gk_tb := gk_tb_in 420 (by decide +kernel) (by decide +kernel)
set_option maxRecDepth 100000 in
theorem ki_X5_append : Cond.instanceMethod yX5_append ∈ gk_tb := gk_tb_in 418 (by decide +kernel) (by decide +kernel)
set_option maxRecDepth 100000 in
theorem ks_X5_append : Cond.selects yX5_append.cls yX5_append yX5_append ∈ gk_tb := gk_tb_in 419 (by decide +kernel) (by decide +kernel)
set_option maxRecDepth 100000 in
theorem kn_X5_append : Cond.initialized yX5_append.cls ∈ gk_tb := gk_tb_in 86 (by decide +kernel) (by decide +kernel)
set_option maxRecDepth 100000 in
theorem kc_X5_hasSpace : Cond.code yX5_hasSpace cX5_hasSpace 1 (some .boolean) ∈ gk_tb := gk_tb_in 416 (by decide +kernel) (by decide +kernel)
set_option maxRecDepth 100000 in
theorem ki_X5_hasSpace : Cond.instanceMethod yX5_hasSpace ∈ gk_tb := gk_tb_in 414 (by decide +kernel) (by decide +kernel)
set_option maxRecDepth 100000 in
theorem ks_X5_hasSpace : Cond.selects yX5_hasSpace.cls yX5_hasSpace yX5_hasSpace ∈ gk_tb := gk_tb_in 415 (by decide +kernel) (by decide +kernel)
set_option maxRecDepth 100000 in
theorem kn_X5_hasSpace : Cond.initialized yX5_hasSpace.cls ∈ gk_tb := gk_tb_in 86 (by decide +kernel) (by decide +kernel)
set_option maxRecDepth 100000 in
theorem kc_X6_init : Cond.code yX6_init cX6_init 4 none ∈ gk_tb := gk_tb_in 140 (by decide +kernel) (by decide +kernel)
set_option maxRecDepth 100000 in
theorem ki_X6_init : Cond.instanceMethod yX6_init ∈ gk_tb := gk_tb_in 139 (by decide +kernel) (by decide +kernel)
set_option maxRecDepth 100000 in
theorem kn_X6_init : Cond.initialized yX6_init.cls ∈ gk_tb := gk_tb_in 88 (by decide +kernel) (by decide +kernel)
set_option maxRecDepth 100000 in
theorem kc_X6_faultIn : Cond.code yX6_faultIn cX6_faultIn 3 (some .int) ∈ gk_tb := gk_tb_in 433 (by decide +kernel) (by decide +kernel)
set_option maxRecDepth 100000 in
theorem ki_X6_faultIn : Cond.instanceMethod yX6_faultIn ∈ gk_tb := gk_tb_in 432 (by decide +kernel) (by decide +kernel)
set_option maxRecDepth 100000 in
theorem ks_X6_faultIn : Cond.selects yX6_faultIn.cls yX6_faultIn yX6_faultIn ∈ gk_tb := gk_tb_in 2 (by decide +kernel) (by decide +kernel)
set_option maxRecDepth 100000 in
theorem kn_X6_faultIn : Cond.initialized yX6_faultIn.cls ∈ gk_tb := gk_tb_in 88 (by decide +kernel) (by decide +kernel)
set_option maxRecDepth 100000 in
theorem kc_X6_goesOn : Cond.code yX6_goesOn cX6_goesOn 4 (some .boolean) ∈ gk_tb := gk_tb_in 437 (by decide +kernel) (by decide +kernel)
set_option maxRecDepth 100000 in
theorem ki_X6_goesOn : Cond.instanceMethod yX6_goesOn ∈ gk_tb := gk_tb_in 436 (by decide +kernel) (by decide +kernel)
set_option maxRecDepth 100000 in
theorem ks_X6_goesOn : Cond.selects yX6_goesOn.cls yX6_goesOn yX6_goesOn ∈ gk_tb := gk_tb_in 3 (by decide +kernel) (by decide +kernel)
set_option maxRecDepth 100000 in
theorem kn_X6_goesOn : Cond.initialized yX6_goesOn.cls ∈ gk_tb := gk_tb_in 88 (by decide +kernel) (by decide +kernel)
set_option maxRecDepth 100000 in
theorem kc_X6_isTaken : Cond.code yX6_isTaken cX6_isTaken 4 (some .boolean) ∈ gk_tb := gk_tb_in 442 (by decide +kernel) (by decide +kernel)
set_option maxRecDepth 100000 in
theorem ki_X6_isTaken : Cond.instanceMethod yX6_isTaken ∈ gk_tb := gk_tb_in 441 (by decide +kernel) (by decide +kernel)
set_option maxRecDepth 100000 in
theorem ks_X6_isTaken : Cond.selects yX6_isTaken.cls yX6_isTaken yX6_isTaken ∈ gk_tb := gk_tb_in 4 (by decide +kernel) (by decide +kernel)
set_option maxRecDepth 100000 in
theorem kn_X6_isTaken : Cond.initialized yX6_isTaken.cls ∈ gk_tb := gk_tb_in 88 (by decide +kernel) (by decide +kernel)
set_option maxRecDepth 100000 in
theorem kc_X6_parse : Cond.code yX6_parse cX6_parse 3 none ∈ gk_tb := gk_tb_in 429 (by decide +kernel) (by decide +kernel)
set_option maxRecDepth 100000 in
theorem ki_X6_parse : Cond.instanceMethod yX6_parse ∈ gk_tb := gk_tb_in 427 (by decide +kernel) (by decide +kernel)
set_option maxRecDepth 100000 in
theorem ks_X6_parse : Cond.selects yX6_parse.cls yX6_parse yX6_parse ∈ gk_tb := gk_tb_in 428 (by decide +kernel) (by decide +kernel)
set_option maxRecDepth 100000 in
theorem kn_X6_parse : Cond.initialized yX6_parse.cls ∈ gk_tb := gk_tb_in 88 (by decide +kernel) (by decide +kernel)
set_option maxRecDepth 100000 in
theorem kc_X6_part : Cond.code yX6_part cX6_part 3 (some .int) ∈ gk_tb := gk_tb_in 554 (by decide +kernel) (by decide +kernel)
set_option maxRecDepth 100000 in
theorem ki_X6_part : Cond.instanceMethod yX6_part ∈ gk_tb := gk_tb_in 552 (by decide +kernel) (by decide +kernel)
set_option maxRecDepth 100000 in
theorem ks_X6_part : Cond.selects yX6_part.cls yX6_part yX6_part ∈ gk_tb := gk_tb_in 553 (by decide +kernel) (by decide +kernel)
set_option maxRecDepth 100000 in
theorem kn_X6_part : Cond.initialized yX6_part.cls ∈ gk_tb := gk_tb_in 88 (by decide +kernel) (by decide +kernel)
set_option maxRecDepth 100000 in
theorem kc_X8_init : Cond.code yX8_init cX8_init 1 none ∈ gk_tb := gk_tb_in 946 (by decide +kernel) (by decide +kernel)
set_option maxRecDepth 100000 in
theorem ki_X8_init : Cond.instanceMethod yX8_init ∈ gk_tb := gk_tb_in 945 (by decide +kernel) (by decide +kernel)
set_option maxRecDepth 100000 in
theorem kn_X8_init : Cond.initialized yX8_init.cls ∈ gk_tb := gk_tb_in 94 (by decide +kernel) (by decide +kernel)
set_option maxRecDepth 100000 in
theorem kc_X8_asTold : Cond.code yX8_asTold cX8_asTold 2 none ∈ gk_tb := gk_tb_in 1222 (by decide +kernel) (by decide +kernel)
set_option maxRecDepth 100000 in
theorem ki_X8_asTold : Cond.instanceMethod yX8_asTold ∈ gk_tb := gk_tb_in 1221 (by decide +kernel) (by decide +kernel)
set_option maxRecDepth 100000 in
theorem ks_X8_asTold : Cond.selects yX8_asTold.cls yX8_asTold yX8_asTold ∈ gk_tb := gk_tb_in 46 (by decide +kernel) (by decide +kernel)
set_option maxRecDepth 100000 in
theorem kn_X8_asTold : Cond.initialized yX8_asTold.cls ∈ gk_tb := gk_tb_in 94 (by decide +kernel) (by decide +kernel)
set_option maxRecDepth 100000 in
theorem kc_X8_ask : Cond.code yX8_ask cX8_ask 2 (some .int) ∈ gk_tb := gk_tb_in 1405 (by decide +kernel) (by decide +kernel)
set_option maxRecDepth 100000 in
theorem ki_X8_ask : Cond.instanceMethod yX8_ask ∈ gk_tb := gk_tb_in 1403 (by decide +kernel) (by decide +kernel)
set_option maxRecDepth 100000 in
theorem ks_X8_ask : Cond.selects yX8_ask.cls yX8_ask yX8_ask ∈ gk_tb := gk_tb_in 1404 (by decide +kernel) (by decide +kernel)
set_option maxRecDepth 100000 in
theorem kn_X8_ask : Cond.initialized yX8_ask.cls ∈ gk_tb := gk_tb_in 94 (by decide +kernel) (by decide +kernel)
set_option maxRecDepth 100000 in
theorem kc_X8_askOf : Cond.code yX8_askOf cX8_askOf 10 (some .int) ∈ gk_tb := gk_tb_in 1409 (by decide +kernel) (by decide +kernel)
set_option maxRecDepth 100000 in
theorem ki_X8_askOf : Cond.instanceMethod yX8_askOf ∈ gk_tb := gk_tb_in 1408 (by decide +kernel) (by decide +kernel)
set_option maxRecDepth 100000 in
theorem ks_X8_askOf : Cond.selects yX8_askOf.cls yX8_askOf yX8_askOf ∈ gk_tb := gk_tb_in 75 (by decide +kernel) (by decide +kernel)
set_option maxRecDepth 100000 in
theorem kn_X8_askOf : Cond.initialized yX8_askOf.cls ∈ gk_tb := gk_tb_in 94 (by decide +kernel) (by decide +kernel)
set_option maxRecDepth 100000 in
theorem kc_X8_at : Cond.code yX8_at cX8_at 4 (some .int) ∈ gk_tb := gk_tb_in 1207 (by decide +kernel) (by decide +kernel)
set_option maxRecDepth 100000 in
theorem ki_X8_at : Cond.instanceMethod yX8_at ∈ gk_tb := gk_tb_in 1205 (by decide +kernel) (by decide +kernel)
set_option maxRecDepth 100000 in
theorem ks_X8_at : Cond.selects yX8_at.cls yX8_at yX8_at ∈ gk_tb := gk_tb_in 1206 (by decide +kernel) (by decide +kernel)
set_option maxRecDepth 100000 in
theorem kn_X8_at : Cond.initialized yX8_at.cls ∈ gk_tb := gk_tb_in 94 (by decide +kernel) (by decide +kernel)
set_option maxRecDepth 100000 in
theorem kc_X8_atDigest : Cond.code yX8_atDigest cX8_atDigest 7 (some .long) ∈ gk_tb := gk_tb_in 1493 (by decide +kernel) (by decide +kernel)
set_option maxRecDepth 100000 in
theorem ki_X8_atDigest : Cond.instanceMethod yX8_atDigest ∈ gk_tb := gk_tb_in 1492 (by decide +kernel) (by decide +kernel)
set_option maxRecDepth 100000 in
theorem ks_X8_atDigest : Cond.selects yX8_atDigest.cls yX8_atDigest yX8_atDigest ∈ gk_tb := gk_tb_in 83 (by decide +kernel) (by decide +kernel)
set_option maxRecDepth 100000 in
theorem kn_X8_atDigest : Cond.initialized yX8_atDigest.cls ∈ gk_tb := gk_tb_in 94 (by decide +kernel) (by decide +kernel)
set_option maxRecDepth 100000 in
theorem kc_X8_atOf : Cond.code yX8_atOf cX8_atOf 4 (some .int) ∈ gk_tb := gk_tb_in 1214 (by decide +kernel) (by decide +kernel)
set_option maxRecDepth 100000 in
theorem ki_X8_atOf : Cond.instanceMethod yX8_atOf ∈ gk_tb := gk_tb_in 1213 (by decide +kernel) (by decide +kernel)
set_option maxRecDepth 100000 in
theorem ks_X8_atOf : Cond.selects yX8_atOf.cls yX8_atOf yX8_atOf ∈ gk_tb := gk_tb_in 44 (by decide +kernel) (by decide +kernel)
set_option maxRecDepth 100000 in
theorem kn_X8_atOf : Cond.initialized yX8_atOf.cls ∈ gk_tb := gk_tb_in 94 (by decide +kernel) (by decide +kernel)
set_option maxRecDepth 100000 in
theorem kc_X8_back : Cond.code yX8_back cX8_back 1 (some .int) ∈ gk_tb := gk_tb_in 1191 (by decide +kernel) (by decide +kernel)
set_option maxRecDepth 100000 in
theorem ki_X8_back : Cond.instanceMethod yX8_back ∈ gk_tb := gk_tb_in 1189 (by decide +kernel) (by decide +kernel)
set_option maxRecDepth 100000 in
theorem ks_X8_back : Cond.selects yX8_back.cls yX8_back yX8_back ∈ gk_tb := gk_tb_in 1190 (by decide +kernel) (by decide +kernel)
set_option maxRecDepth 100000 in
theorem kn_X8_back : Cond.initialized yX8_back.cls ∈ gk_tb := gk_tb_in 94 (by decide +kernel) (by decide +kernel)
set_option maxRecDepth 100000 in
theorem kc_X8_befalls : Cond.code yX8_befalls cX8_befalls 3 none ∈ gk_tb := gk_tb_in 1234 (by decide +kernel) (by decide +kernel)
set_option maxRecDepth 100000 in
theorem ki_X8_befalls : Cond.instanceMethod yX8_befalls ∈ gk_tb := gk_tb_in 1233 (by decide +kernel) (by decide +kernel)
set_option maxRecDepth 100000 in
theorem ks_X8_befalls : Cond.selects yX8_befalls.cls yX8_befalls yX8_befalls ∈ gk_tb := gk_tb_in 49 (by decide +kernel) (by decide +kernel)
set_option maxRecDepth 100000 in
theorem kn_X8_befalls : Cond.initialized yX8_befalls.cls ∈ gk_tb := gk_tb_in 94 (by decide +kernel) (by decide +kernel)
set_option maxRecDepth 100000 in
theorem kc_X8_bothOver : Cond.code yX8_bothOver cX8_bothOver 1 (some .int) ∈ gk_tb := gk_tb_in 1337 (by decide +kernel) (by decide +kernel)
set_option maxRecDepth 100000 in
theorem ki_X8_bothOver : Cond.instanceMethod yX8_bothOver ∈ gk_tb := gk_tb_in 1336 (by decide +kernel) (by decide +kernel)
set_option maxRecDepth 100000 in
theorem ks_X8_bothOver : Cond.selects yX8_bothOver.cls yX8_bothOver yX8_bothOver ∈ gk_tb := gk_tb_in 65 (by decide +kernel) (by decide +kernel)
set_option maxRecDepth 100000 in
theorem kn_X8_bothOver : Cond.initialized yX8_bothOver.cls ∈ gk_tb := gk_tb_in 94 (by decide +kernel) (by decide +kernel)
set_option maxRecDepth 100000 in
theorem kc_X8_byteAt : Cond.code yX8_byteAt cX8_byteAt 3 (some .int) ∈ gk_tb := gk_tb_in 1133 (by decide +kernel) (by decide +kernel)
set_option maxRecDepth 100000 in
theorem ki_X8_byteAt : Cond.instanceMethod yX8_byteAt ∈ gk_tb := gk_tb_in 1132 (by decide +kernel) (by decide +kernel)
set_option maxRecDepth 100000 in
theorem ks_X8_byteAt : Cond.selects yX8_byteAt.cls yX8_byteAt yX8_byteAt ∈ gk_tb := gk_tb_in 34 (by decide +kernel) (by decide +kernel)
set_option maxRecDepth 100000 in
theorem kn_X8_byteAt : Cond.initialized yX8_byteAt.cls ∈ gk_tb := gk_tb_in 94 (by decide +kernel) (by decide +kernel)
set_option maxRecDepth 100000 in
theorem kc_X8_car : Cond.code yX8_car cX8_car 3 (some .int) ∈ gk_tb := gk_tb_in 1152 (by decide +kernel) (by decide +kernel)
set_option maxRecDepth 100000 in
theorem ki_X8_car : Cond.instanceMethod yX8_car ∈ gk_tb := gk_tb_in 1150 (by decide +kernel) (by decide +kernel)
set_option maxRecDepth 100000 in
theorem ks_X8_car : Cond.selects yX8_car.cls yX8_car yX8_car ∈ gk_tb := gk_tb_in 1151 (by decide +kernel) (by decide +kernel)
set_option maxRecDepth 100000 in
theorem kn_X8_car : Cond.initialized yX8_car.cls ∈ gk_tb := gk_tb_in 94 (by decide +kernel) (by decide +kernel)
set_option maxRecDepth 100000 in
theorem kc_X8_carDigest : Cond.code yX8_carDigest cX8_carDigest 7 (some .long) ∈ gk_tb := gk_tb_in 1489 (by decide +kernel) (by decide +kernel)
set_option maxRecDepth 100000 in
theorem ki_X8_carDigest : Cond.instanceMethod yX8_carDigest ∈ gk_tb := gk_tb_in 1488 (by decide +kernel) (by decide +kernel)
set_option maxRecDepth 100000 in
theorem ks_X8_carDigest : Cond.selects yX8_carDigest.cls yX8_carDigest yX8_carDigest ∈ gk_tb := gk_tb_in 82 (by decide +kernel) (by decide +kernel)
set_option maxRecDepth 100000 in
theorem kn_X8_carDigest : Cond.initialized yX8_carDigest.cls ∈ gk_tb := gk_tb_in 94 (by decide +kernel) (by decide +kernel)
set_option maxRecDepth 100000 in
theorem kc_X8_carOf : Cond.code yX8_carOf cX8_carOf 3 (some .int) ∈ gk_tb := gk_tb_in 1167 (by decide +kernel) (by decide +kernel)
set_option maxRecDepth 100000 in
theorem ki_X8_carOf : Cond.instanceMethod yX8_carOf ∈ gk_tb := gk_tb_in 1166 (by decide +kernel) (by decide +kernel)
set_option maxRecDepth 100000 in
theorem ks_X8_carOf : Cond.selects yX8_carOf.cls yX8_carOf yX8_carOf ∈ gk_tb := gk_tb_in 40 (by decide +kernel) (by decide +kernel)
set_option maxRecDepth 100000 in
theorem kn_X8_carOf : Cond.initialized yX8_carOf.cls ∈ gk_tb := gk_tb_in 94 (by decide +kernel) (by decide +kernel)
set_option maxRecDepth 100000 in
theorem kc_X8_carried : Cond.code yX8_carried cX8_carried 2 (some .int) ∈ gk_tb := gk_tb_in 1297 (by decide +kernel) (by decide +kernel)
set_option maxRecDepth 100000 in
theorem ki_X8_carried : Cond.instanceMethod yX8_carried ∈ gk_tb := gk_tb_in 1295 (by decide +kernel) (by decide +kernel)
set_option maxRecDepth 100000 in
theorem ks_X8_carried : Cond.selects yX8_carried.cls yX8_carried yX8_carried ∈ gk_tb := gk_tb_in 1296 (by decide +kernel) (by decide +kernel)
set_option maxRecDepth 100000 in
theorem kn_X8_carried : Cond.initialized yX8_carried.cls ∈ gk_tb := gk_tb_in 94 (by decide +kernel) (by decide +kernel)
set_option maxRecDepth 100000 in
theorem kc_X8_carriedOf : Cond.code yX8_carriedOf cX8_carriedOf 2 (some .int) ∈ gk_tb := gk_tb_in 1301 (by decide +kernel) (by decide +kernel)
set_option maxRecDepth 100000 in
theorem ki_X8_carriedOf : Cond.instanceMethod yX8_carriedOf ∈ gk_tb := gk_tb_in 1300 (by decide +kernel) (by decide +kernel)
set_option maxRecDepth 100000 in
theorem ks_X8_carriedOf : Cond.selects yX8_carriedOf.cls yX8_carriedOf yX8_carriedOf ∈ gk_tb := gk_tb_in 59 (by decide +kernel) (by decide +kernel)
set_option maxRecDepth 100000 in
theorem kn_X8_carriedOf : Cond.initialized yX8_carriedOf.cls ∈ gk_tb := gk_tb_in 94 (by decide +kernel) (by decide +kernel)
set_option maxRecDepth 100000 in
theorem kc_X8_chance : Cond.code yX8_chance cX8_chance 4 (some .long) ∈ gk_tb := gk_tb_in 1413 (by decide +kernel) (by decide +kernel)
set_option maxRecDepth 100000 in
theorem ki_X8_chance : Cond.instanceMethod yX8_chance ∈ gk_tb := gk_tb_in 1411 (by decide +kernel) (by decide +kernel)
set_option maxRecDepth 100000 in
theorem ks_X8_chance : Cond.selects yX8_chance.cls yX8_chance yX8_chance ∈ gk_tb := gk_tb_in 1412 (by decide +kernel) (by decide +kernel)
set_option maxRecDepth 100000 in
theorem kn_X8_chance : Cond.initialized yX8_chance.cls ∈ gk_tb := gk_tb_in 94 (by decide +kernel) (by decide +kernel)
set_option maxRecDepth 100000 in
theorem kc_X8_chanceOf : Cond.code yX8_chanceOf cX8_chanceOf 10 (some .long) ∈ gk_tb := gk_tb_in 1417 (by decide +kernel) (by decide +kernel)
set_option maxRecDepth 100000 in
theorem ki_X8_chanceOf : Cond.instanceMethod yX8_chanceOf ∈ gk_tb := gk_tb_in 1416 (by decide +kernel) (by decide +kernel)
set_option maxRecDepth 100000 in
theorem ks_X8_chanceOf : Cond.selects yX8_chanceOf.cls yX8_chanceOf yX8_chanceOf ∈ gk_tb := gk_tb_in 76 (by decide +kernel) (by decide +kernel)
set_option maxRecDepth 100000 in
theorem kn_X8_chanceOf : Cond.initialized yX8_chanceOf.cls ∈ gk_tb := gk_tb_in 94 (by decide +kernel) (by decide +kernel)
set_option maxRecDepth 100000 in
theorem kc_X8_cheap : Cond.code yX8_cheap cX8_cheap 3 (some .int) ∈ gk_tb := gk_tb_in 1349 (by decide +kernel) (by decide +kernel)
set_option maxRecDepth 100000 in
theorem ki_X8_cheap : Cond.instanceMethod yX8_cheap ∈ gk_tb := gk_tb_in 1347 (by decide +kernel) (by decide +kernel)
set_option maxRecDepth 100000 in
theorem ks_X8_cheap : Cond.selects yX8_cheap.cls yX8_cheap yX8_cheap ∈ gk_tb := gk_tb_in 1348 (by decide +kernel) (by decide +kernel)
set_option maxRecDepth 100000 in
theorem kn_X8_cheap : Cond.initialized yX8_cheap.cls ∈ gk_tb := gk_tb_in 94 (by decide +kernel) (by decide +kernel)
set_option maxRecDepth 100000 in
theorem kc_X8_cheapOf : Cond.code yX8_cheapOf cX8_cheapOf 7 (some .int) ∈ gk_tb := gk_tb_in 1353 (by decide +kernel) (by decide +kernel)
set_option maxRecDepth 100000 in
theorem ki_X8_cheapOf : Cond.instanceMethod yX8_cheapOf ∈ gk_tb := gk_tb_in 1352 (by decide +kernel) (by decide +kernel)
set_option maxRecDepth 100000 in
theorem ks_X8_cheapOf : Cond.selects yX8_cheapOf.cls yX8_cheapOf yX8_cheapOf ∈ gk_tb := gk_tb_in 67 (by decide +kernel) (by decide +kernel)
set_option maxRecDepth 100000 in
theorem kn_X8_cheapOf : Cond.initialized yX8_cheapOf.cls ∈ gk_tb := gk_tb_in 94 (by decide +kernel) (by decide +kernel)
set_option maxRecDepth 100000 in
theorem kc_X8_coming : Cond.code yX8_coming cX8_coming 3 (some .int) ∈ gk_tb := gk_tb_in 1171 (by decide +kernel) (by decide +kernel)
set_option maxRecDepth 100000 in
theorem ki_X8_coming : Cond.instanceMethod yX8_coming ∈ gk_tb := gk_tb_in 1169 (by decide +kernel) (by decide +kernel)
set_option maxRecDepth 100000 in
theorem ks_X8_coming : Cond.selects yX8_coming.cls yX8_coming yX8_coming ∈ gk_tb := gk_tb_in 1170 (by decide +kernel) (by decide +kernel)
set_option maxRecDepth 100000 in
theorem kn_X8_coming : Cond.initialized yX8_coming.cls ∈ gk_tb := gk_tb_in 94 (by decide +kernel) (by decide +kernel)
set_option maxRecDepth 100000 in
theorem kc_X8_comingOf : Cond.code yX8_comingOf cX8_comingOf 3 (some .int) ∈ gk_tb := gk_tb_in 1175 (by decide +kernel) (by decide +kernel)
set_option maxRecDepth 100000 in
theorem ki_X8_comingOf : Cond.instanceMethod yX8_comingOf ∈ gk_tb := gk_tb_in 1174 (by decide +kernel) (by decide +kernel)
set_option maxRecDepth 100000 in
theorem ks_X8_comingOf : Cond.selects yX8_comingOf.cls yX8_comingOf yX8_comingOf ∈ gk_tb := gk_tb_in 41 (by decide +kernel) (by decide +kernel)
set_option maxRecDepth 100000 in
theorem kn_X8_comingOf : Cond.initialized yX8_comingOf.cls ∈ gk_tb := gk_tb_in 94 (by decide +kernel) (by decide +kernel)
set_option maxRecDepth 100000 in
theorem kc_X8_copy : Cond.code yX8_copy cX8_copy 7 (some .int) ∈ gk_tb := gk_tb_in 1462 (by decide +kernel) (by decide +kernel)
set_option maxRecDepth 100000 in
theorem ki_X8_copy : Cond.instanceMethod yX8_copy ∈ gk_tb := gk_tb_in 1460 (by decide +kernel) (by decide +kernel)
set_option maxRecDepth 100000 in
theorem ks_X8_copy : Cond.selects yX8_copy.cls yX8_copy yX8_copy ∈ gk_tb := gk_tb_in 1461 (by decide +kernel) (by decide +kernel)
set_option maxRecDepth 100000 in
theorem kn_X8_copy : Cond.initialized yX8_copy.cls ∈ gk_tb := gk_tb_in 94 (by decide +kernel) (by decide +kernel)
set_option maxRecDepth 100000 in
theorem kc_X8_count : Cond.code yX8_count cX8_count 2 (some .int) ∈ gk_tb := gk_tb_in 1470 (by decide +kernel) (by decide +kernel)
set_option maxRecDepth 100000 in
theorem ki_X8_count : Cond.instanceMethod yX8_count ∈ gk_tb := gk_tb_in 1468 (by decide +kernel) (by decide +kernel)
set_option maxRecDepth 100000 in
theorem ks_X8_count : Cond.selects yX8_count.cls yX8_count yX8_count ∈ gk_tb := gk_tb_in 1469 (by decide +kernel) (by decide +kernel)
set_option maxRecDepth 100000 in
theorem kn_X8_count : Cond.initialized yX8_count.cls ∈ gk_tb := gk_tb_in 94 (by decide +kernel) (by decide +kernel)
set_option maxRecDepth 100000 in
theorem kc_X8_crowd : Cond.code yX8_crowd cX8_crowd 3 (some .int) ∈ gk_tb := gk_tb_in 1281 (by decide +kernel) (by decide +kernel)
set_option maxRecDepth 100000 in
theorem ki_X8_crowd : Cond.instanceMethod yX8_crowd ∈ gk_tb := gk_tb_in 1279 (by decide +kernel) (by decide +kernel)
set_option maxRecDepth 100000 in
theorem ks_X8_crowd : Cond.selects yX8_crowd.cls yX8_crowd yX8_crowd ∈ gk_tb := gk_tb_in 1280 (by decide +kernel) (by decide +kernel)
set_option maxRecDepth 100000 in
theorem kn_X8_crowd : Cond.initialized yX8_crowd.cls ∈ gk_tb := gk_tb_in 94 (by decide +kernel) (by decide +kernel)
set_option maxRecDepth 100000 in
theorem kc_X8_crowdOf : Cond.code yX8_crowdOf cX8_crowdOf 5 (some .int) ∈ gk_tb := gk_tb_in 1285 (by decide +kernel) (by decide +kernel)
set_option maxRecDepth 100000 in
theorem ki_X8_crowdOf : Cond.instanceMethod yX8_crowdOf ∈ gk_tb := gk_tb_in 1284 (by decide +kernel) (by decide +kernel)
set_option maxRecDepth 100000 in
theorem ks_X8_crowdOf : Cond.selects yX8_crowdOf.cls yX8_crowdOf yX8_crowdOf ∈ gk_tb := gk_tb_in 57 (by decide +kernel) (by decide +kernel)
set_option maxRecDepth 100000 in
theorem kn_X8_crowdOf : Cond.initialized yX8_crowdOf.cls ∈ gk_tb := gk_tb_in 94 (by decide +kernel) (by decide +kernel)
set_option maxRecDepth 100000 in
theorem kc_X8_digest : Cond.code yX8_digest cX8_digest 5 (some .long) ∈ gk_tb := gk_tb_in 1478 (by decide +kernel) (by decide +kernel)
set_option maxRecDepth 100000 in
theorem ki_X8_digest : Cond.instanceMethod yX8_digest ∈ gk_tb := gk_tb_in 1476 (by decide +kernel) (by decide +kernel)
set_option maxRecDepth 100000 in
theorem ks_X8_digest : Cond.selects yX8_digest.cls yX8_digest yX8_digest ∈ gk_tb := gk_tb_in 1477 (by decide +kernel) (by decide +kernel)
set_option maxRecDepth 100000 in
theorem kn_X8_digest : Cond.initialized yX8_digest.cls ∈ gk_tb := gk_tb_in 94 (by decide +kernel) (by decide +kernel)
set_option maxRecDepth 100000 in
theorem kc_X8_event : Cond.code yX8_event cX8_event 4 (some .int) ∈ gk_tb := gk_tb_in 1187 (by decide +kernel) (by decide +kernel)
set_option maxRecDepth 100000 in
theorem ki_X8_event : Cond.instanceMethod yX8_event ∈ gk_tb := gk_tb_in 1185 (by decide +kernel) (by decide +kernel)
set_option maxRecDepth 100000 in
theorem ks_X8_event : Cond.selects yX8_event.cls yX8_event yX8_event ∈ gk_tb := gk_tb_in 1186 (by decide +kernel) (by decide +kernel)
set_option maxRecDepth 100000 in
theorem kn_X8_event : Cond.initialized yX8_event.cls ∈ gk_tb := gk_tb_in 94 (by decide +kernel) (by decide +kernel)
set_option maxRecDepth 100000 in
theorem kc_X8_fault : Cond.code yX8_fault cX8_fault 2 (some .int) ∈ gk_tb := gk_tb_in 1117 (by decide +kernel) (by decide +kernel)
set_option maxRecDepth 100000 in
theorem ki_X8_fault : Cond.instanceMethod yX8_fault ∈ gk_tb := gk_tb_in 1115 (by decide +kernel) (by decide +kernel)
set_option maxRecDepth 100000 in
theorem ks_X8_fault : Cond.selects yX8_fault.cls yX8_fault yX8_fault ∈ gk_tb := gk_tb_in 1116 (by decide +kernel) (by decide +kernel)
set_option maxRecDepth 100000 in
theorem kn_X8_fault : Cond.initialized yX8_fault.cls ∈ gk_tb := gk_tb_in 94 (by decide +kernel) (by decide +kernel)
set_option maxRecDepth 100000 in
theorem kc_X8_faultOf : Cond.code yX8_faultOf cX8_faultOf 5 (some .int) ∈ gk_tb := gk_tb_in 1121 (by decide +kernel) (by decide +kernel)
set_option maxRecDepth 100000 in
theorem ki_X8_faultOf : Cond.instanceMethod yX8_faultOf ∈ gk_tb := gk_tb_in 1120 (by decide +kernel) (by decide +kernel)
set_option maxRecDepth 100000 in
theorem ks_X8_faultOf : Cond.selects yX8_faultOf.cls yX8_faultOf yX8_faultOf ∈ gk_tb := gk_tb_in 31 (by decide +kernel) (by decide +kernel)
set_option maxRecDepth 100000 in
theorem kn_X8_faultOf : Cond.initialized yX8_faultOf.cls ∈ gk_tb := gk_tb_in 94 (by decide +kernel) (by decide +kernel)
set_option maxRecDepth 100000 in
theorem kc_X8_first : Cond.code yX8_first cX8_first 2 (some .int) ∈ gk_tb := gk_tb_in 1289 (by decide +kernel) (by decide +kernel)
set_option maxRecDepth 100000 in
theorem ki_X8_first : Cond.instanceMethod yX8_first ∈ gk_tb := gk_tb_in 1287 (by decide +kernel) (by decide +kernel)
set_option maxRecDepth 100000 in
theorem ks_X8_first : Cond.selects yX8_first.cls yX8_first yX8_first ∈ gk_tb := gk_tb_in 1288 (by decide +kernel) (by decide +kernel)
set_option maxRecDepth 100000 in
theorem kn_X8_first : Cond.initialized yX8_first.cls ∈ gk_tb := gk_tb_in 94 (by decide +kernel) (by decide +kernel)
set_option maxRecDepth 100000 in
theorem kc_X8_firstOf : Cond.code yX8_firstOf cX8_firstOf 2 (some .int) ∈ gk_tb := gk_tb_in 1293 (by decide +kernel) (by decide +kernel)
set_option maxRecDepth 100000 in
theorem ki_X8_firstOf : Cond.instanceMethod yX8_firstOf ∈ gk_tb := gk_tb_in 1292 (by decide +kernel) (by decide +kernel)
set_option maxRecDepth 100000 in
theorem ks_X8_firstOf : Cond.selects yX8_firstOf.cls yX8_firstOf yX8_firstOf ∈ gk_tb := gk_tb_in 58 (by decide +kernel) (by decide +kernel)
set_option maxRecDepth 100000 in
theorem kn_X8_firstOf : Cond.initialized yX8_firstOf.cls ∈ gk_tb := gk_tb_in 94 (by decide +kernel) (by decide +kernel)
set_option maxRecDepth 100000 in
theorem kc_X8_forget : Cond.code yX8_forget cX8_forget 2 (some .int) ∈ gk_tb := gk_tb_in 1377 (by decide +kernel) (by decide +kernel)
set_option maxRecDepth 100000 in
theorem ki_X8_forget : Cond.instanceMethod yX8_forget ∈ gk_tb := gk_tb_in 1375 (by decide +kernel) (by decide +kernel)
set_option maxRecDepth 100000 in
theorem ks_X8_forget : Cond.selects yX8_forget.cls yX8_forget yX8_forget ∈ gk_tb := gk_tb_in 1376 (by decide +kernel) (by decide +kernel)
set_option maxRecDepth 100000 in
theorem kn_X8_forget : Cond.initialized yX8_forget.cls ∈ gk_tb := gk_tb_in 94 (by decide +kernel) (by decide +kernel)
set_option maxRecDepth 100000 in
theorem kc_X8_get : Cond.code yX8_get cX8_get 5 (some .int) ∈ gk_tb := gk_tb_in 1457 (by decide +kernel) (by decide +kernel)
set_option maxRecDepth 100000 in
theorem ki_X8_get : Cond.instanceMethod yX8_get ∈ gk_tb := gk_tb_in 1455 (by decide +kernel) (by decide +kernel)
set_option maxRecDepth 100000 in
theorem ks_X8_get : Cond.selects yX8_get.cls yX8_get yX8_get ∈ gk_tb := gk_tb_in 1456 (by decide +kernel) (by decide +kernel)
set_option maxRecDepth 100000 in
theorem kn_X8_get : Cond.initialized yX8_get.cls ∈ gk_tb := gk_tb_in 94 (by decide +kernel) (by decide +kernel)
set_option maxRecDepth 100000 in
theorem kc_X8_getsIn : Cond.code yX8_getsIn cX8_getsIn 5 none ∈ gk_tb := gk_tb_in 1253 (by decide +kernel) (by decide +kernel)
set_option maxRecDepth 100000 in
theorem ki_X8_getsIn : Cond.instanceMethod yX8_getsIn ∈ gk_tb := gk_tb_in 1252 (by decide +kernel) (by decide +kernel)
set_option maxRecDepth 100000 in
theorem ks_X8_getsIn : Cond.selects yX8_getsIn.cls yX8_getsIn yX8_getsIn ∈ gk_tb := gk_tb_in 53 (by decide +kernel) (by decide +kernel)
set_option maxRecDepth 100000 in
theorem kn_X8_getsIn : Cond.initialized yX8_getsIn.cls ∈ gk_tb := gk_tb_in 94 (by decide +kernel) (by decide +kernel)
set_option maxRecDepth 100000 in
theorem kc_X8_getsOut : Cond.code yX8_getsOut cX8_getsOut 4 none ∈ gk_tb := gk_tb_in 1249 (by decide +kernel) (by decide +kernel)
set_option maxRecDepth 100000 in
theorem ki_X8_getsOut : Cond.instanceMethod yX8_getsOut ∈ gk_tb := gk_tb_in 1248 (by decide +kernel) (by decide +kernel)
set_option maxRecDepth 100000 in
theorem ks_X8_getsOut : Cond.selects yX8_getsOut.cls yX8_getsOut yX8_getsOut ∈ gk_tb := gk_tb_in 52 (by decide +kernel) (by decide +kernel)
set_option maxRecDepth 100000 in
theorem kn_X8_getsOut : Cond.initialized yX8_getsOut.cls ∈ gk_tb := gk_tb_in 94 (by decide +kernel) (by decide +kernel)
set_option maxRecDepth 100000 in
theorem kc_X8_goesBy : Cond.code yX8_goesBy cX8_goesBy 4 none ∈ gk_tb := gk_tb_in 1230 (by decide +kernel) (by decide +kernel)
set_option maxRecDepth 100000 in
theorem ki_X8_goesBy : Cond.instanceMethod yX8_goesBy ∈ gk_tb := gk_tb_in 1229 (by decide +kernel) (by decide +kernel)
set_option maxRecDepth 100000 in
theorem ks_X8_goesBy : Cond.selects yX8_goesBy.cls yX8_goesBy yX8_goesBy ∈ gk_tb := gk_tb_in 48 (by decide +kernel) (by decide +kernel)
set_option maxRecDepth 100000 in
theorem kn_X8_goesBy : Cond.initialized yX8_goesBy.cls ∈ gk_tb := gk_tb_in 94 (by decide +kernel) (by decide +kernel)
set_option maxRecDepth 100000 in
theorem kc_X8_goesOn : Cond.code yX8_goesOn cX8_goesOn 3 none ∈ gk_tb := gk_tb_in 1241 (by decide +kernel) (by decide +kernel)
set_option maxRecDepth 100000 in
theorem ki_X8_goesOn : Cond.instanceMethod yX8_goesOn ∈ gk_tb := gk_tb_in 1240 (by decide +kernel) (by decide +kernel)
set_option maxRecDepth 100000 in
theorem ks_X8_goesOn : Cond.selects yX8_goesOn.cls yX8_goesOn yX8_goesOn ∈ gk_tb := gk_tb_in 50 (by decide +kernel) (by decide +kernel)
set_option maxRecDepth 100000 in
theorem kn_X8_goesOn : Cond.initialized yX8_goesOn.cls ∈ gk_tb := gk_tb_in 94 (by decide +kernel) (by decide +kernel)
set_option maxRecDepth 100000 in
theorem kc_X8_hang : Cond.code yX8_hang cX8_hang 3 (some .int) ∈ gk_tb := gk_tb_in 1325 (by decide +kernel) (by decide +kernel)
set_option maxRecDepth 100000 in
theorem ki_X8_hang : Cond.instanceMethod yX8_hang ∈ gk_tb := gk_tb_in 1323 (by decide +kernel) (by decide +kernel)
set_option maxRecDepth 100000 in
theorem ks_X8_hang : Cond.selects yX8_hang.cls yX8_hang yX8_hang ∈ gk_tb := gk_tb_in 1324 (by decide +kernel) (by decide +kernel)
set_option maxRecDepth 100000 in
theorem kn_X8_hang : Cond.initialized yX8_hang.cls ∈ gk_tb := gk_tb_in 94 (by decide +kernel) (by decide +kernel)
set_option maxRecDepth 100000 in
theorem kc_X8_hangOf : Cond.code yX8_hangOf cX8_hangOf 8 (some .int) ∈ gk_tb := gk_tb_in 1329 (by decide +kernel) (by decide +kernel)
set_option maxRecDepth 100000 in
theorem ki_X8_hangOf : Cond.instanceMethod yX8_hangOf ∈ gk_tb := gk_tb_in 1328 (by decide +kernel) (by decide +kernel)
set_option maxRecDepth 100000 in
theorem ks_X8_hangOf : Cond.selects yX8_hangOf.cls yX8_hangOf yX8_hangOf ∈ gk_tb := gk_tb_in 63 (by decide +kernel) (by decide +kernel)
set_option maxRecDepth 100000 in
theorem kn_X8_hangOf : Cond.initialized yX8_hangOf.cls ∈ gk_tb := gk_tb_in 94 (by decide +kernel) (by decide +kernel)
set_option maxRecDepth 100000 in
theorem kc_X8_idle : Cond.code yX8_idle cX8_idle 1 (some .int) ∈ gk_tb := gk_tb_in 1305 (by decide +kernel) (by decide +kernel)
set_option maxRecDepth 100000 in
theorem ki_X8_idle : Cond.instanceMethod yX8_idle ∈ gk_tb := gk_tb_in 1303 (by decide +kernel) (by decide +kernel)
set_option maxRecDepth 100000 in
theorem ks_X8_idle : Cond.selects yX8_idle.cls yX8_idle yX8_idle ∈ gk_tb := gk_tb_in 1304 (by decide +kernel) (by decide +kernel)
set_option maxRecDepth 100000 in
theorem kn_X8_idle : Cond.initialized yX8_idle.cls ∈ gk_tb := gk_tb_in 94 (by decide +kernel) (by decide +kernel)
set_option maxRecDepth 100000 in
theorem kc_X8_idleOf : Cond.code yX8_idleOf cX8_idleOf 1 (some .int) ∈ gk_tb := gk_tb_in 1309 (by decide +kernel) (by decide +kernel)
set_option maxRecDepth 100000 in
theorem ki_X8_idleOf : Cond.instanceMethod yX8_idleOf ∈ gk_tb := gk_tb_in 1308 (by decide +kernel) (by decide +kernel)
set_option maxRecDepth 100000 in
theorem ks_X8_idleOf : Cond.selects yX8_idleOf.cls yX8_idleOf yX8_idleOf ∈ gk_tb := gk_tb_in 60 (by decide +kernel) (by decide +kernel)
set_option maxRecDepth 100000 in
theorem kn_X8_idleOf : Cond.initialized yX8_idleOf.cls ∈ gk_tb := gk_tb_in 94 (by decide +kernel) (by decide +kernel)
set_option maxRecDepth 100000 in
theorem kc_X8_in : Cond.code yX8_in cX8_in 3 (some .boolean) ∈ gk_tb := gk_tb_in 1102 (by decide +kernel) (by decide +kernel)
set_option maxRecDepth 100000 in
theorem kt_X8_in : Cond.static yX8_in ∈ gk_tb := gk_tb_in 1101 (by decide +kernel) (by decide +kernel)
set_option maxRecDepth 100000 in
theorem kn_X8_in : Cond.initialized yX8_in.cls ∈ gk_tb := gk_tb_in 94 (by decide +kernel) (by decide +kernel)
set_option maxRecDepth 100000 in
theorem kc_X8_isCar : Cond.code yX8_isCar cX8_isCar 2 (some .boolean) ∈ gk_tb := gk_tb_in 1156 (by decide +kernel) (by decide +kernel)
set_option maxRecDepth 100000 in
theorem ki_X8_isCar : Cond.instanceMethod yX8_isCar ∈ gk_tb := gk_tb_in 1155 (by decide +kernel) (by decide +kernel)
set_option maxRecDepth 100000 in
theorem ks_X8_isCar : Cond.selects yX8_isCar.cls yX8_isCar yX8_isCar ∈ gk_tb := gk_tb_in 38 (by decide +kernel) (by decide +kernel)
set_option maxRecDepth 100000 in
theorem kn_X8_isCar : Cond.initialized yX8_isCar.cls ∈ gk_tb := gk_tb_in 94 (by decide +kernel) (by decide +kernel)
set_option maxRecDepth 100000 in
theorem kc_X8_isIn : Cond.code yX8_isIn cX8_isIn 2 (some .boolean) ∈ gk_tb := gk_tb_in 1237 (by decide +kernel) (by decide +kernel)
set_option maxRecDepth 100000 in
theorem kt_X8_isIn : Cond.static yX8_isIn ∈ gk_tb := gk_tb_in 1236 (by decide +kernel) (by decide +kernel)
set_option maxRecDepth 100000 in
theorem kn_X8_isIn : Cond.initialized yX8_isIn.cls ∈ gk_tb := gk_tb_in 94 (by decide +kernel) (by decide +kernel)
set_option maxRecDepth 100000 in
theorem kc_X8_isMoment : Cond.code yX8_isMoment cX8_isMoment 1 (some .boolean) ∈ gk_tb := gk_tb_in 1144 (by decide +kernel) (by decide +kernel)
set_option maxRecDepth 100000 in
theorem kt_X8_isMoment : Cond.static yX8_isMoment ∈ gk_tb := gk_tb_in 1143 (by decide +kernel) (by decide +kernel)
set_option maxRecDepth 100000 in
theorem kn_X8_isMoment : Cond.initialized yX8_isMoment.cls ∈ gk_tb := gk_tb_in 94 (by decide +kernel) (by decide +kernel)
set_option maxRecDepth 100000 in
theorem kc_X8_isOther : Cond.code yX8_isOther cX8_isOther 5 (some .boolean) ∈ gk_tb := gk_tb_in 1333 (by decide +kernel) (by decide +kernel)
set_option maxRecDepth 100000 in
theorem ki_X8_isOther : Cond.instanceMethod yX8_isOther ∈ gk_tb := gk_tb_in 1332 (by decide +kernel) (by decide +kernel)
set_option maxRecDepth 100000 in
theorem ks_X8_isOther : Cond.selects yX8_isOther.cls yX8_isOther yX8_isOther ∈ gk_tb := gk_tb_in 64 (by decide +kernel) (by decide +kernel)
set_option maxRecDepth 100000 in
theorem kn_X8_isOther : Cond.initialized yX8_isOther.cls ∈ gk_tb := gk_tb_in 94 (by decide +kernel) (by decide +kernel)
set_option maxRecDepth 100000 in
theorem kc_X8_isSeen : Cond.code yX8_isSeen cX8_isSeen 3 (some .boolean) ∈ gk_tb := gk_tb_in 1389 (by decide +kernel) (by decide +kernel)
set_option maxRecDepth 100000 in
theorem ki_X8_isSeen : Cond.instanceMethod yX8_isSeen ∈ gk_tb := gk_tb_in 1388 (by decide +kernel) (by decide +kernel)
set_option maxRecDepth 100000 in
theorem ks_X8_isSeen : Cond.selects yX8_isSeen.cls yX8_isSeen yX8_isSeen ∈ gk_tb := gk_tb_in 72 (by decide +kernel) (by decide +kernel)
set_option maxRecDepth 100000 in
theorem kn_X8_isSeen : Cond.initialized yX8_isSeen.cls ∈ gk_tb := gk_tb_in 94 (by decide +kernel) (by decide +kernel)
set_option maxRecDepth 100000 in
theorem kc_X8_isSheet : Cond.code yX8_isSheet cX8_isSheet 1 (some .boolean) ∈ gk_tb := gk_tb_in 1198 (by decide +kernel) (by decide +kernel)
set_option maxRecDepth 100000 in
theorem kt_X8_isSheet : Cond.static yX8_isSheet ∈ gk_tb := gk_tb_in 1197 (by decide +kernel) (by decide +kernel)
set_option maxRecDepth 100000 in
theorem kn_X8_isSheet : Cond.initialized yX8_isSheet.cls ∈ gk_tb := gk_tb_in 94 (by decide +kernel) (by decide +kernel)
set_option maxRecDepth 100000 in
theorem kc_X8_isSpared : Cond.code yX8_isSpared cX8_isSpared 2 (some .boolean) ∈ gk_tb := gk_tb_in 1365 (by decide +kernel) (by decide +kernel)
set_option maxRecDepth 100000 in
theorem ki_X8_isSpared : Cond.instanceMethod yX8_isSpared ∈ gk_tb := gk_tb_in 1364 (by decide +kernel) (by decide +kernel)
set_option maxRecDepth 100000 in
theorem ks_X8_isSpared : Cond.selects yX8_isSpared.cls yX8_isSpared yX8_isSpared ∈ gk_tb := gk_tb_in 69 (by decide +kernel) (by decide +kernel)
set_option maxRecDepth 100000 in
theorem kn_X8_isSpared : Cond.initialized yX8_isSpared.cls ∈ gk_tb := gk_tb_in 94 (by decide +kernel) (by decide +kernel)
set_option maxRecDepth 100000 in
theorem kc_X8_isTaken : Cond.code yX8_isTaken cX8_isTaken 5 (some .boolean) ∈ gk_tb := gk_tb_in 1137 (by decide +kernel) (by decide +kernel)
set_option maxRecDepth 100000 in
theorem ki_X8_isTaken : Cond.instanceMethod yX8_isTaken ∈ gk_tb := gk_tb_in 1136 (by decide +kernel) (by decide +kernel)
set_option maxRecDepth 100000 in
theorem ks_X8_isTaken : Cond.selects yX8_isTaken.cls yX8_isTaken yX8_isTaken ∈ gk_tb := gk_tb_in 35 (by decide +kernel) (by decide +kernel)
set_option maxRecDepth 100000 in
theorem kn_X8_isTaken : Cond.initialized yX8_isTaken.cls ∈ gk_tb := gk_tb_in 94 (by decide +kernel) (by decide +kernel)
set_option maxRecDepth 100000 in
theorem kc_X8_isText : Cond.code yX8_isText cX8_isText 1 (some .boolean) ∈ gk_tb := gk_tb_in 1099 (by decide +kernel) (by decide +kernel)
set_option maxRecDepth 100000 in
theorem kt_X8_isText : Cond.static yX8_isText ∈ gk_tb := gk_tb_in 1098 (by decide +kernel) (by decide +kernel)
set_option maxRecDepth 100000 in
theorem kn_X8_isText : Cond.initialized yX8_isText.cls ∈ gk_tb := gk_tb_in 94 (by decide +kernel) (by decide +kernel)
set_option maxRecDepth 100000 in
theorem kc_X8_isThree : Cond.code yX8_isThree cX8_isThree 1 (some .boolean) ∈ gk_tb := gk_tb_in 1163 (by decide +kernel) (by decide +kernel)
set_option maxRecDepth 100000 in
theorem kt_X8_isThree : Cond.static yX8_isThree ∈ gk_tb := gk_tb_in 1162 (by decide +kernel) (by decide +kernel)
set_option maxRecDepth 100000 in
theorem kn_X8_isThree : Cond.initialized yX8_isThree.cls ∈ gk_tb := gk_tb_in 94 (by decide +kernel) (by decide +kernel)
set_option maxRecDepth 100000 in
theorem kc_X8_isTwo : Cond.code yX8_isTwo cX8_isTwo 1 (some .boolean) ∈ gk_tb := gk_tb_in 1210 (by decide +kernel) (by decide +kernel)
set_option maxRecDepth 100000 in
theorem kt_X8_isTwo : Cond.static yX8_isTwo ∈ gk_tb := gk_tb_in 1209 (by decide +kernel) (by decide +kernel)
set_option maxRecDepth 100000 in
theorem kn_X8_isTwo : Cond.initialized yX8_isTwo.cls ∈ gk_tb := gk_tb_in 94 (by decide +kernel) (by decide +kernel)
set_option maxRecDepth 100000 in
theorem kc_X8_keep : Cond.code yX8_keep cX8_keep 4 none ∈ gk_tb := gk_tb_in 1453 (by decide +kernel) (by decide +kernel)
set_option maxRecDepth 100000 in
theorem ki_X8_keep : Cond.instanceMethod yX8_keep ∈ gk_tb := gk_tb_in 1452 (by decide +kernel) (by decide +kernel)
set_option maxRecDepth 100000 in
theorem ks_X8_keep : Cond.selects yX8_keep.cls yX8_keep yX8_keep ∈ gk_tb := gk_tb_in 79 (by decide +kernel) (by decide +kernel)
set_option maxRecDepth 100000 in
theorem kn_X8_keep : Cond.initialized yX8_keep.cls ∈ gk_tb := gk_tb_in 94 (by decide +kernel) (by decide +kernel)
set_option maxRecDepth 100000 in
theorem kc_X8_lacks : Cond.code yX8_lacks cX8_lacks 4 (some .int) ∈ gk_tb := gk_tb_in 1449 (by decide +kernel) (by decide +kernel)
set_option maxRecDepth 100000 in
theorem ki_X8_lacks : Cond.instanceMethod yX8_lacks ∈ gk_tb := gk_tb_in 1448 (by decide +kernel) (by decide +kernel)
set_option maxRecDepth 100000 in
theorem ks_X8_lacks : Cond.selects yX8_lacks.cls yX8_lacks yX8_lacks ∈ gk_tb := gk_tb_in 78 (by decide +kernel) (by decide +kernel)
set_option maxRecDepth 100000 in
theorem kn_X8_lacks : Cond.initialized yX8_lacks.cls ∈ gk_tb := gk_tb_in 94 (by decide +kernel) (by decide +kernel)
set_option maxRecDepth 100000 in
theorem kc_X8_left : Cond.code yX8_left cX8_left 1 (some .int) ∈ gk_tb := gk_tb_in 1313 (by decide +kernel) (by decide +kernel)
set_option maxRecDepth 100000 in
theorem ki_X8_left : Cond.instanceMethod yX8_left ∈ gk_tb := gk_tb_in 1311 (by decide +kernel) (by decide +kernel)
set_option maxRecDepth 100000 in
theorem ks_X8_left : Cond.selects yX8_left.cls yX8_left yX8_left ∈ gk_tb := gk_tb_in 1312 (by decide +kernel) (by decide +kernel)
set_option maxRecDepth 100000 in
theorem kn_X8_left : Cond.initialized yX8_left.cls ∈ gk_tb := gk_tb_in 94 (by decide +kernel) (by decide +kernel)
set_option maxRecDepth 100000 in
theorem kc_X8_leftNow : Cond.code yX8_leftNow cX8_leftNow 1 (some .int) ∈ gk_tb := gk_tb_in 1321 (by decide +kernel) (by decide +kernel)
set_option maxRecDepth 100000 in
theorem ki_X8_leftNow : Cond.instanceMethod yX8_leftNow ∈ gk_tb := gk_tb_in 1320 (by decide +kernel) (by decide +kernel)
set_option maxRecDepth 100000 in
theorem ks_X8_leftNow : Cond.selects yX8_leftNow.cls yX8_leftNow yX8_leftNow ∈ gk_tb := gk_tb_in 62 (by decide +kernel) (by decide +kernel)
set_option maxRecDepth 100000 in
theorem kn_X8_leftNow : Cond.initialized yX8_leftNow.cls ∈ gk_tb := gk_tb_in 94 (by decide +kernel) (by decide +kernel)
set_option maxRecDepth 100000 in
theorem kc_X8_leftOf : Cond.code yX8_leftOf cX8_leftOf 1 (some .int) ∈ gk_tb := gk_tb_in 1317 (by decide +kernel) (by decide +kernel)
set_option maxRecDepth 100000 in
theorem ki_X8_leftOf : Cond.instanceMethod yX8_leftOf ∈ gk_tb := gk_tb_in 1316 (by decide +kernel) (by decide +kernel)
set_option maxRecDepth 100000 in
theorem ks_X8_leftOf : Cond.selects yX8_leftOf.cls yX8_leftOf yX8_leftOf ∈ gk_tb := gk_tb_in 61 (by decide +kernel) (by decide +kernel)
set_option maxRecDepth 100000 in
theorem kn_X8_leftOf : Cond.initialized yX8_leftOf.cls ∈ gk_tb := gk_tb_in 94 (by decide +kernel) (by decide +kernel)
set_option maxRecDepth 100000 in
theorem kc_X8_lose : Cond.code yX8_lose cX8_lose 2 (some .int) ∈ gk_tb := gk_tb_in 1441 (by decide +kernel) (by decide +kernel)
set_option maxRecDepth 100000 in
theorem ki_X8_lose : Cond.instanceMethod yX8_lose ∈ gk_tb := gk_tb_in 1439 (by decide +kernel) (by decide +kernel)
set_option maxRecDepth 100000 in
theorem ks_X8_lose : Cond.selects yX8_lose.cls yX8_lose yX8_lose ∈ gk_tb := gk_tb_in 1440 (by decide +kernel) (by decide +kernel)
set_option maxRecDepth 100000 in
theorem kn_X8_lose : Cond.initialized yX8_lose.cls ∈ gk_tb := gk_tb_in 94 (by decide +kernel) (by decide +kernel)
set_option maxRecDepth 100000 in
theorem kc_X8_lowest : Cond.code yX8_lowest cX8_lowest 11 (some .long) ∈ gk_tb := gk_tb_in 1420 (by decide +kernel) (by decide +kernel)
set_option maxRecDepth 100000 in
theorem kt_X8_lowest : Cond.static yX8_lowest ∈ gk_tb := gk_tb_in 1419 (by decide +kernel) (by decide +kernel)
set_option maxRecDepth 100000 in
theorem kn_X8_lowest : Cond.initialized yX8_lowest.cls ∈ gk_tb := gk_tb_in 94 (by decide +kernel) (by decide +kernel)
set_option maxRecDepth 100000 in
theorem kc_X8_meets : Cond.code yX8_meets cX8_meets 2 (some .int) ∈ gk_tb := gk_tb_in 1202 (by decide +kernel) (by decide +kernel)
set_option maxRecDepth 100000 in
theorem ki_X8_meets : Cond.instanceMethod yX8_meets ∈ gk_tb := gk_tb_in 1201 (by decide +kernel) (by decide +kernel)
set_option maxRecDepth 100000 in
theorem ks_X8_meets : Cond.selects yX8_meets.cls yX8_meets yX8_meets ∈ gk_tb := gk_tb_in 43 (by decide +kernel) (by decide +kernel)
set_option maxRecDepth 100000 in
theorem kn_X8_meets : Cond.initialized yX8_meets.cls ∈ gk_tb := gk_tb_in 94 (by decide +kernel) (by decide +kernel)
set_option maxRecDepth 100000 in
theorem kc_X8_momentDigest : Cond.code yX8_momentDigest cX8_momentDigest 7 (some .long) ∈ gk_tb := gk_tb_in 1485 (by decide +kernel) (by decide +kernel)
set_option maxRecDepth 100000 in
theorem ki_X8_momentDigest : Cond.instanceMethod yX8_momentDigest ∈ gk_tb := gk_tb_in 1484 (by decide +kernel) (by decide +kernel)
set_option maxRecDepth 100000 in
theorem ks_X8_momentDigest : Cond.selects yX8_momentDigest.cls yX8_momentDigest yX8_momentDigest ∈ gk_tb := gk_tb_in 81 (by decide +kernel) (by decide +kernel)
set_option maxRecDepth 100000 in
theorem kn_X8_momentDigest : Cond.initialized yX8_momentDigest.cls ∈ gk_tb := gk_tb_in 94 (by decide +kernel) (by decide +kernel)
set_option maxRecDepth 100000 in
theorem kc_X8_never : Cond.code yX8_never cX8_never 1 (some .int) ∈ gk_tb := gk_tb_in 1381 (by decide +kernel) (by decide +kernel)
set_option maxRecDepth 100000 in
theorem ki_X8_never : Cond.instanceMethod yX8_never ∈ gk_tb := gk_tb_in 1379 (by decide +kernel) (by decide +kernel)
set_option maxRecDepth 100000 in
theorem ks_X8_never : Cond.selects yX8_never.cls yX8_never yX8_never ∈ gk_tb := gk_tb_in 1380 (by decide +kernel) (by decide +kernel)
set_option maxRecDepth 100000 in
theorem kn_X8_never : Cond.initialized yX8_never.cls ∈ gk_tb := gk_tb_in 94 (by decide +kernel) (by decide +kernel)
set_option maxRecDepth 100000 in
theorem kc_X8_neverNow : Cond.code yX8_neverNow cX8_neverNow 3 (some .int) ∈ gk_tb := gk_tb_in 1385 (by decide +kernel) (by decide +kernel)
set_option maxRecDepth 100000 in
theorem ki_X8_neverNow : Cond.instanceMethod yX8_neverNow ∈ gk_tb := gk_tb_in 1384 (by decide +kernel) (by decide +kernel)
set_option maxRecDepth 100000 in
theorem ks_X8_neverNow : Cond.selects yX8_neverNow.cls yX8_neverNow yX8_neverNow ∈ gk_tb := gk_tb_in 71 (by decide +kernel) (by decide +kernel)
set_option maxRecDepth 100000 in
theorem kn_X8_neverNow : Cond.initialized yX8_neverNow.cls ∈ gk_tb := gk_tb_in 94 (by decide +kernel) (by decide +kernel)
set_option maxRecDepth 100000 in
theorem kc_X8_no : Cond.code yX8_no cX8_no 1 (some .long) ∈ gk_tb := gk_tb_in 1423 (by decide +kernel) (by decide +kernel)
set_option maxRecDepth 100000 in
theorem kt_X8_no : Cond.static yX8_no ∈ gk_tb := gk_tb_in 1422 (by decide +kernel) (by decide +kernel)
set_option maxRecDepth 100000 in
theorem kn_X8_no : Cond.initialized yX8_no.cls ∈ gk_tb := gk_tb_in 94 (by decide +kernel) (by decide +kernel)
set_option maxRecDepth 100000 in
theorem kc_X8_ofRow : Cond.code yX8_ofRow cX8_ofRow 3 (some .int) ∈ gk_tb := gk_tb_in 1369 (by decide +kernel) (by decide +kernel)
set_option maxRecDepth 100000 in
theorem ki_X8_ofRow : Cond.instanceMethod yX8_ofRow ∈ gk_tb := gk_tb_in 1368 (by decide +kernel) (by decide +kernel)
set_option maxRecDepth 100000 in
theorem ks_X8_ofRow : Cond.selects yX8_ofRow.cls yX8_ofRow yX8_ofRow ∈ gk_tb := gk_tb_in 70 (by decide +kernel) (by decide +kernel)
set_option maxRecDepth 100000 in
theorem kn_X8_ofRow : Cond.initialized yX8_ofRow.cls ∈ gk_tb := gk_tb_in 94 (by decide +kernel) (by decide +kernel)
set_option maxRecDepth 100000 in
theorem kc_X8_over : Cond.code yX8_over cX8_over 2 (some .int) ∈ gk_tb := gk_tb_in 1265 (by decide +kernel) (by decide +kernel)
set_option maxRecDepth 100000 in
theorem ki_X8_over : Cond.instanceMethod yX8_over ∈ gk_tb := gk_tb_in 1263 (by decide +kernel) (by decide +kernel)
set_option maxRecDepth 100000 in
theorem ks_X8_over : Cond.selects yX8_over.cls yX8_over yX8_over ∈ gk_tb := gk_tb_in 1264 (by decide +kernel) (by decide +kernel)
set_option maxRecDepth 100000 in
theorem kn_X8_over : Cond.initialized yX8_over.cls ∈ gk_tb := gk_tb_in 94 (by decide +kernel) (by decide +kernel)
set_option maxRecDepth 100000 in
theorem kc_X8_overOf : Cond.code yX8_overOf cX8_overOf 2 (some .int) ∈ gk_tb := gk_tb_in 1269 (by decide +kernel) (by decide +kernel)
set_option maxRecDepth 100000 in
theorem ki_X8_overOf : Cond.instanceMethod yX8_overOf ∈ gk_tb := gk_tb_in 1268 (by decide +kernel) (by decide +kernel)
set_option maxRecDepth 100000 in
theorem ks_X8_overOf : Cond.selects yX8_overOf.cls yX8_overOf yX8_overOf ∈ gk_tb := gk_tb_in 55 (by decide +kernel) (by decide +kernel)
set_option maxRecDepth 100000 in
theorem kn_X8_overOf : Cond.initialized yX8_overOf.cls ∈ gk_tb := gk_tb_in 94 (by decide +kernel) (by decide +kernel)
set_option maxRecDepth 100000 in
theorem kc_X8_pace : Cond.code yX8_pace cX8_pace 3 (some .int) ∈ gk_tb := gk_tb_in 1341 (by decide +kernel) (by decide +kernel)
set_option maxRecDepth 100000 in
theorem ki_X8_pace : Cond.instanceMethod yX8_pace ∈ gk_tb := gk_tb_in 1339 (by decide +kernel) (by decide +kernel)
set_option maxRecDepth 100000 in
theorem ks_X8_pace : Cond.selects yX8_pace.cls yX8_pace yX8_pace ∈ gk_tb := gk_tb_in 1340 (by decide +kernel) (by decide +kernel)
set_option maxRecDepth 100000 in
theorem kn_X8_pace : Cond.initialized yX8_pace.cls ∈ gk_tb := gk_tb_in 94 (by decide +kernel) (by decide +kernel)
set_option maxRecDepth 100000 in
theorem kc_X8_paceOf : Cond.code yX8_paceOf cX8_paceOf 7 (some .int) ∈ gk_tb := gk_tb_in 1345 (by decide +kernel) (by decide +kernel)
set_option maxRecDepth 100000 in
theorem ki_X8_paceOf : Cond.instanceMethod yX8_paceOf ∈ gk_tb := gk_tb_in 1344 (by decide +kernel) (by decide +kernel)
set_option maxRecDepth 100000 in
theorem ks_X8_paceOf : Cond.selects yX8_paceOf.cls yX8_paceOf yX8_paceOf ∈ gk_tb := gk_tb_in 66 (by decide +kernel) (by decide +kernel)
set_option maxRecDepth 100000 in
theorem kn_X8_paceOf : Cond.initialized yX8_paceOf.cls ∈ gk_tb := gk_tb_in 94 (by decide +kernel) (by decide +kernel)
set_option maxRecDepth 100000 in
theorem kc_X8_put : Cond.code yX8_put cX8_put 6 (some .int) ∈ gk_tb := gk_tb_in 1445 (by decide +kernel) (by decide +kernel)
set_option maxRecDepth 100000 in
theorem ki_X8_put : Cond.instanceMethod yX8_put ∈ gk_tb := gk_tb_in 1443 (by decide +kernel) (by decide +kernel)
set_option maxRecDepth 100000 in
theorem ks_X8_put : Cond.selects yX8_put.cls yX8_put yX8_put ∈ gk_tb := gk_tb_in 1444 (by decide +kernel) (by decide +kernel)
set_option maxRecDepth 100000 in
theorem kn_X8_put : Cond.initialized yX8_put.cls ∈ gk_tb := gk_tb_in 94 (by decide +kernel) (by decide +kernel)
set_option maxRecDepth 100000 in
theorem kc_X8_read : Cond.code yX8_read cX8_read 4 (some .int) ∈ gk_tb := gk_tb_in 1195 (by decide +kernel) (by decide +kernel)
set_option maxRecDepth 100000 in
theorem ki_X8_read : Cond.instanceMethod yX8_read ∈ gk_tb := gk_tb_in 1193 (by decide +kernel) (by decide +kernel)
set_option maxRecDepth 100000 in
theorem ks_X8_read : Cond.selects yX8_read.cls yX8_read yX8_read ∈ gk_tb := gk_tb_in 1194 (by decide +kernel) (by decide +kernel)
set_option maxRecDepth 100000 in
theorem kn_X8_read : Cond.initialized yX8_read.cls ∈ gk_tb := gk_tb_in 94 (by decide +kernel) (by decide +kernel)
set_option maxRecDepth 100000 in
theorem kc_X8_reads : Cond.code yX8_reads cX8_reads 2 none ∈ gk_tb := gk_tb_in 1160 (by decide +kernel) (by decide +kernel)
set_option maxRecDepth 100000 in
theorem ki_X8_reads : Cond.instanceMethod yX8_reads ∈ gk_tb := gk_tb_in 1159 (by decide +kernel) (by decide +kernel)
set_option maxRecDepth 100000 in
theorem ks_X8_reads : Cond.selects yX8_reads.cls yX8_reads yX8_reads ∈ gk_tb := gk_tb_in 39 (by decide +kernel) (by decide +kernel)
set_option maxRecDepth 100000 in
theorem kn_X8_reads : Cond.initialized yX8_reads.cls ∈ gk_tb := gk_tb_in 94 (by decide +kernel) (by decide +kernel)
set_option maxRecDepth 100000 in
theorem kc_X8_readsCar : Cond.code yX8_readsCar cX8_readsCar 7 (some .int) ∈ gk_tb := gk_tb_in 1129 (by decide +kernel) (by decide +kernel)
set_option maxRecDepth 100000 in
theorem ki_X8_readsCar : Cond.instanceMethod yX8_readsCar ∈ gk_tb := gk_tb_in 1128 (by decide +kernel) (by decide +kernel)
set_option maxRecDepth 100000 in
theorem ks_X8_readsCar : Cond.selects yX8_readsCar.cls yX8_readsCar yX8_readsCar ∈ gk_tb := gk_tb_in 33 (by decide +kernel) (by decide +kernel)
set_option maxRecDepth 100000 in
theorem kn_X8_readsCar : Cond.initialized yX8_readsCar.cls ∈ gk_tb := gk_tb_in 94 (by decide +kernel) (by decide +kernel)
set_option maxRecDepth 100000 in
theorem kc_X8_readsComing : Cond.code yX8_readsComing cX8_readsComing 6 (some .int) ∈ gk_tb := gk_tb_in 1141 (by decide +kernel) (by decide +kernel)
set_option maxRecDepth 100000 in
theorem ki_X8_readsComing : Cond.instanceMethod yX8_readsComing ∈ gk_tb := gk_tb_in 1140 (by decide +kernel) (by decide +kernel)
set_option maxRecDepth 100000 in
theorem ks_X8_readsComing : Cond.selects yX8_readsComing.cls yX8_readsComing yX8_readsComing ∈ gk_tb := gk_tb_in 36 (by decide +kernel) (by decide +kernel)
set_option maxRecDepth 100000 in
theorem kn_X8_readsComing : Cond.initialized yX8_readsComing.cls ∈ gk_tb := gk_tb_in 94 (by decide +kernel) (by decide +kernel)
set_option maxRecDepth 100000 in
theorem kc_X8_readsParts : Cond.code yX8_readsParts cX8_readsParts 5 (some .int) ∈ gk_tb := gk_tb_in 1125 (by decide +kernel) (by decide +kernel)
set_option maxRecDepth 100000 in
theorem ki_X8_readsParts : Cond.instanceMethod yX8_readsParts ∈ gk_tb := gk_tb_in 1124 (by decide +kernel) (by decide +kernel)
set_option maxRecDepth 100000 in
theorem ks_X8_readsParts : Cond.selects yX8_readsParts.cls yX8_readsParts yX8_readsParts ∈ gk_tb := gk_tb_in 32 (by decide +kernel) (by decide +kernel)
set_option maxRecDepth 100000 in
theorem kn_X8_readsParts : Cond.initialized yX8_readsParts.cls ∈ gk_tb := gk_tb_in 94 (by decide +kernel) (by decide +kernel)
set_option maxRecDepth 100000 in
theorem kc_X8_readsSpeed : Cond.code yX8_readsSpeed cX8_readsSpeed 2 (some .int) ∈ gk_tb := gk_tb_in 1148 (by decide +kernel) (by decide +kernel)
set_option maxRecDepth 100000 in
theorem ki_X8_readsSpeed : Cond.instanceMethod yX8_readsSpeed ∈ gk_tb := gk_tb_in 1147 (by decide +kernel) (by decide +kernel)
set_option maxRecDepth 100000 in
theorem ks_X8_readsSpeed : Cond.selects yX8_readsSpeed.cls yX8_readsSpeed yX8_readsSpeed ∈ gk_tb := gk_tb_in 37 (by decide +kernel) (by decide +kernel)
set_option maxRecDepth 100000 in
theorem kn_X8_readsSpeed : Cond.initialized yX8_readsSpeed.cls ∈ gk_tb := gk_tb_in 94 (by decide +kernel) (by decide +kernel)
set_option maxRecDepth 100000 in
theorem kc_X8_roomOf : Cond.code yX8_roomOf cX8_roomOf 1 (some .int) ∈ gk_tb := gk_tb_in 1105 (by decide +kernel) (by decide +kernel)
set_option maxRecDepth 100000 in
theorem kt_X8_roomOf : Cond.static yX8_roomOf ∈ gk_tb := gk_tb_in 1104 (by decide +kernel) (by decide +kernel)
set_option maxRecDepth 100000 in
theorem kn_X8_roomOf : Cond.initialized yX8_roomOf.cls ∈ gk_tb := gk_tb_in 94 (by decide +kernel) (by decide +kernel)
set_option maxRecDepth 100000 in
theorem kc_X8_roomsBy : Cond.code yX8_roomsBy cX8_roomsBy 6 (some .int) ∈ gk_tb := gk_tb_in 1397 (by decide +kernel) (by decide +kernel)
set_option maxRecDepth 100000 in
theorem ki_X8_roomsBy : Cond.instanceMethod yX8_roomsBy ∈ gk_tb := gk_tb_in 1396 (by decide +kernel) (by decide +kernel)
set_option maxRecDepth 100000 in
theorem ks_X8_roomsBy : Cond.selects yX8_roomsBy.cls yX8_roomsBy yX8_roomsBy ∈ gk_tb := gk_tb_in 73 (by decide +kernel) (by decide +kernel)
set_option maxRecDepth 100000 in
theorem kn_X8_roomsBy : Cond.initialized yX8_roomsBy.cls ∈ gk_tb := gk_tb_in 94 (by decide +kernel) (by decide +kernel)
set_option maxRecDepth 100000 in
theorem kc_X8_runs : Cond.code yX8_runs cX8_runs 2 none ∈ gk_tb := gk_tb_in 1226 (by decide +kernel) (by decide +kernel)
set_option maxRecDepth 100000 in
theorem ki_X8_runs : Cond.instanceMethod yX8_runs ∈ gk_tb := gk_tb_in 1225 (by decide +kernel) (by decide +kernel)
set_option maxRecDepth 100000 in
theorem ks_X8_runs : Cond.selects yX8_runs.cls yX8_runs yX8_runs ∈ gk_tb := gk_tb_in 47 (by decide +kernel) (by decide +kernel)
set_option maxRecDepth 100000 in
theorem kn_X8_runs : Cond.initialized yX8_runs.cls ∈ gk_tb := gk_tb_in 94 (by decide +kernel) (by decide +kernel)
set_option maxRecDepth 100000 in
theorem kc_X8_runsTold : Cond.code yX8_runsTold cX8_runsTold 1 none ∈ gk_tb := gk_tb_in 1218 (by decide +kernel) (by decide +kernel)
set_option maxRecDepth 100000 in
theorem ki_X8_runsTold : Cond.instanceMethod yX8_runsTold ∈ gk_tb := gk_tb_in 1217 (by decide +kernel) (by decide +kernel)
set_option maxRecDepth 100000 in
theorem ks_X8_runsTold : Cond.selects yX8_runsTold.cls yX8_runsTold yX8_runsTold ∈ gk_tb := gk_tb_in 45 (by decide +kernel) (by decide +kernel)
set_option maxRecDepth 100000 in
theorem kn_X8_runsTold : Cond.initialized yX8_runsTold.cls ∈ gk_tb := gk_tb_in 94 (by decide +kernel) (by decide +kernel)
set_option maxRecDepth 100000 in
theorem kc_X8_seen : Cond.code yX8_seen cX8_seen 4 (some .int) ∈ gk_tb := gk_tb_in 1373 (by decide +kernel) (by decide +kernel)
set_option maxRecDepth 100000 in
theorem ki_X8_seen : Cond.instanceMethod yX8_seen ∈ gk_tb := gk_tb_in 1371 (by decide +kernel) (by decide +kernel)
set_option maxRecDepth 100000 in
theorem ks_X8_seen : Cond.selects yX8_seen.cls yX8_seen yX8_seen ∈ gk_tb := gk_tb_in 1372 (by decide +kernel) (by decide +kernel)
set_option maxRecDepth 100000 in
theorem kn_X8_seen : Cond.initialized yX8_seen.cls ∈ gk_tb := gk_tb_in 94 (by decide +kernel) (by decide +kernel)
set_option maxRecDepth 100000 in
theorem kc_X8_servesAll : Cond.code yX8_servesAll cX8_servesAll 5 none ∈ gk_tb := gk_tb_in 1245 (by decide +kernel) (by decide +kernel)
set_option maxRecDepth 100000 in
theorem ki_X8_servesAll : Cond.instanceMethod yX8_servesAll ∈ gk_tb := gk_tb_in 1244 (by decide +kernel) (by decide +kernel)
set_option maxRecDepth 100000 in
theorem ks_X8_servesAll : Cond.selects yX8_servesAll.cls yX8_servesAll yX8_servesAll ∈ gk_tb := gk_tb_in 51 (by decide +kernel) (by decide +kernel)
set_option maxRecDepth 100000 in
theorem kn_X8_servesAll : Cond.initialized yX8_servesAll.cls ∈ gk_tb := gk_tb_in 94 (by decide +kernel) (by decide +kernel)
set_option maxRecDepth 100000 in
theorem kc_X8_sheet : Cond.code yX8_sheet cX8_sheet 5 (some .int) ∈ gk_tb := gk_tb_in 1437 (by decide +kernel) (by decide +kernel)
set_option maxRecDepth 100000 in
theorem ki_X8_sheet : Cond.instanceMethod yX8_sheet ∈ gk_tb := gk_tb_in 1435 (by decide +kernel) (by decide +kernel)
set_option maxRecDepth 100000 in
theorem ks_X8_sheet : Cond.selects yX8_sheet.cls yX8_sheet yX8_sheet ∈ gk_tb := gk_tb_in 1436 (by decide +kernel) (by decide +kernel)
set_option maxRecDepth 100000 in
theorem kn_X8_sheet : Cond.initialized yX8_sheet.cls ∈ gk_tb := gk_tb_in 94 (by decide +kernel) (by decide +kernel)
set_option maxRecDepth 100000 in
theorem kc_X8_sortsBy : Cond.code yX8_sortsBy cX8_sortsBy 5 (some .int) ∈ gk_tb := gk_tb_in 1401 (by decide +kernel) (by decide +kernel)
set_option maxRecDepth 100000 in
theorem ki_X8_sortsBy : Cond.instanceMethod yX8_sortsBy ∈ gk_tb := gk_tb_in 1400 (by decide +kernel) (by decide +kernel)
set_option maxRecDepth 100000 in
theorem ks_X8_sortsBy : Cond.selects yX8_sortsBy.cls yX8_sortsBy yX8_sortsBy ∈ gk_tb := gk_tb_in 74 (by decide +kernel) (by decide +kernel)
set_option maxRecDepth 100000 in
theorem kn_X8_sortsBy : Cond.initialized yX8_sortsBy.cls ∈ gk_tb := gk_tb_in 94 (by decide +kernel) (by decide +kernel)
set_option maxRecDepth 100000 in
theorem kc_X8_spare : Cond.code yX8_spare cX8_spare 2 (some .int) ∈ gk_tb := gk_tb_in 1357 (by decide +kernel) (by decide +kernel)
set_option maxRecDepth 100000 in
theorem ki_X8_spare : Cond.instanceMethod yX8_spare ∈ gk_tb := gk_tb_in 1355 (by decide +kernel) (by decide +kernel)
set_option maxRecDepth 100000 in
theorem ks_X8_spare : Cond.selects yX8_spare.cls yX8_spare yX8_spare ∈ gk_tb := gk_tb_in 1356 (by decide +kernel) (by decide +kernel)
set_option maxRecDepth 100000 in
theorem kn_X8_spare : Cond.initialized yX8_spare.cls ∈ gk_tb := gk_tb_in 94 (by decide +kernel) (by decide +kernel)
set_option maxRecDepth 100000 in
theorem kc_X8_spareBy : Cond.code yX8_spareBy cX8_spareBy 3 (some .int) ∈ gk_tb := gk_tb_in 1361 (by decide +kernel) (by decide +kernel)
set_option maxRecDepth 100000 in
theorem ki_X8_spareBy : Cond.instanceMethod yX8_spareBy ∈ gk_tb := gk_tb_in 1360 (by decide +kernel) (by decide +kernel)
set_option maxRecDepth 100000 in
theorem ks_X8_spareBy : Cond.selects yX8_spareBy.cls yX8_spareBy yX8_spareBy ∈ gk_tb := gk_tb_in 68 (by decide +kernel) (by decide +kernel)
set_option maxRecDepth 100000 in
theorem kn_X8_spareBy : Cond.initialized yX8_spareBy.cls ∈ gk_tb := gk_tb_in 94 (by decide +kernel) (by decide +kernel)
set_option maxRecDepth 100000 in
theorem kc_X8_speed : Cond.code yX8_speed cX8_speed 2 (some .int) ∈ gk_tb := gk_tb_in 1179 (by decide +kernel) (by decide +kernel)
set_option maxRecDepth 100000 in
theorem ki_X8_speed : Cond.instanceMethod yX8_speed ∈ gk_tb := gk_tb_in 1177 (by decide +kernel) (by decide +kernel)
set_option maxRecDepth 100000 in
theorem ks_X8_speed : Cond.selects yX8_speed.cls yX8_speed yX8_speed ∈ gk_tb := gk_tb_in 1178 (by decide +kernel) (by decide +kernel)
set_option maxRecDepth 100000 in
theorem kn_X8_speed : Cond.initialized yX8_speed.cls ∈ gk_tb := gk_tb_in 94 (by decide +kernel) (by decide +kernel)
set_option maxRecDepth 100000 in
theorem kc_X8_speedOf : Cond.code yX8_speedOf cX8_speedOf 2 (some .int) ∈ gk_tb := gk_tb_in 1183 (by decide +kernel) (by decide +kernel)
set_option maxRecDepth 100000 in
theorem ki_X8_speedOf : Cond.instanceMethod yX8_speedOf ∈ gk_tb := gk_tb_in 1182 (by decide +kernel) (by decide +kernel)
set_option maxRecDepth 100000 in
theorem ks_X8_speedOf : Cond.selects yX8_speedOf.cls yX8_speedOf yX8_speedOf ∈ gk_tb := gk_tb_in 42 (by decide +kernel) (by decide +kernel)
set_option maxRecDepth 100000 in
theorem kn_X8_speedOf : Cond.initialized yX8_speedOf.cls ∈ gk_tb := gk_tb_in 94 (by decide +kernel) (by decide +kernel)
set_option maxRecDepth 100000 in
theorem kc_X8_sum : Cond.code yX8_sum cX8_sum 1 (some .int) ∈ gk_tb := gk_tb_in 1273 (by decide +kernel) (by decide +kernel)
set_option maxRecDepth 100000 in
theorem ki_X8_sum : Cond.instanceMethod yX8_sum ∈ gk_tb := gk_tb_in 1271 (by decide +kernel) (by decide +kernel)
set_option maxRecDepth 100000 in
theorem ks_X8_sum : Cond.selects yX8_sum.cls yX8_sum yX8_sum ∈ gk_tb := gk_tb_in 1272 (by decide +kernel) (by decide +kernel)
set_option maxRecDepth 100000 in
theorem kn_X8_sum : Cond.initialized yX8_sum.cls ∈ gk_tb := gk_tb_in 94 (by decide +kernel) (by decide +kernel)
set_option maxRecDepth 100000 in
theorem kc_X8_sumOf : Cond.code yX8_sumOf cX8_sumOf 1 (some .int) ∈ gk_tb := gk_tb_in 1277 (by decide +kernel) (by decide +kernel)
set_option maxRecDepth 100000 in
theorem ki_X8_sumOf : Cond.instanceMethod yX8_sumOf ∈ gk_tb := gk_tb_in 1276 (by decide +kernel) (by decide +kernel)
set_option maxRecDepth 100000 in
theorem ks_X8_sumOf : Cond.selects yX8_sumOf.cls yX8_sumOf yX8_sumOf ∈ gk_tb := gk_tb_in 56 (by decide +kernel) (by decide +kernel)
set_option maxRecDepth 100000 in
theorem kn_X8_sumOf : Cond.initialized yX8_sumOf.cls ∈ gk_tb := gk_tb_in 94 (by decide +kernel) (by decide +kernel)
set_option maxRecDepth 100000 in
theorem kc_X8_tellOf : Cond.code yX8_tellOf cX8_tellOf 2 (some .int) ∈ gk_tb := gk_tb_in 1474 (by decide +kernel) (by decide +kernel)
set_option maxRecDepth 100000 in
theorem ki_X8_tellOf : Cond.instanceMethod yX8_tellOf ∈ gk_tb := gk_tb_in 1473 (by decide +kernel) (by decide +kernel)
set_option maxRecDepth 100000 in
theorem ks_X8_tellOf : Cond.selects yX8_tellOf.cls yX8_tellOf yX8_tellOf ∈ gk_tb := gk_tb_in 80 (by decide +kernel) (by decide +kernel)
set_option maxRecDepth 100000 in
theorem kn_X8_tellOf : Cond.initialized yX8_tellOf.cls ∈ gk_tb := gk_tb_in 94 (by decide +kernel) (by decide +kernel)
set_option maxRecDepth 100000 in
theorem kc_X8_type : Cond.code yX8_type cX8_type 3 (some .int) ∈ gk_tb := gk_tb_in 1096 (by decide +kernel) (by decide +kernel)
set_option maxRecDepth 100000 in
theorem ki_X8_type : Cond.instanceMethod yX8_type ∈ gk_tb := gk_tb_in 1094 (by decide +kernel) (by decide +kernel)
set_option maxRecDepth 100000 in
theorem ks_X8_type : Cond.selects yX8_type.cls yX8_type yX8_type ∈ gk_tb := gk_tb_in 1095 (by decide +kernel) (by decide +kernel)
set_option maxRecDepth 100000 in
theorem kn_X8_type : Cond.initialized yX8_type.cls ∈ gk_tb := gk_tb_in 94 (by decide +kernel) (by decide +kernel)
set_option maxRecDepth 100000 in
theorem kc_X8_undo : Cond.code yX8_undo cX8_undo 2 (some .int) ∈ gk_tb := gk_tb_in 1113 (by decide +kernel) (by decide +kernel)
set_option maxRecDepth 100000 in
theorem ki_X8_undo : Cond.instanceMethod yX8_undo ∈ gk_tb := gk_tb_in 1111 (by decide +kernel) (by decide +kernel)
set_option maxRecDepth 100000 in
theorem ks_X8_undo : Cond.selects yX8_undo.cls yX8_undo yX8_undo ∈ gk_tb := gk_tb_in 1112 (by decide +kernel) (by decide +kernel)
set_option maxRecDepth 100000 in
theorem kn_X8_undo : Cond.initialized yX8_undo.cls ∈ gk_tb := gk_tb_in 94 (by decide +kernel) (by decide +kernel)
set_option maxRecDepth 100000 in
theorem kc_X8_waits : Cond.code yX8_waits cX8_waits 3 (some .int) ∈ gk_tb := gk_tb_in 1257 (by decide +kernel) (by decide +kernel)
set_option maxRecDepth 100000 in
theorem ki_X8_waits : Cond.instanceMethod yX8_waits ∈ gk_tb := gk_tb_in 1255 (by decide +kernel) (by decide +kernel)
set_option maxRecDepth 100000 in
theorem ks_X8_waits : Cond.selects yX8_waits.cls yX8_waits yX8_waits ∈ gk_tb := gk_tb_in 1256 (by decide +kernel) (by decide +kernel)
set_option maxRecDepth 100000 in
theorem kn_X8_waits : Cond.initialized yX8_waits.cls ∈ gk_tb := gk_tb_in 94 (by decide +kernel) (by decide +kernel)
set_option maxRecDepth 100000 in
theorem kc_X8_waitsOf : Cond.code yX8_waitsOf cX8_waitsOf 3 (some .int) ∈ gk_tb := gk_tb_in 1261 (by decide +kernel) (by decide +kernel)
set_option maxRecDepth 100000 in
theorem ki_X8_waitsOf : Cond.instanceMethod yX8_waitsOf ∈ gk_tb := gk_tb_in 1260 (by decide +kernel) (by decide +kernel)
set_option maxRecDepth 100000 in
theorem ks_X8_waitsOf : Cond.selects yX8_waitsOf.cls yX8_waitsOf yX8_waitsOf ∈ gk_tb := gk_tb_in 54 (by decide +kernel) (by decide +kernel)
set_option maxRecDepth 100000 in
theorem kn_X8_waitsOf : Cond.initialized yX8_waitsOf.cls ∈ gk_tb := gk_tb_in 94 (by decide +kernel) (by decide +kernel)
set_option maxRecDepth 100000 in
theorem kc_X8_was : Cond.code yX8_was cX8_was 3 (some .int) ∈ gk_tb := gk_tb_in 1393 (by decide +kernel) (by decide +kernel)
set_option maxRecDepth 100000 in
theorem ki_X8_was : Cond.instanceMethod yX8_was ∈ gk_tb := gk_tb_in 1391 (by decide +kernel) (by decide +kernel)
set_option maxRecDepth 100000 in
theorem ks_X8_was : Cond.selects yX8_was.cls yX8_was yX8_was ∈ gk_tb := gk_tb_in 1392 (by decide +kernel) (by decide +kernel)
set_option maxRecDepth 100000 in
theorem kn_X8_was : Cond.initialized yX8_was.cls ∈ gk_tb := gk_tb_in 94 (by decide +kernel) (by decide +kernel)
set_option maxRecDepth 100000 in
theorem kc_X8_wipe : Cond.code yX8_wipe cX8_wipe 3 (some .int) ∈ gk_tb := gk_tb_in 1109 (by decide +kernel) (by decide +kernel)
set_option maxRecDepth 100000 in
theorem ki_X8_wipe : Cond.instanceMethod yX8_wipe ∈ gk_tb := gk_tb_in 1107 (by decide +kernel) (by decide +kernel)
set_option maxRecDepth 100000 in
theorem ks_X8_wipe : Cond.selects yX8_wipe.cls yX8_wipe yX8_wipe ∈ gk_tb := gk_tb_in 1108 (by decide +kernel) (by decide +kernel)
set_option maxRecDepth 100000 in
theorem kn_X8_wipe : Cond.initialized yX8_wipe.cls ∈ gk_tb := gk_tb_in 94 (by decide +kernel) (by decide +kernel)
set_option maxRecDepth 100000 in
theorem kc_X8_write : Cond.code yX8_write cX8_write 4 (some .int) ∈ gk_tb := gk_tb_in 1466 (by decide +kernel) (by decide +kernel)
set_option maxRecDepth 100000 in
theorem ki_X8_write : Cond.instanceMethod yX8_write ∈ gk_tb := gk_tb_in 1464 (by decide +kernel) (by decide +kernel)
set_option maxRecDepth 100000 in
theorem ks_X8_write : Cond.selects yX8_write.cls yX8_write yX8_write ∈ gk_tb := gk_tb_in 1465 (by decide +kernel) (by decide +kernel)
set_option maxRecDepth 100000 in
theorem kn_X8_write : Cond.initialized yX8_write.cls ∈ gk_tb := gk_tb_in 94 (by decide +kernel) (by decide +kernel)
set_option maxRecDepth 100000 in
theorem kc_X8_years : Cond.code yX8_years cX8_years 4 (some .int) ∈ gk_tb := gk_tb_in 1428 (by decide +kernel) (by decide +kernel)
set_option maxRecDepth 100000 in
theorem ki_X8_years : Cond.instanceMethod yX8_years ∈ gk_tb := gk_tb_in 1426 (by decide +kernel) (by decide +kernel)
set_option maxRecDepth 100000 in
theorem ks_X8_years : Cond.selects yX8_years.cls yX8_years yX8_years ∈ gk_tb := gk_tb_in 1427 (by decide +kernel) (by decide +kernel)
set_option maxRecDepth 100000 in
theorem kn_X8_years : Cond.initialized yX8_years.cls ∈ gk_tb := gk_tb_in 94 (by decide +kernel) (by decide +kernel)
set_option maxRecDepth 100000 in
theorem kc_X8_yearsOf : Cond.code yX8_yearsOf cX8_yearsOf 6 (some .int) ∈ gk_tb := gk_tb_in 1432 (by decide +kernel) (by decide +kernel)
set_option maxRecDepth 100000 in
theorem ki_X8_yearsOf : Cond.instanceMethod yX8_yearsOf ∈ gk_tb := gk_tb_in 1431 (by decide +kernel) (by decide +kernel)
set_option maxRecDepth 100000 in
theorem ks_X8_yearsOf : Cond.selects yX8_yearsOf.cls yX8_yearsOf yX8_yearsOf ∈ gk_tb := gk_tb_in 77 (by decide +kernel) (by decide +kernel)
set_option maxRecDepth 100000 in
theorem kn_X8_yearsOf : Cond.initialized yX8_yearsOf.cls ∈ gk_tb := gk_tb_in 94 (by decide +kernel) (by decide +kernel)
set_option maxRecDepth 100000 in
theorem kc_J11_highSurrogate_5068e : Cond.code yJ11_highSurrogate_5068e cJ11_highSurrogate_5068e 1 (some .char) ∈ gk_tb := gk_tb_in 521 (by decide +kernel) (by decide +kernel)
set_option maxRecDepth 100000 in
theorem kt_J11_highSurrogate_5068e : Cond.static yJ11_highSurrogate_5068e ∈ gk_tb := gk_tb_in 520 (by decide +kernel) (by decide +kernel)
set_option maxRecDepth 100000 in
theorem kn_J11_highSurrogate_5068e : Cond.initialized yJ11_highSurrogate_5068e.cls ∈ gk_tb := gk_tb_in 99 (by decide +kernel) (by decide +kernel)
set_option maxRecDepth 100000 in
theorem kc_J11_isValidCodePoint_9a6ad : Cond.code yJ11_isValidCodePoint_9a6ad cJ11_isValidCodePoint_9a6ad 2 (some .boolean) ∈ gk_tb := gk_tb_in 518 (by decide +kernel) (by decide +kernel)
set_option maxRecDepth 100000 in
theorem kt_J11_isValidCodePoint_9a6ad : Cond.static yJ11_isValidCodePoint_9a6ad ∈ gk_tb := gk_tb_in 517 (by decide +kernel) (by decide +kernel)
set_option maxRecDepth 100000 in
theorem kn_J11_isValidCodePoint_9a6ad : Cond.initialized yJ11_isValidCodePoint_9a6ad.cls ∈ gk_tb := gk_tb_in 99 (by decide +kernel) (by decide +kernel)
set_option maxRecDepth 100000 in
theorem kc_J11_lowSurrogate_5068e : Cond.code yJ11_lowSurrogate_5068e cJ11_lowSurrogate_5068e 1 (some .char) ∈ gk_tb := gk_tb_in 525 (by decide +kernel) (by decide +kernel)
set_option maxRecDepth 100000 in
theorem kt_J11_lowSurrogate_5068e : Cond.static yJ11_lowSurrogate_5068e ∈ gk_tb := gk_tb_in 524 (by decide +kernel) (by decide +kernel)
set_option maxRecDepth 100000 in
theorem kn_J11_lowSurrogate_5068e : Cond.initialized yJ11_lowSurrogate_5068e.cls ∈ gk_tb := gk_tb_in 99 (by decide +kernel) (by decide +kernel)
set_option maxRecDepth 100000 in
theorem kc_J6_bitCount_0f7a4 : Cond.code yJ6_bitCount_0f7a4 cJ6_bitCount_0f7a4 1 (some .int) ∈ gk_tb := gk_tb_in 764 (by decide +kernel) (by decide +kernel)
set_option maxRecDepth 100000 in
theorem kt_J6_bitCount_0f7a4 : Cond.static yJ6_bitCount_0f7a4 ∈ gk_tb := gk_tb_in 763 (by decide +kernel) (by decide +kernel)
set_option maxRecDepth 100000 in
theorem kn_J6_bitCount_0f7a4 : Cond.initialized yJ6_bitCount_0f7a4.cls ∈ gk_tb := gk_tb_in 101 (by decide +kernel) (by decide +kernel)
set_option maxRecDepth 100000 in
theorem kc_J9_max_7cf53 : Cond.code yJ9_max_7cf53 cJ9_max_7cf53 2 (some .int) ∈ gk_tb := gk_tb_in 473 (by decide +kernel) (by decide +kernel)
set_option maxRecDepth 100000 in
theorem kt_J9_max_7cf53 : Cond.static yJ9_max_7cf53 ∈ gk_tb := gk_tb_in 472 (by decide +kernel) (by decide +kernel)
set_option maxRecDepth 100000 in
theorem kn_J9_max_7cf53 : Cond.initialized yJ9_max_7cf53.cls ∈ gk_tb := gk_tb_in 87 (by decide +kernel) (by decide +kernel)
set_option maxRecDepth 100000 in
theorem kc_J9_min_7cf53 : Cond.code yJ9_min_7cf53 cJ9_min_7cf53 2 (some .int) ∈ gk_tb := gk_tb_in 119 (by decide +kernel) (by decide +kernel)
set_option maxRecDepth 100000 in
theorem kt_J9_min_7cf53 : Cond.static yJ9_min_7cf53 ∈ gk_tb := gk_tb_in 118 (by decide +kernel) (by decide +kernel)
set_option maxRecDepth 100000 in
theorem kn_J9_min_7cf53 : Cond.initialized yJ9_min_7cf53.cls ∈ gk_tb := gk_tb_in 87 (by decide +kernel) (by decide +kernel)
set_option maxRecDepth 100000 in
theorem kc_J0_checkBoundsBeginEnd_23922 : Cond.code yJ0_checkBoundsBeginEnd_23922 cJ0_checkBoundsBeginEnd_23922 3 none ∈ gk_tb := gk_tb_in 495 (by decide +kernel) (by decide +kernel)
set_option maxRecDepth 100000 in
theorem kt_J0_checkBoundsBeginEnd_23922 : Cond.static yJ0_checkBoundsBeginEnd_23922 ∈ gk_tb := gk_tb_in 494 (by decide +kernel) (by decide +kernel)
set_option maxRecDepth 100000 in
theorem kn_J0_checkBoundsBeginEnd_23922 : Cond.initialized yJ0_checkBoundsBeginEnd_23922.cls ∈ gk_tb := gk_tb_in 95 (by decide +kernel) (by decide +kernel)
set_option maxRecDepth 100000 in
theorem kc_J0_coder_7d493 : Cond.code yJ0_coder_7d493 cJ0_coder_7d493 1 (some .byte) ∈ gk_tb := gk_tb_in 464 (by decide +kernel) (by decide +kernel)
set_option maxRecDepth 100000 in
theorem ki_J0_coder_7d493 : Cond.instanceMethod yJ0_coder_7d493 ∈ gk_tb := gk_tb_in 462 (by decide +kernel) (by decide +kernel)
set_option maxRecDepth 100000 in
theorem ks_J0_coder_7d493 : Cond.selects yJ0_coder_7d493.cls yJ0_coder_7d493 yJ0_coder_7d493 ∈ gk_tb := gk_tb_in 463 (by decide +kernel) (by decide +kernel)
set_option maxRecDepth 100000 in
theorem kn_J0_coder_7d493 : Cond.initialized yJ0_coder_7d493.cls ∈ gk_tb := gk_tb_in 95 (by decide +kernel) (by decide +kernel)
set_option maxRecDepth 100000 in
theorem kc_J0_indexOf_0f7a4 : Cond.code yJ0_indexOf_0f7a4 cJ0_indexOf_0f7a4 2 (some .int) ∈ gk_tb := gk_tb_in 446 (by decide +kernel) (by decide +kernel)
set_option maxRecDepth 100000 in
theorem ki_J0_indexOf_0f7a4 : Cond.instanceMethod yJ0_indexOf_0f7a4 ∈ gk_tb := gk_tb_in 444 (by decide +kernel) (by decide +kernel)
set_option maxRecDepth 100000 in
theorem ks_J0_indexOf_0f7a4 : Cond.selects yJ0_indexOf_0f7a4.cls yJ0_indexOf_0f7a4 yJ0_indexOf_0f7a4 ∈ gk_tb := gk_tb_in 445 (by decide +kernel) (by decide +kernel)
set_option maxRecDepth 100000 in
theorem kn_J0_indexOf_0f7a4 : Cond.initialized yJ0_indexOf_0f7a4.cls ∈ gk_tb := gk_tb_in 95 (by decide +kernel) (by decide +kernel)
set_option maxRecDepth 100000 in
theorem kc_J0_indexOf_7cf53 : Cond.code yJ0_indexOf_7cf53 cJ0_indexOf_7cf53 3 (some .int) ∈ gk_tb := gk_tb_in 450 (by decide +kernel) (by decide +kernel)
set_option maxRecDepth 100000 in
theorem ki_J0_indexOf_7cf53 : Cond.instanceMethod yJ0_indexOf_7cf53 ∈ gk_tb := gk_tb_in 448 (by decide +kernel) (by decide +kernel)
set_option maxRecDepth 100000 in
theorem ks_J0_indexOf_7cf53 : Cond.selects yJ0_indexOf_7cf53.cls yJ0_indexOf_7cf53 yJ0_indexOf_7cf53 ∈ gk_tb := gk_tb_in 449 (by decide +kernel) (by decide +kernel)
set_option maxRecDepth 100000 in
theorem kn_J0_indexOf_7cf53 : Cond.initialized yJ0_indexOf_7cf53.cls ∈ gk_tb := gk_tb_in 95 (by decide +kernel) (by decide +kernel)
set_option maxRecDepth 100000 in
theorem kc_J0_isLatin1_aae02 : Cond.code yJ0_isLatin1_aae02 cJ0_isLatin1_aae02 1 (some .boolean) ∈ gk_tb := gk_tb_in 454 (by decide +kernel) (by decide +kernel)
set_option maxRecDepth 100000 in
theorem ki_J0_isLatin1_aae02 : Cond.instanceMethod yJ0_isLatin1_aae02 ∈ gk_tb := gk_tb_in 452 (by decide +kernel) (by decide +kernel)
set_option maxRecDepth 100000 in
theorem ks_J0_isLatin1_aae02 : Cond.selects yJ0_isLatin1_aae02.cls yJ0_isLatin1_aae02 yJ0_isLatin1_aae02 ∈ gk_tb := gk_tb_in 453 (by decide +kernel) (by decide +kernel)
set_option maxRecDepth 100000 in
theorem kn_J0_isLatin1_aae02 : Cond.initialized yJ0_isLatin1_aae02.cls ∈ gk_tb := gk_tb_in 95 (by decide +kernel) (by decide +kernel)
set_option maxRecDepth 100000 in
theorem kc_J0_length_8abf5 : Cond.code yJ0_length_8abf5 cJ0_length_8abf5 1 (some .int) ∈ gk_tb := gk_tb_in 460 (by decide +kernel) (by decide +kernel)
set_option maxRecDepth 100000 in
theorem ki_J0_length_8abf5 : Cond.instanceMethod yJ0_length_8abf5 ∈ gk_tb := gk_tb_in 458 (by decide +kernel) (by decide +kernel)
set_option maxRecDepth 100000 in
theorem ks_J0_length_8abf5 : Cond.selects yJ0_length_8abf5.cls yJ0_length_8abf5 yJ0_length_8abf5 ∈ gk_tb := gk_tb_in 459 (by decide +kernel) (by decide +kernel)
set_option maxRecDepth 100000 in
theorem kn_J0_length_8abf5 : Cond.initialized yJ0_length_8abf5.cls ∈ gk_tb := gk_tb_in 95 (by decide +kernel) (by decide +kernel)
set_option maxRecDepth 100000 in
theorem kc_J1_canEncode_9a6ad : Cond.code yJ1_canEncode_9a6ad cJ1_canEncode_9a6ad 1 (some .boolean) ∈ gk_tb := gk_tb_in 470 (by decide +kernel) (by decide +kernel)
set_option maxRecDepth 100000 in
theorem kt_J1_canEncode_9a6ad : Cond.static yJ1_canEncode_9a6ad ∈ gk_tb := gk_tb_in 469 (by decide +kernel) (by decide +kernel)
set_option maxRecDepth 100000 in
theorem kn_J1_canEncode_9a6ad : Cond.initialized yJ1_canEncode_9a6ad.cls ∈ gk_tb := gk_tb_in 96 (by decide +kernel) (by decide +kernel)
set_option maxRecDepth 100000 in
theorem kc_J1_indexOf_4cfef : Cond.code yJ1_indexOf_4cfef cJ1_indexOf_4cfef 4 (some .int) ∈ gk_tb := gk_tb_in 467 (by decide +kernel) (by decide +kernel)
set_option maxRecDepth 100000 in
theorem kt_J1_indexOf_4cfef : Cond.static yJ1_indexOf_4cfef ∈ gk_tb := gk_tb_in 466 (by decide +kernel) (by decide +kernel)
set_option maxRecDepth 100000 in
theorem kn_J1_indexOf_4cfef : Cond.initialized yJ1_indexOf_4cfef.cls ∈ gk_tb := gk_tb_in 96 (by decide +kernel) (by decide +kernel)
set_option maxRecDepth 100000 in
theorem kc_J1_indexOfChar_4cfef : Cond.code yJ1_indexOfChar_4cfef cJ1_indexOfChar_4cfef 6 (some .int) ∈ gk_tb := gk_tb_in 477 (by decide +kernel) (by decide +kernel)
set_option maxRecDepth 100000 in
theorem kt_J1_indexOfChar_4cfef : Cond.static yJ1_indexOfChar_4cfef ∈ gk_tb := gk_tb_in 476 (by decide +kernel) (by decide +kernel)
set_option maxRecDepth 100000 in
theorem kn_J1_indexOfChar_4cfef : Cond.initialized yJ1_indexOfChar_4cfef.cls ∈ gk_tb := gk_tb_in 96 (by decide +kernel) (by decide +kernel)
set_option maxRecDepth 100000 in
theorem kc_J2_checkBoundsBeginEnd_d044e : Cond.code yJ2_checkBoundsBeginEnd_d044e cJ2_checkBoundsBeginEnd_d044e 3 none ∈ gk_tb := gk_tb_in 489 (by decide +kernel) (by decide +kernel)
set_option maxRecDepth 100000 in
theorem kt_J2_checkBoundsBeginEnd_d044e : Cond.static yJ2_checkBoundsBeginEnd_d044e ∈ gk_tb := gk_tb_in 488 (by decide +kernel) (by decide +kernel)
set_option maxRecDepth 100000 in
theorem kn_J2_checkBoundsBeginEnd_d044e : Cond.initialized yJ2_checkBoundsBeginEnd_d044e.cls ∈ gk_tb := gk_tb_in 97 (by decide +kernel) (by decide +kernel)
set_option maxRecDepth 100000 in
theorem kc_J2_getChar_3b067 : Cond.code yJ2_getChar_3b067 cJ2_getChar_3b067 2 (some .char) ∈ gk_tb := gk_tb_in 506 (by decide +kernel) (by decide +kernel)
set_option maxRecDepth 100000 in
theorem kt_J2_getChar_3b067 : Cond.static yJ2_getChar_3b067 ∈ gk_tb := gk_tb_in 505 (by decide +kernel) (by decide +kernel)
set_option maxRecDepth 100000 in
theorem kn_J2_getChar_3b067 : Cond.initialized yJ2_getChar_3b067.cls ∈ gk_tb := gk_tb_in 97 (by decide +kernel) (by decide +kernel)
set_option maxRecDepth 100000 in
theorem kc_J2_indexOf_4cfef : Cond.code yJ2_indexOf_4cfef cJ2_indexOf_4cfef 4 (some .int) ∈ gk_tb := gk_tb_in 480 (by decide +kernel) (by decide +kernel)
set_option maxRecDepth 100000 in
theorem kt_J2_indexOf_4cfef : Cond.static yJ2_indexOf_4cfef ∈ gk_tb := gk_tb_in 479 (by decide +kernel) (by decide +kernel)
set_option maxRecDepth 100000 in
theorem kn_J2_indexOf_4cfef : Cond.initialized yJ2_indexOf_4cfef.cls ∈ gk_tb := gk_tb_in 97 (by decide +kernel) (by decide +kernel)
set_option maxRecDepth 100000 in
theorem kc_J2_indexOfChar_4cfef : Cond.code yJ2_indexOfChar_4cfef cJ2_indexOfChar_4cfef 4 (some .int) ∈ gk_tb := gk_tb_in 486 (by decide +kernel) (by decide +kernel)
set_option maxRecDepth 100000 in
theorem kt_J2_indexOfChar_4cfef : Cond.static yJ2_indexOfChar_4cfef ∈ gk_tb := gk_tb_in 485 (by decide +kernel) (by decide +kernel)
set_option maxRecDepth 100000 in
theorem kn_J2_indexOfChar_4cfef : Cond.initialized yJ2_indexOfChar_4cfef.cls ∈ gk_tb := gk_tb_in 97 (by decide +kernel) (by decide +kernel)
set_option maxRecDepth 100000 in
theorem kc_J2_indexOfCharUnsafe_4cfef : Cond.code yJ2_indexOfCharUnsafe_4cfef cJ2_indexOfCharUnsafe_4cfef 5 (some .int) ∈ gk_tb := gk_tb_in 503 (by decide +kernel) (by decide +kernel)
set_option maxRecDepth 100000 in
theorem kt_J2_indexOfCharUnsafe_4cfef : Cond.static yJ2_indexOfCharUnsafe_4cfef ∈ gk_tb := gk_tb_in 502 (by decide +kernel) (by decide +kernel)
set_option maxRecDepth 100000 in
theorem kn_J2_indexOfCharUnsafe_4cfef : Cond.initialized yJ2_indexOfCharUnsafe_4cfef.cls ∈ gk_tb := gk_tb_in 97 (by decide +kernel) (by decide +kernel)
set_option maxRecDepth 100000 in
theorem kc_J2_indexOfSupplementary_4cfef : Cond.code yJ2_indexOfSupplementary_4cfef cJ2_indexOfSupplementary_4cfef 7 (some .int) ∈ gk_tb := gk_tb_in 515 (by decide +kernel) (by decide +kernel)
set_option maxRecDepth 100000 in
theorem kt_J2_indexOfSupplementary_4cfef : Cond.static yJ2_indexOfSupplementary_4cfef ∈ gk_tb := gk_tb_in 514 (by decide +kernel) (by decide +kernel)
set_option maxRecDepth 100000 in
theorem kn_J2_indexOfSupplementary_4cfef : Cond.initialized yJ2_indexOfSupplementary_4cfef.cls ∈ gk_tb := gk_tb_in 97 (by decide +kernel) (by decide +kernel)
set_option maxRecDepth 100000 in
theorem kc_J2_length_9d52b : Cond.code yJ2_length_9d52b cJ2_length_9d52b 1 (some .int) ∈ gk_tb := gk_tb_in 492 (by decide +kernel) (by decide +kernel)
set_option maxRecDepth 100000 in
theorem kt_J2_length_9d52b : Cond.static yJ2_length_9d52b ∈ gk_tb := gk_tb_in 491 (by decide +kernel) (by decide +kernel)
set_option maxRecDepth 100000 in
theorem kn_J2_length_9d52b : Cond.initialized yJ2_length_9d52b.cls ∈ gk_tb := gk_tb_in 97 (by decide +kernel) (by decide +kernel)
set_option maxRecDepth 100000 in
theorem kc_J7_fill_53178 : Cond.code yJ7_fill_53178 cJ7_fill_53178 4 none ∈ gk_tb := gk_tb_in 629 (by decide +kernel) (by decide +kernel)
set_option maxRecDepth 100000 in
theorem kt_J7_fill_53178 : Cond.static yJ7_fill_53178 ∈ gk_tb := gk_tb_in 628 (by decide +kernel) (by decide +kernel)
set_option maxRecDepth 100000 in
theorem kn_J7_fill_53178 : Cond.initialized yJ7_fill_53178.cls ∈ gk_tb := gk_tb_in 100 (by decide +kernel) (by decide +kernel)
set_option maxRecDepth 100000 in
theorem kc_J3_checkFromToIndex_8c36e : Cond.code yJ3_checkFromToIndex_8c36e cJ3_checkFromToIndex_8c36e 4 (some .int) ∈ gk_tb := gk_tb_in 500 (by decide +kernel) (by decide +kernel)
set_option maxRecDepth 100000 in
theorem kt_J3_checkFromToIndex_8c36e : Cond.static yJ3_checkFromToIndex_8c36e ∈ gk_tb := gk_tb_in 499 (by decide +kernel) (by decide +kernel)
set_option maxRecDepth 100000 in
theorem kn_J3_checkFromToIndex_8c36e : Cond.initialized yJ3_checkFromToIndex_8c36e.cls ∈ gk_tb := gk_tb_in 98 (by decide +kernel) (by decide +kernel)
set_option maxRecDepth 100000 in
theorem ct_RX7_278 : Cond.constant RX7 278 (1103515245) ∈ gk_tb := gk_tb_in 847 (by decide +kernel) (by decide +kernel)
set_option maxRecDepth 100000 in
theorem ct_RX7_292 : Cond.constant RX7 292 (-2147483648) ∈ gk_tb := gk_tb_in 886 (by decide +kernel) (by decide +kernel)
set_option maxRecDepth 100000 in
theorem ct_RX8_341 : Cond.constant RX8 341 (1103515245) ∈ gk_tb := gk_tb_in 1433 (by decide +kernel) (by decide +kernel)
set_option maxRecDepth 100000 in
theorem ct_RX8_355 : Cond.constant RX8 355 (-2147483648) ∈ gk_tb := gk_tb_in 1458 (by decide +kernel) (by decide +kernel)
set_option maxRecDepth 100000 in
theorem ct_RJ11_76 : Cond.constant RJ11 76 (56320) ∈ gk_tb := gk_tb_in 526 (by decide +kernel) (by decide +kernel)
set_option maxRecDepth 100000 in
theorem ct_RJ11_110 : Cond.constant RJ11 110 (55232) ∈ gk_tb := gk_tb_in 522 (by decide +kernel) (by decide +kernel)
set_option maxRecDepth 100000 in
theorem ct_RJ6_265 : Cond.constant RJ6 265 (1431655765) ∈ gk_tb := gk_tb_in 765 (by decide +kernel) (by decide +kernel)
set_option maxRecDepth 100000 in
theorem ct_RJ6_266 : Cond.constant RJ6 266 (858993459) ∈ gk_tb := gk_tb_in 766 (by decide +kernel) (by decide +kernel)
set_option maxRecDepth 100000 in
theorem ct_RJ6_267 : Cond.constant RJ6 267 (252645135) ∈ gk_tb := gk_tb_in 767 (by decide +kernel) (by decide +kernel)
set_option maxRecDepth 100000 in
theorem ct_RJ2_227 : Cond.constant RJ2 227 (65536) ∈ gk_tb := gk_tb_in 483 (by decide +kernel) (by decide +kernel)
set_option maxRecDepth 100000 in
theorem ct_RX7_270 : Cond.constantLong RX7 270 (-9223372036854775806) ∈ gk_tb := gk_tb_in 833 (by decide +kernel) (by decide +kernel)
set_option maxRecDepth 100000 in
theorem ct_RX7_276 : Cond.constantLong RX7 276 (2) ∈ gk_tb := gk_tb_in 842 (by decide +kernel) (by decide +kernel)
set_option maxRecDepth 100000 in
theorem ct_RX7_310 : Cond.constantLong RX7 310 (17) ∈ gk_tb := gk_tb_in 908 (by decide +kernel) (by decide +kernel)
set_option maxRecDepth 100000 in
theorem ct_RX7_391 : Cond.constantLong RX7 391 (31) ∈ gk_tb := gk_tb_in 917 (by decide +kernel) (by decide +kernel)
set_option maxRecDepth 100000 in
theorem ct_RX8_110 : Cond.constantLong RX8 110 (-9223372036854775808) ∈ gk_tb := gk_tb_in 1424 (by decide +kernel) (by decide +kernel)
set_option maxRecDepth 100000 in
theorem ct_RX8_359 : Cond.constantLong RX8 359 (31) ∈ gk_tb := gk_tb_in 1480 (by decide +kernel) (by decide +kernel)
set_option maxRecDepth 100000 in
theorem ct_RX8_365 : Cond.constantLong RX8 365 (17) ∈ gk_tb := gk_tb_in 1479 (by decide +kernel) (by decide +kernel)
set_option maxRecDepth 100000 in
theorem mt_min : Cond.static Lib.Math.min.name ∈ gk_tb := gk_tb_in 118 (by decide +kernel) (by decide +kernel)
set_option maxRecDepth 100000 in
theorem mc_min : Cond.code Lib.Math.min.name Lib.Math.min.code 2 (some .int) ∈ gk_tb := gk_tb_in 119 (by decide +kernel) (by decide +kernel)
set_option maxRecDepth 100000 in
theorem mw_RX7_305 : Cond.methodLink RX7 305 Lib.Math.min.name ∈ gk_tb := gk_tb_in 899 (by decide +kernel) (by decide +kernel)
set_option maxRecDepth 100000 in
theorem mw_RX1_48 : Cond.methodLink RX1 48 Lib.Math.min.name ∈ gk_tb := gk_tb_in 622 (by decide +kernel) (by decide +kernel)
set_option maxRecDepth 100000 in
theorem mw_RX2_104 : Cond.methodLink RX2 104 Lib.Math.min.name ∈ gk_tb := gk_tb_in 673 (by decide +kernel) (by decide +kernel)
set_option maxRecDepth 100000 in
theorem mw_RX3_32 : Cond.methodLink RX3 32 Lib.Math.min.name ∈ gk_tb := gk_tb_in 860 (by decide +kernel) (by decide +kernel)
set_option maxRecDepth 100000 in
theorem mw_RX5_19 : Cond.methodLink RX5 19 Lib.Math.min.name ∈ gk_tb := gk_tb_in 117 (by decide +kernel) (by decide +kernel)
set_option maxRecDepth 100000 in
theorem mw_RX6_32 : Cond.methodLink RX6 32 Lib.Math.min.name ∈ gk_tb := gk_tb_in 142 (by decide +kernel) (by decide +kernel)
set_option maxRecDepth 100000 in
theorem mw_RJ1_38 : Cond.methodLink RJ1 38 Lib.Math.min.name ∈ gk_tb := gk_tb_in 474 (by decide +kernel) (by decide +kernel)
set_option maxRecDepth 100000 in
theorem mw_RJ2_183 : Cond.methodLink RJ2 183 Lib.Math.min.name ∈ gk_tb := gk_tb_in 482 (by decide +kernel) (by decide +kernel)
set_option maxRecDepth 100000 in
theorem mt_max : Cond.static Lib.Math.max.name ∈ gk_tb := gk_tb_in 472 (by decide +kernel) (by decide +kernel)
set_option maxRecDepth 100000 in
theorem mc_max : Cond.code Lib.Math.max.name Lib.Math.max.code 2 (some .int) ∈ gk_tb := gk_tb_in 473 (by decide +kernel) (by decide +kernel)
set_option maxRecDepth 100000 in
theorem mw_RX7_432 : Cond.methodLink RX7 432 Lib.Math.max.name ∈ gk_tb := gk_tb_in 828 (by decide +kernel) (by decide +kernel)
set_option maxRecDepth 100000 in
theorem mw_RX2_98 : Cond.methodLink RX2 98 Lib.Math.max.name ∈ gk_tb := gk_tb_in 674 (by decide +kernel) (by decide +kernel)
set_option maxRecDepth 100000 in
theorem mw_RX3_38 : Cond.methodLink RX3 38 Lib.Math.max.name ∈ gk_tb := gk_tb_in 861 (by decide +kernel) (by decide +kernel)
set_option maxRecDepth 100000 in
theorem mw_RJ1_92 : Cond.methodLink RJ1 92 Lib.Math.max.name ∈ gk_tb := gk_tb_in 471 (by decide +kernel) (by decide +kernel)
set_option maxRecDepth 100000 in
theorem mw_RJ2_224 : Cond.methodLink RJ2 224 Lib.Math.max.name ∈ gk_tb := gk_tb_in 481 (by decide +kernel) (by decide +kernel)
set_option maxRecDepth 100000 in
theorem mi_Math : Cond.initialized "java/lang/Math" ∈ gk_tb := gk_tb_in 87 (by decide +kernel) (by decide +kernel)
set_option maxRecDepth 100000 in
theorem ac_n : Cond.native arraycopyName ∈ gk_tb := gk_tb_in 894 (by decide +kernel) (by decide +kernel)
set_option maxRecDepth 100000 in
theorem ac_s : Cond.static arraycopyName ∈ gk_tb := gk_tb_in 893 (by decide +kernel) (by decide +kernel)
set_option maxRecDepth 100000 in
theorem ac_i : Cond.initialized "java/lang/System" ∈ gk_tb := gk_tb_in 102 (by decide +kernel) (by decide +kernel)
set_option maxRecDepth 100000 in
theorem ac_RX7_299 : Cond.methodLink RX7 299 arraycopyName ∈ gk_tb := gk_tb_in 892 (by decide +kernel) (by decide +kernel)
set_option maxRecDepth 100000 in
theorem lk_RX7_14 : Cond.fieldLink RX7 14 "CableCars" "carText" "LCableCars$Text;" ∈ gk_tb := gk_tb_in 347 (by decide +kernel) (by decide +kernel)
set_option maxRecDepth 100000 in
theorem lk_RX7_18 : Cond.fieldLink RX7 18 "CableCars" "comingText" "LCableCars$Text;" ∈ gk_tb := gk_tb_in 348 (by decide +kernel) (by decide +kernel)
set_option maxRecDepth 100000 in
theorem lk_RX7_21 : Cond.fieldLink RX7 21 "CableCars" "speedText" "LCableCars$Text;" ∈ gk_tb := gk_tb_in 349 (by decide +kernel) (by decide +kernel)
set_option maxRecDepth 100000 in
theorem lk_RX7_31 : Cond.fieldLink RX7 31 "CableCars" "cars" "LCableCars$Triples;" ∈ gk_tb := gk_tb_in 350 (by decide +kernel) (by decide +kernel)
set_option maxRecDepth 100000 in
theorem lk_RX7_37 : Cond.fieldLink RX7 37 "CableCars" "comings" "LCableCars$Triples;" ∈ gk_tb := gk_tb_in 351 (by decide +kernel) (by decide +kernel)
set_option maxRecDepth 100000 in
theorem lk_RX7_43 : Cond.fieldLink RX7 43 "CableCars" "events" "LCableCars$Events;" ∈ gk_tb := gk_tb_in 352 (by decide +kernel) (by decide +kernel)
set_option maxRecDepth 100000 in
theorem lk_RX7_50 : Cond.fieldLink RX7 50 "CableCars" "sightings" "LCableCars$Sightings;" ∈ gk_tb := gk_tb_in 353 (by decide +kernel) (by decide +kernel)
set_option maxRecDepth 100000 in
theorem lk_RX7_57 : Cond.fieldLink RX7 57 "CableCars" "sheet0" "LCableCars$Sheet;" ∈ gk_tb := gk_tb_in 354 (by decide +kernel) (by decide +kernel)
set_option maxRecDepth 100000 in
theorem lk_RX7_61 : Cond.fieldLink RX7 61 "CableCars" "sheet1" "LCableCars$Sheet;" ∈ gk_tb := gk_tb_in 355 (by decide +kernel) (by decide +kernel)
set_option maxRecDepth 100000 in
theorem lk_RX7_64 : Cond.fieldLink RX7 64 "CableCars" "sheet2" "LCableCars$Sheet;" ∈ gk_tb := gk_tb_in 356 (by decide +kernel) (by decide +kernel)
set_option maxRecDepth 100000 in
theorem lk_RX7_67 : Cond.fieldLink RX7 67 "CableCars" "sheet3" "LCableCars$Sheet;" ∈ gk_tb := gk_tb_in 357 (by decide +kernel) (by decide +kernel)
set_option maxRecDepth 100000 in
theorem lk_RX7_73 : Cond.fieldLink RX7 73 "CableCars" "plan" "LCableCars$Plan;" ∈ gk_tb := gk_tb_in 358 (by decide +kernel) (by decide +kernel)
set_option maxRecDepth 100000 in
theorem lk_RX7_80 : Cond.fieldLink RX7 80 "CableCars" "toldRide" "LCableCars$Ride;" ∈ gk_tb := gk_tb_in 359 (by decide +kernel) (by decide +kernel)
set_option maxRecDepth 100000 in
theorem lk_RX7_84 : Cond.fieldLink RX7 84 "CableCars" "trial" "LCableCars$Ride;" ∈ gk_tb := gk_tb_in 360 (by decide +kernel) (by decide +kernel)
set_option maxRecDepth 100000 in
theorem lk_RX7_89 : Cond.fieldLink RX7 89 "CableCars" "crowdByRoom" "[[I" ∈ gk_tb := gk_tb_in 361 (by decide +kernel) (by decide +kernel)
set_option maxRecDepth 100000 in
theorem lk_RX7_92 : Cond.fieldLink RX7 92 "CableCars" "speedFault" "I" ∈ gk_tb := gk_tb_in 362 (by decide +kernel) (by decide +kernel)
set_option maxRecDepth 100000 in
theorem lk_RX7_96 : Cond.fieldLink RX7 96 "CableCars" "stale" "Z" ∈ gk_tb := gk_tb_in 363 (by decide +kernel) (by decide +kernel)
set_option maxRecDepth 100000 in
theorem lk_RX7_100 : Cond.fieldLink RX7 100 "CableCars" "finding" "I" ∈ gk_tb := gk_tb_in 364 (by decide +kernel) (by decide +kernel)
set_option maxRecDepth 100000 in
theorem lk_RX7_121 : Cond.fieldLink RX7 121 "CableCars$Text" "length" "I" ∈ gk_tb := gk_tb_in 125 (by decide +kernel) (by decide +kernel)
set_option maxRecDepth 100000 in
theorem lk_RX7_124 : Cond.fieldLink RX7 124 "CableCars$Triples" "fault" "I" ∈ gk_tb := gk_tb_in 158 (by decide +kernel) (by decide +kernel)
set_option maxRecDepth 100000 in
theorem lk_RX7_135 : Cond.fieldLink RX7 135 "CableCars$Triples" "size" "I" ∈ gk_tb := gk_tb_in 156 (by decide +kernel) (by decide +kernel)
set_option maxRecDepth 100000 in
theorem lk_RX7_152 : Cond.fieldLink RX7 152 "CableCars$Events" "size" "I" ∈ gk_tb := gk_tb_in 192 (by decide +kernel) (by decide +kernel)
set_option maxRecDepth 100000 in
theorem lk_RX7_157 : Cond.fieldLink RX7 157 "CableCars$Sheet" "lost" "Z" ∈ gk_tb := gk_tb_in 231 (by decide +kernel) (by decide +kernel)
set_option maxRecDepth 100000 in
theorem lk_RX7_163 : Cond.fieldLink RX7 163 "CableCars$Sheet" "size" "I" ∈ gk_tb := gk_tb_in 235 (by decide +kernel) (by decide +kernel)
set_option maxRecDepth 100000 in
theorem lk_RX7_164 : Cond.fieldLink RX7 164 "CableCars$Sheet" "items" "[I" ∈ gk_tb := gk_tb_in 229 (by decide +kernel) (by decide +kernel)
set_option maxRecDepth 100000 in
theorem lk_RX7_176 : Cond.fieldLink RX7 176 "CableCars$Ride" "placeBehind" "[[I" ∈ gk_tb := gk_tb_in 297 (by decide +kernel) (by decide +kernel)
set_option maxRecDepth 100000 in
theorem lk_RX7_179 : Cond.fieldLink RX7 179 "CableCars$Ride" "insideBehind" "[[I" ∈ gk_tb := gk_tb_in 299 (by decide +kernel) (by decide +kernel)
set_option maxRecDepth 100000 in
theorem lk_RX7_182 : Cond.fieldLink RX7 182 "CableCars$Ride" "waitBehind" "[[I" ∈ gk_tb := gk_tb_in 302 (by decide +kernel) (by decide +kernel)
set_option maxRecDepth 100000 in
theorem lk_RX7_188 : Cond.fieldLink RX7 188 "CableCars$Ride" "power" "[I" ∈ gk_tb := gk_tb_in 304 (by decide +kernel) (by decide +kernel)
set_option maxRecDepth 100000 in
theorem lk_RX7_194 : Cond.fieldLink RX7 194 "CableCars$Ride" "comeOver" "[I" ∈ gk_tb := gk_tb_in 311 (by decide +kernel) (by decide +kernel)
set_option maxRecDepth 100000 in
theorem lk_RX7_201 : Cond.fieldLink RX7 201 "CableCars$Ride" "firstMoment" "I" ∈ gk_tb := gk_tb_in 316 (by decide +kernel) (by decide +kernel)
set_option maxRecDepth 100000 in
theorem lk_RX7_204 : Cond.fieldLink RX7 204 "CableCars$Ride" "firstCar" "I" ∈ gk_tb := gk_tb_in 318 (by decide +kernel) (by decide +kernel)
set_option maxRecDepth 100000 in
theorem lk_RX7_207 : Cond.fieldLink RX7 207 "CableCars$Ride" "gotOut" "[I" ∈ gk_tb := gk_tb_in 308 (by decide +kernel) (by decide +kernel)
set_option maxRecDepth 100000 in
theorem lk_RX7_210 : Cond.fieldLink RX7 210 "CableCars$Ride" "usedCars" "I" ∈ gk_tb := gk_tb_in 314 (by decide +kernel) (by decide +kernel)
set_option maxRecDepth 100000 in
theorem lk_RX7_224 : Cond.fieldLink RX7 224 "CableCars$Plan" "place" "[I" ∈ gk_tb := gk_tb_in 257 (by decide +kernel) (by decide +kernel)
set_option maxRecDepth 100000 in
theorem lk_RX7_234 : Cond.fieldLink RX7 234 "CableCars$Plan" "pace" "[I" ∈ gk_tb := gk_tb_in 266 (by decide +kernel) (by decide +kernel)
set_option maxRecDepth 100000 in
theorem lk_RX7_250 : Cond.fieldLink RX7 250 "CableCars$Sightings" "size" "I" ∈ gk_tb := gk_tb_in 212 (by decide +kernel) (by decide +kernel)
set_option maxRecDepth 100000 in
theorem lk_RX7_293 : Cond.fieldLink RX7 293 "CableCars$Sheet" "form" "I" ∈ gk_tb := gk_tb_in 233 (by decide +kernel) (by decide +kernel)
set_option maxRecDepth 100000 in
theorem lk_RX7_400 : Cond.fieldLink RX7 400 "CableCars$Text" "bytes" "[I" ∈ gk_tb := gk_tb_in 122 (by decide +kernel) (by decide +kernel)
set_option maxRecDepth 100000 in
theorem lk_RX7_403 : Cond.fieldLink RX7 403 "CableCars$Triples" "letter" "[I" ∈ gk_tb := gk_tb_in 148 (by decide +kernel) (by decide +kernel)
set_option maxRecDepth 100000 in
theorem lk_RX7_413 : Cond.fieldLink RX7 413 "CableCars$Triples" "figure" "[I" ∈ gk_tb := gk_tb_in 153 (by decide +kernel) (by decide +kernel)
set_option maxRecDepth 100000 in
theorem lk_RX7_423 : Cond.fieldLink RX7 423 "CableCars$Plan" "room" "[I" ∈ gk_tb := gk_tb_in 261 (by decide +kernel) (by decide +kernel)
set_option maxRecDepth 100000 in
theorem lk_RX7_426 : Cond.fieldLink RX7 426 "CableCars$Plan" "sort" "[I" ∈ gk_tb := gk_tb_in 259 (by decide +kernel) (by decide +kernel)
set_option maxRecDepth 100000 in
theorem lk_RX0_9 : Cond.fieldLink RX0 9 "CableCars$Events" "kind" "[I" ∈ gk_tb := gk_tb_in 184 (by decide +kernel) (by decide +kernel)
set_option maxRecDepth 100000 in
theorem lk_RX0_15 : Cond.fieldLink RX0 15 "CableCars$Events" "moment" "[I" ∈ gk_tb := gk_tb_in 186 (by decide +kernel) (by decide +kernel)
set_option maxRecDepth 100000 in
theorem lk_RX0_18 : Cond.fieldLink RX0 18 "CableCars$Events" "number" "[I" ∈ gk_tb := gk_tb_in 188 (by decide +kernel) (by decide +kernel)
set_option maxRecDepth 100000 in
theorem lk_RX0_21 : Cond.fieldLink RX0 21 "CableCars$Events" "size" "I" ∈ gk_tb := gk_tb_in 190 (by decide +kernel) (by decide +kernel)
set_option maxRecDepth 100000 in
theorem lk_RX1_9 : Cond.fieldLink RX1 9 "CableCars$Plan" "cars" "I" ∈ gk_tb := gk_tb_in 253 (by decide +kernel) (by decide +kernel)
set_option maxRecDepth 100000 in
theorem lk_RX1_15 : Cond.fieldLink RX1 15 "CableCars$Plan" "place" "[I" ∈ gk_tb := gk_tb_in 255 (by decide +kernel) (by decide +kernel)
set_option maxRecDepth 100000 in
theorem lk_RX1_19 : Cond.fieldLink RX1 19 "CableCars$Plan" "sort" "[I" ∈ gk_tb := gk_tb_in 258 (by decide +kernel) (by decide +kernel)
set_option maxRecDepth 100000 in
theorem lk_RX1_22 : Cond.fieldLink RX1 22 "CableCars$Plan" "room" "[I" ∈ gk_tb := gk_tb_in 260 (by decide +kernel) (by decide +kernel)
set_option maxRecDepth 100000 in
theorem lk_RX1_25 : Cond.fieldLink RX1 25 "CableCars$Plan" "jammedFrom" "[I" ∈ gk_tb := gk_tb_in 262 (by decide +kernel) (by decide +kernel)
set_option maxRecDepth 100000 in
theorem lk_RX1_30 : Cond.fieldLink RX1 30 "CableCars$Plan" "arrivals" "[[I" ∈ gk_tb := gk_tb_in 263 (by decide +kernel) (by decide +kernel)
set_option maxRecDepth 100000 in
theorem lk_RX1_33 : Cond.fieldLink RX1 33 "CableCars$Plan" "pace" "[I" ∈ gk_tb := gk_tb_in 265 (by decide +kernel) (by decide +kernel)
set_option maxRecDepth 100000 in
theorem lk_RX1_36 : Cond.fieldLink RX1 36 "CableCars$Plan" "gusty" "[Z" ∈ gk_tb := gk_tb_in 267 (by decide +kernel) (by decide +kernel)
set_option maxRecDepth 100000 in
theorem lk_RX1_40 : Cond.fieldLink RX1 40 "CableCars$Plan" "stopped" "[Z" ∈ gk_tb := gk_tb_in 268 (by decide +kernel) (by decide +kernel)
set_option maxRecDepth 100000 in
theorem lk_RX1_43 : Cond.fieldLink RX1 43 "CableCars$Triples" "size" "I" ∈ gk_tb := gk_tb_in 155 (by decide +kernel) (by decide +kernel)
set_option maxRecDepth 100000 in
theorem lk_RX1_54 : Cond.fieldLink RX1 54 "CableCars$Triples" "letter" "[I" ∈ gk_tb := gk_tb_in 147 (by decide +kernel) (by decide +kernel)
set_option maxRecDepth 100000 in
theorem lk_RX1_57 : Cond.fieldLink RX1 57 "CableCars$Triples" "sign" "[I" ∈ gk_tb := gk_tb_in 150 (by decide +kernel) (by decide +kernel)
set_option maxRecDepth 100000 in
theorem lk_RX1_60 : Cond.fieldLink RX1 60 "CableCars$Triples" "figure" "[I" ∈ gk_tb := gk_tb_in 152 (by decide +kernel) (by decide +kernel)
set_option maxRecDepth 100000 in
theorem lk_RX1_69 : Cond.fieldLink RX1 69 "CableCars$Events" "size" "I" ∈ gk_tb := gk_tb_in 191 (by decide +kernel) (by decide +kernel)
set_option maxRecDepth 100000 in
theorem lk_RX1_72 : Cond.fieldLink RX1 72 "CableCars$Events" "kind" "[I" ∈ gk_tb := gk_tb_in 185 (by decide +kernel) (by decide +kernel)
set_option maxRecDepth 100000 in
theorem lk_RX1_75 : Cond.fieldLink RX1 75 "CableCars$Events" "moment" "[I" ∈ gk_tb := gk_tb_in 187 (by decide +kernel) (by decide +kernel)
set_option maxRecDepth 100000 in
theorem lk_RX1_78 : Cond.fieldLink RX1 78 "CableCars$Events" "number" "[I" ∈ gk_tb := gk_tb_in 189 (by decide +kernel) (by decide +kernel)
set_option maxRecDepth 100000 in
theorem lk_RX2_11 : Cond.fieldLink RX2 11 "CableCars$Ride" "placeBehind" "[[I" ∈ gk_tb := gk_tb_in 296 (by decide +kernel) (by decide +kernel)
set_option maxRecDepth 100000 in
theorem lk_RX2_16 : Cond.fieldLink RX2 16 "CableCars$Ride" "insideBehind" "[[I" ∈ gk_tb := gk_tb_in 298 (by decide +kernel) (by decide +kernel)
set_option maxRecDepth 100000 in
theorem lk_RX2_19 : Cond.fieldLink RX2 19 "CableCars$Ride" "waitBehind" "[[I" ∈ gk_tb := gk_tb_in 300 (by decide +kernel) (by decide +kernel)
set_option maxRecDepth 100000 in
theorem lk_RX2_22 : Cond.fieldLink RX2 22 "CableCars$Ride" "power" "[I" ∈ gk_tb := gk_tb_in 303 (by decide +kernel) (by decide +kernel)
set_option maxRecDepth 100000 in
theorem lk_RX2_26 : Cond.fieldLink RX2 26 "CableCars$Ride" "place" "[I" ∈ gk_tb := gk_tb_in 305 (by decide +kernel) (by decide +kernel)
set_option maxRecDepth 100000 in
theorem lk_RX2_29 : Cond.fieldLink RX2 29 "CableCars$Ride" "inside" "[I" ∈ gk_tb := gk_tb_in 306 (by decide +kernel) (by decide +kernel)
set_option maxRecDepth 100000 in
theorem lk_RX2_32 : Cond.fieldLink RX2 32 "CableCars$Ride" "gotOut" "[I" ∈ gk_tb := gk_tb_in 307 (by decide +kernel) (by decide +kernel)
set_option maxRecDepth 100000 in
theorem lk_RX2_35 : Cond.fieldLink RX2 35 "CableCars$Ride" "waiting" "[I" ∈ gk_tb := gk_tb_in 309 (by decide +kernel) (by decide +kernel)
set_option maxRecDepth 100000 in
theorem lk_RX2_38 : Cond.fieldLink RX2 38 "CableCars$Ride" "comeOver" "[I" ∈ gk_tb := gk_tb_in 310 (by decide +kernel) (by decide +kernel)
set_option maxRecDepth 100000 in
theorem lk_RX2_41 : Cond.fieldLink RX2 41 "CableCars$Ride" "cars" "I" ∈ gk_tb := gk_tb_in 312 (by decide +kernel) (by decide +kernel)
set_option maxRecDepth 100000 in
theorem lk_RX2_45 : Cond.fieldLink RX2 45 "CableCars$Ride" "usedCars" "I" ∈ gk_tb := gk_tb_in 313 (by decide +kernel) (by decide +kernel)
set_option maxRecDepth 100000 in
theorem lk_RX2_48 : Cond.fieldLink RX2 48 "CableCars$Ride" "firstMoment" "I" ∈ gk_tb := gk_tb_in 315 (by decide +kernel) (by decide +kernel)
set_option maxRecDepth 100000 in
theorem lk_RX2_51 : Cond.fieldLink RX2 51 "CableCars$Ride" "firstCar" "I" ∈ gk_tb := gk_tb_in 317 (by decide +kernel) (by decide +kernel)
set_option maxRecDepth 100000 in
theorem lk_RX2_58 : Cond.fieldLink RX2 58 "CableCars$Plan" "arrivals" "[[I" ∈ gk_tb := gk_tb_in 264 (by decide +kernel) (by decide +kernel)
set_option maxRecDepth 100000 in
theorem lk_RX2_79 : Cond.fieldLink RX2 79 "CableCars$Plan" "cars" "I" ∈ gk_tb := gk_tb_in 254 (by decide +kernel) (by decide +kernel)
set_option maxRecDepth 100000 in
theorem lk_RX2_80 : Cond.fieldLink RX2 80 "CableCars$Plan" "place" "[I" ∈ gk_tb := gk_tb_in 256 (by decide +kernel) (by decide +kernel)
set_option maxRecDepth 100000 in
theorem lk_RX3_9 : Cond.fieldLink RX3 9 "CableCars$Sheet" "items" "[I" ∈ gk_tb := gk_tb_in 228 (by decide +kernel) (by decide +kernel)
set_option maxRecDepth 100000 in
theorem lk_RX3_15 : Cond.fieldLink RX3 15 "CableCars$Sheet" "lost" "Z" ∈ gk_tb := gk_tb_in 230 (by decide +kernel) (by decide +kernel)
set_option maxRecDepth 100000 in
theorem lk_RX3_19 : Cond.fieldLink RX3 19 "CableCars$Sheet" "form" "I" ∈ gk_tb := gk_tb_in 232 (by decide +kernel) (by decide +kernel)
set_option maxRecDepth 100000 in
theorem lk_RX3_23 : Cond.fieldLink RX3 23 "CableCars$Sheet" "size" "I" ∈ gk_tb := gk_tb_in 234 (by decide +kernel) (by decide +kernel)
set_option maxRecDepth 100000 in
theorem lk_RX4_9 : Cond.fieldLink RX4 9 "CableCars$Sightings" "moment" "[I" ∈ gk_tb := gk_tb_in 208 (by decide +kernel) (by decide +kernel)
set_option maxRecDepth 100000 in
theorem lk_RX4_15 : Cond.fieldLink RX4 15 "CableCars$Sightings" "station" "[I" ∈ gk_tb := gk_tb_in 209 (by decide +kernel) (by decide +kernel)
set_option maxRecDepth 100000 in
theorem lk_RX4_18 : Cond.fieldLink RX4 18 "CableCars$Sightings" "many" "[I" ∈ gk_tb := gk_tb_in 210 (by decide +kernel) (by decide +kernel)
set_option maxRecDepth 100000 in
theorem lk_RX4_21 : Cond.fieldLink RX4 21 "CableCars$Sightings" "size" "I" ∈ gk_tb := gk_tb_in 211 (by decide +kernel) (by decide +kernel)
set_option maxRecDepth 100000 in
theorem lk_RX4_29 : Cond.fieldLink RX4 29 "CableCars$Ride" "waitBehind" "[[I" ∈ gk_tb := gk_tb_in 301 (by decide +kernel) (by decide +kernel)
set_option maxRecDepth 100000 in
theorem lk_RX5_9 : Cond.fieldLink RX5 9 "CableCars$Text" "bytes" "[I" ∈ gk_tb := gk_tb_in 120 (by decide +kernel) (by decide +kernel)
set_option maxRecDepth 100000 in
theorem lk_RX5_15 : Cond.fieldLink RX5 15 "CableCars$Text" "length" "I" ∈ gk_tb := gk_tb_in 124 (by decide +kernel) (by decide +kernel)
set_option maxRecDepth 100000 in
theorem lk_RX5_25 : Cond.fieldLink RX5 25 "CableCars$Text" "limit" "I" ∈ gk_tb := gk_tb_in 123 (by decide +kernel) (by decide +kernel)
set_option maxRecDepth 100000 in
theorem lk_RX6_9 : Cond.fieldLink RX6 9 "CableCars$Triples" "letter" "[I" ∈ gk_tb := gk_tb_in 146 (by decide +kernel) (by decide +kernel)
set_option maxRecDepth 100000 in
theorem lk_RX6_15 : Cond.fieldLink RX6 15 "CableCars$Triples" "sign" "[I" ∈ gk_tb := gk_tb_in 149 (by decide +kernel) (by decide +kernel)
set_option maxRecDepth 100000 in
theorem lk_RX6_18 : Cond.fieldLink RX6 18 "CableCars$Triples" "figure" "[I" ∈ gk_tb := gk_tb_in 151 (by decide +kernel) (by decide +kernel)
set_option maxRecDepth 100000 in
theorem lk_RX6_21 : Cond.fieldLink RX6 21 "CableCars$Triples" "size" "I" ∈ gk_tb := gk_tb_in 154 (by decide +kernel) (by decide +kernel)
set_option maxRecDepth 100000 in
theorem lk_RX6_25 : Cond.fieldLink RX6 25 "CableCars$Triples" "fault" "I" ∈ gk_tb := gk_tb_in 157 (by decide +kernel) (by decide +kernel)
set_option maxRecDepth 100000 in
theorem lk_RX6_28 : Cond.fieldLink RX6 28 "CableCars$Triples" "signs" "Ljava/lang/String;" ∈ gk_tb := gk_tb_in 143 (by decide +kernel) (by decide +kernel)
set_option maxRecDepth 100000 in
theorem lk_RX6_38 : Cond.fieldLink RX6 38 "CableCars$Triples" "most" "I" ∈ gk_tb := gk_tb_in 144 (by decide +kernel) (by decide +kernel)
set_option maxRecDepth 100000 in
theorem lk_RX6_41 : Cond.fieldLink RX6 41 "CableCars$Triples" "lettersDiffer" "Z" ∈ gk_tb := gk_tb_in 145 (by decide +kernel) (by decide +kernel)
set_option maxRecDepth 100000 in
theorem lk_RX6_49 : Cond.fieldLink RX6 49 "CableCars$Text" "length" "I" ∈ gk_tb := gk_tb_in 126 (by decide +kernel) (by decide +kernel)
set_option maxRecDepth 100000 in
theorem lk_RX6_54 : Cond.fieldLink RX6 54 "CableCars$Text" "bytes" "[I" ∈ gk_tb := gk_tb_in 121 (by decide +kernel) (by decide +kernel)
set_option maxRecDepth 100000 in
theorem lk_RX8_7 : Cond.fieldLink RX8 7 "CableCarsModel" "typed" "[I" ∈ gk_tb := gk_tb_in 948 (by decide +kernel) (by decide +kernel)
set_option maxRecDepth 100000 in
theorem lk_RX8_13 : Cond.fieldLink RX8 13 "CableCarsModel" "texts" "[I" ∈ gk_tb := gk_tb_in 949 (by decide +kernel) (by decide +kernel)
set_option maxRecDepth 100000 in
theorem lk_RX8_16 : Cond.fieldLink RX8 16 "CableCarsModel" "places" "[I" ∈ gk_tb := gk_tb_in 951 (by decide +kernel) (by decide +kernel)
set_option maxRecDepth 100000 in
theorem lk_RX8_19 : Cond.fieldLink RX8 19 "CableCarsModel" "sorts" "[I" ∈ gk_tb := gk_tb_in 952 (by decide +kernel) (by decide +kernel)
set_option maxRecDepth 100000 in
theorem lk_RX8_22 : Cond.fieldLink RX8 22 "CableCarsModel" "rooms" "[I" ∈ gk_tb := gk_tb_in 953 (by decide +kernel) (by decide +kernel)
set_option maxRecDepth 100000 in
theorem lk_RX8_25 : Cond.fieldLink RX8 25 "CableCarsModel" "comingAt" "[I" ∈ gk_tb := gk_tb_in 955 (by decide +kernel) (by decide +kernel)
set_option maxRecDepth 100000 in
theorem lk_RX8_28 : Cond.fieldLink RX8 28 "CableCarsModel" "comingTo" "[I" ∈ gk_tb := gk_tb_in 956 (by decide +kernel) (by decide +kernel)
set_option maxRecDepth 100000 in
theorem lk_RX8_31 : Cond.fieldLink RX8 31 "CableCarsModel" "comingMany" "[I" ∈ gk_tb := gk_tb_in 957 (by decide +kernel) (by decide +kernel)
set_option maxRecDepth 100000 in
theorem lk_RX8_34 : Cond.fieldLink RX8 34 "CableCarsModel" "speedTold" "[I" ∈ gk_tb := gk_tb_in 959 (by decide +kernel) (by decide +kernel)
set_option maxRecDepth 100000 in
theorem lk_RX8_37 : Cond.fieldLink RX8 37 "CableCarsModel" "eventKind" "[I" ∈ gk_tb := gk_tb_in 961 (by decide +kernel) (by decide +kernel)
set_option maxRecDepth 100000 in
theorem lk_RX8_40 : Cond.fieldLink RX8 40 "CableCarsModel" "eventAt" "[I" ∈ gk_tb := gk_tb_in 962 (by decide +kernel) (by decide +kernel)
set_option maxRecDepth 100000 in
theorem lk_RX8_43 : Cond.fieldLink RX8 43 "CableCarsModel" "eventNumber" "[I" ∈ gk_tb := gk_tb_in 963 (by decide +kernel) (by decide +kernel)
set_option maxRecDepth 100000 in
theorem lk_RX8_46 : Cond.fieldLink RX8 46 "CableCarsModel" "speedNow" "[I" ∈ gk_tb := gk_tb_in 964 (by decide +kernel) (by decide +kernel)
set_option maxRecDepth 100000 in
theorem lk_RX8_49 : Cond.fieldLink RX8 49 "CableCarsModel" "placeNow" "[I" ∈ gk_tb := gk_tb_in 969 (by decide +kernel) (by decide +kernel)
set_option maxRecDepth 100000 in
theorem lk_RX8_52 : Cond.fieldLink RX8 52 "CableCarsModel" "inside" "[I" ∈ gk_tb := gk_tb_in 970 (by decide +kernel) (by decide +kernel)
set_option maxRecDepth 100000 in
theorem lk_RX8_55 : Cond.fieldLink RX8 55 "CableCarsModel" "gotOut" "[I" ∈ gk_tb := gk_tb_in 971 (by decide +kernel) (by decide +kernel)
set_option maxRecDepth 100000 in
theorem lk_RX8_58 : Cond.fieldLink RX8 58 "CableCarsModel" "waiting" "[I" ∈ gk_tb := gk_tb_in 973 (by decide +kernel) (by decide +kernel)
set_option maxRecDepth 100000 in
theorem lk_RX8_61 : Cond.fieldLink RX8 61 "CableCarsModel" "overNow" "[I" ∈ gk_tb := gk_tb_in 974 (by decide +kernel) (by decide +kernel)
set_option maxRecDepth 100000 in
theorem lk_RX8_64 : Cond.fieldLink RX8 64 "CableCarsModel" "waitAt" "[I" ∈ gk_tb := gk_tb_in 979 (by decide +kernel) (by decide +kernel)
set_option maxRecDepth 100000 in
theorem lk_RX8_67 : Cond.fieldLink RX8 67 "CableCarsModel" "ridesAt" "[I" ∈ gk_tb := gk_tb_in 980 (by decide +kernel) (by decide +kernel)
set_option maxRecDepth 100000 in
theorem lk_RX8_70 : Cond.fieldLink RX8 70 "CableCarsModel" "powerAt" "[I" ∈ gk_tb := gk_tb_in 981 (by decide +kernel) (by decide +kernel)
set_option maxRecDepth 100000 in
theorem lk_RX8_73 : Cond.fieldLink RX8 73 "CableCarsModel" "placeAt" "[I" ∈ gk_tb := gk_tb_in 982 (by decide +kernel) (by decide +kernel)
set_option maxRecDepth 100000 in
theorem lk_RX8_76 : Cond.fieldLink RX8 76 "CableCarsModel" "insideAt" "[I" ∈ gk_tb := gk_tb_in 983 (by decide +kernel) (by decide +kernel)
set_option maxRecDepth 100000 in
theorem lk_RX8_79 : Cond.fieldLink RX8 79 "CableCarsModel" "planRow" "[I" ∈ gk_tb := gk_tb_in 984 (by decide +kernel) (by decide +kernel)
set_option maxRecDepth 100000 in
theorem lk_RX8_82 : Cond.fieldLink RX8 82 "CableCarsModel" "seenAt" "[I" ∈ gk_tb := gk_tb_in 986 (by decide +kernel) (by decide +kernel)
set_option maxRecDepth 100000 in
theorem lk_RX8_85 : Cond.fieldLink RX8 85 "CableCarsModel" "seenStation" "[I" ∈ gk_tb := gk_tb_in 987 (by decide +kernel) (by decide +kernel)
set_option maxRecDepth 100000 in
theorem lk_RX8_88 : Cond.fieldLink RX8 88 "CableCarsModel" "seenMany" "[I" ∈ gk_tb := gk_tb_in 988 (by decide +kernel) (by decide +kernel)
set_option maxRecDepth 100000 in
theorem lk_RX8_91 : Cond.fieldLink RX8 91 "CableCarsModel" "waitBy" "[I" ∈ gk_tb := gk_tb_in 989 (by decide +kernel) (by decide +kernel)
set_option maxRecDepth 100000 in
theorem lk_RX8_94 : Cond.fieldLink RX8 94 "CableCarsModel" "isThere" "[Z" ∈ gk_tb := gk_tb_in 990 (by decide +kernel) (by decide +kernel)
set_option maxRecDepth 100000 in
theorem lk_RX8_98 : Cond.fieldLink RX8 98 "CableCarsModel" "forms" "[I" ∈ gk_tb := gk_tb_in 991 (by decide +kernel) (by decide +kernel)
set_option maxRecDepth 100000 in
theorem lk_RX8_101 : Cond.fieldLink RX8 101 "CableCarsModel" "sizes" "[I" ∈ gk_tb := gk_tb_in 992 (by decide +kernel) (by decide +kernel)
set_option maxRecDepth 100000 in
theorem lk_RX8_104 : Cond.fieldLink RX8 104 "CableCarsModel" "items" "[I" ∈ gk_tb := gk_tb_in 993 (by decide +kernel) (by decide +kernel)
set_option maxRecDepth 100000 in
theorem lk_RX8_107 : Cond.fieldLink RX8 107 "CableCarsModel" "moved" "[I" ∈ gk_tb := gk_tb_in 994 (by decide +kernel) (by decide +kernel)
set_option maxRecDepth 100000 in
theorem lk_RX8_135 : Cond.fieldLink RX8 135 "CableCarsModel" "cars" "I" ∈ gk_tb := gk_tb_in 950 (by decide +kernel) (by decide +kernel)
set_option maxRecDepth 100000 in
theorem lk_RX8_139 : Cond.fieldLink RX8 139 "CableCarsModel" "comings" "I" ∈ gk_tb := gk_tb_in 954 (by decide +kernel) (by decide +kernel)
set_option maxRecDepth 100000 in
theorem lk_RX8_148 : Cond.fieldLink RX8 148 "CableCarsModel" "speeds" "I" ∈ gk_tb := gk_tb_in 958 (by decide +kernel) (by decide +kernel)
set_option maxRecDepth 100000 in
theorem lk_RX8_179 : Cond.fieldLink RX8 179 "CableCarsModel" "events" "I" ∈ gk_tb := gk_tb_in 960 (by decide +kernel) (by decide +kernel)
set_option maxRecDepth 100000 in
theorem lk_RX8_192 : Cond.fieldLink RX8 192 "CableCarsModel" "notEvents" "I" ∈ gk_tb := gk_tb_in 965 (by decide +kernel) (by decide +kernel)
set_option maxRecDepth 100000 in
theorem lk_RX8_195 : Cond.fieldLink RX8 195 "CableCarsModel" "isGust" "Z" ∈ gk_tb := gk_tb_in 966 (by decide +kernel) (by decide +kernel)
set_option maxRecDepth 100000 in
theorem lk_RX8_199 : Cond.fieldLink RX8 199 "CableCarsModel" "isStop" "Z" ∈ gk_tb := gk_tb_in 967 (by decide +kernel) (by decide +kernel)
set_option maxRecDepth 100000 in
theorem lk_RX8_205 : Cond.fieldLink RX8 205 "CableCarsModel" "jammed" "I" ∈ gk_tb := gk_tb_in 968 (by decide +kernel) (by decide +kernel)
set_option maxRecDepth 100000 in
theorem lk_RX8_208 : Cond.fieldLink RX8 208 "CableCarsModel" "firstAt" "I" ∈ gk_tb := gk_tb_in 977 (by decide +kernel) (by decide +kernel)
set_option maxRecDepth 100000 in
theorem lk_RX8_211 : Cond.fieldLink RX8 211 "CableCarsModel" "firstCar" "I" ∈ gk_tb := gk_tb_in 978 (by decide +kernel) (by decide +kernel)
set_option maxRecDepth 100000 in
theorem lk_RX8_214 : Cond.fieldLink RX8 214 "CableCarsModel" "everIn" "I" ∈ gk_tb := gk_tb_in 972 (by decide +kernel) (by decide +kernel)
set_option maxRecDepth 100000 in
theorem lk_RX8_225 : Cond.fieldLink RX8 225 "CableCarsModel" "powerNow" "I" ∈ gk_tb := gk_tb_in 975 (by decide +kernel) (by decide +kernel)
set_option maxRecDepth 100000 in
theorem lk_RX8_238 : Cond.fieldLink RX8 238 "CableCarsModel" "sumNow" "I" ∈ gk_tb := gk_tb_in 976 (by decide +kernel) (by decide +kernel)
set_option maxRecDepth 100000 in
theorem lk_RX8_310 : Cond.fieldLink RX8 310 "CableCarsModel" "seens" "I" ∈ gk_tb := gk_tb_in 985 (by decide +kernel) (by decide +kernel)
set_option maxRecDepth 100000 in
theorem lk_RX8_345 : Cond.fieldLink RX8 345 "CableCarsModel" "finding" "I" ∈ gk_tb := gk_tb_in 995 (by decide +kernel) (by decide +kernel)
set_option maxRecDepth 100000 in
theorem lm_RX7_11 : Cond.methodLink RX7 11 yX5_init ∈ gk_tb := gk_tb_in 113 (by decide +kernel) (by decide +kernel)
set_option maxRecDepth 100000 in
theorem lm_RX7_28 : Cond.methodLink RX7 28 yX6_init ∈ gk_tb := gk_tb_in 138 (by decide +kernel) (by decide +kernel)
set_option maxRecDepth 100000 in
theorem lm_RX7_103 : Cond.methodLink RX7 103 yX7_textOf ∈ gk_tb := gk_tb_in 406 (by decide +kernel) (by decide +kernel)
set_option maxRecDepth 100000 in
theorem lm_RX7_107 : Cond.methodLink RX7 107 yX7_within ∈ gk_tb := gk_tb_in 410 (by decide +kernel) (by decide +kernel)
set_option maxRecDepth 100000 in
theorem lm_RX7_111 : Cond.methodLink RX7 111 yX5_hasSpace ∈ gk_tb := gk_tb_in 413 (by decide +kernel) (by decide +kernel)
set_option maxRecDepth 100000 in
theorem lm_RX7_115 : Cond.methodLink RX7 115 yX5_append ∈ gk_tb := gk_tb_in 417 (by decide +kernel) (by decide +kernel)
set_option maxRecDepth 100000 in
theorem lm_RX7_118 : Cond.methodLink RX7 118 yX7_readAgain ∈ gk_tb := gk_tb_in 422 (by decide +kernel) (by decide +kernel)
set_option maxRecDepth 100000 in
theorem lm_RX7_127 : Cond.methodLink RX7 127 yX7_isCar ∈ gk_tb := gk_tb_in 547 (by decide +kernel) (by decide +kernel)
set_option maxRecDepth 100000 in
theorem lm_RX7_131 : Cond.methodLink RX7 131 yX6_part ∈ gk_tb := gk_tb_in 551 (by decide +kernel) (by decide +kernel)
set_option maxRecDepth 100000 in
theorem lm_RX7_138 : Cond.methodLink RX7 138 yX7_isMoment ∈ gk_tb := gk_tb_in 563 (by decide +kernel) (by decide +kernel)
set_option maxRecDepth 100000 in
theorem lm_RX7_141 : Cond.methodLink RX7 141 yX7_toldSpeed ∈ gk_tb := gk_tb_in 566 (by decide +kernel) (by decide +kernel)
set_option maxRecDepth 100000 in
theorem lm_RX7_145 : Cond.methodLink RX7 145 yX0_mayBe ∈ gk_tb := gk_tb_in 574 (by decide +kernel) (by decide +kernel)
set_option maxRecDepth 100000 in
theorem lm_RX7_148 : Cond.methodLink RX7 148 yX0_hasSpace ∈ gk_tb := gk_tb_in 580 (by decide +kernel) (by decide +kernel)
set_option maxRecDepth 100000 in
theorem lm_RX7_149 : Cond.methodLink RX7 149 yX0_append ∈ gk_tb := gk_tb_in 584 (by decide +kernel) (by decide +kernel)
set_option maxRecDepth 100000 in
theorem lm_RX7_153 : Cond.methodLink RX7 153 yX7_sheetOf ∈ gk_tb := gk_tb_in 597 (by decide +kernel) (by decide +kernel)
set_option maxRecDepth 100000 in
theorem lm_RX7_160 : Cond.methodLink RX7 160 yX7_found ∈ gk_tb := gk_tb_in 601 (by decide +kernel) (by decide +kernel)
set_option maxRecDepth 100000 in
theorem lm_RX7_168 : Cond.methodLink RX7 168 yX7_event ∈ gk_tb := gk_tb_in 605 (by decide +kernel) (by decide +kernel)
set_option maxRecDepth 100000 in
theorem lm_RX7_172 : Cond.methodLink RX7 172 yX7_asTold ∈ gk_tb := gk_tb_in 610 (by decide +kernel) (by decide +kernel)
set_option maxRecDepth 100000 in
theorem lm_RX7_185 : Cond.methodLink RX7 185 yX2_allInside ∈ gk_tb := gk_tb_in 687 (by decide +kernel) (by decide +kernel)
set_option maxRecDepth 100000 in
theorem lm_RX7_191 : Cond.methodLink RX7 191 yX7_isStation ∈ gk_tb := gk_tb_in 695 (by decide +kernel) (by decide +kernel)
set_option maxRecDepth 100000 in
theorem lm_RX7_197 : Cond.methodLink RX7 197 yX2_allPower ∈ gk_tb := gk_tb_in 702 (by decide +kernel) (by decide +kernel)
set_option maxRecDepth 100000 in
theorem lm_RX7_213 : Cond.methodLink RX7 213 yX7_leftBehind ∈ gk_tb := gk_tb_in 726 (by decide +kernel) (by decide +kernel)
set_option maxRecDepth 100000 in
theorem lm_RX7_217 : Cond.methodLink RX7 217 yX7_planAsTold ∈ gk_tb := gk_tb_in 614 (by decide +kernel) (by decide +kernel)
set_option maxRecDepth 100000 in
theorem lm_RX7_220 : Cond.methodLink RX7 220 yX7_anotherHangsAt ∈ gk_tb := gk_tb_in 738 (by decide +kernel) (by decide +kernel)
set_option maxRecDepth 100000 in
theorem lm_RX7_227 : Cond.methodLink RX7 227 yX2_run ∈ gk_tb := gk_tb_in 638 (by decide +kernel) (by decide +kernel)
set_option maxRecDepth 100000 in
theorem lm_RX7_231 : Cond.methodLink RX7 231 yX2_allOver ∈ gk_tb := gk_tb_in 730 (by decide +kernel) (by decide +kernel)
set_option maxRecDepth 100000 in
theorem lm_RX7_237 : Cond.methodLink RX7 237 yX7_leastSpared ∈ gk_tb := gk_tb_in 754 (by decide +kernel) (by decide +kernel)
set_option maxRecDepth 100000 in
theorem lm_RX7_240 : Cond.methodLink RX7 240 yJ6_bitCount_0f7a4 ∈ gk_tb := gk_tb_in 762 (by decide +kernel) (by decide +kernel)
set_option maxRecDepth 100000 in
theorem lm_RX7_245 : Cond.methodLink RX7 245 yX7_numberOfBit ∈ gk_tb := gk_tb_in 768 (by decide +kernel) (by decide +kernel)
set_option maxRecDepth 100000 in
theorem lm_RX7_248 : Cond.methodLink RX7 248 yX4_hasSpace ∈ gk_tb := gk_tb_in 775 (by decide +kernel) (by decide +kernel)
set_option maxRecDepth 100000 in
theorem lm_RX7_249 : Cond.methodLink RX7 249 yX4_append ∈ gk_tb := gk_tb_in 779 (by decide +kernel) (by decide +kernel)
set_option maxRecDepth 100000 in
theorem lm_RX7_251 : Cond.methodLink RX7 251 yX1_takeEvents ∈ gk_tb := gk_tb_in 630 (by decide +kernel) (by decide +kernel)
set_option maxRecDepth 100000 in
theorem lm_RX7_255 : Cond.methodLink RX7 255 yX7_comesOutAsSeen ∈ gk_tb := gk_tb_in 792 (by decide +kernel) (by decide +kernel)
set_option maxRecDepth 100000 in
theorem lm_RX7_258 : Cond.methodLink RX7 258 yX7_likelyRooms ∈ gk_tb := gk_tb_in 804 (by decide +kernel) (by decide +kernel)
set_option maxRecDepth 100000 in
theorem lm_RX7_261 : Cond.methodLink RX7 261 yX7_likelySorts ∈ gk_tb := gk_tb_in 808 (by decide +kernel) (by decide +kernel)
set_option maxRecDepth 100000 in
theorem lm_RX7_264 : Cond.methodLink RX7 264 yX7_noteCrowdsByRoom ∈ gk_tb := gk_tb_in 816 (by decide +kernel) (by decide +kernel)
set_option maxRecDepth 100000 in
theorem lm_RX7_267 : Cond.methodLink RX7 267 yX7_mostAlike ∈ gk_tb := gk_tb_in 824 (by decide +kernel) (by decide +kernel)
set_option maxRecDepth 100000 in
theorem lm_RX7_272 : Cond.methodLink RX7 272 yX7_sharesWithNobodyWaiting ∈ gk_tb := gk_tb_in 834 (by decide +kernel) (by decide +kernel)
set_option maxRecDepth 100000 in
theorem lm_RX7_279 : Cond.methodLink RX7 279 yX7_isForm ∈ gk_tb := gk_tb_in 852 (by decide +kernel) (by decide +kernel)
set_option maxRecDepth 100000 in
theorem lm_RX7_282 : Cond.methodLink RX7 282 yX3_renew ∈ gk_tb := gk_tb_in 855 (by decide +kernel) (by decide +kernel)
set_option maxRecDepth 100000 in
theorem lm_RX7_286 : Cond.methodLink RX7 286 yX3_wrongWith ∈ gk_tb := gk_tb_in 870 (by decide +kernel) (by decide +kernel)
set_option maxRecDepth 100000 in
theorem lm_RX7_289 : Cond.methodLink RX7 289 yX3_store ∈ gk_tb := gk_tb_in 878 (by decide +kernel) (by decide +kernel)
set_option maxRecDepth 100000 in
theorem lm_RX7_296 : Cond.methodLink RX7 296 yX3_hasRun ∈ gk_tb := gk_tb_in 891 (by decide +kernel) (by decide +kernel)
set_option maxRecDepth 100000 in
theorem lm_RX7_305 : Cond.methodLink RX7 305 yJ9_min_7cf53 ∈ gk_tb := gk_tb_in 899 (by decide +kernel) (by decide +kernel)
set_option maxRecDepth 100000 in
theorem lm_RX7_312 : Cond.methodLink RX7 312 yX7_digestTold ∈ gk_tb := gk_tb_in 909 (by decide +kernel) (by decide +kernel)
set_option maxRecDepth 100000 in
theorem lm_RX7_316 : Cond.methodLink RX7 316 yX7_car ∈ gk_tb := gk_tb_in 922 (by decide +kernel) (by decide +kernel)
set_option maxRecDepth 100000 in
theorem lm_RX7_319 : Cond.methodLink RX7 319 yX7_mix ∈ gk_tb := gk_tb_in 914 (by decide +kernel) (by decide +kernel)
set_option maxRecDepth 100000 in
theorem lm_RX7_326 : Cond.methodLink RX7 326 yX7_at ∈ gk_tb := gk_tb_in 925 (by decide +kernel) (by decide +kernel)
set_option maxRecDepth 100000 in
theorem lm_RX7_329 : Cond.methodLink RX7 329 yX7_carried ∈ gk_tb := gk_tb_in 926 (by decide +kernel) (by decide +kernel)
set_option maxRecDepth 100000 in
theorem lm_RX7_332 : Cond.methodLink RX7 332 yX7_hang ∈ gk_tb := gk_tb_in 927 (by decide +kernel) (by decide +kernel)
set_option maxRecDepth 100000 in
theorem lm_RX7_335 : Cond.methodLink RX7 335 yX7_was ∈ gk_tb := gk_tb_in 928 (by decide +kernel) (by decide +kernel)
set_option maxRecDepth 100000 in
theorem lm_RX7_338 : Cond.methodLink RX7 338 yX7_ask ∈ gk_tb := gk_tb_in 929 (by decide +kernel) (by decide +kernel)
set_option maxRecDepth 100000 in
theorem lm_RX7_341 : Cond.methodLink RX7 341 yX7_over ∈ gk_tb := gk_tb_in 930 (by decide +kernel) (by decide +kernel)
set_option maxRecDepth 100000 in
theorem lm_RX7_344 : Cond.methodLink RX7 344 yX7_crowd ∈ gk_tb := gk_tb_in 931 (by decide +kernel) (by decide +kernel)
set_option maxRecDepth 100000 in
theorem lm_RX7_347 : Cond.methodLink RX7 347 yX7_sum ∈ gk_tb := gk_tb_in 932 (by decide +kernel) (by decide +kernel)
set_option maxRecDepth 100000 in
theorem lm_RX7_350 : Cond.methodLink RX7 350 yX7_first ∈ gk_tb := gk_tb_in 933 (by decide +kernel) (by decide +kernel)
set_option maxRecDepth 100000 in
theorem lm_RX7_353 : Cond.methodLink RX7 353 yX7_idle ∈ gk_tb := gk_tb_in 934 (by decide +kernel) (by decide +kernel)
set_option maxRecDepth 100000 in
theorem lm_RX7_356 : Cond.methodLink RX7 356 yX7_left ∈ gk_tb := gk_tb_in 935 (by decide +kernel) (by decide +kernel)
set_option maxRecDepth 100000 in
theorem lm_RX7_359 : Cond.methodLink RX7 359 yX7_pace ∈ gk_tb := gk_tb_in 936 (by decide +kernel) (by decide +kernel)
set_option maxRecDepth 100000 in
theorem lm_RX7_361 : Cond.methodLink RX7 361 yX7_cheap ∈ gk_tb := gk_tb_in 937 (by decide +kernel) (by decide +kernel)
set_option maxRecDepth 100000 in
theorem lm_RX7_364 : Cond.methodLink RX7 364 yX7_chance ∈ gk_tb := gk_tb_in 938 (by decide +kernel) (by decide +kernel)
set_option maxRecDepth 100000 in
theorem lm_RX7_368 : Cond.methodLink RX7 368 yX7_spare ∈ gk_tb := gk_tb_in 939 (by decide +kernel) (by decide +kernel)
set_option maxRecDepth 100000 in
theorem lm_RX7_371 : Cond.methodLink RX7 371 yX7_never ∈ gk_tb := gk_tb_in 940 (by decide +kernel) (by decide +kernel)
set_option maxRecDepth 100000 in
theorem lm_RX7_374 : Cond.methodLink RX7 374 yX7_years ∈ gk_tb := gk_tb_in 941 (by decide +kernel) (by decide +kernel)
set_option maxRecDepth 100000 in
theorem lm_RX7_377 : Cond.methodLink RX7 377 yX7_count ∈ gk_tb := gk_tb_in 913 (by decide +kernel) (by decide +kernel)
set_option maxRecDepth 100000 in
theorem lm_RX7_380 : Cond.methodLink RX7 380 yX7_fault ∈ gk_tb := gk_tb_in 918 (by decide +kernel) (by decide +kernel)
set_option maxRecDepth 100000 in
theorem lm_RX7_382 : Cond.methodLink RX7 382 yX7_coming ∈ gk_tb := gk_tb_in 919 (by decide +kernel) (by decide +kernel)
set_option maxRecDepth 100000 in
theorem lm_RX7_385 : Cond.methodLink RX7 385 yX7_speed ∈ gk_tb := gk_tb_in 920 (by decide +kernel) (by decide +kernel)
set_option maxRecDepth 100000 in
theorem lm_RX7_388 : Cond.methodLink RX7 388 yX7_waits ∈ gk_tb := gk_tb_in 921 (by decide +kernel) (by decide +kernel)
set_option maxRecDepth 100000 in
theorem lm_RX7_393 : Cond.methodLink RX7 393 yX6_parse ∈ gk_tb := gk_tb_in 426 (by decide +kernel) (by decide +kernel)
set_option maxRecDepth 100000 in
theorem lm_RX7_397 : Cond.methodLink RX7 397 yX7_faultOfSpeed ∈ gk_tb := gk_tb_in 527 (by decide +kernel) (by decide +kernel)
set_option maxRecDepth 100000 in
theorem lm_RX7_406 : Cond.methodLink RX7 406 yX1_takeCars ∈ gk_tb := gk_tb_in 618 (by decide +kernel) (by decide +kernel)
set_option maxRecDepth 100000 in
theorem lm_RX7_410 : Cond.methodLink RX7 410 yX1_takeComings ∈ gk_tb := gk_tb_in 623 (by decide +kernel) (by decide +kernel)
set_option maxRecDepth 100000 in
theorem lm_RX7_416 : Cond.methodLink RX7 416 yX7_nobodyLeftWithout ∈ gk_tb := gk_tb_in 758 (by decide +kernel) (by decide +kernel)
set_option maxRecDepth 100000 in
theorem lm_RX7_419 : Cond.methodLink RX7 419 yX4_agreeWith ∈ gk_tb := gk_tb_in 796 (by decide +kernel) (by decide +kernel)
set_option maxRecDepth 100000 in
theorem lm_RX7_429 : Cond.methodLink RX7 429 yX2_crowdKey ∈ gk_tb := gk_tb_in 820 (by decide +kernel) (by decide +kernel)
set_option maxRecDepth 100000 in
theorem lm_RX7_432 : Cond.methodLink RX7 432 yJ9_max_7cf53 ∈ gk_tb := gk_tb_in 828 (by decide +kernel) (by decide +kernel)
set_option maxRecDepth 100000 in
theorem lm_RX7_435 : Cond.methodLink RX7 435 yX7_sharesOf ∈ gk_tb := gk_tb_in 838 (by decide +kernel) (by decide +kernel)
set_option maxRecDepth 100000 in
theorem lm_RX0_33 : Cond.methodLink RX0 33 yX0_hasSpace ∈ gk_tb := gk_tb_in 588 (by decide +kernel) (by decide +kernel)
set_option maxRecDepth 100000 in
theorem lm_RX1_48 : Cond.methodLink RX1 48 yJ9_min_7cf53 ∈ gk_tb := gk_tb_in 622 (by decide +kernel) (by decide +kernel)
set_option maxRecDepth 100000 in
theorem lm_RX1_63 : Cond.methodLink RX1 63 yJ7_fill_53178 ∈ gk_tb := gk_tb_in 627 (by decide +kernel) (by decide +kernel)
set_option maxRecDepth 100000 in
theorem lm_RX1_81 : Cond.methodLink RX1 81 yX1_takeEvent ∈ gk_tb := gk_tb_in 634 (by decide +kernel) (by decide +kernel)
set_option maxRecDepth 100000 in
theorem lm_RX2_54 : Cond.methodLink RX2 54 yX2_start ∈ gk_tb := gk_tb_in 642 (by decide +kernel) (by decide +kernel)
set_option maxRecDepth 100000 in
theorem lm_RX2_63 : Cond.methodLink RX2 63 yX1_places ∈ gk_tb := gk_tb_in 646 (by decide +kernel) (by decide +kernel)
set_option maxRecDepth 100000 in
theorem lm_RX2_67 : Cond.methodLink RX2 67 yX2_goOn ∈ gk_tb := gk_tb_in 650 (by decide +kernel) (by decide +kernel)
set_option maxRecDepth 100000 in
theorem lm_RX2_71 : Cond.methodLink RX2 71 yX2_stand ∈ gk_tb := gk_tb_in 675 (by decide +kernel) (by decide +kernel)
set_option maxRecDepth 100000 in
theorem lm_RX2_75 : Cond.methodLink RX2 75 yX2_note ∈ gk_tb := gk_tb_in 679 (by decide +kernel) (by decide +kernel)
set_option maxRecDepth 100000 in
theorem lm_RX2_81 : Cond.methodLink RX2 81 yX2_stationAt ∈ gk_tb := gk_tb_in 654 (by decide +kernel) (by decide +kernel)
set_option maxRecDepth 100000 in
theorem lm_RX2_84 : Cond.methodLink RX2 84 yX1_isClosed ∈ gk_tb := gk_tb_in 657 (by decide +kernel) (by decide +kernel)
set_option maxRecDepth 100000 in
theorem lm_RX2_88 : Cond.methodLink RX2 88 yX2_letOut ∈ gk_tb := gk_tb_in 661 (by decide +kernel) (by decide +kernel)
set_option maxRecDepth 100000 in
theorem lm_RX2_92 : Cond.methodLink RX2 92 yX1_roomIn ∈ gk_tb := gk_tb_in 665 (by decide +kernel) (by decide +kernel)
set_option maxRecDepth 100000 in
theorem lm_RX2_95 : Cond.methodLink RX2 95 yX2_letIn ∈ gk_tb := gk_tb_in 669 (by decide +kernel) (by decide +kernel)
set_option maxRecDepth 100000 in
theorem lm_RX2_98 : Cond.methodLink RX2 98 yJ9_max_7cf53 ∈ gk_tb := gk_tb_in 674 (by decide +kernel) (by decide +kernel)
set_option maxRecDepth 100000 in
theorem lm_RX2_104 : Cond.methodLink RX2 104 yJ9_min_7cf53 ∈ gk_tb := gk_tb_in 673 (by decide +kernel) (by decide +kernel)
set_option maxRecDepth 100000 in
theorem lm_RX3_26 : Cond.methodLink RX3 26 yJ7_fill_53178 ∈ gk_tb := gk_tb_in 859 (by decide +kernel) (by decide +kernel)
set_option maxRecDepth 100000 in
theorem lm_RX3_32 : Cond.methodLink RX3 32 yJ9_min_7cf53 ∈ gk_tb := gk_tb_in 860 (by decide +kernel) (by decide +kernel)
set_option maxRecDepth 100000 in
theorem lm_RX3_38 : Cond.methodLink RX3 38 yJ9_max_7cf53 ∈ gk_tb := gk_tb_in 861 (by decide +kernel) (by decide +kernel)
set_option maxRecDepth 100000 in
theorem lm_RX3_41 : Cond.methodLink RX3 41 yX3_hasRun ∈ gk_tb := gk_tb_in 874 (by decide +kernel) (by decide +kernel)
set_option maxRecDepth 100000 in
theorem lm_RX4_25 : Cond.methodLink RX4 25 yX4_hasSpace ∈ gk_tb := gk_tb_in 783 (by decide +kernel) (by decide +kernel)
set_option maxRecDepth 100000 in
theorem lm_RX5_19 : Cond.methodLink RX5 19 yJ9_min_7cf53 ∈ gk_tb := gk_tb_in 117 (by decide +kernel) (by decide +kernel)
set_option maxRecDepth 100000 in
theorem lm_RX5_28 : Cond.methodLink RX5 28 yX5_hasSpace ∈ gk_tb := gk_tb_in 421 (by decide +kernel) (by decide +kernel)
set_option maxRecDepth 100000 in
theorem lm_RX6_32 : Cond.methodLink RX6 32 yJ9_min_7cf53 ∈ gk_tb := gk_tb_in 142 (by decide +kernel) (by decide +kernel)
set_option maxRecDepth 100000 in
theorem lm_RX6_45 : Cond.methodLink RX6 45 yX6_faultIn ∈ gk_tb := gk_tb_in 430 (by decide +kernel) (by decide +kernel)
set_option maxRecDepth 100000 in
theorem lm_RX6_57 : Cond.methodLink RX6 57 yJ0_indexOf_0f7a4 ∈ gk_tb := gk_tb_in 443 (by decide +kernel) (by decide +kernel)
set_option maxRecDepth 100000 in
theorem lm_RX6_63 : Cond.methodLink RX6 63 yX6_goesOn ∈ gk_tb := gk_tb_in 434 (by decide +kernel) (by decide +kernel)
set_option maxRecDepth 100000 in
theorem lm_RX6_71 : Cond.methodLink RX6 71 yX6_isTaken ∈ gk_tb := gk_tb_in 439 (by decide +kernel) (by decide +kernel)
set_option maxRecDepth 100000 in
theorem lm_RL_9 : Cond.methodLink RL 9 yX7_init ∈ gk_tb := gk_tb_in 105 (by decide +kernel) (by decide +kernel)
set_option maxRecDepth 100000 in
theorem lm_RL_12 : Cond.methodLink RL 12 yX8_init ∈ gk_tb := gk_tb_in 944 (by decide +kernel) (by decide +kernel)
set_option maxRecDepth 100000 in
theorem lm_RL_13 : Cond.methodLink RL 13 yX7_type ∈ gk_tb := gk_tb_in 402 (by decide +kernel) (by decide +kernel)
set_option maxRecDepth 100000 in
theorem lm_RL_17 : Cond.methodLink RL 17 yX8_type ∈ gk_tb := gk_tb_in 1093 (by decide +kernel) (by decide +kernel)
set_option maxRecDepth 100000 in
theorem lm_RL_18 : Cond.methodLink RL 18 yX7_wipe ∈ gk_tb := gk_tb_in 531 (by decide +kernel) (by decide +kernel)
set_option maxRecDepth 100000 in
theorem lm_RL_22 : Cond.methodLink RL 22 yX8_wipe ∈ gk_tb := gk_tb_in 1106 (by decide +kernel) (by decide +kernel)
set_option maxRecDepth 100000 in
theorem lm_RL_23 : Cond.methodLink RL 23 yX7_undo ∈ gk_tb := gk_tb_in 535 (by decide +kernel) (by decide +kernel)
set_option maxRecDepth 100000 in
theorem lm_RL_26 : Cond.methodLink RL 26 yX8_undo ∈ gk_tb := gk_tb_in 1110 (by decide +kernel) (by decide +kernel)
set_option maxRecDepth 100000 in
theorem lm_RL_27 : Cond.methodLink RL 27 yX7_fault ∈ gk_tb := gk_tb_in 539 (by decide +kernel) (by decide +kernel)
set_option maxRecDepth 100000 in
theorem lm_RL_30 : Cond.methodLink RL 30 yX8_fault ∈ gk_tb := gk_tb_in 1114 (by decide +kernel) (by decide +kernel)
set_option maxRecDepth 100000 in
theorem lm_RL_31 : Cond.methodLink RL 31 yX7_car ∈ gk_tb := gk_tb_in 543 (by decide +kernel) (by decide +kernel)
set_option maxRecDepth 100000 in
theorem lm_RL_34 : Cond.methodLink RL 34 yX8_car ∈ gk_tb := gk_tb_in 1149 (by decide +kernel) (by decide +kernel)
set_option maxRecDepth 100000 in
theorem lm_RL_35 : Cond.methodLink RL 35 yX7_coming ∈ gk_tb := gk_tb_in 555 (by decide +kernel) (by decide +kernel)
set_option maxRecDepth 100000 in
theorem lm_RL_38 : Cond.methodLink RL 38 yX8_coming ∈ gk_tb := gk_tb_in 1168 (by decide +kernel) (by decide +kernel)
set_option maxRecDepth 100000 in
theorem lm_RL_39 : Cond.methodLink RL 39 yX7_speed ∈ gk_tb := gk_tb_in 559 (by decide +kernel) (by decide +kernel)
set_option maxRecDepth 100000 in
theorem lm_RL_42 : Cond.methodLink RL 42 yX8_speed ∈ gk_tb := gk_tb_in 1176 (by decide +kernel) (by decide +kernel)
set_option maxRecDepth 100000 in
theorem lm_RL_43 : Cond.methodLink RL 43 yX7_event ∈ gk_tb := gk_tb_in 570 (by decide +kernel) (by decide +kernel)
set_option maxRecDepth 100000 in
theorem lm_RL_47 : Cond.methodLink RL 47 yX8_event ∈ gk_tb := gk_tb_in 1184 (by decide +kernel) (by decide +kernel)
set_option maxRecDepth 100000 in
theorem lm_RL_48 : Cond.methodLink RL 48 yX7_back ∈ gk_tb := gk_tb_in 589 (by decide +kernel) (by decide +kernel)
set_option maxRecDepth 100000 in
theorem lm_RL_52 : Cond.methodLink RL 52 yX8_back ∈ gk_tb := gk_tb_in 1188 (by decide +kernel) (by decide +kernel)
set_option maxRecDepth 100000 in
theorem lm_RL_53 : Cond.methodLink RL 53 yX7_read ∈ gk_tb := gk_tb_in 593 (by decide +kernel) (by decide +kernel)
set_option maxRecDepth 100000 in
theorem lm_RL_56 : Cond.methodLink RL 56 yX8_read ∈ gk_tb := gk_tb_in 1192 (by decide +kernel) (by decide +kernel)
set_option maxRecDepth 100000 in
theorem lm_RL_57 : Cond.methodLink RL 57 yX7_at ∈ gk_tb := gk_tb_in 606 (by decide +kernel) (by decide +kernel)
set_option maxRecDepth 100000 in
theorem lm_RL_60 : Cond.methodLink RL 60 yX8_at ∈ gk_tb := gk_tb_in 1204 (by decide +kernel) (by decide +kernel)
set_option maxRecDepth 100000 in
theorem lm_RL_61 : Cond.methodLink RL 61 yX7_waits ∈ gk_tb := gk_tb_in 683 (by decide +kernel) (by decide +kernel)
set_option maxRecDepth 100000 in
theorem lm_RL_64 : Cond.methodLink RL 64 yX8_waits ∈ gk_tb := gk_tb_in 1254 (by decide +kernel) (by decide +kernel)
set_option maxRecDepth 100000 in
theorem lm_RL_65 : Cond.methodLink RL 65 yX7_over ∈ gk_tb := gk_tb_in 691 (by decide +kernel) (by decide +kernel)
set_option maxRecDepth 100000 in
theorem lm_RL_68 : Cond.methodLink RL 68 yX8_over ∈ gk_tb := gk_tb_in 1262 (by decide +kernel) (by decide +kernel)
set_option maxRecDepth 100000 in
theorem lm_RL_69 : Cond.methodLink RL 69 yX7_sum ∈ gk_tb := gk_tb_in 698 (by decide +kernel) (by decide +kernel)
set_option maxRecDepth 100000 in
theorem lm_RL_72 : Cond.methodLink RL 72 yX8_sum ∈ gk_tb := gk_tb_in 1270 (by decide +kernel) (by decide +kernel)
set_option maxRecDepth 100000 in
theorem lm_RL_73 : Cond.methodLink RL 73 yX7_crowd ∈ gk_tb := gk_tb_in 706 (by decide +kernel) (by decide +kernel)
set_option maxRecDepth 100000 in
theorem lm_RL_76 : Cond.methodLink RL 76 yX8_crowd ∈ gk_tb := gk_tb_in 1278 (by decide +kernel) (by decide +kernel)
set_option maxRecDepth 100000 in
theorem lm_RL_77 : Cond.methodLink RL 77 yX7_first ∈ gk_tb := gk_tb_in 710 (by decide +kernel) (by decide +kernel)
set_option maxRecDepth 100000 in
theorem lm_RL_80 : Cond.methodLink RL 80 yX8_first ∈ gk_tb := gk_tb_in 1286 (by decide +kernel) (by decide +kernel)
set_option maxRecDepth 100000 in
theorem lm_RL_81 : Cond.methodLink RL 81 yX7_carried ∈ gk_tb := gk_tb_in 714 (by decide +kernel) (by decide +kernel)
set_option maxRecDepth 100000 in
theorem lm_RL_84 : Cond.methodLink RL 84 yX8_carried ∈ gk_tb := gk_tb_in 1294 (by decide +kernel) (by decide +kernel)
set_option maxRecDepth 100000 in
theorem lm_RL_85 : Cond.methodLink RL 85 yX7_idle ∈ gk_tb := gk_tb_in 718 (by decide +kernel) (by decide +kernel)
set_option maxRecDepth 100000 in
theorem lm_RL_88 : Cond.methodLink RL 88 yX8_idle ∈ gk_tb := gk_tb_in 1302 (by decide +kernel) (by decide +kernel)
set_option maxRecDepth 100000 in
theorem lm_RL_89 : Cond.methodLink RL 89 yX7_left ∈ gk_tb := gk_tb_in 722 (by decide +kernel) (by decide +kernel)
set_option maxRecDepth 100000 in
theorem lm_RL_92 : Cond.methodLink RL 92 yX8_left ∈ gk_tb := gk_tb_in 1310 (by decide +kernel) (by decide +kernel)
set_option maxRecDepth 100000 in
theorem lm_RL_93 : Cond.methodLink RL 93 yX7_hang ∈ gk_tb := gk_tb_in 734 (by decide +kernel) (by decide +kernel)
set_option maxRecDepth 100000 in
theorem lm_RL_96 : Cond.methodLink RL 96 yX8_hang ∈ gk_tb := gk_tb_in 1322 (by decide +kernel) (by decide +kernel)
set_option maxRecDepth 100000 in
theorem lm_RL_97 : Cond.methodLink RL 97 yX7_pace ∈ gk_tb := gk_tb_in 742 (by decide +kernel) (by decide +kernel)
set_option maxRecDepth 100000 in
theorem lm_RL_100 : Cond.methodLink RL 100 yX8_pace ∈ gk_tb := gk_tb_in 1338 (by decide +kernel) (by decide +kernel)
set_option maxRecDepth 100000 in
theorem lm_RL_101 : Cond.methodLink RL 101 yX7_cheap ∈ gk_tb := gk_tb_in 746 (by decide +kernel) (by decide +kernel)
set_option maxRecDepth 100000 in
theorem lm_RL_104 : Cond.methodLink RL 104 yX8_cheap ∈ gk_tb := gk_tb_in 1346 (by decide +kernel) (by decide +kernel)
set_option maxRecDepth 100000 in
theorem lm_RL_105 : Cond.methodLink RL 105 yX7_spare ∈ gk_tb := gk_tb_in 750 (by decide +kernel) (by decide +kernel)
set_option maxRecDepth 100000 in
theorem lm_RL_108 : Cond.methodLink RL 108 yX8_spare ∈ gk_tb := gk_tb_in 1354 (by decide +kernel) (by decide +kernel)
set_option maxRecDepth 100000 in
theorem lm_RL_109 : Cond.methodLink RL 109 yX7_seen ∈ gk_tb := gk_tb_in 771 (by decide +kernel) (by decide +kernel)
set_option maxRecDepth 100000 in
theorem lm_RL_112 : Cond.methodLink RL 112 yX8_seen ∈ gk_tb := gk_tb_in 1370 (by decide +kernel) (by decide +kernel)
set_option maxRecDepth 100000 in
theorem lm_RL_113 : Cond.methodLink RL 113 yX7_forget ∈ gk_tb := gk_tb_in 784 (by decide +kernel) (by decide +kernel)
set_option maxRecDepth 100000 in
theorem lm_RL_116 : Cond.methodLink RL 116 yX8_forget ∈ gk_tb := gk_tb_in 1374 (by decide +kernel) (by decide +kernel)
set_option maxRecDepth 100000 in
theorem lm_RL_117 : Cond.methodLink RL 117 yX7_never ∈ gk_tb := gk_tb_in 788 (by decide +kernel) (by decide +kernel)
set_option maxRecDepth 100000 in
theorem lm_RL_120 : Cond.methodLink RL 120 yX8_never ∈ gk_tb := gk_tb_in 1378 (by decide +kernel) (by decide +kernel)
set_option maxRecDepth 100000 in
theorem lm_RL_121 : Cond.methodLink RL 121 yX7_was ∈ gk_tb := gk_tb_in 800 (by decide +kernel) (by decide +kernel)
set_option maxRecDepth 100000 in
theorem lm_RL_124 : Cond.methodLink RL 124 yX8_was ∈ gk_tb := gk_tb_in 1390 (by decide +kernel) (by decide +kernel)
set_option maxRecDepth 100000 in
theorem lm_RL_125 : Cond.methodLink RL 125 yX7_ask ∈ gk_tb := gk_tb_in 812 (by decide +kernel) (by decide +kernel)
set_option maxRecDepth 100000 in
theorem lm_RL_128 : Cond.methodLink RL 128 yX8_ask ∈ gk_tb := gk_tb_in 1402 (by decide +kernel) (by decide +kernel)
set_option maxRecDepth 100000 in
theorem lm_RL_129 : Cond.methodLink RL 129 yX7_chance ∈ gk_tb := gk_tb_in 829 (by decide +kernel) (by decide +kernel)
set_option maxRecDepth 100000 in
theorem lm_RL_133 : Cond.methodLink RL 133 yX8_chance ∈ gk_tb := gk_tb_in 1410 (by decide +kernel) (by decide +kernel)
set_option maxRecDepth 100000 in
theorem lm_RL_134 : Cond.methodLink RL 134 yX7_years ∈ gk_tb := gk_tb_in 843 (by decide +kernel) (by decide +kernel)
set_option maxRecDepth 100000 in
theorem lm_RL_137 : Cond.methodLink RL 137 yX8_years ∈ gk_tb := gk_tb_in 1425 (by decide +kernel) (by decide +kernel)
set_option maxRecDepth 100000 in
theorem lm_RL_138 : Cond.methodLink RL 138 yX7_sheet ∈ gk_tb := gk_tb_in 848 (by decide +kernel) (by decide +kernel)
set_option maxRecDepth 100000 in
theorem lm_RL_141 : Cond.methodLink RL 141 yX8_sheet ∈ gk_tb := gk_tb_in 1434 (by decide +kernel) (by decide +kernel)
set_option maxRecDepth 100000 in
theorem lm_RL_142 : Cond.methodLink RL 142 yX7_lose ∈ gk_tb := gk_tb_in 862 (by decide +kernel) (by decide +kernel)
set_option maxRecDepth 100000 in
theorem lm_RL_145 : Cond.methodLink RL 145 yX8_lose ∈ gk_tb := gk_tb_in 1438 (by decide +kernel) (by decide +kernel)
set_option maxRecDepth 100000 in
theorem lm_RL_146 : Cond.methodLink RL 146 yX7_put ∈ gk_tb := gk_tb_in 866 (by decide +kernel) (by decide +kernel)
set_option maxRecDepth 100000 in
theorem lm_RL_150 : Cond.methodLink RL 150 yX8_put ∈ gk_tb := gk_tb_in 1442 (by decide +kernel) (by decide +kernel)
set_option maxRecDepth 100000 in
theorem lm_RL_151 : Cond.methodLink RL 151 yX7_get ∈ gk_tb := gk_tb_in 882 (by decide +kernel) (by decide +kernel)
set_option maxRecDepth 100000 in
theorem lm_RL_154 : Cond.methodLink RL 154 yX8_get ∈ gk_tb := gk_tb_in 1454 (by decide +kernel) (by decide +kernel)
set_option maxRecDepth 100000 in
theorem lm_RL_155 : Cond.methodLink RL 155 yX7_copy ∈ gk_tb := gk_tb_in 887 (by decide +kernel) (by decide +kernel)
set_option maxRecDepth 100000 in
theorem lm_RL_159 : Cond.methodLink RL 159 yX8_copy ∈ gk_tb := gk_tb_in 1459 (by decide +kernel) (by decide +kernel)
set_option maxRecDepth 100000 in
theorem lm_RL_160 : Cond.methodLink RL 160 yX7_write ∈ gk_tb := gk_tb_in 895 (by decide +kernel) (by decide +kernel)
set_option maxRecDepth 100000 in
theorem lm_RL_163 : Cond.methodLink RL 163 yX8_write ∈ gk_tb := gk_tb_in 1463 (by decide +kernel) (by decide +kernel)
set_option maxRecDepth 100000 in
theorem lm_RL_164 : Cond.methodLink RL 164 yX7_count ∈ gk_tb := gk_tb_in 900 (by decide +kernel) (by decide +kernel)
set_option maxRecDepth 100000 in
theorem lm_RL_167 : Cond.methodLink RL 167 yX8_count ∈ gk_tb := gk_tb_in 1467 (by decide +kernel) (by decide +kernel)
set_option maxRecDepth 100000 in
theorem lm_RL_168 : Cond.methodLink RL 168 yX7_digest ∈ gk_tb := gk_tb_in 904 (by decide +kernel) (by decide +kernel)
set_option maxRecDepth 100000 in
theorem lm_RL_172 : Cond.methodLink RL 172 yX8_digest ∈ gk_tb := gk_tb_in 1475 (by decide +kernel) (by decide +kernel)
set_option maxRecDepth 100000 in
theorem lm_RX8_112 : Cond.methodLink RX8 112 yX8_in ∈ gk_tb := gk_tb_in 1100 (by decide +kernel) (by decide +kernel)
set_option maxRecDepth 100000 in
theorem lm_RX8_116 : Cond.methodLink RX8 116 yX8_isText ∈ gk_tb := gk_tb_in 1097 (by decide +kernel) (by decide +kernel)
set_option maxRecDepth 100000 in
theorem lm_RX8_120 : Cond.methodLink RX8 120 yX8_roomOf ∈ gk_tb := gk_tb_in 1103 (by decide +kernel) (by decide +kernel)
set_option maxRecDepth 100000 in
theorem lm_RX8_124 : Cond.methodLink RX8 124 yX8_byteAt ∈ gk_tb := gk_tb_in 1130 (by decide +kernel) (by decide +kernel)
set_option maxRecDepth 100000 in
theorem lm_RX8_128 : Cond.methodLink RX8 128 yX8_isTaken ∈ gk_tb := gk_tb_in 1134 (by decide +kernel) (by decide +kernel)
set_option maxRecDepth 100000 in
theorem lm_RX8_132 : Cond.methodLink RX8 132 yX8_isMoment ∈ gk_tb := gk_tb_in 1142 (by decide +kernel) (by decide +kernel)
set_option maxRecDepth 100000 in
theorem lm_RX8_142 : Cond.methodLink RX8 142 yX8_readsCar ∈ gk_tb := gk_tb_in 1126 (by decide +kernel) (by decide +kernel)
set_option maxRecDepth 100000 in
theorem lm_RX8_145 : Cond.methodLink RX8 145 yX8_readsComing ∈ gk_tb := gk_tb_in 1138 (by decide +kernel) (by decide +kernel)
set_option maxRecDepth 100000 in
theorem lm_RX8_151 : Cond.methodLink RX8 151 yX8_readsParts ∈ gk_tb := gk_tb_in 1122 (by decide +kernel) (by decide +kernel)
set_option maxRecDepth 100000 in
theorem lm_RX8_154 : Cond.methodLink RX8 154 yX8_readsSpeed ∈ gk_tb := gk_tb_in 1145 (by decide +kernel) (by decide +kernel)
set_option maxRecDepth 100000 in
theorem lm_RX8_158 : Cond.methodLink RX8 158 yX8_faultOf ∈ gk_tb := gk_tb_in 1118 (by decide +kernel) (by decide +kernel)
set_option maxRecDepth 100000 in
theorem lm_RX8_161 : Cond.methodLink RX8 161 yX8_reads ∈ gk_tb := gk_tb_in 1157 (by decide +kernel) (by decide +kernel)
set_option maxRecDepth 100000 in
theorem lm_RX8_164 : Cond.methodLink RX8 164 yX8_isCar ∈ gk_tb := gk_tb_in 1153 (by decide +kernel) (by decide +kernel)
set_option maxRecDepth 100000 in
theorem lm_RX8_167 : Cond.methodLink RX8 167 yX8_isThree ∈ gk_tb := gk_tb_in 1161 (by decide +kernel) (by decide +kernel)
set_option maxRecDepth 100000 in
theorem lm_RX8_170 : Cond.methodLink RX8 170 yX8_carOf ∈ gk_tb := gk_tb_in 1164 (by decide +kernel) (by decide +kernel)
set_option maxRecDepth 100000 in
theorem lm_RX8_173 : Cond.methodLink RX8 173 yX8_comingOf ∈ gk_tb := gk_tb_in 1172 (by decide +kernel) (by decide +kernel)
set_option maxRecDepth 100000 in
theorem lm_RX8_176 : Cond.methodLink RX8 176 yX8_speedOf ∈ gk_tb := gk_tb_in 1180 (by decide +kernel) (by decide +kernel)
set_option maxRecDepth 100000 in
theorem lm_RX8_182 : Cond.methodLink RX8 182 yX8_isSheet ∈ gk_tb := gk_tb_in 1196 (by decide +kernel) (by decide +kernel)
set_option maxRecDepth 100000 in
theorem lm_RX8_185 : Cond.methodLink RX8 185 yX8_meets ∈ gk_tb := gk_tb_in 1199 (by decide +kernel) (by decide +kernel)
set_option maxRecDepth 100000 in
theorem lm_RX8_188 : Cond.methodLink RX8 188 yX8_event ∈ gk_tb := gk_tb_in 1203 (by decide +kernel) (by decide +kernel)
set_option maxRecDepth 100000 in
theorem lm_RX8_202 : Cond.methodLink RX8 202 yX8_isIn ∈ gk_tb := gk_tb_in 1235 (by decide +kernel) (by decide +kernel)
set_option maxRecDepth 100000 in
theorem lm_RX8_217 : Cond.methodLink RX8 217 yX8_getsOut ∈ gk_tb := gk_tb_in 1246 (by decide +kernel) (by decide +kernel)
set_option maxRecDepth 100000 in
theorem lm_RX8_221 : Cond.methodLink RX8 221 yX8_getsIn ∈ gk_tb := gk_tb_in 1250 (by decide +kernel) (by decide +kernel)
set_option maxRecDepth 100000 in
theorem lm_RX8_228 : Cond.methodLink RX8 228 yX8_befalls ∈ gk_tb := gk_tb_in 1231 (by decide +kernel) (by decide +kernel)
set_option maxRecDepth 100000 in
theorem lm_RX8_231 : Cond.methodLink RX8 231 yX8_goesOn ∈ gk_tb := gk_tb_in 1238 (by decide +kernel) (by decide +kernel)
set_option maxRecDepth 100000 in
theorem lm_RX8_234 : Cond.methodLink RX8 234 yX8_servesAll ∈ gk_tb := gk_tb_in 1242 (by decide +kernel) (by decide +kernel)
set_option maxRecDepth 100000 in
theorem lm_RX8_241 : Cond.methodLink RX8 241 yX8_goesBy ∈ gk_tb := gk_tb_in 1227 (by decide +kernel) (by decide +kernel)
set_option maxRecDepth 100000 in
theorem lm_RX8_244 : Cond.methodLink RX8 244 yX8_asTold ∈ gk_tb := gk_tb_in 1219 (by decide +kernel) (by decide +kernel)
set_option maxRecDepth 100000 in
theorem lm_RX8_247 : Cond.methodLink RX8 247 yX8_runs ∈ gk_tb := gk_tb_in 1223 (by decide +kernel) (by decide +kernel)
set_option maxRecDepth 100000 in
theorem lm_RX8_250 : Cond.methodLink RX8 250 yX8_runsTold ∈ gk_tb := gk_tb_in 1215 (by decide +kernel) (by decide +kernel)
set_option maxRecDepth 100000 in
theorem lm_RX8_253 : Cond.methodLink RX8 253 yX8_isTwo ∈ gk_tb := gk_tb_in 1208 (by decide +kernel) (by decide +kernel)
set_option maxRecDepth 100000 in
theorem lm_RX8_256 : Cond.methodLink RX8 256 yX8_atOf ∈ gk_tb := gk_tb_in 1211 (by decide +kernel) (by decide +kernel)
set_option maxRecDepth 100000 in
theorem lm_RX8_259 : Cond.methodLink RX8 259 yX8_waitsOf ∈ gk_tb := gk_tb_in 1258 (by decide +kernel) (by decide +kernel)
set_option maxRecDepth 100000 in
theorem lm_RX8_262 : Cond.methodLink RX8 262 yX8_overOf ∈ gk_tb := gk_tb_in 1266 (by decide +kernel) (by decide +kernel)
set_option maxRecDepth 100000 in
theorem lm_RX8_265 : Cond.methodLink RX8 265 yX8_sumOf ∈ gk_tb := gk_tb_in 1274 (by decide +kernel) (by decide +kernel)
set_option maxRecDepth 100000 in
theorem lm_RX8_268 : Cond.methodLink RX8 268 yX8_crowdOf ∈ gk_tb := gk_tb_in 1282 (by decide +kernel) (by decide +kernel)
set_option maxRecDepth 100000 in
theorem lm_RX8_271 : Cond.methodLink RX8 271 yX8_firstOf ∈ gk_tb := gk_tb_in 1290 (by decide +kernel) (by decide +kernel)
set_option maxRecDepth 100000 in
theorem lm_RX8_274 : Cond.methodLink RX8 274 yX8_carriedOf ∈ gk_tb := gk_tb_in 1298 (by decide +kernel) (by decide +kernel)
set_option maxRecDepth 100000 in
theorem lm_RX8_277 : Cond.methodLink RX8 277 yX8_idleOf ∈ gk_tb := gk_tb_in 1306 (by decide +kernel) (by decide +kernel)
set_option maxRecDepth 100000 in
theorem lm_RX8_280 : Cond.methodLink RX8 280 yX8_leftNow ∈ gk_tb := gk_tb_in 1318 (by decide +kernel) (by decide +kernel)
set_option maxRecDepth 100000 in
theorem lm_RX8_283 : Cond.methodLink RX8 283 yX8_leftOf ∈ gk_tb := gk_tb_in 1314 (by decide +kernel) (by decide +kernel)
set_option maxRecDepth 100000 in
theorem lm_RX8_286 : Cond.methodLink RX8 286 yX8_isOther ∈ gk_tb := gk_tb_in 1330 (by decide +kernel) (by decide +kernel)
set_option maxRecDepth 100000 in
theorem lm_RX8_289 : Cond.methodLink RX8 289 yX8_bothOver ∈ gk_tb := gk_tb_in 1334 (by decide +kernel) (by decide +kernel)
set_option maxRecDepth 100000 in
theorem lm_RX8_292 : Cond.methodLink RX8 292 yX8_hangOf ∈ gk_tb := gk_tb_in 1326 (by decide +kernel) (by decide +kernel)
set_option maxRecDepth 100000 in
theorem lm_RX8_295 : Cond.methodLink RX8 295 yX8_paceOf ∈ gk_tb := gk_tb_in 1342 (by decide +kernel) (by decide +kernel)
set_option maxRecDepth 100000 in
theorem lm_RX8_298 : Cond.methodLink RX8 298 yX8_cheapOf ∈ gk_tb := gk_tb_in 1350 (by decide +kernel) (by decide +kernel)
set_option maxRecDepth 100000 in
theorem lm_RX8_301 : Cond.methodLink RX8 301 yX8_isSpared ∈ gk_tb := gk_tb_in 1362 (by decide +kernel) (by decide +kernel)
set_option maxRecDepth 100000 in
theorem lm_RX8_304 : Cond.methodLink RX8 304 yX8_spareBy ∈ gk_tb := gk_tb_in 1358 (by decide +kernel) (by decide +kernel)
set_option maxRecDepth 100000 in
theorem lm_RX8_307 : Cond.methodLink RX8 307 yX8_ofRow ∈ gk_tb := gk_tb_in 1366 (by decide +kernel) (by decide +kernel)
set_option maxRecDepth 100000 in
theorem lm_RX8_313 : Cond.methodLink RX8 313 yX8_isSeen ∈ gk_tb := gk_tb_in 1386 (by decide +kernel) (by decide +kernel)
set_option maxRecDepth 100000 in
theorem lm_RX8_317 : Cond.methodLink RX8 317 yX8_neverNow ∈ gk_tb := gk_tb_in 1382 (by decide +kernel) (by decide +kernel)
set_option maxRecDepth 100000 in
theorem lm_RX8_320 : Cond.methodLink RX8 320 yX8_roomsBy ∈ gk_tb := gk_tb_in 1394 (by decide +kernel) (by decide +kernel)
set_option maxRecDepth 100000 in
theorem lm_RX8_323 : Cond.methodLink RX8 323 yX8_sortsBy ∈ gk_tb := gk_tb_in 1398 (by decide +kernel) (by decide +kernel)
set_option maxRecDepth 100000 in
theorem lm_RX8_326 : Cond.methodLink RX8 326 yX8_askOf ∈ gk_tb := gk_tb_in 1406 (by decide +kernel) (by decide +kernel)
set_option maxRecDepth 100000 in
theorem lm_RX8_329 : Cond.methodLink RX8 329 yX8_lowest ∈ gk_tb := gk_tb_in 1418 (by decide +kernel) (by decide +kernel)
set_option maxRecDepth 100000 in
theorem lm_RX8_333 : Cond.methodLink RX8 333 yX8_chanceOf ∈ gk_tb := gk_tb_in 1414 (by decide +kernel) (by decide +kernel)
set_option maxRecDepth 100000 in
theorem lm_RX8_337 : Cond.methodLink RX8 337 yX8_no ∈ gk_tb := gk_tb_in 1421 (by decide +kernel) (by decide +kernel)
set_option maxRecDepth 100000 in
theorem lm_RX8_342 : Cond.methodLink RX8 342 yX8_yearsOf ∈ gk_tb := gk_tb_in 1429 (by decide +kernel) (by decide +kernel)
set_option maxRecDepth 100000 in
theorem lm_RX8_348 : Cond.methodLink RX8 348 yX8_lacks ∈ gk_tb := gk_tb_in 1446 (by decide +kernel) (by decide +kernel)
set_option maxRecDepth 100000 in
theorem lm_RX8_351 : Cond.methodLink RX8 351 yX8_keep ∈ gk_tb := gk_tb_in 1450 (by decide +kernel) (by decide +kernel)
set_option maxRecDepth 100000 in
theorem lm_RX8_356 : Cond.methodLink RX8 356 yX8_tellOf ∈ gk_tb := gk_tb_in 1471 (by decide +kernel) (by decide +kernel)
set_option maxRecDepth 100000 in
theorem lm_RX8_361 : Cond.methodLink RX8 361 yX8_atDigest ∈ gk_tb := gk_tb_in 1490 (by decide +kernel) (by decide +kernel)
set_option maxRecDepth 100000 in
theorem lm_RX8_367 : Cond.methodLink RX8 367 yX8_count ∈ gk_tb := gk_tb_in 1481 (by decide +kernel) (by decide +kernel)
set_option maxRecDepth 100000 in
theorem lm_RX8_370 : Cond.methodLink RX8 370 yX8_momentDigest ∈ gk_tb := gk_tb_in 1482 (by decide +kernel) (by decide +kernel)
set_option maxRecDepth 100000 in
theorem lm_RX8_374 : Cond.methodLink RX8 374 yX8_carDigest ∈ gk_tb := gk_tb_in 1486 (by decide +kernel) (by decide +kernel)
set_option maxRecDepth 100000 in
theorem lm_RJ0_335 : Cond.methodLink RJ0 335 yJ0_coder_7d493 ∈ gk_tb := gk_tb_in 461 (by decide +kernel) (by decide +kernel)
set_option maxRecDepth 100000 in
theorem lm_RJ0_492 : Cond.methodLink RJ0 492 yJ0_isLatin1_aae02 ∈ gk_tb := gk_tb_in 451 (by decide +kernel) (by decide +kernel)
set_option maxRecDepth 100000 in
theorem lm_RJ0_505 : Cond.methodLink RJ0 505 yJ0_length_8abf5 ∈ gk_tb := gk_tb_in 457 (by decide +kernel) (by decide +kernel)
set_option maxRecDepth 100000 in
theorem lm_RJ0_633 : Cond.methodLink RJ0 633 yJ0_indexOf_7cf53 ∈ gk_tb := gk_tb_in 447 (by decide +kernel) (by decide +kernel)
set_option maxRecDepth 100000 in
theorem lm_RJ0_637 : Cond.methodLink RJ0 637 yJ1_indexOf_4cfef ∈ gk_tb := gk_tb_in 465 (by decide +kernel) (by decide +kernel)
set_option maxRecDepth 100000 in
theorem lm_RJ0_640 : Cond.methodLink RJ0 640 yJ2_indexOf_4cfef ∈ gk_tb := gk_tb_in 478 (by decide +kernel) (by decide +kernel)
set_option maxRecDepth 100000 in
theorem lm_RJ0_1062 : Cond.methodLink RJ0 1062 yJ3_checkFromToIndex_8c36e ∈ gk_tb := gk_tb_in 498 (by decide +kernel) (by decide +kernel)
set_option maxRecDepth 100000 in
theorem lm_RJ1_38 : Cond.methodLink RJ1 38 yJ9_min_7cf53 ∈ gk_tb := gk_tb_in 474 (by decide +kernel) (by decide +kernel)
set_option maxRecDepth 100000 in
theorem lm_RJ1_88 : Cond.methodLink RJ1 88 yJ1_canEncode_9a6ad ∈ gk_tb := gk_tb_in 468 (by decide +kernel) (by decide +kernel)
set_option maxRecDepth 100000 in
theorem lm_RJ1_92 : Cond.methodLink RJ1 92 yJ9_max_7cf53 ∈ gk_tb := gk_tb_in 471 (by decide +kernel) (by decide +kernel)
set_option maxRecDepth 100000 in
theorem lm_RJ1_95 : Cond.methodLink RJ1 95 yJ1_indexOfChar_4cfef ∈ gk_tb := gk_tb_in 475 (by decide +kernel) (by decide +kernel)
set_option maxRecDepth 100000 in
theorem lm_RJ2_48 : Cond.methodLink RJ2 48 yJ2_length_9d52b ∈ gk_tb := gk_tb_in 490 (by decide +kernel) (by decide +kernel)
set_option maxRecDepth 100000 in
theorem lm_RJ2_71 : Cond.methodLink RJ2 71 yJ2_getChar_3b067 ∈ gk_tb := gk_tb_in 504 (by decide +kernel) (by decide +kernel)
set_option maxRecDepth 100000 in
theorem lm_RJ2_96 : Cond.methodLink RJ2 96 yJ2_checkBoundsBeginEnd_d044e ∈ gk_tb := gk_tb_in 487 (by decide +kernel) (by decide +kernel)
set_option maxRecDepth 100000 in
theorem lm_RJ2_157 : Cond.methodLink RJ2 157 yJ11_highSurrogate_5068e ∈ gk_tb := gk_tb_in 519 (by decide +kernel) (by decide +kernel)
set_option maxRecDepth 100000 in
theorem lm_RJ2_161 : Cond.methodLink RJ2 161 yJ11_lowSurrogate_5068e ∈ gk_tb := gk_tb_in 523 (by decide +kernel) (by decide +kernel)
set_option maxRecDepth 100000 in
theorem lm_RJ2_164 : Cond.methodLink RJ2 164 yJ11_isValidCodePoint_9a6ad ∈ gk_tb := gk_tb_in 516 (by decide +kernel) (by decide +kernel)
set_option maxRecDepth 100000 in
theorem lm_RJ2_183 : Cond.methodLink RJ2 183 yJ9_min_7cf53 ∈ gk_tb := gk_tb_in 482 (by decide +kernel) (by decide +kernel)
set_option maxRecDepth 100000 in
theorem lm_RJ2_224 : Cond.methodLink RJ2 224 yJ9_max_7cf53 ∈ gk_tb := gk_tb_in 481 (by decide +kernel) (by decide +kernel)
set_option maxRecDepth 100000 in
theorem lm_RJ2_228 : Cond.methodLink RJ2 228 yJ2_indexOfChar_4cfef ∈ gk_tb := gk_tb_in 484 (by decide +kernel) (by decide +kernel)
set_option maxRecDepth 100000 in
theorem lm_RJ2_232 : Cond.methodLink RJ2 232 yJ2_indexOfSupplementary_4cfef ∈ gk_tb := gk_tb_in 513 (by decide +kernel) (by decide +kernel)
set_option maxRecDepth 100000 in
theorem lm_RJ2_241 : Cond.methodLink RJ2 241 yJ0_checkBoundsBeginEnd_23922 ∈ gk_tb := gk_tb_in 493 (by decide +kernel) (by decide +kernel)
set_option maxRecDepth 100000 in
theorem lm_RJ2_244 : Cond.methodLink RJ2 244 yJ2_indexOfCharUnsafe_4cfef ∈ gk_tb := gk_tb_in 501 (by decide +kernel) (by decide +kernel)
