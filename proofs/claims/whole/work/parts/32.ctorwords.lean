theorem q_689 : ((.methodLink "EdgeCampaign$Input" 3 ⟨"java/lang/Object", "<init>", "()V"⟩) : Cond) ∈ tb := tb_in (List.mem_of_getElem? (i := 98) (by decide +kernel)) (by decide +kernel)
theorem q_690 : ((.instanceMethod ⟨"java/lang/Object", "<init>", "()V"⟩) : Cond) ∈ tb := tb_in (List.mem_of_getElem? (i := 68) (by decide +kernel)) (by decide +kernel)
theorem q_691 : ((.code objectInit ⟨#[0xb1]⟩ 1 none) : Cond) ∈ tb := tb_in (List.mem_of_getElem? (i := 69) (by decide +kernel)) (by decide +kernel)
theorem q_692 : ((.arrayClass .int) : Cond) ∈ tb := tb_in (List.mem_of_getElem? (i := 92) (by decide +kernel)) (by decide +kernel)
theorem q_693 : ((.methodLink "EdgeCampaign$Program" 3 ⟨"java/lang/Object", "<init>", "()V"⟩) : Cond) ∈ tb := tb_in (List.mem_of_getElem? (i := 75) (by decide +kernel)) (by decide +kernel)
theorem q_694 : ((.methodLink "EdgeCampaign$Run" 3 ⟨"java/lang/Object", "<init>", "()V"⟩) : Cond) ∈ tb := tb_in (List.mem_of_getElem? (i := 116) (by decide +kernel)) (by decide +kernel)
theorem q_695 : ((.methodLink "EdgeCampaign$Generator" 1 ⟨"java/lang/Object", "<init>", "()V"⟩) : Cond) ∈ tb := tb_in (List.mem_of_getElem? (i := 300) (by decide +kernel)) (by decide +kernel)
theorem q_696 : ((.methodLink "EdgeCampaign$Trials" 3 ⟨"java/lang/Object", "<init>", "()V"⟩) : Cond) ∈ tb := tb_in (List.mem_of_getElem? (i := 311) (by decide +kernel)) (by decide +kernel)
theorem q_697 : ((.methodLink "EdgeCampaign$Entry" 1 ⟨"java/lang/Object", "<init>", "()V"⟩) : Cond) ∈ tb := tb_in (List.mem_of_getElem? (i := 170) (by decide +kernel)) (by decide +kernel)
theorem q_698 : ((.classLink "EdgeCampaign$Entry" 7 "EdgeCampaign$Input") : Cond) ∈ tb := tb_in (List.mem_of_getElem? (i := 171) (by decide +kernel)) (by decide +kernel)
theorem q_699 : ((.instantiable "EdgeCampaign$Input" 2) : Cond) ∈ tb := tb_in (List.mem_of_getElem? (i := 94) (by decide +kernel)) (by decide +kernel)
theorem q_700 : ((.code y_IN_init b_IN_init 1 none) : Cond) ∈ tb := tb_in (List.mem_of_getElem? (i := 97) (by decide +kernel)) (by decide +kernel)
theorem q_701 : ((.instanceMethod ⟨"EdgeCampaign$Input", "<init>", "()V"⟩) : Cond) ∈ tb := tb_in (List.mem_of_getElem? (i := 96) (by decide +kernel)) (by decide +kernel)
theorem q_702 : ((.methodLink "EdgeCampaign$Finding" 1 ⟨"java/lang/Object", "<init>", "()V"⟩) : Cond) ∈ tb := tb_in (List.mem_of_getElem? (i := 235) (by decide +kernel)) (by decide +kernel)
theorem q_703 : ((.classLink "EdgeCampaign$Finding" 7 "EdgeCampaign$Input") : Cond) ∈ tb := tb_in (List.mem_of_getElem? (i := 236) (by decide +kernel)) (by decide +kernel)
theorem q_704 : ((.methodLink "EdgeCampaign$Shortener" 1 ⟨"java/lang/Object", "<init>", "()V"⟩) : Cond) ∈ tb := tb_in (List.mem_of_getElem? (i := 283) (by decide +kernel)) (by decide +kernel)
theorem q_705 : ((.classLink "EdgeCampaign$Shortener" 7 "EdgeCampaign$Run") : Cond) ∈ tb := tb_in (List.mem_of_getElem? (i := 284) (by decide +kernel)) (by decide +kernel)
theorem q_706 : ((.instantiable "EdgeCampaign$Run" 11) : Cond) ∈ tb := tb_in (List.mem_of_getElem? (i := 112) (by decide +kernel)) (by decide +kernel)
theorem q_707 : ((.code y_RU_init b_RU_init 1 none) : Cond) ∈ tb := tb_in (List.mem_of_getElem? (i := 115) (by decide +kernel)) (by decide +kernel)
theorem q_708 : ((.instanceMethod ⟨"EdgeCampaign$Run", "<init>", "()V"⟩) : Cond) ∈ tb := tb_in (List.mem_of_getElem? (i := 114) (by decide +kernel)) (by decide +kernel)
theorem q_709 : ((.classLink "EdgeCampaign$Shortener" 16 "EdgeCampaign$Input") : Cond) ∈ tb := tb_in (List.mem_of_getElem? (i := 286) (by decide +kernel)) (by decide +kernel)
theorem q_710 : ((.methodLink "EdgeCampaign$Store" 3 ⟨"java/lang/Object", "<init>", "()V"⟩) : Cond) ∈ tb := tb_in (List.mem_of_getElem? (i := 163) (by decide +kernel)) (by decide +kernel)
theorem q_711 : ((.classLink "EdgeCampaign$Store" 11 "EdgeCampaign$Entry") : Cond) ∈ tb := tb_in (List.mem_of_getElem? (i := 164) (by decide +kernel)) (by decide +kernel)
theorem q_712 : ((.code y_EN_init b_EN_init 1 none) : Cond) ∈ tb := tb_in (List.mem_of_getElem? (i := 169) (by decide +kernel)) (by decide +kernel)
theorem q_713 : ((.instantiable "EdgeCampaign$Entry" 4) : Cond) ∈ tb := tb_in (List.mem_of_getElem? (i := 166) (by decide +kernel)) (by decide +kernel)
theorem q_714 : ((.instanceMethod ⟨"EdgeCampaign$Entry", "<init>", "()V"⟩) : Cond) ∈ tb := tb_in (List.mem_of_getElem? (i := 168) (by decide +kernel)) (by decide +kernel)
theorem q_715 : ((.methodLink "EdgeCampaign$Findings" 1 ⟨"java/lang/Object", "<init>", "()V"⟩) : Cond) ∈ tb := tb_in (List.mem_of_getElem? (i := 228) (by decide +kernel)) (by decide +kernel)
theorem q_716 : ((.classLink "EdgeCampaign$Findings" 9 "EdgeCampaign$Finding") : Cond) ∈ tb := tb_in (List.mem_of_getElem? (i := 229) (by decide +kernel)) (by decide +kernel)
theorem q_717 : ((.code y_FI_init b_FI_init 1 none) : Cond) ∈ tb := tb_in (List.mem_of_getElem? (i := 234) (by decide +kernel)) (by decide +kernel)
theorem q_718 : ((.instantiable "EdgeCampaign$Finding" 7) : Cond) ∈ tb := tb_in (List.mem_of_getElem? (i := 231) (by decide +kernel)) (by decide +kernel)
theorem q_719 : ((.instanceMethod ⟨"EdgeCampaign$Finding", "<init>", "()V"⟩) : Cond) ∈ tb := tb_in (List.mem_of_getElem? (i := 233) (by decide +kernel)) (by decide +kernel)
theorem q_720 : ((.methodLink "EdgeCampaign" 1 ⟨"java/lang/Object", "<init>", "()V"⟩) : Cond) ∈ tb := tb_in (List.mem_of_getElem? (i := 67) (by decide +kernel)) (by decide +kernel)
theorem q_721 : ((.classLink "EdgeCampaign" 7 "EdgeCampaign$Program") : Cond) ∈ tb := tb_in (List.mem_of_getElem? (i := 70) (by decide +kernel)) (by decide +kernel)
theorem q_722 : ((.instantiable "EdgeCampaign$Program" 4) : Cond) ∈ tb := tb_in (List.mem_of_getElem? (i := 71) (by decide +kernel)) (by decide +kernel)
theorem q_723 : ((.code y_PR_init b_PR_init 1 none) : Cond) ∈ tb := tb_in (List.mem_of_getElem? (i := 74) (by decide +kernel)) (by decide +kernel)
theorem q_724 : ((.instanceMethod ⟨"EdgeCampaign$Program", "<init>", "()V"⟩) : Cond) ∈ tb := tb_in (List.mem_of_getElem? (i := 73) (by decide +kernel)) (by decide +kernel)
theorem q_725 : ((.classLink "EdgeCampaign" 16 "EdgeCampaign$Input") : Cond) ∈ tb := tb_in (List.mem_of_getElem? (i := 93) (by decide +kernel)) (by decide +kernel)
theorem q_726 : ((.classLink "EdgeCampaign" 26 "EdgeCampaign$Run") : Cond) ∈ tb := tb_in (List.mem_of_getElem? (i := 111) (by decide +kernel)) (by decide +kernel)
theorem q_727 : ((.classLink "EdgeCampaign" 33 "EdgeCampaign$Store") : Cond) ∈ tb := tb_in (List.mem_of_getElem? (i := 158) (by decide +kernel)) (by decide +kernel)
theorem q_728 : ((.instantiable "EdgeCampaign$Store" 7) : Cond) ∈ tb := tb_in (List.mem_of_getElem? (i := 159) (by decide +kernel)) (by decide +kernel)
theorem q_729 : ((.code y_ST_init b_ST_init 2 none) : Cond) ∈ tb := tb_in (List.mem_of_getElem? (i := 162) (by decide +kernel)) (by decide +kernel)
theorem q_730 : ((.methodLink "EdgeCampaign" 35 ⟨"EdgeCampaign$Store", "<init>", "()V"⟩) : Cond) ∈ tb := tb_in (List.mem_of_getElem? (i := 160) (by decide +kernel)) (by decide +kernel)
theorem q_731 : ((.instanceMethod ⟨"EdgeCampaign$Store", "<init>", "()V"⟩) : Cond) ∈ tb := tb_in (List.mem_of_getElem? (i := 161) (by decide +kernel)) (by decide +kernel)
theorem q_732 : ((.classLink "EdgeCampaign" 40 "EdgeCampaign$Findings") : Cond) ∈ tb := tb_in (List.mem_of_getElem? (i := 223) (by decide +kernel)) (by decide +kernel)
theorem q_733 : ((.instantiable "EdgeCampaign$Findings" 2) : Cond) ∈ tb := tb_in (List.mem_of_getElem? (i := 224) (by decide +kernel)) (by decide +kernel)
theorem q_734 : ((.code y_FS_init b_FS_init 2 none) : Cond) ∈ tb := tb_in (List.mem_of_getElem? (i := 227) (by decide +kernel)) (by decide +kernel)
theorem q_735 : ((.methodLink "EdgeCampaign" 42 ⟨"EdgeCampaign$Findings", "<init>", "()V"⟩) : Cond) ∈ tb := tb_in (List.mem_of_getElem? (i := 225) (by decide +kernel)) (by decide +kernel)
theorem q_736 : ((.instanceMethod ⟨"EdgeCampaign$Findings", "<init>", "()V"⟩) : Cond) ∈ tb := tb_in (List.mem_of_getElem? (i := 226) (by decide +kernel)) (by decide +kernel)
theorem q_737 : ((.classLink "EdgeCampaign" 47 "EdgeCampaign$Shortener") : Cond) ∈ tb := tb_in (List.mem_of_getElem? (i := 278) (by decide +kernel)) (by decide +kernel)
theorem q_738 : ((.instantiable "EdgeCampaign$Shortener" 2) : Cond) ∈ tb := tb_in (List.mem_of_getElem? (i := 279) (by decide +kernel)) (by decide +kernel)
theorem q_739 : ((.code y_SH_init b_SH_init 1 none) : Cond) ∈ tb := tb_in (List.mem_of_getElem? (i := 282) (by decide +kernel)) (by decide +kernel)
theorem q_740 : ((.instanceMethod ⟨"EdgeCampaign$Shortener", "<init>", "()V"⟩) : Cond) ∈ tb := tb_in (List.mem_of_getElem? (i := 281) (by decide +kernel)) (by decide +kernel)
theorem q_741 : ((.classLink "EdgeCampaign" 54 "EdgeCampaign$Generator") : Cond) ∈ tb := tb_in (List.mem_of_getElem? (i := 295) (by decide +kernel)) (by decide +kernel)
theorem q_742 : ((.instantiable "EdgeCampaign$Generator" 1) : Cond) ∈ tb := tb_in (List.mem_of_getElem? (i := 296) (by decide +kernel)) (by decide +kernel)
theorem q_743 : ((.code y_GE_init b_GE_init 2 none) : Cond) ∈ tb := tb_in (List.mem_of_getElem? (i := 299) (by decide +kernel)) (by decide +kernel)
theorem q_744 : ((.methodLink "EdgeCampaign" 56 ⟨"EdgeCampaign$Generator", "<init>", "(I)V"⟩) : Cond) ∈ tb := tb_in (List.mem_of_getElem? (i := 297) (by decide +kernel)) (by decide +kernel)
theorem q_745 : ((.instanceMethod ⟨"EdgeCampaign$Generator", "<init>", "(I)V"⟩) : Cond) ∈ tb := tb_in (List.mem_of_getElem? (i := 298) (by decide +kernel)) (by decide +kernel)
theorem q_746 : ((.classLink "EdgeCampaign" 63 "EdgeCampaign$Trials") : Cond) ∈ tb := tb_in (List.mem_of_getElem? (i := 306) (by decide +kernel)) (by decide +kernel)
theorem q_747 : ((.instantiable "EdgeCampaign$Trials" 3) : Cond) ∈ tb := tb_in (List.mem_of_getElem? (i := 307) (by decide +kernel)) (by decide +kernel)
theorem q_748 : ((.code y_TR_init b_TR_init 1 none) : Cond) ∈ tb := tb_in (List.mem_of_getElem? (i := 310) (by decide +kernel)) (by decide +kernel)
theorem q_749 : ((.instanceMethod ⟨"EdgeCampaign$Trials", "<init>", "()V"⟩) : Cond) ∈ tb := tb_in (List.mem_of_getElem? (i := 309) (by decide +kernel)) (by decide +kernel)
theorem q_750 : ((.methodLink "EdgeCampaignModel" 1 ⟨"java/lang/Object", "<init>", "()V"⟩) : Cond) ∈ tb := tb_in (List.mem_of_getElem? (i := 675) (by decide +kernel)) (by decide +kernel)
theorem d_EC_init_0 : decode b_EC_init 0 = .ok (.aload_n 0, 1) := by decide +kernel
theorem d_EC_init_1 : decode b_EC_init 1 = .ok (.invokespecial 1, 3) := by decide +kernel
theorem d_EC_init_4 : decode b_EC_init 4 = .ok (.aload_n 0, 1) := by decide +kernel
theorem d_EC_init_5 : decode b_EC_init 5 = .ok (.new 7, 3) := by decide +kernel
theorem d_EC_init_8 : decode b_EC_init 8 = .ok (.dup, 1) := by decide +kernel
theorem d_EC_init_9 : decode b_EC_init 9 = .ok (.invokespecial 9, 3) := by decide +kernel
theorem d_EC_init_12 : decode b_EC_init 12 = .ok (.putfield 10, 3) := by decide +kernel
theorem d_EC_init_15 : decode b_EC_init 15 = .ok (.aload_n 0, 1) := by decide +kernel
theorem d_EC_init_16 : decode b_EC_init 16 = .ok (.new 16, 3) := by decide +kernel
theorem d_EC_init_19 : decode b_EC_init 19 = .ok (.dup, 1) := by decide +kernel
theorem d_EC_init_20 : decode b_EC_init 20 = .ok (.invokespecial 18, 3) := by decide +kernel
theorem d_EC_init_23 : decode b_EC_init 23 = .ok (.putfield 19, 3) := by decide +kernel
theorem d_EC_init_26 : decode b_EC_init 26 = .ok (.aload_n 0, 1) := by decide +kernel
theorem d_EC_init_27 : decode b_EC_init 27 = .ok (.new 16, 3) := by decide +kernel
theorem d_EC_init_30 : decode b_EC_init 30 = .ok (.dup, 1) := by decide +kernel
theorem d_EC_init_31 : decode b_EC_init 31 = .ok (.invokespecial 18, 3) := by decide +kernel
theorem d_EC_init_34 : decode b_EC_init 34 = .ok (.putfield 23, 3) := by decide +kernel
theorem d_EC_init_37 : decode b_EC_init 37 = .ok (.aload_n 0, 1) := by decide +kernel
theorem d_EC_init_38 : decode b_EC_init 38 = .ok (.new 26, 3) := by decide +kernel
theorem d_EC_init_41 : decode b_EC_init 41 = .ok (.dup, 1) := by decide +kernel
theorem d_EC_init_42 : decode b_EC_init 42 = .ok (.invokespecial 28, 3) := by decide +kernel
theorem d_EC_init_45 : decode b_EC_init 45 = .ok (.putfield 29, 3) := by decide +kernel
theorem d_EC_init_48 : decode b_EC_init 48 = .ok (.aload_n 0, 1) := by decide +kernel
theorem d_EC_init_49 : decode b_EC_init 49 = .ok (.new 33, 3) := by decide +kernel
theorem d_EC_init_52 : decode b_EC_init 52 = .ok (.dup, 1) := by decide +kernel
theorem d_EC_init_53 : decode b_EC_init 53 = .ok (.invokespecial 35, 3) := by decide +kernel
theorem d_EC_init_56 : decode b_EC_init 56 = .ok (.putfield 36, 3) := by decide +kernel
theorem d_EC_init_59 : decode b_EC_init 59 = .ok (.aload_n 0, 1) := by decide +kernel
theorem d_EC_init_60 : decode b_EC_init 60 = .ok (.new 40, 3) := by decide +kernel
theorem d_EC_init_63 : decode b_EC_init 63 = .ok (.dup, 1) := by decide +kernel
theorem d_EC_init_64 : decode b_EC_init 64 = .ok (.invokespecial 42, 3) := by decide +kernel
theorem d_EC_init_67 : decode b_EC_init 67 = .ok (.putfield 43, 3) := by decide +kernel
theorem d_EC_init_70 : decode b_EC_init 70 = .ok (.aload_n 0, 1) := by decide +kernel
theorem d_EC_init_71 : decode b_EC_init 71 = .ok (.new 47, 3) := by decide +kernel
theorem d_EC_init_74 : decode b_EC_init 74 = .ok (.dup, 1) := by decide +kernel
theorem d_EC_init_75 : decode b_EC_init 75 = .ok (.invokespecial 49, 3) := by decide +kernel
theorem d_EC_init_78 : decode b_EC_init 78 = .ok (.putfield 50, 3) := by decide +kernel
theorem d_EC_init_81 : decode b_EC_init 81 = .ok (.aload_n 0, 1) := by decide +kernel
theorem d_EC_init_82 : decode b_EC_init 82 = .ok (.new 54, 3) := by decide +kernel
theorem d_EC_init_85 : decode b_EC_init 85 = .ok (.dup, 1) := by decide +kernel
theorem d_EC_init_86 : decode b_EC_init 86 = .ok (.iload_n 1, 1) := by decide +kernel
theorem d_EC_init_87 : decode b_EC_init 87 = .ok (.invokespecial 56, 3) := by decide +kernel
theorem d_EC_init_90 : decode b_EC_init 90 = .ok (.putfield 59, 3) := by decide +kernel
theorem d_EC_init_93 : decode b_EC_init 93 = .ok (.aload_n 0, 1) := by decide +kernel
theorem d_EC_init_94 : decode b_EC_init 94 = .ok (.new 63, 3) := by decide +kernel
theorem d_EC_init_97 : decode b_EC_init 97 = .ok (.dup, 1) := by decide +kernel
theorem d_EC_init_98 : decode b_EC_init 98 = .ok (.invokespecial 65, 3) := by decide +kernel
theorem d_EC_init_101 : decode b_EC_init 101 = .ok (.putfield 66, 3) := by decide +kernel
theorem d_EC_init_104 : decode b_EC_init 104 = .ok (.aload_n 0, 1) := by decide +kernel
theorem d_EC_init_105 : decode b_EC_init 105 = .ok (.iconst 0, 1) := by decide +kernel
theorem d_EC_init_106 : decode b_EC_init 106 = .ok (.putfield 70, 3) := by decide +kernel
theorem d_EC_init_109 : decode b_EC_init 109 = .ok (.aload_n 0, 1) := by decide +kernel
theorem d_EC_init_110 : decode b_EC_init 110 = .ok (.iconst 0, 1) := by decide +kernel
theorem d_EC_init_111 : decode b_EC_init 111 = .ok (.putfield 74, 3) := by decide +kernel
theorem d_EC_init_114 : decode b_EC_init 114 = .ok (.aload_n 0, 1) := by decide +kernel
theorem d_EC_init_115 : decode b_EC_init 115 = .ok (.iconst 0, 1) := by decide +kernel
theorem d_EC_init_116 : decode b_EC_init 116 = .ok (.putfield 77, 3) := by decide +kernel
theorem d_EC_init_119 : decode b_EC_init 119 = .ok (.return_, 1) := by decide +kernel
theorem d_MO_init_0 : decode b_MO_init 0 = .ok (.aload_n 0, 1) := by decide +kernel
theorem d_MO_init_1 : decode b_MO_init 1 = .ok (.invokespecial 1, 3) := by decide +kernel
theorem d_MO_init_4 : decode b_MO_init 4 = .ok (.aload_n 0, 1) := by decide +kernel
theorem d_MO_init_5 : decode b_MO_init 5 = .ok (.bipush 24, 2) := by decide +kernel
theorem d_MO_init_7 : decode b_MO_init 7 = .ok (.newarray .int, 2) := by decide +kernel
theorem d_MO_init_9 : decode b_MO_init 9 = .ok (.putfield 7, 3) := by decide +kernel
theorem d_MO_init_12 : decode b_MO_init 12 = .ok (.aload_n 0, 1) := by decide +kernel
theorem d_MO_init_13 : decode b_MO_init 13 = .ok (.bipush 24, 2) := by decide +kernel
theorem d_MO_init_15 : decode b_MO_init 15 = .ok (.newarray .int, 2) := by decide +kernel
theorem d_MO_init_17 : decode b_MO_init 17 = .ok (.putfield 13, 3) := by decide +kernel
theorem d_MO_init_20 : decode b_MO_init 20 = .ok (.aload_n 0, 1) := by decide +kernel
theorem d_MO_init_21 : decode b_MO_init 21 = .ok (.bipush 24, 2) := by decide +kernel
theorem d_MO_init_23 : decode b_MO_init 23 = .ok (.newarray .int, 2) := by decide +kernel
theorem d_MO_init_25 : decode b_MO_init 25 = .ok (.putfield 16, 3) := by decide +kernel
theorem d_MO_init_28 : decode b_MO_init 28 = .ok (.aload_n 0, 1) := by decide +kernel
theorem d_MO_init_29 : decode b_MO_init 29 = .ok (.bipush 6, 2) := by decide +kernel
theorem d_MO_init_31 : decode b_MO_init 31 = .ok (.newarray .int, 2) := by decide +kernel
theorem d_MO_init_33 : decode b_MO_init 33 = .ok (.putfield 19, 3) := by decide +kernel
theorem d_MO_init_36 : decode b_MO_init 36 = .ok (.aload_n 0, 1) := by decide +kernel
theorem d_MO_init_37 : decode b_MO_init 37 = .ok (.bipush 6, 2) := by decide +kernel
theorem d_MO_init_39 : decode b_MO_init 39 = .ok (.newarray .int, 2) := by decide +kernel
theorem d_MO_init_41 : decode b_MO_init 41 = .ok (.putfield 22, 3) := by decide +kernel
theorem d_MO_init_44 : decode b_MO_init 44 = .ok (.aload_n 0, 1) := by decide +kernel
theorem d_MO_init_45 : decode b_MO_init 45 = .ok (.iconst 4, 1) := by decide +kernel
theorem d_MO_init_46 : decode b_MO_init 46 = .ok (.newarray .int, 2) := by decide +kernel
theorem d_MO_init_48 : decode b_MO_init 48 = .ok (.putfield 25, 3) := by decide +kernel
theorem d_MO_init_51 : decode b_MO_init 51 = .ok (.aload_n 0, 1) := by decide +kernel
theorem d_MO_init_52 : decode b_MO_init 52 = .ok (.iconst 4, 1) := by decide +kernel
theorem d_MO_init_53 : decode b_MO_init 53 = .ok (.newarray .int, 2) := by decide +kernel
theorem d_MO_init_55 : decode b_MO_init 55 = .ok (.putfield 28, 3) := by decide +kernel
theorem d_MO_init_58 : decode b_MO_init 58 = .ok (.aload_n 0, 1) := by decide +kernel
theorem d_MO_init_59 : decode b_MO_init 59 = .ok (.iconst 3, 1) := by decide +kernel
theorem d_MO_init_60 : decode b_MO_init 60 = .ok (.newarray .int, 2) := by decide +kernel
theorem d_MO_init_62 : decode b_MO_init 62 = .ok (.putfield 31, 3) := by decide +kernel
theorem d_MO_init_65 : decode b_MO_init 65 = .ok (.aload_n 0, 1) := by decide +kernel
theorem d_MO_init_66 : decode b_MO_init 66 = .ok (.sipush 576, 3) := by decide +kernel
theorem d_MO_init_69 : decode b_MO_init 69 = .ok (.newarray .int, 2) := by decide +kernel
theorem d_MO_init_71 : decode b_MO_init 71 = .ok (.putfield 34, 3) := by decide +kernel
theorem d_MO_init_74 : decode b_MO_init 74 = .ok (.aload_n 0, 1) := by decide +kernel
theorem d_MO_init_75 : decode b_MO_init 75 = .ok (.bipush 96, 2) := by decide +kernel
theorem d_MO_init_77 : decode b_MO_init 77 = .ok (.newarray .int, 2) := by decide +kernel
theorem d_MO_init_79 : decode b_MO_init 79 = .ok (.putfield 37, 3) := by decide +kernel
theorem d_MO_init_82 : decode b_MO_init 82 = .ok (.aload_n 0, 1) := by decide +kernel
theorem d_MO_init_83 : decode b_MO_init 83 = .ok (.bipush 16, 2) := by decide +kernel
theorem d_MO_init_85 : decode b_MO_init 85 = .ok (.newarray .int, 2) := by decide +kernel
theorem d_MO_init_87 : decode b_MO_init 87 = .ok (.putfield 40, 3) := by decide +kernel
theorem d_MO_init_90 : decode b_MO_init 90 = .ok (.aload_n 0, 1) := by decide +kernel
theorem d_MO_init_91 : decode b_MO_init 91 = .ok (.bipush 16, 2) := by decide +kernel
theorem d_MO_init_93 : decode b_MO_init 93 = .ok (.newarray .int, 2) := by decide +kernel
theorem d_MO_init_95 : decode b_MO_init 95 = .ok (.putfield 43, 3) := by decide +kernel
theorem d_MO_init_98 : decode b_MO_init 98 = .ok (.aload_n 0, 1) := by decide +kernel
theorem d_MO_init_99 : decode b_MO_init 99 = .ok (.bipush 8, 2) := by decide +kernel
theorem d_MO_init_101 : decode b_MO_init 101 = .ok (.newarray .int, 2) := by decide +kernel
theorem d_MO_init_103 : decode b_MO_init 103 = .ok (.putfield 46, 3) := by decide +kernel
theorem d_MO_init_106 : decode b_MO_init 106 = .ok (.aload_n 0, 1) := by decide +kernel
theorem d_MO_init_107 : decode b_MO_init 107 = .ok (.bipush 8, 2) := by decide +kernel
theorem d_MO_init_109 : decode b_MO_init 109 = .ok (.newarray .int, 2) := by decide +kernel
theorem d_MO_init_111 : decode b_MO_init 111 = .ok (.putfield 49, 3) := by decide +kernel
theorem d_MO_init_114 : decode b_MO_init 114 = .ok (.aload_n 0, 1) := by decide +kernel
theorem d_MO_init_115 : decode b_MO_init 115 = .ok (.bipush 8, 2) := by decide +kernel
theorem d_MO_init_117 : decode b_MO_init 117 = .ok (.newarray .int, 2) := by decide +kernel
theorem d_MO_init_119 : decode b_MO_init 119 = .ok (.putfield 52, 3) := by decide +kernel
theorem d_MO_init_122 : decode b_MO_init 122 = .ok (.aload_n 0, 1) := by decide +kernel
theorem d_MO_init_123 : decode b_MO_init 123 = .ok (.bipush 24, 2) := by decide +kernel
theorem d_MO_init_125 : decode b_MO_init 125 = .ok (.newarray .int, 2) := by decide +kernel
theorem d_MO_init_127 : decode b_MO_init 127 = .ok (.putfield 55, 3) := by decide +kernel
theorem d_MO_init_130 : decode b_MO_init 130 = .ok (.aload_n 0, 1) := by decide +kernel
theorem d_MO_init_131 : decode b_MO_init 131 = .ok (.bipush 8, 2) := by decide +kernel
theorem d_MO_init_133 : decode b_MO_init 133 = .ok (.newarray .int, 2) := by decide +kernel
theorem d_MO_init_135 : decode b_MO_init 135 = .ok (.putfield 58, 3) := by decide +kernel
theorem d_MO_init_138 : decode b_MO_init 138 = .ok (.aload_n 0, 1) := by decide +kernel
theorem d_MO_init_139 : decode b_MO_init 139 = .ok (.bipush 48, 2) := by decide +kernel
theorem d_MO_init_141 : decode b_MO_init 141 = .ok (.newarray .int, 2) := by decide +kernel
theorem d_MO_init_143 : decode b_MO_init 143 = .ok (.putfield 61, 3) := by decide +kernel
theorem d_MO_init_146 : decode b_MO_init 146 = .ok (.aload_n 0, 1) := by decide +kernel
theorem d_MO_init_147 : decode b_MO_init 147 = .ok (.bipush 8, 2) := by decide +kernel
theorem d_MO_init_149 : decode b_MO_init 149 = .ok (.newarray .int, 2) := by decide +kernel
theorem d_MO_init_151 : decode b_MO_init 151 = .ok (.putfield 64, 3) := by decide +kernel
theorem d_MO_init_154 : decode b_MO_init 154 = .ok (.aload_n 0, 1) := by decide +kernel
theorem d_MO_init_155 : decode b_MO_init 155 = .ok (.bipush 48, 2) := by decide +kernel
theorem d_MO_init_157 : decode b_MO_init 157 = .ok (.newarray .int, 2) := by decide +kernel
theorem d_MO_init_159 : decode b_MO_init 159 = .ok (.putfield 67, 3) := by decide +kernel
theorem d_MO_init_162 : decode b_MO_init 162 = .ok (.aload_n 0, 1) := by decide +kernel
theorem d_MO_init_163 : decode b_MO_init 163 = .ok (.bipush 8, 2) := by decide +kernel
theorem d_MO_init_165 : decode b_MO_init 165 = .ok (.newarray .int, 2) := by decide +kernel
theorem d_MO_init_167 : decode b_MO_init 167 = .ok (.putfield 70, 3) := by decide +kernel
theorem d_MO_init_170 : decode b_MO_init 170 = .ok (.aload_n 0, 1) := by decide +kernel
theorem d_MO_init_171 : decode b_MO_init 171 = .ok (.sipush 576, 3) := by decide +kernel
theorem d_MO_init_174 : decode b_MO_init 174 = .ok (.newarray .int, 2) := by decide +kernel
theorem d_MO_init_176 : decode b_MO_init 176 = .ok (.putfield 73, 3) := by decide +kernel
theorem d_MO_init_179 : decode b_MO_init 179 = .ok (.aload_n 0, 1) := by decide +kernel
theorem d_MO_init_180 : decode b_MO_init 180 = .ok (.sipush 576, 3) := by decide +kernel
theorem d_MO_init_183 : decode b_MO_init 183 = .ok (.newarray .int, 2) := by decide +kernel
theorem d_MO_init_185 : decode b_MO_init 185 = .ok (.putfield 76, 3) := by decide +kernel
theorem d_MO_init_188 : decode b_MO_init 188 = .ok (.aload_n 0, 1) := by decide +kernel
theorem d_MO_init_189 : decode b_MO_init 189 = .ok (.bipush 16, 2) := by decide +kernel
theorem d_MO_init_191 : decode b_MO_init 191 = .ok (.newarray .int, 2) := by decide +kernel
theorem d_MO_init_193 : decode b_MO_init 193 = .ok (.putfield 79, 3) := by decide +kernel
theorem d_MO_init_196 : decode b_MO_init 196 = .ok (.aload_n 0, 1) := by decide +kernel
theorem d_MO_init_197 : decode b_MO_init 197 = .ok (.bipush 6, 2) := by decide +kernel
theorem d_MO_init_199 : decode b_MO_init 199 = .ok (.newarray .int, 2) := by decide +kernel
theorem d_MO_init_201 : decode b_MO_init 201 = .ok (.putfield 82, 3) := by decide +kernel
theorem d_MO_init_204 : decode b_MO_init 204 = .ok (.aload_n 0, 1) := by decide +kernel
theorem d_MO_init_205 : decode b_MO_init 205 = .ok (.iload_n 1, 1) := by decide +kernel
theorem d_MO_init_206 : decode b_MO_init 206 = .ok (.ifCond .ne 7, 3) := by decide +kernel
theorem d_MO_init_209 : decode b_MO_init 209 = .ok (.iconst 1, 1) := by decide +kernel
theorem d_MO_init_210 : decode b_MO_init 210 = .ok (.goto 4, 3) := by decide +kernel
theorem d_MO_init_213 : decode b_MO_init 213 = .ok (.iload_n 1, 1) := by decide +kernel
theorem d_MO_init_214 : decode b_MO_init 214 = .ok (.putfield 85, 3) := by decide +kernel
theorem d_MO_init_217 : decode b_MO_init 217 = .ok (.return_, 1) := by decide +kernel
theorem d_EN_init_0 : decode b_EN_init 0 = .ok (.aload_n 0, 1) := by decide +kernel
theorem d_EN_init_1 : decode b_EN_init 1 = .ok (.invokespecial 1, 3) := by decide +kernel
theorem d_EN_init_4 : decode b_EN_init 4 = .ok (.aload_n 0, 1) := by decide +kernel
theorem d_EN_init_5 : decode b_EN_init 5 = .ok (.new 7, 3) := by decide +kernel
theorem d_EN_init_8 : decode b_EN_init 8 = .ok (.dup, 1) := by decide +kernel
theorem d_EN_init_9 : decode b_EN_init 9 = .ok (.invokespecial 9, 3) := by decide +kernel
theorem d_EN_init_12 : decode b_EN_init 12 = .ok (.putfield 10, 3) := by decide +kernel
theorem d_EN_init_15 : decode b_EN_init 15 = .ok (.return_, 1) := by decide +kernel
theorem d_FI_init_0 : decode b_FI_init 0 = .ok (.aload_n 0, 1) := by decide +kernel
theorem d_FI_init_1 : decode b_FI_init 1 = .ok (.invokespecial 1, 3) := by decide +kernel
theorem d_FI_init_4 : decode b_FI_init 4 = .ok (.aload_n 0, 1) := by decide +kernel
theorem d_FI_init_5 : decode b_FI_init 5 = .ok (.new 7, 3) := by decide +kernel
theorem d_FI_init_8 : decode b_FI_init 8 = .ok (.dup, 1) := by decide +kernel
theorem d_FI_init_9 : decode b_FI_init 9 = .ok (.invokespecial 9, 3) := by decide +kernel
theorem d_FI_init_12 : decode b_FI_init 12 = .ok (.putfield 10, 3) := by decide +kernel
theorem d_FI_init_15 : decode b_FI_init 15 = .ok (.aload_n 0, 1) := by decide +kernel
theorem d_FI_init_16 : decode b_FI_init 16 = .ok (.new 7, 3) := by decide +kernel
theorem d_FI_init_19 : decode b_FI_init 19 = .ok (.dup, 1) := by decide +kernel
theorem d_FI_init_20 : decode b_FI_init 20 = .ok (.invokespecial 9, 3) := by decide +kernel
theorem d_FI_init_23 : decode b_FI_init 23 = .ok (.putfield 16, 3) := by decide +kernel
theorem d_FI_init_26 : decode b_FI_init 26 = .ok (.aload_n 0, 1) := by decide +kernel
theorem d_FI_init_27 : decode b_FI_init 27 = .ok (.iconst 3, 1) := by decide +kernel
theorem d_FI_init_28 : decode b_FI_init 28 = .ok (.newarray .int, 2) := by decide +kernel
theorem d_FI_init_30 : decode b_FI_init 30 = .ok (.putfield 21, 3) := by decide +kernel
theorem d_FI_init_33 : decode b_FI_init 33 = .ok (.return_, 1) := by decide +kernel
theorem d_FS_init_0 : decode b_FS_init 0 = .ok (.aload_n 0, 1) := by decide +kernel
theorem d_FS_init_1 : decode b_FS_init 1 = .ok (.invokespecial 1, 3) := by decide +kernel
theorem d_FS_init_4 : decode b_FS_init 4 = .ok (.aload_n 0, 1) := by decide +kernel
theorem d_FS_init_5 : decode b_FS_init 5 = .ok (.bipush 8, 2) := by decide +kernel
theorem d_FS_init_7 : decode b_FS_init 7 = .ok (.anewarray 9, 3) := by decide +kernel
theorem d_FS_init_10 : decode b_FS_init 10 = .ok (.putfield 11, 3) := by decide +kernel
theorem d_FS_init_13 : decode b_FS_init 13 = .ok (.iconst 0, 1) := by decide +kernel
theorem d_FS_init_14 : decode b_FS_init 14 = .ok (.istore_n 1, 1) := by decide +kernel
theorem d_FS_init_15 : decode b_FS_init 15 = .ok (.iload_n 1, 1) := by decide +kernel
theorem d_FS_init_16 : decode b_FS_init 16 = .ok (.bipush 8, 2) := by decide +kernel
theorem d_FS_init_18 : decode b_FS_init 18 = .ok (.if_icmp .ge 22, 3) := by decide +kernel
theorem d_FS_init_21 : decode b_FS_init 21 = .ok (.aload_n 0, 1) := by decide +kernel
theorem d_FS_init_22 : decode b_FS_init 22 = .ok (.getfield 11, 3) := by decide +kernel
theorem d_FS_init_25 : decode b_FS_init 25 = .ok (.iload_n 1, 1) := by decide +kernel
theorem d_FS_init_26 : decode b_FS_init 26 = .ok (.new 9, 3) := by decide +kernel
theorem d_FS_init_29 : decode b_FS_init 29 = .ok (.dup, 1) := by decide +kernel
theorem d_FS_init_30 : decode b_FS_init 30 = .ok (.invokespecial 15, 3) := by decide +kernel
theorem d_FS_init_33 : decode b_FS_init 33 = .ok (.aastore, 1) := by decide +kernel
theorem d_FS_init_34 : decode b_FS_init 34 = .ok (.iinc 1 1, 3) := by decide +kernel
theorem d_FS_init_37 : decode b_FS_init 37 = .ok (.goto (-22), 3) := by decide +kernel
theorem d_FS_init_40 : decode b_FS_init 40 = .ok (.return_, 1) := by decide +kernel
theorem d_GE_init_0 : decode b_GE_init 0 = .ok (.aload_n 0, 1) := by decide +kernel
theorem d_GE_init_1 : decode b_GE_init 1 = .ok (.invokespecial 1, 3) := by decide +kernel
theorem d_GE_init_4 : decode b_GE_init 4 = .ok (.aload_n 0, 1) := by decide +kernel
theorem d_GE_init_5 : decode b_GE_init 5 = .ok (.iload_n 1, 1) := by decide +kernel
theorem d_GE_init_6 : decode b_GE_init 6 = .ok (.ifCond .ne 7, 3) := by decide +kernel
theorem d_GE_init_9 : decode b_GE_init 9 = .ok (.iconst 1, 1) := by decide +kernel
theorem d_GE_init_10 : decode b_GE_init 10 = .ok (.goto 4, 3) := by decide +kernel
theorem d_GE_init_13 : decode b_GE_init 13 = .ok (.iload_n 1, 1) := by decide +kernel
theorem d_GE_init_14 : decode b_GE_init 14 = .ok (.putfield 7, 3) := by decide +kernel
theorem d_GE_init_17 : decode b_GE_init 17 = .ok (.return_, 1) := by decide +kernel
theorem d_IN_init_0 : decode b_IN_init 0 = .ok (.aload_n 0, 1) := by decide +kernel
theorem d_IN_init_1 : decode b_IN_init 1 = .ok (.invokespecial 3, 3) := by decide +kernel
theorem d_IN_init_4 : decode b_IN_init 4 = .ok (.aload_n 0, 1) := by decide +kernel
theorem d_IN_init_5 : decode b_IN_init 5 = .ok (.bipush 6, 2) := by decide +kernel
theorem d_IN_init_7 : decode b_IN_init 7 = .ok (.newarray .int, 2) := by decide +kernel
theorem d_IN_init_9 : decode b_IN_init 9 = .ok (.putfield 11, 3) := by decide +kernel
theorem d_IN_init_12 : decode b_IN_init 12 = .ok (.return_, 1) := by decide +kernel
theorem d_PR_init_0 : decode b_PR_init 0 = .ok (.aload_n 0, 1) := by decide +kernel
theorem d_PR_init_1 : decode b_PR_init 1 = .ok (.invokespecial 3, 3) := by decide +kernel
theorem d_PR_init_4 : decode b_PR_init 4 = .ok (.aload_n 0, 1) := by decide +kernel
theorem d_PR_init_5 : decode b_PR_init 5 = .ok (.bipush 24, 2) := by decide +kernel
theorem d_PR_init_7 : decode b_PR_init 7 = .ok (.newarray .int, 2) := by decide +kernel
theorem d_PR_init_9 : decode b_PR_init 9 = .ok (.putfield 9, 3) := by decide +kernel
theorem d_PR_init_12 : decode b_PR_init 12 = .ok (.aload_n 0, 1) := by decide +kernel
theorem d_PR_init_13 : decode b_PR_init 13 = .ok (.bipush 24, 2) := by decide +kernel
theorem d_PR_init_15 : decode b_PR_init 15 = .ok (.newarray .int, 2) := by decide +kernel
theorem d_PR_init_17 : decode b_PR_init 17 = .ok (.putfield 13, 3) := by decide +kernel
theorem d_PR_init_20 : decode b_PR_init 20 = .ok (.aload_n 0, 1) := by decide +kernel
theorem d_PR_init_21 : decode b_PR_init 21 = .ok (.bipush 24, 2) := by decide +kernel
theorem d_PR_init_23 : decode b_PR_init 23 = .ok (.newarray .int, 2) := by decide +kernel
theorem d_PR_init_25 : decode b_PR_init 25 = .ok (.putfield 16, 3) := by decide +kernel
theorem d_PR_init_28 : decode b_PR_init 28 = .ok (.return_, 1) := by decide +kernel
theorem d_RU_init_0 : decode b_RU_init 0 = .ok (.aload_n 0, 1) := by decide +kernel
theorem d_RU_init_1 : decode b_RU_init 1 = .ok (.invokespecial 3, 3) := by decide +kernel
theorem d_RU_init_4 : decode b_RU_init 4 = .ok (.aload_n 0, 1) := by decide +kernel
theorem d_RU_init_5 : decode b_RU_init 5 = .ok (.iconst 4, 1) := by decide +kernel
theorem d_RU_init_6 : decode b_RU_init 6 = .ok (.newarray .int, 2) := by decide +kernel
theorem d_RU_init_8 : decode b_RU_init 8 = .ok (.putfield 11, 3) := by decide +kernel
theorem d_RU_init_11 : decode b_RU_init 11 = .ok (.aload_n 0, 1) := by decide +kernel
theorem d_RU_init_12 : decode b_RU_init 12 = .ok (.iconst 4, 1) := by decide +kernel
theorem d_RU_init_13 : decode b_RU_init 13 = .ok (.newarray .int, 2) := by decide +kernel
theorem d_RU_init_15 : decode b_RU_init 15 = .ok (.putfield 17, 3) := by decide +kernel
theorem d_RU_init_18 : decode b_RU_init 18 = .ok (.aload_n 0, 1) := by decide +kernel
theorem d_RU_init_19 : decode b_RU_init 19 = .ok (.iconst 3, 1) := by decide +kernel
theorem d_RU_init_20 : decode b_RU_init 20 = .ok (.newarray .int, 2) := by decide +kernel
theorem d_RU_init_22 : decode b_RU_init 22 = .ok (.putfield 20, 3) := by decide +kernel
theorem d_RU_init_25 : decode b_RU_init 25 = .ok (.aload_n 0, 1) := by decide +kernel
theorem d_RU_init_26 : decode b_RU_init 26 = .ok (.sipush 576, 3) := by decide +kernel
theorem d_RU_init_29 : decode b_RU_init 29 = .ok (.newarray .int, 2) := by decide +kernel
theorem d_RU_init_31 : decode b_RU_init 31 = .ok (.putfield 23, 3) := by decide +kernel
theorem d_RU_init_34 : decode b_RU_init 34 = .ok (.aload_n 0, 1) := by decide +kernel
theorem d_RU_init_35 : decode b_RU_init 35 = .ok (.bipush 64, 2) := by decide +kernel
theorem d_RU_init_37 : decode b_RU_init 37 = .ok (.newarray .int, 2) := by decide +kernel
theorem d_RU_init_39 : decode b_RU_init 39 = .ok (.putfield 26, 3) := by decide +kernel
theorem d_RU_init_42 : decode b_RU_init 42 = .ok (.return_, 1) := by decide +kernel
theorem d_SH_init_0 : decode b_SH_init 0 = .ok (.aload_n 0, 1) := by decide +kernel
theorem d_SH_init_1 : decode b_SH_init 1 = .ok (.invokespecial 1, 3) := by decide +kernel
theorem d_SH_init_4 : decode b_SH_init 4 = .ok (.aload_n 0, 1) := by decide +kernel
theorem d_SH_init_5 : decode b_SH_init 5 = .ok (.new 7, 3) := by decide +kernel
theorem d_SH_init_8 : decode b_SH_init 8 = .ok (.dup, 1) := by decide +kernel
theorem d_SH_init_9 : decode b_SH_init 9 = .ok (.invokespecial 9, 3) := by decide +kernel
theorem d_SH_init_12 : decode b_SH_init 12 = .ok (.putfield 10, 3) := by decide +kernel
theorem d_SH_init_15 : decode b_SH_init 15 = .ok (.aload_n 0, 1) := by decide +kernel
theorem d_SH_init_16 : decode b_SH_init 16 = .ok (.new 16, 3) := by decide +kernel
theorem d_SH_init_19 : decode b_SH_init 19 = .ok (.dup, 1) := by decide +kernel
theorem d_SH_init_20 : decode b_SH_init 20 = .ok (.invokespecial 18, 3) := by decide +kernel
theorem d_SH_init_23 : decode b_SH_init 23 = .ok (.putfield 19, 3) := by decide +kernel
theorem d_SH_init_26 : decode b_SH_init 26 = .ok (.return_, 1) := by decide +kernel
theorem d_ST_init_0 : decode b_ST_init 0 = .ok (.aload_n 0, 1) := by decide +kernel
theorem d_ST_init_1 : decode b_ST_init 1 = .ok (.invokespecial 3, 3) := by decide +kernel
theorem d_ST_init_4 : decode b_ST_init 4 = .ok (.aload_n 0, 1) := by decide +kernel
theorem d_ST_init_5 : decode b_ST_init 5 = .ok (.bipush 16, 2) := by decide +kernel
theorem d_ST_init_7 : decode b_ST_init 7 = .ok (.anewarray 11, 3) := by decide +kernel
theorem d_ST_init_10 : decode b_ST_init 10 = .ok (.putfield 13, 3) := by decide +kernel
theorem d_ST_init_13 : decode b_ST_init 13 = .ok (.aload_n 0, 1) := by decide +kernel
theorem d_ST_init_14 : decode b_ST_init 14 = .ok (.sipush 576, 3) := by decide +kernel
theorem d_ST_init_17 : decode b_ST_init 17 = .ok (.newarray .int, 2) := by decide +kernel
theorem d_ST_init_19 : decode b_ST_init 19 = .ok (.putfield 19, 3) := by decide +kernel
theorem d_ST_init_22 : decode b_ST_init 22 = .ok (.aload_n 0, 1) := by decide +kernel
theorem d_ST_init_23 : decode b_ST_init 23 = .ok (.sipush 576, 3) := by decide +kernel
theorem d_ST_init_26 : decode b_ST_init 26 = .ok (.newarray .int, 2) := by decide +kernel
theorem d_ST_init_28 : decode b_ST_init 28 = .ok (.putfield 23, 3) := by decide +kernel
theorem d_ST_init_31 : decode b_ST_init 31 = .ok (.iconst 0, 1) := by decide +kernel
theorem d_ST_init_32 : decode b_ST_init 32 = .ok (.istore_n 1, 1) := by decide +kernel
theorem d_ST_init_33 : decode b_ST_init 33 = .ok (.iload_n 1, 1) := by decide +kernel
theorem d_ST_init_34 : decode b_ST_init 34 = .ok (.bipush 16, 2) := by decide +kernel
theorem d_ST_init_36 : decode b_ST_init 36 = .ok (.if_icmp .ge 22, 3) := by decide +kernel
theorem d_ST_init_39 : decode b_ST_init 39 = .ok (.aload_n 0, 1) := by decide +kernel
theorem d_ST_init_40 : decode b_ST_init 40 = .ok (.getfield 13, 3) := by decide +kernel
theorem d_ST_init_43 : decode b_ST_init 43 = .ok (.iload_n 1, 1) := by decide +kernel
theorem d_ST_init_44 : decode b_ST_init 44 = .ok (.new 11, 3) := by decide +kernel
theorem d_ST_init_47 : decode b_ST_init 47 = .ok (.dup, 1) := by decide +kernel
theorem d_ST_init_48 : decode b_ST_init 48 = .ok (.invokespecial 26, 3) := by decide +kernel
theorem d_ST_init_51 : decode b_ST_init 51 = .ok (.aastore, 1) := by decide +kernel
theorem d_ST_init_52 : decode b_ST_init 52 = .ok (.iinc 1 1, 3) := by decide +kernel
theorem d_ST_init_55 : decode b_ST_init 55 = .ok (.goto (-22), 3) := by decide +kernel
theorem d_ST_init_58 : decode b_ST_init 58 = .ok (.return_, 1) := by decide +kernel
theorem d_TR_init_0 : decode b_TR_init 0 = .ok (.aload_n 0, 1) := by decide +kernel
theorem d_TR_init_1 : decode b_TR_init 1 = .ok (.invokespecial 3, 3) := by decide +kernel
theorem d_TR_init_4 : decode b_TR_init 4 = .ok (.aload_n 0, 1) := by decide +kernel
theorem d_TR_init_5 : decode b_TR_init 5 = .ok (.iconst (-1), 1) := by decide +kernel
theorem d_TR_init_6 : decode b_TR_init 6 = .ok (.putfield 9, 3) := by decide +kernel
theorem d_TR_init_9 : decode b_TR_init 9 = .ok (.return_, 1) := by decide +kernel
