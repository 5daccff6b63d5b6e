theorem q_0 : ((.code y_PR_isPlace b_PR_isPlace 1 (some .boolean)) : Cond) ∈ tb := tb_in (List.mem_of_getElem? (i := 378) (by decide +kernel)) (by decide +kernel)
theorem q_1 : ((.methodLink "EdgeCampaign$Program" 31 ⟨"EdgeCampaign$Program", "isPlace", "(I)Z"⟩) : Cond) ∈ tb := tb_in (List.mem_of_getElem? (i := 376) (by decide +kernel)) (by decide +kernel)
theorem q_2 : ((.initialized "EdgeCampaign$Program") : Cond) ∈ tb := tb_in (List.mem_of_getElem? (i := 49) (by decide +kernel)) (by decide +kernel)
theorem q_3 : ((.static ⟨"EdgeCampaign$Program", "isPlace", "(I)Z"⟩) : Cond) ∈ tb := tb_in (List.mem_of_getElem? (i := 377) (by decide +kernel)) (by decide +kernel)
theorem q_4 : ((.code y_PR_isRegister b_PR_isRegister 1 (some .boolean)) : Cond) ∈ tb := tb_in (List.mem_of_getElem? (i := 372) (by decide +kernel)) (by decide +kernel)
theorem q_5 : ((.methodLink "EdgeCampaign$Program" 23 ⟨"EdgeCampaign$Program", "isRegister", "(I)Z"⟩) : Cond) ∈ tb := tb_in (List.mem_of_getElem? (i := 370) (by decide +kernel)) (by decide +kernel)
theorem q_6 : ((.static ⟨"EdgeCampaign$Program", "isRegister", "(I)Z"⟩) : Cond) ∈ tb := tb_in (List.mem_of_getElem? (i := 371) (by decide +kernel)) (by decide +kernel)
theorem q_7 : ((.fieldLink "EdgeCampaign$Program" 19 "EdgeCampaign$Program" "size" "I") : Cond) ∈ tb := tb_in (List.mem_of_getElem? (i := 82) (by decide +kernel)) (by decide +kernel)
theorem q_8 : ((.code y_PR_fits b_PR_fits 2 (some .boolean)) : Cond) ∈ tb := tb_in (List.mem_of_getElem? (i := 375) (by decide +kernel)) (by decide +kernel)
theorem q_9 : ((.methodLink "EdgeCampaign$Program" 27 ⟨"EdgeCampaign$Program", "fits", "(II)Z"⟩) : Cond) ∈ tb := tb_in (List.mem_of_getElem? (i := 373) (by decide +kernel)) (by decide +kernel)
theorem q_10 : ((.static ⟨"EdgeCampaign$Program", "fits", "(II)Z"⟩) : Cond) ∈ tb := tb_in (List.mem_of_getElem? (i := 374) (by decide +kernel)) (by decide +kernel)
theorem q_11 : ((.fieldLink "EdgeCampaign$Program" 9 "EdgeCampaign$Program" "ops" "[I") : Cond) ∈ tb := tb_in (List.mem_of_getElem? (i := 76) (by decide +kernel)) (by decide +kernel)
theorem q_12 : ((.fieldLink "EdgeCampaign$Program" 13 "EdgeCampaign$Program" "as" "[I") : Cond) ∈ tb := tb_in (List.mem_of_getElem? (i := 78) (by decide +kernel)) (by decide +kernel)
theorem q_13 : ((.fieldLink "EdgeCampaign$Program" 16 "EdgeCampaign$Program" "bs" "[I") : Cond) ∈ tb := tb_in (List.mem_of_getElem? (i := 80) (by decide +kernel)) (by decide +kernel)
theorem q_14 : ((.fieldLink "EdgeCampaign" 70 "EdgeCampaign" "executions" "I") : Cond) ∈ tb := tb_in (List.mem_of_getElem? (i := 334) (by decide +kernel)) (by decide +kernel)
theorem q_15 : ((.fieldLink "EdgeCampaign" 10 "EdgeCampaign" "program" "LEdgeCampaign$Program;") : Cond) ∈ tb := tb_in (List.mem_of_getElem? (i := 325) (by decide +kernel)) (by decide +kernel)
theorem q_16 : ((.code y_PR_append b_PR_append 4 (some .boolean)) : Cond) ∈ tb := tb_in (List.mem_of_getElem? (i := 369) (by decide +kernel)) (by decide +kernel)
theorem q_17 : ((.methodLink "EdgeCampaign" 80 ⟨"EdgeCampaign$Program", "append", "(III)Z"⟩) : Cond) ∈ tb := tb_in (List.mem_of_getElem? (i := 366) (by decide +kernel)) (by decide +kernel)
theorem q_18 : ((.instanceMethod ⟨"EdgeCampaign$Program", "append", "(III)Z"⟩) : Cond) ∈ tb := tb_in (List.mem_of_getElem? (i := 367) (by decide +kernel)) (by decide +kernel)
theorem q_19 : ((.selects "EdgeCampaign$Program" ⟨"EdgeCampaign$Program", "append", "(III)Z"⟩ ⟨"EdgeCampaign$Program", "append", "(III)Z"⟩) : Cond) ∈ tb := tb_in (List.mem_of_getElem? (i := 368) (by decide +kernel)) (by decide +kernel)
theorem q_20 : ((.fieldLink "EdgeCampaign$Input" 15 "EdgeCampaign$Input" "size" "I") : Cond) ∈ tb := tb_in (List.mem_of_getElem? (i := 100) (by decide +kernel)) (by decide +kernel)
theorem q_21 : ((.fieldLink "EdgeCampaign$Input" 11 "EdgeCampaign$Input" "bytes" "[I") : Cond) ∈ tb := tb_in (List.mem_of_getElem? (i := 99) (by decide +kernel)) (by decide +kernel)
theorem q_22 : ((.fieldLink "EdgeCampaign" 19 "EdgeCampaign" "draft" "LEdgeCampaign$Input;") : Cond) ∈ tb := tb_in (List.mem_of_getElem? (i := 326) (by decide +kernel)) (by decide +kernel)
theorem q_23 : ((.code y_IN_append b_IN_append 2 (some .boolean)) : Cond) ∈ tb := tb_in (List.mem_of_getElem? (i := 386) (by decide +kernel)) (by decide +kernel)
theorem q_24 : ((.methodLink "EdgeCampaign" 84 ⟨"EdgeCampaign$Input", "append", "(I)Z"⟩) : Cond) ∈ tb := tb_in (List.mem_of_getElem? (i := 383) (by decide +kernel)) (by decide +kernel)
theorem q_25 : ((.initialized "EdgeCampaign$Input") : Cond) ∈ tb := tb_in (List.mem_of_getElem? (i := 50) (by decide +kernel)) (by decide +kernel)
theorem q_26 : ((.instanceMethod ⟨"EdgeCampaign$Input", "append", "(I)Z"⟩) : Cond) ∈ tb := tb_in (List.mem_of_getElem? (i := 384) (by decide +kernel)) (by decide +kernel)
theorem q_27 : ((.selects "EdgeCampaign$Input" ⟨"EdgeCampaign$Input", "append", "(I)Z"⟩ ⟨"EdgeCampaign$Input", "append", "(I)Z"⟩) : Cond) ∈ tb := tb_in (List.mem_of_getElem? (i := 385) (by decide +kernel)) (by decide +kernel)
theorem q_28 : ((.fieldLink "EdgeCampaign$Run" 11 "EdgeCampaign$Run" "registers" "[I") : Cond) ∈ tb := tb_in (List.mem_of_getElem? (i := 117) (by decide +kernel)) (by decide +kernel)
theorem q_29 : ((.code y_JA_fill b_JA_fill 4 none) : Cond) ∈ tb := tb_in (List.mem_of_getElem? (i := 405) (by decide +kernel)) (by decide +kernel)
theorem q_30 : ((.methodLink "EdgeCampaign$Run" 53 ⟨"java/util/Arrays", "fill", "([II)V"⟩) : Cond) ∈ tb := tb_in (List.mem_of_getElem? (i := 403) (by decide +kernel)) (by decide +kernel)
theorem q_31 : ((.initialized "java/util/Arrays") : Cond) ∈ tb := tb_in (List.mem_of_getElem? (i := 60) (by decide +kernel)) (by decide +kernel)
theorem q_32 : ((.static ⟨"java/util/Arrays", "fill", "([II)V"⟩) : Cond) ∈ tb := tb_in (List.mem_of_getElem? (i := 404) (by decide +kernel)) (by decide +kernel)
theorem q_33 : ((.fieldLink "EdgeCampaign$Run" 17 "EdgeCampaign$Run" "memory" "[I") : Cond) ∈ tb := tb_in (List.mem_of_getElem? (i := 118) (by decide +kernel)) (by decide +kernel)
theorem q_34 : ((.fieldLink "EdgeCampaign$Run" 50 "EdgeCampaign$Run" "edgeCount" "I") : Cond) ∈ tb := tb_in (List.mem_of_getElem? (i := 124) (by decide +kernel)) (by decide +kernel)
theorem q_35 : ((.fieldLink "EdgeCampaign$Run" 47 "EdgeCampaign$Run" "depth" "I") : Cond) ∈ tb := tb_in (List.mem_of_getElem? (i := 126) (by decide +kernel)) (by decide +kernel)
theorem q_36 : ((.fieldLink "EdgeCampaign$Run" 36 "EdgeCampaign$Run" "pc" "I") : Cond) ∈ tb := tb_in (List.mem_of_getElem? (i := 127) (by decide +kernel)) (by decide +kernel)
theorem q_37 : ((.fieldLink "EdgeCampaign$Run" 59 "EdgeCampaign$Run" "here" "I") : Cond) ∈ tb := tb_in (List.mem_of_getElem? (i := 129) (by decide +kernel)) (by decide +kernel)
theorem q_38 : ((.fieldLink "EdgeCampaign$Run" 62 "EdgeCampaign$Run" "steps" "I") : Cond) ∈ tb := tb_in (List.mem_of_getElem? (i := 131) (by decide +kernel)) (by decide +kernel)
theorem q_39 : ((.fieldLink "EdgeCampaign$Run" 32 "EdgeCampaign$Run" "outcome" "I") : Cond) ∈ tb := tb_in (List.mem_of_getElem? (i := 132) (by decide +kernel)) (by decide +kernel)
theorem q_40 : ((.fieldLink "EdgeCampaign$Run" 23 "EdgeCampaign$Run" "times" "[I") : Cond) ∈ tb := tb_in (List.mem_of_getElem? (i := 120) (by decide +kernel)) (by decide +kernel)
theorem q_41 : ((.fieldLink "EdgeCampaign$Run" 26 "EdgeCampaign$Run" "edges" "[I") : Cond) ∈ tb := tb_in (List.mem_of_getElem? (i := 121) (by decide +kernel)) (by decide +kernel)
theorem q_42 : ((.fieldLink "EdgeCampaign$Run" 20 "EdgeCampaign$Run" "stack" "[I") : Cond) ∈ tb := tb_in (List.mem_of_getElem? (i := 119) (by decide +kernel)) (by decide +kernel)
theorem q_43 : ((.code y_PR_isJump b_PR_isJump 1 (some .boolean)) : Cond) ∈ tb := tb_in (List.mem_of_getElem? (i := 440) (by decide +kernel)) (by decide +kernel)
theorem q_44 : ((.methodLink "EdgeCampaign$Run" 100 ⟨"EdgeCampaign$Program", "isJump", "(I)Z"⟩) : Cond) ∈ tb := tb_in (List.mem_of_getElem? (i := 438) (by decide +kernel)) (by decide +kernel)
theorem q_45 : ((.static ⟨"EdgeCampaign$Program", "isJump", "(I)Z"⟩) : Cond) ∈ tb := tb_in (List.mem_of_getElem? (i := 439) (by decide +kernel)) (by decide +kernel)
theorem q_46 : ((.code y_PR_has b_PR_has 2 (some .boolean)) : Cond) ∈ tb := tb_in (List.mem_of_getElem? (i := 409) (by decide +kernel)) (by decide +kernel)
theorem q_47 : ((.methodLink "EdgeCampaign$Run" 39 ⟨"EdgeCampaign$Program", "has", "(I)Z"⟩) : Cond) ∈ tb := tb_in (List.mem_of_getElem? (i := 406) (by decide +kernel)) (by decide +kernel)
theorem q_48 : ((.instanceMethod ⟨"EdgeCampaign$Program", "has", "(I)Z"⟩) : Cond) ∈ tb := tb_in (List.mem_of_getElem? (i := 407) (by decide +kernel)) (by decide +kernel)
theorem q_49 : ((.selects "EdgeCampaign$Program" ⟨"EdgeCampaign$Program", "has", "(I)Z"⟩ ⟨"EdgeCampaign$Program", "has", "(I)Z"⟩) : Cond) ∈ tb := tb_in (List.mem_of_getElem? (i := 408) (by decide +kernel)) (by decide +kernel)
theorem q_50 : ((.code y_RU_goAlong b_RU_goAlong 2 none) : Cond) ∈ tb := tb_in (List.mem_of_getElem? (i := 444) (by decide +kernel)) (by decide +kernel)
theorem q_51 : ((.methodLink "EdgeCampaign$Run" 103 ⟨"EdgeCampaign$Run", "goAlong", "(I)V"⟩) : Cond) ∈ tb := tb_in (List.mem_of_getElem? (i := 441) (by decide +kernel)) (by decide +kernel)
theorem q_52 : ((.initialized "EdgeCampaign$Run") : Cond) ∈ tb := tb_in (List.mem_of_getElem? (i := 51) (by decide +kernel)) (by decide +kernel)
theorem q_53 : ((.instanceMethod ⟨"EdgeCampaign$Run", "goAlong", "(I)V"⟩) : Cond) ∈ tb := tb_in (List.mem_of_getElem? (i := 443) (by decide +kernel)) (by decide +kernel)
theorem q_54 : ((.selects "EdgeCampaign$Run" ⟨"EdgeCampaign$Run", "goAlong", "(I)V"⟩ ⟨"EdgeCampaign$Run", "goAlong", "(I)V"⟩) : Cond) ∈ tb := tb_in (List.mem_of_getElem? (i := 8) (by decide +kernel)) (by decide +kernel)
theorem q_55 : ((.code y_IN_at b_IN_at 2 (some .int)) : Cond) ∈ tb := tb_in (List.mem_of_getElem? (i := 417) (by decide +kernel)) (by decide +kernel)
theorem q_56 : ((.methodLink "EdgeCampaign$Run" 74 ⟨"EdgeCampaign$Input", "at", "(I)I"⟩) : Cond) ∈ tb := tb_in (List.mem_of_getElem? (i := 414) (by decide +kernel)) (by decide +kernel)
theorem q_57 : ((.instanceMethod ⟨"EdgeCampaign$Input", "at", "(I)I"⟩) : Cond) ∈ tb := tb_in (List.mem_of_getElem? (i := 415) (by decide +kernel)) (by decide +kernel)
theorem q_58 : ((.selects "EdgeCampaign$Input" ⟨"EdgeCampaign$Input", "at", "(I)I"⟩ ⟨"EdgeCampaign$Input", "at", "(I)I"⟩) : Cond) ∈ tb := tb_in (List.mem_of_getElem? (i := 416) (by decide +kernel)) (by decide +kernel)
theorem q_59 : ((.code y_RU_goInto b_RU_goInto 2 none) : Cond) ∈ tb := tb_in (List.mem_of_getElem? (i := 421) (by decide +kernel)) (by decide +kernel)
theorem q_60 : ((.methodLink "EdgeCampaign$Run" 80 ⟨"EdgeCampaign$Run", "goInto", "(I)V"⟩) : Cond) ∈ tb := tb_in (List.mem_of_getElem? (i := 418) (by decide +kernel)) (by decide +kernel)
theorem q_61 : ((.instanceMethod ⟨"EdgeCampaign$Run", "goInto", "(I)V"⟩) : Cond) ∈ tb := tb_in (List.mem_of_getElem? (i := 420) (by decide +kernel)) (by decide +kernel)
theorem q_62 : ((.selects "EdgeCampaign$Run" ⟨"EdgeCampaign$Run", "goInto", "(I)V"⟩ ⟨"EdgeCampaign$Run", "goInto", "(I)V"⟩) : Cond) ∈ tb := tb_in (List.mem_of_getElem? (i := 3) (by decide +kernel)) (by decide +kernel)
theorem q_63 : ((.code y_RU_goBack b_RU_goBack 1 none) : Cond) ∈ tb := tb_in (List.mem_of_getElem? (i := 425) (by decide +kernel)) (by decide +kernel)
theorem q_64 : ((.methodLink "EdgeCampaign$Run" 84 ⟨"EdgeCampaign$Run", "goBack", "()V"⟩) : Cond) ∈ tb := tb_in (List.mem_of_getElem? (i := 422) (by decide +kernel)) (by decide +kernel)
theorem q_65 : ((.instanceMethod ⟨"EdgeCampaign$Run", "goBack", "()V"⟩) : Cond) ∈ tb := tb_in (List.mem_of_getElem? (i := 424) (by decide +kernel)) (by decide +kernel)
theorem q_66 : ((.selects "EdgeCampaign$Run" ⟨"EdgeCampaign$Run", "goBack", "()V"⟩ ⟨"EdgeCampaign$Run", "goBack", "()V"⟩) : Cond) ∈ tb := tb_in (List.mem_of_getElem? (i := 4) (by decide +kernel)) (by decide +kernel)
theorem q_67 : ((.code y_RU_divide b_RU_divide 3 none) : Cond) ∈ tb := tb_in (List.mem_of_getElem? (i := 429) (by decide +kernel)) (by decide +kernel)
theorem q_68 : ((.methodLink "EdgeCampaign$Run" 87 ⟨"EdgeCampaign$Run", "divide", "(II)V"⟩) : Cond) ∈ tb := tb_in (List.mem_of_getElem? (i := 426) (by decide +kernel)) (by decide +kernel)
theorem q_69 : ((.instanceMethod ⟨"EdgeCampaign$Run", "divide", "(II)V"⟩) : Cond) ∈ tb := tb_in (List.mem_of_getElem? (i := 428) (by decide +kernel)) (by decide +kernel)
theorem q_70 : ((.selects "EdgeCampaign$Run" ⟨"EdgeCampaign$Run", "divide", "(II)V"⟩ ⟨"EdgeCampaign$Run", "divide", "(II)V"⟩) : Cond) ∈ tb := tb_in (List.mem_of_getElem? (i := 5) (by decide +kernel)) (by decide +kernel)
theorem q_71 : ((.code y_RU_load b_RU_load 3 none) : Cond) ∈ tb := tb_in (List.mem_of_getElem? (i := 433) (by decide +kernel)) (by decide +kernel)
theorem q_72 : ((.methodLink "EdgeCampaign$Run" 91 ⟨"EdgeCampaign$Run", "load", "(II)V"⟩) : Cond) ∈ tb := tb_in (List.mem_of_getElem? (i := 430) (by decide +kernel)) (by decide +kernel)
theorem q_73 : ((.instanceMethod ⟨"EdgeCampaign$Run", "load", "(II)V"⟩) : Cond) ∈ tb := tb_in (List.mem_of_getElem? (i := 432) (by decide +kernel)) (by decide +kernel)
theorem q_74 : ((.selects "EdgeCampaign$Run" ⟨"EdgeCampaign$Run", "load", "(II)V"⟩ ⟨"EdgeCampaign$Run", "load", "(II)V"⟩) : Cond) ∈ tb := tb_in (List.mem_of_getElem? (i := 6) (by decide +kernel)) (by decide +kernel)
theorem q_75 : ((.code y_RU_save b_RU_save 3 none) : Cond) ∈ tb := tb_in (List.mem_of_getElem? (i := 437) (by decide +kernel)) (by decide +kernel)
theorem q_76 : ((.methodLink "EdgeCampaign$Run" 94 ⟨"EdgeCampaign$Run", "save", "(II)V"⟩) : Cond) ∈ tb := tb_in (List.mem_of_getElem? (i := 434) (by decide +kernel)) (by decide +kernel)
theorem q_77 : ((.instanceMethod ⟨"EdgeCampaign$Run", "save", "(II)V"⟩) : Cond) ∈ tb := tb_in (List.mem_of_getElem? (i := 436) (by decide +kernel)) (by decide +kernel)
theorem q_78 : ((.selects "EdgeCampaign$Run" ⟨"EdgeCampaign$Run", "save", "(II)V"⟩ ⟨"EdgeCampaign$Run", "save", "(II)V"⟩) : Cond) ∈ tb := tb_in (List.mem_of_getElem? (i := 7) (by decide +kernel)) (by decide +kernel)
theorem q_79 : ((.code y_RU_reset b_RU_reset 2 none) : Cond) ∈ tb := tb_in (List.mem_of_getElem? (i := 402) (by decide +kernel)) (by decide +kernel)
theorem q_80 : ((.methodLink "EdgeCampaign$Run" 29 ⟨"EdgeCampaign$Run", "reset", "()V"⟩) : Cond) ∈ tb := tb_in (List.mem_of_getElem? (i := 399) (by decide +kernel)) (by decide +kernel)
theorem q_81 : ((.instanceMethod ⟨"EdgeCampaign$Run", "reset", "()V"⟩) : Cond) ∈ tb := tb_in (List.mem_of_getElem? (i := 401) (by decide +kernel)) (by decide +kernel)
theorem q_82 : ((.selects "EdgeCampaign$Run" ⟨"EdgeCampaign$Run", "reset", "()V"⟩ ⟨"EdgeCampaign$Run", "reset", "()V"⟩) : Cond) ∈ tb := tb_in (List.mem_of_getElem? (i := 1) (by decide +kernel)) (by decide +kernel)
theorem q_83 : ((.code y_RU_step b_RU_step 6 none) : Cond) ∈ tb := tb_in (List.mem_of_getElem? (i := 413) (by decide +kernel)) (by decide +kernel)
theorem q_84 : ((.methodLink "EdgeCampaign$Run" 43 ⟨"EdgeCampaign$Run", "step", "(LEdgeCampaign$Program;LEdgeCampaign$Input;)V"⟩) : Cond) ∈ tb := tb_in (List.mem_of_getElem? (i := 410) (by decide +kernel)) (by decide +kernel)
theorem q_85 : ((.instanceMethod ⟨"EdgeCampaign$Run", "step", "(LEdgeCampaign$Program;LEdgeCampaign$Input;)V"⟩) : Cond) ∈ tb := tb_in (List.mem_of_getElem? (i := 412) (by decide +kernel)) (by decide +kernel)
theorem q_86 : ((.selects "EdgeCampaign$Run" ⟨"EdgeCampaign$Run", "step", "(LEdgeCampaign$Program;LEdgeCampaign$Input;)V"⟩ ⟨"EdgeCampaign$Run", "step", "(LEdgeCampaign$Program;LEdgeCampaign$Input;)V"⟩) : Cond) ∈ tb := tb_in (List.mem_of_getElem? (i := 2) (by decide +kernel)) (by decide +kernel)
theorem q_87 : ((.fieldLink "EdgeCampaign$Store" 19 "EdgeCampaign$Store" "buckets" "[I") : Cond) ∈ tb := tb_in (List.mem_of_getElem? (i := 197) (by decide +kernel)) (by decide +kernel)
theorem q_88 : ((.code y_RU_pairBit b_RU_pairBit 3 (some .int)) : Cond) ∈ tb := tb_in (List.mem_of_getElem? (i := 452) (by decide +kernel)) (by decide +kernel)
theorem q_89 : ((.methodLink "EdgeCampaign$Store" 42 ⟨"EdgeCampaign$Run", "pairBit", "(I)I"⟩) : Cond) ∈ tb := tb_in (List.mem_of_getElem? (i := 449) (by decide +kernel)) (by decide +kernel)
theorem q_90 : ((.instanceMethod ⟨"EdgeCampaign$Run", "pairBit", "(I)I"⟩) : Cond) ∈ tb := tb_in (List.mem_of_getElem? (i := 450) (by decide +kernel)) (by decide +kernel)
theorem q_91 : ((.selects "EdgeCampaign$Run" ⟨"EdgeCampaign$Run", "pairBit", "(I)I"⟩ ⟨"EdgeCampaign$Run", "pairBit", "(I)I"⟩) : Cond) ∈ tb := tb_in (List.mem_of_getElem? (i := 451) (by decide +kernel)) (by decide +kernel)
theorem q_92 : ((.methodLink "EdgeCampaign$Input" 19 ⟨"java/lang/Math", "min", "(II)I"⟩) : Cond) ∈ tb := tb_in (List.mem_of_getElem? (i := 465) (by decide +kernel)) (by decide +kernel)
theorem q_93 : ((.static ⟨"java/lang/Math", "min", "(II)I"⟩) : Cond) ∈ tb := tb_in (List.mem_of_getElem? (i := 466) (by decide +kernel)) (by decide +kernel)
theorem q_94 : ((.initialized "java/lang/Math") : Cond) ∈ tb := tb_in (List.mem_of_getElem? (i := 61) (by decide +kernel)) (by decide +kernel)
theorem q_95 : ((.code Lib.Math.min.name Lib.Math.min.code 2 (some .int)) : Cond) ∈ tb := tb_in (List.mem_of_getElem? (i := 467) (by decide +kernel)) (by decide +kernel)
theorem q_96 : ((.methodLink "EdgeCampaign$Input" 25 ⟨"EdgeCampaign$Input", "at", "(I)I"⟩) : Cond) ∈ tb := tb_in (List.mem_of_getElem? (i := 468) (by decide +kernel)) (by decide +kernel)
theorem q_97 : ((.methodLink "EdgeCampaign$Input" 29 ⟨"EdgeCampaign$Input", "append", "(I)Z"⟩) : Cond) ∈ tb := tb_in (List.mem_of_getElem? (i := 469) (by decide +kernel)) (by decide +kernel)
theorem q_98 : ((.code y_IN_appendPart b_IN_appendPart 6 none) : Cond) ∈ tb := tb_in (List.mem_of_getElem? (i := 464) (by decide +kernel)) (by decide +kernel)
theorem q_99 : ((.methodLink "EdgeCampaign$Input" 33 ⟨"EdgeCampaign$Input", "appendPart", "(LEdgeCampaign$Input;II)V"⟩) : Cond) ∈ tb := tb_in (List.mem_of_getElem? (i := 461) (by decide +kernel)) (by decide +kernel)
theorem q_100 : ((.instanceMethod ⟨"EdgeCampaign$Input", "appendPart", "(LEdgeCampaign$Input;II)V"⟩) : Cond) ∈ tb := tb_in (List.mem_of_getElem? (i := 462) (by decide +kernel)) (by decide +kernel)
theorem q_101 : ((.selects "EdgeCampaign$Input" ⟨"EdgeCampaign$Input", "appendPart", "(LEdgeCampaign$Input;II)V"⟩ ⟨"EdgeCampaign$Input", "appendPart", "(LEdgeCampaign$Input;II)V"⟩) : Cond) ∈ tb := tb_in (List.mem_of_getElem? (i := 463) (by decide +kernel)) (by decide +kernel)
theorem q_102 : ((.fieldLink "EdgeCampaign$Store" 23 "EdgeCampaign$Store" "goers" "[I") : Cond) ∈ tb := tb_in (List.mem_of_getElem? (i := 199) (by decide +kernel)) (by decide +kernel)
theorem q_103 : ((.fieldLink "EdgeCampaign$Store" 27 "EdgeCampaign$Store" "size" "I") : Cond) ∈ tb := tb_in (List.mem_of_getElem? (i := 200) (by decide +kernel)) (by decide +kernel)
theorem q_104 : ((.fieldLink "EdgeCampaign$Store" 71 "EdgeCampaign$Store" "seenPairs" "I") : Cond) ∈ tb := tb_in (List.mem_of_getElem? (i := 207) (by decide +kernel)) (by decide +kernel)
theorem q_105 : ((.fieldLink "EdgeCampaign$Store" 68 "EdgeCampaign$Store" "seenEdges" "I") : Cond) ∈ tb := tb_in (List.mem_of_getElem? (i := 205) (by decide +kernel)) (by decide +kernel)
theorem q_106 : ((.fieldLink "EdgeCampaign$Entry" 16 "EdgeCampaign$Entry" "steps" "I") : Cond) ∈ tb := tb_in (List.mem_of_getElem? (i := 177) (by decide +kernel)) (by decide +kernel)
theorem q_107 : ((.fieldLink "EdgeCampaign$Entry" 10 "EdgeCampaign$Entry" "input" "LEdgeCampaign$Input;") : Cond) ∈ tb := tb_in (List.mem_of_getElem? (i := 173) (by decide +kernel)) (by decide +kernel)
theorem q_108 : ((.fieldLink "EdgeCampaign$Store" 13 "EdgeCampaign$Store" "entries" "[LEdgeCampaign$Entry;") : Cond) ∈ tb := tb_in (List.mem_of_getElem? (i := 194) (by decide +kernel)) (by decide +kernel)
theorem q_109 : ((.code y_EN_cost b_EN_cost 1 (some .int)) : Cond) ∈ tb := tb_in (List.mem_of_getElem? (i := 485) (by decide +kernel)) (by decide +kernel)
theorem q_110 : ((.methodLink "EdgeCampaign$Store" 77 ⟨"EdgeCampaign$Entry", "cost", "()I"⟩) : Cond) ∈ tb := tb_in (List.mem_of_getElem? (i := 482) (by decide +kernel)) (by decide +kernel)
theorem q_111 : ((.initialized "EdgeCampaign$Entry") : Cond) ∈ tb := tb_in (List.mem_of_getElem? (i := 53) (by decide +kernel)) (by decide +kernel)
theorem q_112 : ((.instanceMethod ⟨"EdgeCampaign$Entry", "cost", "()I"⟩) : Cond) ∈ tb := tb_in (List.mem_of_getElem? (i := 483) (by decide +kernel)) (by decide +kernel)
theorem q_113 : ((.selects "EdgeCampaign$Entry" ⟨"EdgeCampaign$Entry", "cost", "()I"⟩ ⟨"EdgeCampaign$Entry", "cost", "()I"⟩) : Cond) ∈ tb := tb_in (List.mem_of_getElem? (i := 484) (by decide +kernel)) (by decide +kernel)
theorem q_114 : ((.fieldLink "EdgeCampaign$Store" 31 "EdgeCampaign$Store" "favoured" "I") : Cond) ∈ tb := tb_in (List.mem_of_getElem? (i := 203) (by decide +kernel)) (by decide +kernel)
theorem q_115 : ((.code y_ST_top b_ST_top 5 (some .int)) : Cond) ∈ tb := tb_in (List.mem_of_getElem? (i := 481) (by decide +kernel)) (by decide +kernel)
theorem q_116 : ((.methodLink "EdgeCampaign$Store" 74 ⟨"EdgeCampaign$Store", "top", "(I)I"⟩) : Cond) ∈ tb := tb_in (List.mem_of_getElem? (i := 478) (by decide +kernel)) (by decide +kernel)
theorem q_117 : ((.initialized "EdgeCampaign$Store") : Cond) ∈ tb := tb_in (List.mem_of_getElem? (i := 52) (by decide +kernel)) (by decide +kernel)
theorem q_118 : ((.instanceMethod ⟨"EdgeCampaign$Store", "top", "(I)I"⟩) : Cond) ∈ tb := tb_in (List.mem_of_getElem? (i := 480) (by decide +kernel)) (by decide +kernel)
theorem q_119 : ((.selects "EdgeCampaign$Store" ⟨"EdgeCampaign$Store", "top", "(I)I"⟩ ⟨"EdgeCampaign$Store", "top", "(I)I"⟩) : Cond) ∈ tb := tb_in (List.mem_of_getElem? (i := 11) (by decide +kernel)) (by decide +kernel)
theorem q_120 : ((.code y_ST_chooseFavoured b_ST_chooseFavoured 2 none) : Cond) ∈ tb := tb_in (List.mem_of_getElem? (i := 477) (by decide +kernel)) (by decide +kernel)
theorem q_121 : ((.methodLink "EdgeCampaign$Store" 65 ⟨"EdgeCampaign$Store", "chooseFavoured", "()V"⟩) : Cond) ∈ tb := tb_in (List.mem_of_getElem? (i := 474) (by decide +kernel)) (by decide +kernel)
theorem q_122 : ((.instanceMethod ⟨"EdgeCampaign$Store", "chooseFavoured", "()V"⟩) : Cond) ∈ tb := tb_in (List.mem_of_getElem? (i := 476) (by decide +kernel)) (by decide +kernel)
theorem q_123 : ((.selects "EdgeCampaign$Store" ⟨"EdgeCampaign$Store", "chooseFavoured", "()V"⟩ ⟨"EdgeCampaign$Store", "chooseFavoured", "()V"⟩) : Cond) ∈ tb := tb_in (List.mem_of_getElem? (i := 10) (by decide +kernel)) (by decide +kernel)
theorem q_124 : ((.code y_IN_copy b_IN_copy 2 none) : Cond) ∈ tb := tb_in (List.mem_of_getElem? (i := 460) (by decide +kernel)) (by decide +kernel)
theorem q_125 : ((.methodLink "EdgeCampaign$Store" 50 ⟨"EdgeCampaign$Input", "copy", "(LEdgeCampaign$Input;)V"⟩) : Cond) ∈ tb := tb_in (List.mem_of_getElem? (i := 457) (by decide +kernel)) (by decide +kernel)
theorem q_126 : ((.instanceMethod ⟨"EdgeCampaign$Input", "copy", "(LEdgeCampaign$Input;)V"⟩) : Cond) ∈ tb := tb_in (List.mem_of_getElem? (i := 458) (by decide +kernel)) (by decide +kernel)
theorem q_127 : ((.selects "EdgeCampaign$Input" ⟨"EdgeCampaign$Input", "copy", "(LEdgeCampaign$Input;)V"⟩ ⟨"EdgeCampaign$Input", "copy", "(LEdgeCampaign$Input;)V"⟩) : Cond) ∈ tb := tb_in (List.mem_of_getElem? (i := 459) (by decide +kernel)) (by decide +kernel)
theorem q_128 : ((.code y_ST_markSeen b_ST_markSeen 3 none) : Cond) ∈ tb := tb_in (List.mem_of_getElem? (i := 473) (by decide +kernel)) (by decide +kernel)
theorem q_129 : ((.methodLink "EdgeCampaign$Store" 61 ⟨"EdgeCampaign$Store", "markSeen", "(II)V"⟩) : Cond) ∈ tb := tb_in (List.mem_of_getElem? (i := 470) (by decide +kernel)) (by decide +kernel)
theorem q_130 : ((.instanceMethod ⟨"EdgeCampaign$Store", "markSeen", "(II)V"⟩) : Cond) ∈ tb := tb_in (List.mem_of_getElem? (i := 472) (by decide +kernel)) (by decide +kernel)
theorem q_131 : ((.selects "EdgeCampaign$Store" ⟨"EdgeCampaign$Store", "markSeen", "(II)V"⟩ ⟨"EdgeCampaign$Store", "markSeen", "(II)V"⟩) : Cond) ∈ tb := tb_in (List.mem_of_getElem? (i := 9) (by decide +kernel)) (by decide +kernel)
theorem q_132 : ((.fieldLink "EdgeCampaign$Finding" 33 "EdgeCampaign$Finding" "trap" "I") : Cond) ∈ tb := tb_in (List.mem_of_getElem? (i := 245) (by decide +kernel)) (by decide +kernel)
theorem q_133 : ((.fieldLink "EdgeCampaign$Finding" 39 "EdgeCampaign$Finding" "here" "I") : Cond) ∈ tb := tb_in (List.mem_of_getElem? (i := 247) (by decide +kernel)) (by decide +kernel)
theorem q_134 : ((.fieldLink "EdgeCampaign$Finding" 43 "EdgeCampaign$Finding" "depth" "I") : Cond) ∈ tb := tb_in (List.mem_of_getElem? (i := 249) (by decide +kernel)) (by decide +kernel)
theorem q_135 : ((.fieldLink "EdgeCampaign$Finding" 21 "EdgeCampaign$Finding" "latestFirst" "[I") : Cond) ∈ tb := tb_in (List.mem_of_getElem? (i := 243) (by decide +kernel)) (by decide +kernel)
theorem q_136 : ((.code y_RU_onStack b_RU_onStack 3 (some .int)) : Cond) ∈ tb := tb_in (List.mem_of_getElem? (i := 501) (by decide +kernel)) (by decide +kernel)
theorem q_137 : ((.methodLink "EdgeCampaign$Finding" 44 ⟨"EdgeCampaign$Run", "onStack", "(I)I"⟩) : Cond) ∈ tb := tb_in (List.mem_of_getElem? (i := 498) (by decide +kernel)) (by decide +kernel)
theorem q_138 : ((.instanceMethod ⟨"EdgeCampaign$Run", "onStack", "(I)I"⟩) : Cond) ∈ tb := tb_in (List.mem_of_getElem? (i := 499) (by decide +kernel)) (by decide +kernel)
theorem q_139 : ((.selects "EdgeCampaign$Run" ⟨"EdgeCampaign$Run", "onStack", "(I)I"⟩ ⟨"EdgeCampaign$Run", "onStack", "(I)I"⟩) : Cond) ∈ tb := tb_in (List.mem_of_getElem? (i := 500) (by decide +kernel)) (by decide +kernel)
theorem q_140 : ((.fieldLink "EdgeCampaign$Findings" 11 "EdgeCampaign$Findings" "made" "[LEdgeCampaign$Finding;") : Cond) ∈ tb := tb_in (List.mem_of_getElem? (i := 269) (by decide +kernel)) (by decide +kernel)
theorem q_141 : ((.fieldLink "EdgeCampaign$Findings" 16 "EdgeCampaign$Findings" "size" "I") : Cond) ∈ tb := tb_in (List.mem_of_getElem? (i := 271) (by decide +kernel)) (by decide +kernel)
theorem q_142 : ((.code y_FI_hasSignOf b_FI_hasSignOf 3 (some .boolean)) : Cond) ∈ tb := tb_in (List.mem_of_getElem? (i := 497) (by decide +kernel)) (by decide +kernel)
theorem q_143 : ((.methodLink "EdgeCampaign$Findings" 20 ⟨"EdgeCampaign$Finding", "hasSignOf", "(LEdgeCampaign$Run;)Z"⟩) : Cond) ∈ tb := tb_in (List.mem_of_getElem? (i := 494) (by decide +kernel)) (by decide +kernel)
theorem q_144 : ((.initialized "EdgeCampaign$Finding") : Cond) ∈ tb := tb_in (List.mem_of_getElem? (i := 55) (by decide +kernel)) (by decide +kernel)
theorem q_145 : ((.instanceMethod ⟨"EdgeCampaign$Finding", "hasSignOf", "(LEdgeCampaign$Run;)Z"⟩) : Cond) ∈ tb := tb_in (List.mem_of_getElem? (i := 495) (by decide +kernel)) (by decide +kernel)
theorem q_146 : ((.selects "EdgeCampaign$Finding" ⟨"EdgeCampaign$Finding", "hasSignOf", "(LEdgeCampaign$Run;)Z"⟩ ⟨"EdgeCampaign$Finding", "hasSignOf", "(LEdgeCampaign$Run;)Z"⟩) : Cond) ∈ tb := tb_in (List.mem_of_getElem? (i := 496) (by decide +kernel)) (by decide +kernel)
theorem q_147 : ((.fieldLink "EdgeCampaign$Finding" 10 "EdgeCampaign$Finding" "input" "LEdgeCampaign$Input;") : Cond) ∈ tb := tb_in (List.mem_of_getElem? (i := 238) (by decide +kernel)) (by decide +kernel)
theorem q_148 : ((.methodLink "EdgeCampaign$Finding" 25 ⟨"EdgeCampaign$Input", "copy", "(LEdgeCampaign$Input;)V"⟩) : Cond) ∈ tb := tb_in (List.mem_of_getElem? (i := 510) (by decide +kernel)) (by decide +kernel)
theorem q_149 : ((.fieldLink "EdgeCampaign$Finding" 16 "EdgeCampaign$Finding" "shortest" "LEdgeCampaign$Input;") : Cond) ∈ tb := tb_in (List.mem_of_getElem? (i := 240) (by decide +kernel)) (by decide +kernel)
theorem q_150 : ((.fieldLink "EdgeCampaign$Finding" 48 "EdgeCampaign$Finding" "hits" "I") : Cond) ∈ tb := tb_in (List.mem_of_getElem? (i := 251) (by decide +kernel)) (by decide +kernel)
theorem q_151 : ((.code y_FI_begin b_FI_begin 4 none) : Cond) ∈ tb := tb_in (List.mem_of_getElem? (i := 509) (by decide +kernel)) (by decide +kernel)
theorem q_152 : ((.methodLink "EdgeCampaign$Findings" 27 ⟨"EdgeCampaign$Finding", "begin", "(LEdgeCampaign$Input;LEdgeCampaign$Run;)V"⟩) : Cond) ∈ tb := tb_in (List.mem_of_getElem? (i := 506) (by decide +kernel)) (by decide +kernel)
theorem q_153 : ((.instanceMethod ⟨"EdgeCampaign$Finding", "begin", "(LEdgeCampaign$Input;LEdgeCampaign$Run;)V"⟩) : Cond) ∈ tb := tb_in (List.mem_of_getElem? (i := 507) (by decide +kernel)) (by decide +kernel)
theorem q_154 : ((.selects "EdgeCampaign$Finding" ⟨"EdgeCampaign$Finding", "begin", "(LEdgeCampaign$Input;LEdgeCampaign$Run;)V"⟩ ⟨"EdgeCampaign$Finding", "begin", "(LEdgeCampaign$Input;LEdgeCampaign$Run;)V"⟩) : Cond) ∈ tb := tb_in (List.mem_of_getElem? (i := 508) (by decide +kernel)) (by decide +kernel)
theorem q_155 : ((.methodLink "EdgeCampaign$Input" 37 ⟨"java/lang/Math", "max", "(II)I"⟩) : Cond) ∈ tb := tb_in (List.mem_of_getElem? (i := 528) (by decide +kernel)) (by decide +kernel)
theorem q_156 : ((.static ⟨"java/lang/Math", "max", "(II)I"⟩) : Cond) ∈ tb := tb_in (List.mem_of_getElem? (i := 529) (by decide +kernel)) (by decide +kernel)
theorem q_157 : ((.code Lib.Math.max.name Lib.Math.max.code 2 (some .int)) : Cond) ∈ tb := tb_in (List.mem_of_getElem? (i := 530) (by decide +kernel)) (by decide +kernel)
theorem q_158 : ((.fieldLink "EdgeCampaign$Shortener" 19 "EdgeCampaign$Shortener" "candidate" "LEdgeCampaign$Input;") : Cond) ∈ tb := tb_in (List.mem_of_getElem? (i := 289) (by decide +kernel)) (by decide +kernel)
theorem q_159 : ((.code y_IN_cutTo b_IN_cutTo 2 none) : Cond) ∈ tb := tb_in (List.mem_of_getElem? (i := 527) (by decide +kernel)) (by decide +kernel)
theorem q_160 : ((.methodLink "EdgeCampaign$Shortener" 64 ⟨"EdgeCampaign$Input", "cutTo", "(I)V"⟩) : Cond) ∈ tb := tb_in (List.mem_of_getElem? (i := 524) (by decide +kernel)) (by decide +kernel)
theorem q_161 : ((.instanceMethod ⟨"EdgeCampaign$Input", "cutTo", "(I)V"⟩) : Cond) ∈ tb := tb_in (List.mem_of_getElem? (i := 525) (by decide +kernel)) (by decide +kernel)
theorem q_162 : ((.selects "EdgeCampaign$Input" ⟨"EdgeCampaign$Input", "cutTo", "(I)V"⟩ ⟨"EdgeCampaign$Input", "cutTo", "(I)V"⟩) : Cond) ∈ tb := tb_in (List.mem_of_getElem? (i := 526) (by decide +kernel)) (by decide +kernel)
theorem q_163 : ((.methodLink "EdgeCampaign$Shortener" 68 ⟨"EdgeCampaign$Input", "appendPart", "(LEdgeCampaign$Input;II)V"⟩) : Cond) ∈ tb := tb_in (List.mem_of_getElem? (i := 531) (by decide +kernel)) (by decide +kernel)
theorem q_164 : ((.methodLink "EdgeCampaign$Shortener" 60 ⟨"EdgeCampaign$Input", "copy", "(LEdgeCampaign$Input;)V"⟩) : Cond) ∈ tb := tb_in (List.mem_of_getElem? (i := 538) (by decide +kernel)) (by decide +kernel)
theorem q_165 : ((.fieldLink "EdgeCampaign$Shortener" 10 "EdgeCampaign$Shortener" "run" "LEdgeCampaign$Run;") : Cond) ∈ tb := tb_in (List.mem_of_getElem? (i := 288) (by decide +kernel)) (by decide +kernel)
theorem q_166 : ((.code y_RU_perform b_RU_perform 4 none) : Cond) ∈ tb := tb_in (List.mem_of_getElem? (i := 398) (by decide +kernel)) (by decide +kernel)
theorem q_167 : ((.methodLink "EdgeCampaign$Shortener" 52 ⟨"EdgeCampaign$Run", "perform", "(LEdgeCampaign$Program;LEdgeCampaign$Input;)V"⟩) : Cond) ∈ tb := tb_in (List.mem_of_getElem? (i := 536) (by decide +kernel)) (by decide +kernel)
theorem q_168 : ((.instanceMethod ⟨"EdgeCampaign$Run", "perform", "(LEdgeCampaign$Program;LEdgeCampaign$Input;)V"⟩) : Cond) ∈ tb := tb_in (List.mem_of_getElem? (i := 396) (by decide +kernel)) (by decide +kernel)
theorem q_169 : ((.selects "EdgeCampaign$Run" ⟨"EdgeCampaign$Run", "perform", "(LEdgeCampaign$Program;LEdgeCampaign$Input;)V"⟩ ⟨"EdgeCampaign$Run", "perform", "(LEdgeCampaign$Program;LEdgeCampaign$Input;)V"⟩) : Cond) ∈ tb := tb_in (List.mem_of_getElem? (i := 397) (by decide +kernel)) (by decide +kernel)
theorem q_170 : ((.methodLink "EdgeCampaign$Shortener" 56 ⟨"EdgeCampaign$Finding", "hasSignOf", "(LEdgeCampaign$Run;)Z"⟩) : Cond) ∈ tb := tb_in (List.mem_of_getElem? (i := 537) (by decide +kernel)) (by decide +kernel)
theorem q_171 : ((.code y_SH_makeRest b_SH_makeRest 4 none) : Cond) ∈ tb := tb_in (List.mem_of_getElem? (i := 535) (by decide +kernel)) (by decide +kernel)
theorem q_172 : ((.methodLink "EdgeCampaign$Shortener" 49 ⟨"EdgeCampaign$Shortener", "makeRest", "(LEdgeCampaign$Input;II)V"⟩) : Cond) ∈ tb := tb_in (List.mem_of_getElem? (i := 532) (by decide +kernel)) (by decide +kernel)
theorem q_173 : ((.initialized "EdgeCampaign$Shortener") : Cond) ∈ tb := tb_in (List.mem_of_getElem? (i := 56) (by decide +kernel)) (by decide +kernel)
theorem q_174 : ((.instanceMethod ⟨"EdgeCampaign$Shortener", "makeRest", "(LEdgeCampaign$Input;II)V"⟩) : Cond) ∈ tb := tb_in (List.mem_of_getElem? (i := 534) (by decide +kernel)) (by decide +kernel)
theorem q_175 : ((.selects "EdgeCampaign$Shortener" ⟨"EdgeCampaign$Shortener", "makeRest", "(LEdgeCampaign$Input;II)V"⟩ ⟨"EdgeCampaign$Shortener", "makeRest", "(LEdgeCampaign$Input;II)V"⟩) : Cond) ∈ tb := tb_in (List.mem_of_getElem? (i := 14) (by decide +kernel)) (by decide +kernel)
theorem q_176 : ((.code y_SH_makePart b_SH_makePart 4 none) : Cond) ∈ tb := tb_in (List.mem_of_getElem? (i := 523) (by decide +kernel)) (by decide +kernel)
theorem q_177 : ((.methodLink "EdgeCampaign$Shortener" 45 ⟨"EdgeCampaign$Shortener", "makePart", "(LEdgeCampaign$Input;II)V"⟩) : Cond) ∈ tb := tb_in (List.mem_of_getElem? (i := 520) (by decide +kernel)) (by decide +kernel)
theorem q_178 : ((.instanceMethod ⟨"EdgeCampaign$Shortener", "makePart", "(LEdgeCampaign$Input;II)V"⟩) : Cond) ∈ tb := tb_in (List.mem_of_getElem? (i := 522) (by decide +kernel)) (by decide +kernel)
theorem q_179 : ((.selects "EdgeCampaign$Shortener" ⟨"EdgeCampaign$Shortener", "makePart", "(LEdgeCampaign$Input;II)V"⟩ ⟨"EdgeCampaign$Shortener", "makePart", "(LEdgeCampaign$Input;II)V"⟩) : Cond) ∈ tb := tb_in (List.mem_of_getElem? (i := 13) (by decide +kernel)) (by decide +kernel)
theorem q_180 : ((.code y_SH_keepFirst b_SH_keepFirst 9 (some .boolean)) : Cond) ∈ tb := tb_in (List.mem_of_getElem? (i := 519) (by decide +kernel)) (by decide +kernel)
theorem q_181 : ((.methodLink "EdgeCampaign$Shortener" 38 ⟨"EdgeCampaign$Shortener", "keepFirst", "(LEdgeCampaign$Finding;LEdgeCampaign$Program;IZ)Z"⟩) : Cond) ∈ tb := tb_in (List.mem_of_getElem? (i := 516) (by decide +kernel)) (by decide +kernel)
theorem q_182 : ((.instanceMethod ⟨"EdgeCampaign$Shortener", "keepFirst", "(LEdgeCampaign$Finding;LEdgeCampaign$Program;IZ)Z"⟩) : Cond) ∈ tb := tb_in (List.mem_of_getElem? (i := 518) (by decide +kernel)) (by decide +kernel)
theorem q_183 : ((.selects "EdgeCampaign$Shortener" ⟨"EdgeCampaign$Shortener", "keepFirst", "(LEdgeCampaign$Finding;LEdgeCampaign$Program;IZ)Z"⟩ ⟨"EdgeCampaign$Shortener", "keepFirst", "(LEdgeCampaign$Finding;LEdgeCampaign$Program;IZ)Z"⟩) : Cond) ∈ tb := tb_in (List.mem_of_getElem? (i := 12) (by decide +kernel)) (by decide +kernel)
theorem q_184 : ((.methodLink "EdgeCampaign$Shortener" 32 ⟨"java/lang/Math", "min", "(II)I"⟩) : Cond) ∈ tb := tb_in (List.mem_of_getElem? (i := 515) (by decide +kernel)) (by decide +kernel)
theorem q_185 : ((.methodLink "EdgeCampaign$Shortener" 42 ⟨"java/lang/Math", "max", "(II)I"⟩) : Cond) ∈ tb := tb_in (List.mem_of_getElem? (i := 539) (by decide +kernel)) (by decide +kernel)
theorem q_186 : ((.fieldLink "EdgeCampaign$Trials" 48 "EdgeCampaign$Trials" "number" "I") : Cond) ∈ tb := tb_in (List.mem_of_getElem? (i := 314) (by decide +kernel)) (by decide +kernel)
theorem q_187 : ((.methodLink "EdgeCampaign$Trials" 90 ⟨"java/lang/Math", "min", "(II)I"⟩) : Cond) ∈ tb := tb_in (List.mem_of_getElem? (i := 555) (by decide +kernel)) (by decide +kernel)
theorem q_188 : ((.code y_ST_isFavoured b_ST_isFavoured 2 (some .boolean)) : Cond) ∈ tb := tb_in (List.mem_of_getElem? (i := 559) (by decide +kernel)) (by decide +kernel)
theorem q_189 : ((.methodLink "EdgeCampaign$Trials" 96 ⟨"EdgeCampaign$Store", "isFavoured", "(I)Z"⟩) : Cond) ∈ tb := tb_in (List.mem_of_getElem? (i := 556) (by decide +kernel)) (by decide +kernel)
theorem q_190 : ((.instanceMethod ⟨"EdgeCampaign$Store", "isFavoured", "(I)Z"⟩) : Cond) ∈ tb := tb_in (List.mem_of_getElem? (i := 557) (by decide +kernel)) (by decide +kernel)
theorem q_191 : ((.selects "EdgeCampaign$Store" ⟨"EdgeCampaign$Store", "isFavoured", "(I)Z"⟩ ⟨"EdgeCampaign$Store", "isFavoured", "(I)Z"⟩) : Cond) ∈ tb := tb_in (List.mem_of_getElem? (i := 558) (by decide +kernel)) (by decide +kernel)
theorem q_192 : ((.fieldLink "EdgeCampaign$Trials" 68 "EdgeCampaign$Trials" "energy" "I") : Cond) ∈ tb := tb_in (List.mem_of_getElem? (i := 316) (by decide +kernel)) (by decide +kernel)
theorem q_193 : ((.fieldLink "EdgeCampaign$Trials" 9 "EdgeCampaign$Trials" "taken" "I") : Cond) ∈ tb := tb_in (List.mem_of_getElem? (i := 312) (by decide +kernel)) (by decide +kernel)
theorem q_194 : ((.code y_TR_firstDrawing b_TR_firstDrawing 1 (some .int)) : Cond) ∈ tb := tb_in (List.mem_of_getElem? (i := 554) (by decide +kernel)) (by decide +kernel)
theorem q_195 : ((.methodLink "EdgeCampaign$Trials" 44 ⟨"EdgeCampaign$Trials", "firstDrawing", "(LEdgeCampaign$Input;)I"⟩) : Cond) ∈ tb := tb_in (List.mem_of_getElem? (i := 552) (by decide +kernel)) (by decide +kernel)
theorem q_196 : ((.initialized "EdgeCampaign$Trials") : Cond) ∈ tb := tb_in (List.mem_of_getElem? (i := 58) (by decide +kernel)) (by decide +kernel)
theorem q_197 : ((.static ⟨"EdgeCampaign$Trials", "firstDrawing", "(LEdgeCampaign$Input;)I"⟩) : Cond) ∈ tb := tb_in (List.mem_of_getElem? (i := 553) (by decide +kernel)) (by decide +kernel)
theorem q_198 : ((.code y_ST_has b_ST_has 2 (some .boolean)) : Cond) ∈ tb := tb_in (List.mem_of_getElem? (i := 547) (by decide +kernel)) (by decide +kernel)
theorem q_199 : ((.methodLink "EdgeCampaign$Trials" 15 ⟨"EdgeCampaign$Store", "has", "(I)Z"⟩) : Cond) ∈ tb := tb_in (List.mem_of_getElem? (i := 544) (by decide +kernel)) (by decide +kernel)
theorem q_200 : ((.instanceMethod ⟨"EdgeCampaign$Store", "has", "(I)Z"⟩) : Cond) ∈ tb := tb_in (List.mem_of_getElem? (i := 545) (by decide +kernel)) (by decide +kernel)
theorem q_201 : ((.selects "EdgeCampaign$Store" ⟨"EdgeCampaign$Store", "has", "(I)Z"⟩ ⟨"EdgeCampaign$Store", "has", "(I)Z"⟩) : Cond) ∈ tb := tb_in (List.mem_of_getElem? (i := 546) (by decide +kernel)) (by decide +kernel)
theorem q_202 : ((.code y_TR_takeUp b_TR_takeUp 4 none) : Cond) ∈ tb := tb_in (List.mem_of_getElem? (i := 551) (by decide +kernel)) (by decide +kernel)
theorem q_203 : ((.methodLink "EdgeCampaign$Trials" 21 ⟨"EdgeCampaign$Trials", "takeUp", "(LEdgeCampaign$Store;I)V"⟩) : Cond) ∈ tb := tb_in (List.mem_of_getElem? (i := 548) (by decide +kernel)) (by decide +kernel)
theorem q_204 : ((.instanceMethod ⟨"EdgeCampaign$Trials", "takeUp", "(LEdgeCampaign$Store;I)V"⟩) : Cond) ∈ tb := tb_in (List.mem_of_getElem? (i := 550) (by decide +kernel)) (by decide +kernel)
theorem q_205 : ((.selects "EdgeCampaign$Trials" ⟨"EdgeCampaign$Trials", "takeUp", "(LEdgeCampaign$Store;I)V"⟩ ⟨"EdgeCampaign$Trials", "takeUp", "(LEdgeCampaign$Store;I)V"⟩) : Cond) ∈ tb := tb_in (List.mem_of_getElem? (i := 15) (by decide +kernel)) (by decide +kernel)
theorem q_206 : ((.fieldLink "EdgeCampaign" 66 "EdgeCampaign" "trials" "LEdgeCampaign$Trials;") : Cond) ∈ tb := tb_in (List.mem_of_getElem? (i := 333) (by decide +kernel)) (by decide +kernel)
theorem q_207 : ((.fieldLink "EdgeCampaign" 36 "EdgeCampaign" "store" "LEdgeCampaign$Store;") : Cond) ∈ tb := tb_in (List.mem_of_getElem? (i := 329) (by decide +kernel)) (by decide +kernel)
theorem q_208 : ((.code y_TR_beginWithFirst b_TR_beginWithFirst 2 none) : Cond) ∈ tb := tb_in (List.mem_of_getElem? (i := 543) (by decide +kernel)) (by decide +kernel)
theorem q_209 : ((.methodLink "EdgeCampaign" 216 ⟨"EdgeCampaign$Trials", "beginWithFirst", "(LEdgeCampaign$Store;)V"⟩) : Cond) ∈ tb := tb_in (List.mem_of_getElem? (i := 540) (by decide +kernel)) (by decide +kernel)
theorem q_210 : ((.instanceMethod ⟨"EdgeCampaign$Trials", "beginWithFirst", "(LEdgeCampaign$Store;)V"⟩) : Cond) ∈ tb := tb_in (List.mem_of_getElem? (i := 541) (by decide +kernel)) (by decide +kernel)
theorem q_211 : ((.selects "EdgeCampaign$Trials" ⟨"EdgeCampaign$Trials", "beginWithFirst", "(LEdgeCampaign$Store;)V"⟩ ⟨"EdgeCampaign$Trials", "beginWithFirst", "(LEdgeCampaign$Store;)V"⟩) : Cond) ∈ tb := tb_in (List.mem_of_getElem? (i := 542) (by decide +kernel)) (by decide +kernel)
theorem q_212 : ((.fieldLink "EdgeCampaign" 29 "EdgeCampaign" "run" "LEdgeCampaign$Run;") : Cond) ∈ tb := tb_in (List.mem_of_getElem? (i := 328) (by decide +kernel)) (by decide +kernel)
theorem q_213 : ((.code y_RU_hasTrapped b_RU_hasTrapped 1 (some .boolean)) : Cond) ∈ tb := tb_in (List.mem_of_getElem? (i := 489) (by decide +kernel)) (by decide +kernel)
theorem q_214 : ((.methodLink "EdgeCampaign" 201 ⟨"EdgeCampaign$Run", "hasTrapped", "()Z"⟩) : Cond) ∈ tb := tb_in (List.mem_of_getElem? (i := 486) (by decide +kernel)) (by decide +kernel)
theorem q_215 : ((.instanceMethod ⟨"EdgeCampaign$Run", "hasTrapped", "()Z"⟩) : Cond) ∈ tb := tb_in (List.mem_of_getElem? (i := 487) (by decide +kernel)) (by decide +kernel)
theorem q_216 : ((.selects "EdgeCampaign$Run" ⟨"EdgeCampaign$Run", "hasTrapped", "()Z"⟩ ⟨"EdgeCampaign$Run", "hasTrapped", "()Z"⟩) : Cond) ∈ tb := tb_in (List.mem_of_getElem? (i := 488) (by decide +kernel)) (by decide +kernel)
theorem q_217 : ((.fieldLink "EdgeCampaign" 43 "EdgeCampaign" "findings" "LEdgeCampaign$Findings;") : Cond) ∈ tb := tb_in (List.mem_of_getElem? (i := 330) (by decide +kernel)) (by decide +kernel)
theorem q_218 : ((.code y_FS_countHit b_FS_countHit 3 (some .boolean)) : Cond) ∈ tb := tb_in (List.mem_of_getElem? (i := 493) (by decide +kernel)) (by decide +kernel)
theorem q_219 : ((.methodLink "EdgeCampaign" 205 ⟨"EdgeCampaign$Findings", "countHit", "(LEdgeCampaign$Run;)Z"⟩) : Cond) ∈ tb := tb_in (List.mem_of_getElem? (i := 490) (by decide +kernel)) (by decide +kernel)
theorem q_220 : ((.initialized "EdgeCampaign$Findings") : Cond) ∈ tb := tb_in (List.mem_of_getElem? (i := 54) (by decide +kernel)) (by decide +kernel)
theorem q_221 : ((.instanceMethod ⟨"EdgeCampaign$Findings", "countHit", "(LEdgeCampaign$Run;)Z"⟩) : Cond) ∈ tb := tb_in (List.mem_of_getElem? (i := 491) (by decide +kernel)) (by decide +kernel)
theorem q_222 : ((.selects "EdgeCampaign$Findings" ⟨"EdgeCampaign$Findings", "countHit", "(LEdgeCampaign$Run;)Z"⟩ ⟨"EdgeCampaign$Findings", "countHit", "(LEdgeCampaign$Run;)Z"⟩) : Cond) ∈ tb := tb_in (List.mem_of_getElem? (i := 492) (by decide +kernel)) (by decide +kernel)
theorem q_223 : ((.code y_FS_begin b_FS_begin 4 (some (.object "EdgeCampaign$Finding"))) : Cond) ∈ tb := tb_in (List.mem_of_getElem? (i := 505) (by decide +kernel)) (by decide +kernel)
theorem q_224 : ((.methodLink "EdgeCampaign" 208 ⟨"EdgeCampaign$Findings", "begin", "(LEdgeCampaign$Input;LEdgeCampaign$Run;)LEdgeCampaign$Finding;"⟩) : Cond) ∈ tb := tb_in (List.mem_of_getElem? (i := 502) (by decide +kernel)) (by decide +kernel)
theorem q_225 : ((.instanceMethod ⟨"EdgeCampaign$Findings", "begin", "(LEdgeCampaign$Input;LEdgeCampaign$Run;)LEdgeCampaign$Finding;"⟩) : Cond) ∈ tb := tb_in (List.mem_of_getElem? (i := 503) (by decide +kernel)) (by decide +kernel)
theorem q_226 : ((.selects "EdgeCampaign$Findings" ⟨"EdgeCampaign$Findings", "begin", "(LEdgeCampaign$Input;LEdgeCampaign$Run;)LEdgeCampaign$Finding;"⟩ ⟨"EdgeCampaign$Findings", "begin", "(LEdgeCampaign$Input;LEdgeCampaign$Run;)LEdgeCampaign$Finding;"⟩) : Cond) ∈ tb := tb_in (List.mem_of_getElem? (i := 504) (by decide +kernel)) (by decide +kernel)
theorem q_227 : ((.fieldLink "EdgeCampaign" 77 "EdgeCampaign" "lost" "I") : Cond) ∈ tb := tb_in (List.mem_of_getElem? (i := 336) (by decide +kernel)) (by decide +kernel)
theorem q_228 : ((.fieldLink "EdgeCampaign" 50 "EdgeCampaign" "shortener" "LEdgeCampaign$Shortener;") : Cond) ∈ tb := tb_in (List.mem_of_getElem? (i := 331) (by decide +kernel)) (by decide +kernel)
theorem q_229 : ((.code y_SH_shorten b_SH_shorten 7 none) : Cond) ∈ tb := tb_in (List.mem_of_getElem? (i := 514) (by decide +kernel)) (by decide +kernel)
theorem q_230 : ((.methodLink "EdgeCampaign" 212 ⟨"EdgeCampaign$Shortener", "shorten", "(LEdgeCampaign$Finding;LEdgeCampaign$Program;)V"⟩) : Cond) ∈ tb := tb_in (List.mem_of_getElem? (i := 511) (by decide +kernel)) (by decide +kernel)
theorem q_231 : ((.instanceMethod ⟨"EdgeCampaign$Shortener", "shorten", "(LEdgeCampaign$Finding;LEdgeCampaign$Program;)V"⟩) : Cond) ∈ tb := tb_in (List.mem_of_getElem? (i := 512) (by decide +kernel)) (by decide +kernel)
theorem q_232 : ((.selects "EdgeCampaign$Shortener" ⟨"EdgeCampaign$Shortener", "shorten", "(LEdgeCampaign$Finding;LEdgeCampaign$Program;)V"⟩ ⟨"EdgeCampaign$Shortener", "shorten", "(LEdgeCampaign$Finding;LEdgeCampaign$Program;)V"⟩) : Cond) ∈ tb := tb_in (List.mem_of_getElem? (i := 513) (by decide +kernel)) (by decide +kernel)
theorem q_233 : ((.code y_ST_hasNews b_ST_hasNews 4 (some .boolean)) : Cond) ∈ tb := tb_in (List.mem_of_getElem? (i := 448) (by decide +kernel)) (by decide +kernel)
theorem q_234 : ((.methodLink "EdgeCampaign" 193 ⟨"EdgeCampaign$Store", "hasNews", "(LEdgeCampaign$Run;)Z"⟩) : Cond) ∈ tb := tb_in (List.mem_of_getElem? (i := 445) (by decide +kernel)) (by decide +kernel)
theorem q_235 : ((.instanceMethod ⟨"EdgeCampaign$Store", "hasNews", "(LEdgeCampaign$Run;)Z"⟩) : Cond) ∈ tb := tb_in (List.mem_of_getElem? (i := 446) (by decide +kernel)) (by decide +kernel)
theorem q_236 : ((.selects "EdgeCampaign$Store" ⟨"EdgeCampaign$Store", "hasNews", "(LEdgeCampaign$Run;)Z"⟩ ⟨"EdgeCampaign$Store", "hasNews", "(LEdgeCampaign$Run;)Z"⟩) : Cond) ∈ tb := tb_in (List.mem_of_getElem? (i := 447) (by decide +kernel)) (by decide +kernel)
theorem q_237 : ((.code y_ST_keep b_ST_keep 5 (some .boolean)) : Cond) ∈ tb := tb_in (List.mem_of_getElem? (i := 456) (by decide +kernel)) (by decide +kernel)
theorem q_238 : ((.methodLink "EdgeCampaign" 197 ⟨"EdgeCampaign$Store", "keep", "(LEdgeCampaign$Input;LEdgeCampaign$Run;)Z"⟩) : Cond) ∈ tb := tb_in (List.mem_of_getElem? (i := 453) (by decide +kernel)) (by decide +kernel)
theorem q_239 : ((.instanceMethod ⟨"EdgeCampaign$Store", "keep", "(LEdgeCampaign$Input;LEdgeCampaign$Run;)Z"⟩) : Cond) ∈ tb := tb_in (List.mem_of_getElem? (i := 454) (by decide +kernel)) (by decide +kernel)
theorem q_240 : ((.selects "EdgeCampaign$Store" ⟨"EdgeCampaign$Store", "keep", "(LEdgeCampaign$Input;LEdgeCampaign$Run;)Z"⟩ ⟨"EdgeCampaign$Store", "keep", "(LEdgeCampaign$Input;LEdgeCampaign$Run;)Z"⟩) : Cond) ∈ tb := tb_in (List.mem_of_getElem? (i := 455) (by decide +kernel)) (by decide +kernel)
theorem q_241 : ((.methodLink "EdgeCampaign" 186 ⟨"EdgeCampaign$Run", "perform", "(LEdgeCampaign$Program;LEdgeCampaign$Input;)V"⟩) : Cond) ∈ tb := tb_in (List.mem_of_getElem? (i := 395) (by decide +kernel)) (by decide +kernel)
theorem q_242 : ((.fieldLink "EdgeCampaign" 74 "EdgeCampaign" "hangs" "I") : Cond) ∈ tb := tb_in (List.mem_of_getElem? (i := 335) (by decide +kernel)) (by decide +kernel)
theorem q_243 : ((.code y_EC_execute b_EC_execute 3 (some .int)) : Cond) ∈ tb := tb_in (List.mem_of_getElem? (i := 394) (by decide +kernel)) (by decide +kernel)
theorem q_244 : ((.methodLink "EdgeCampaign" 87 ⟨"EdgeCampaign", "execute", "(LEdgeCampaign$Input;)I"⟩) : Cond) ∈ tb := tb_in (List.mem_of_getElem? (i := 391) (by decide +kernel)) (by decide +kernel)
theorem q_245 : ((.initialized "EdgeCampaign") : Cond) ∈ tb := tb_in (List.mem_of_getElem? (i := 48) (by decide +kernel)) (by decide +kernel)
theorem q_246 : ((.instanceMethod ⟨"EdgeCampaign", "execute", "(LEdgeCampaign$Input;)I"⟩) : Cond) ∈ tb := tb_in (List.mem_of_getElem? (i := 393) (by decide +kernel)) (by decide +kernel)
theorem q_247 : ((.selects "EdgeCampaign" ⟨"EdgeCampaign", "execute", "(LEdgeCampaign$Input;)I"⟩ ⟨"EdgeCampaign", "execute", "(LEdgeCampaign$Input;)I"⟩) : Cond) ∈ tb := tb_in (List.mem_of_getElem? (i := 0) (by decide +kernel)) (by decide +kernel)
theorem q_248 : ((.methodLink "EdgeCampaign" 91 ⟨"EdgeCampaign$Input", "cutTo", "(I)V"⟩) : Cond) ∈ tb := tb_in (List.mem_of_getElem? (i := 560) (by decide +kernel)) (by decide +kernel)
theorem q_249 : ((.code y_IN_put b_IN_put 3 none) : Cond) ∈ tb := tb_in (List.mem_of_getElem? (i := 577) (by decide +kernel)) (by decide +kernel)
theorem q_250 : ((.methodLink "EdgeCampaign$Input" 40 ⟨"EdgeCampaign$Input", "put", "(II)V"⟩) : Cond) ∈ tb := tb_in (List.mem_of_getElem? (i := 574) (by decide +kernel)) (by decide +kernel)
theorem q_251 : ((.instanceMethod ⟨"EdgeCampaign$Input", "put", "(II)V"⟩) : Cond) ∈ tb := tb_in (List.mem_of_getElem? (i := 575) (by decide +kernel)) (by decide +kernel)
theorem q_252 : ((.selects "EdgeCampaign$Input" ⟨"EdgeCampaign$Input", "put", "(II)V"⟩ ⟨"EdgeCampaign$Input", "put", "(II)V"⟩) : Cond) ∈ tb := tb_in (List.mem_of_getElem? (i := 576) (by decide +kernel)) (by decide +kernel)
theorem q_253 : ((.fieldLink "EdgeCampaign$Generator" 7 "EdgeCampaign$Generator" "x" "I") : Cond) ∈ tb := tb_in (List.mem_of_getElem? (i := 301) (by decide +kernel)) (by decide +kernel)
theorem q_254 : ((.constant "EdgeCampaign$Generator" 13 2147483647) : Cond) ∈ tb := tb_in (List.mem_of_getElem? (i := 594) (by decide +kernel)) (by decide +kernel)
theorem q_255 : ((.code y_GE_draw b_GE_draw 2 (some .int)) : Cond) ∈ tb := tb_in (List.mem_of_getElem? (i := 593) (by decide +kernel)) (by decide +kernel)
theorem q_256 : ((.methodLink "EdgeCampaign$Trials" 103 ⟨"EdgeCampaign$Generator", "draw", "(I)I"⟩) : Cond) ∈ tb := tb_in (List.mem_of_getElem? (i := 590) (by decide +kernel)) (by decide +kernel)
theorem q_257 : ((.initialized "EdgeCampaign$Generator") : Cond) ∈ tb := tb_in (List.mem_of_getElem? (i := 57) (by decide +kernel)) (by decide +kernel)
theorem q_258 : ((.instanceMethod ⟨"EdgeCampaign$Generator", "draw", "(I)I"⟩) : Cond) ∈ tb := tb_in (List.mem_of_getElem? (i := 591) (by decide +kernel)) (by decide +kernel)
theorem q_259 : ((.selects "EdgeCampaign$Generator" ⟨"EdgeCampaign$Generator", "draw", "(I)I"⟩ ⟨"EdgeCampaign$Generator", "draw", "(I)I"⟩) : Cond) ∈ tb := tb_in (List.mem_of_getElem? (i := 592) (by decide +kernel)) (by decide +kernel)
theorem q_260 : ((.code y_IN_insert b_IN_insert 4 none) : Cond) ∈ tb := tb_in (List.mem_of_getElem? (i := 601) (by decide +kernel)) (by decide +kernel)
theorem q_261 : ((.methodLink "EdgeCampaign$Trials" 115 ⟨"EdgeCampaign$Input", "insert", "(II)V"⟩) : Cond) ∈ tb := tb_in (List.mem_of_getElem? (i := 598) (by decide +kernel)) (by decide +kernel)
theorem q_262 : ((.instanceMethod ⟨"EdgeCampaign$Input", "insert", "(II)V"⟩) : Cond) ∈ tb := tb_in (List.mem_of_getElem? (i := 599) (by decide +kernel)) (by decide +kernel)
theorem q_263 : ((.selects "EdgeCampaign$Input" ⟨"EdgeCampaign$Input", "insert", "(II)V"⟩ ⟨"EdgeCampaign$Input", "insert", "(II)V"⟩) : Cond) ∈ tb := tb_in (List.mem_of_getElem? (i := 600) (by decide +kernel)) (by decide +kernel)
theorem q_264 : ((.code y_IN_addTo b_IN_addTo 3 none) : Cond) ∈ tb := tb_in (List.mem_of_getElem? (i := 583) (by decide +kernel)) (by decide +kernel)
theorem q_265 : ((.methodLink "EdgeCampaign$Trials" 59 ⟨"EdgeCampaign$Input", "addTo", "(II)V"⟩) : Cond) ∈ tb := tb_in (List.mem_of_getElem? (i := 580) (by decide +kernel)) (by decide +kernel)
theorem q_266 : ((.instanceMethod ⟨"EdgeCampaign$Input", "addTo", "(II)V"⟩) : Cond) ∈ tb := tb_in (List.mem_of_getElem? (i := 581) (by decide +kernel)) (by decide +kernel)
theorem q_267 : ((.selects "EdgeCampaign$Input" ⟨"EdgeCampaign$Input", "addTo", "(II)V"⟩ ⟨"EdgeCampaign$Input", "addTo", "(II)V"⟩) : Cond) ∈ tb := tb_in (List.mem_of_getElem? (i := 582) (by decide +kernel)) (by decide +kernel)
theorem q_268 : ((.code y_IN_turnBit b_IN_turnBit 3 none) : Cond) ∈ tb := tb_in (List.mem_of_getElem? (i := 573) (by decide +kernel)) (by decide +kernel)
theorem q_269 : ((.methodLink "EdgeCampaign$Trials" 51 ⟨"EdgeCampaign$Input", "turnBit", "(II)V"⟩) : Cond) ∈ tb := tb_in (List.mem_of_getElem? (i := 570) (by decide +kernel)) (by decide +kernel)
theorem q_270 : ((.instanceMethod ⟨"EdgeCampaign$Input", "turnBit", "(II)V"⟩) : Cond) ∈ tb := tb_in (List.mem_of_getElem? (i := 571) (by decide +kernel)) (by decide +kernel)
theorem q_271 : ((.selects "EdgeCampaign$Input" ⟨"EdgeCampaign$Input", "turnBit", "(II)V"⟩ ⟨"EdgeCampaign$Input", "turnBit", "(II)V"⟩) : Cond) ∈ tb := tb_in (List.mem_of_getElem? (i := 572) (by decide +kernel)) (by decide +kernel)
theorem q_272 : ((.methodLink "EdgeCampaign$Trials" 65 ⟨"EdgeCampaign$Input", "put", "(II)V"⟩) : Cond) ∈ tb := tb_in (List.mem_of_getElem? (i := 586) (by decide +kernel)) (by decide +kernel)
theorem q_273 : ((.code y_IN_takeOut b_IN_takeOut 3 none) : Cond) ∈ tb := tb_in (List.mem_of_getElem? (i := 608) (by decide +kernel)) (by decide +kernel)
theorem q_274 : ((.methodLink "EdgeCampaign$Trials" 118 ⟨"EdgeCampaign$Input", "takeOut", "(I)V"⟩) : Cond) ∈ tb := tb_in (List.mem_of_getElem? (i := 605) (by decide +kernel)) (by decide +kernel)
theorem q_275 : ((.instanceMethod ⟨"EdgeCampaign$Input", "takeOut", "(I)V"⟩) : Cond) ∈ tb := tb_in (List.mem_of_getElem? (i := 606) (by decide +kernel)) (by decide +kernel)
theorem q_276 : ((.selects "EdgeCampaign$Input" ⟨"EdgeCampaign$Input", "takeOut", "(I)V"⟩ ⟨"EdgeCampaign$Input", "takeOut", "(I)V"⟩) : Cond) ∈ tb := tb_in (List.mem_of_getElem? (i := 607) (by decide +kernel)) (by decide +kernel)
theorem q_277 : ((.code y_TR_changeDrawn b_TR_changeDrawn 5 none) : Cond) ∈ tb := tb_in (List.mem_of_getElem? (i := 604) (by decide +kernel)) (by decide +kernel)
theorem q_278 : ((.methodLink "EdgeCampaign$Trials" 111 ⟨"EdgeCampaign$Trials", "changeDrawn", "(ILEdgeCampaign$Input;LEdgeCampaign$Generator;)V"⟩) : Cond) ∈ tb := tb_in (List.mem_of_getElem? (i := 602) (by decide +kernel)) (by decide +kernel)
theorem q_279 : ((.static ⟨"EdgeCampaign$Trials", "changeDrawn", "(ILEdgeCampaign$Input;LEdgeCampaign$Generator;)V"⟩) : Cond) ∈ tb := tb_in (List.mem_of_getElem? (i := 603) (by decide +kernel)) (by decide +kernel)
theorem q_280 : ((.code y_TR_insertDrawn b_TR_insertDrawn 3 none) : Cond) ∈ tb := tb_in (List.mem_of_getElem? (i := 597) (by decide +kernel)) (by decide +kernel)
theorem q_281 : ((.methodLink "EdgeCampaign$Trials" 108 ⟨"EdgeCampaign$Trials", "insertDrawn", "(LEdgeCampaign$Input;LEdgeCampaign$Generator;)V"⟩) : Cond) ∈ tb := tb_in (List.mem_of_getElem? (i := 595) (by decide +kernel)) (by decide +kernel)
theorem q_282 : ((.static ⟨"EdgeCampaign$Trials", "insertDrawn", "(LEdgeCampaign$Input;LEdgeCampaign$Generator;)V"⟩) : Cond) ∈ tb := tb_in (List.mem_of_getElem? (i := 596) (by decide +kernel)) (by decide +kernel)
theorem q_283 : ((.methodLink "EdgeCampaign$Trials" 122 ⟨"EdgeCampaign$Input", "cutTo", "(I)V"⟩) : Cond) ∈ tb := tb_in (List.mem_of_getElem? (i := 613) (by decide +kernel)) (by decide +kernel)
theorem q_284 : ((.methodLink "EdgeCampaign$Trials" 125 ⟨"EdgeCampaign$Input", "appendPart", "(LEdgeCampaign$Input;II)V"⟩) : Cond) ∈ tb := tb_in (List.mem_of_getElem? (i := 614) (by decide +kernel)) (by decide +kernel)
theorem q_285 : ((.methodLink "EdgeCampaign$Trials" 35 ⟨"EdgeCampaign$Input", "copy", "(LEdgeCampaign$Input;)V"⟩) : Cond) ∈ tb := tb_in (List.mem_of_getElem? (i := 569) (by decide +kernel)) (by decide +kernel)
theorem q_286 : ((.code y_TR_joinPartner b_TR_joinPartner 8 none) : Cond) ∈ tb := tb_in (List.mem_of_getElem? (i := 612) (by decide +kernel)) (by decide +kernel)
theorem q_287 : ((.methodLink "EdgeCampaign$Trials" 75 ⟨"EdgeCampaign$Trials", "joinPartner", "(LEdgeCampaign$Input;LEdgeCampaign$Store;LEdgeCampaign$Generator;)V"⟩) : Cond) ∈ tb := tb_in (List.mem_of_getElem? (i := 609) (by decide +kernel)) (by decide +kernel)
theorem q_288 : ((.instanceMethod ⟨"EdgeCampaign$Trials", "joinPartner", "(LEdgeCampaign$Input;LEdgeCampaign$Store;LEdgeCampaign$Generator;)V"⟩) : Cond) ∈ tb := tb_in (List.mem_of_getElem? (i := 611) (by decide +kernel)) (by decide +kernel)
theorem q_289 : ((.selects "EdgeCampaign$Trials" ⟨"EdgeCampaign$Trials", "joinPartner", "(LEdgeCampaign$Input;LEdgeCampaign$Store;LEdgeCampaign$Generator;)V"⟩ ⟨"EdgeCampaign$Trials", "joinPartner", "(LEdgeCampaign$Input;LEdgeCampaign$Store;LEdgeCampaign$Generator;)V"⟩) : Cond) ∈ tb := tb_in (List.mem_of_getElem? (i := 16) (by decide +kernel)) (by decide +kernel)
theorem q_290 : ((.code y_TR_changeByDraws b_TR_changeByDraws 5 none) : Cond) ∈ tb := tb_in (List.mem_of_getElem? (i := 589) (by decide +kernel)) (by decide +kernel)
theorem q_291 : ((.methodLink "EdgeCampaign$Trials" 71 ⟨"EdgeCampaign$Trials", "changeByDraws", "(LEdgeCampaign$Input;LEdgeCampaign$Generator;)V"⟩) : Cond) ∈ tb := tb_in (List.mem_of_getElem? (i := 587) (by decide +kernel)) (by decide +kernel)
theorem q_292 : ((.static ⟨"EdgeCampaign$Trials", "changeByDraws", "(LEdgeCampaign$Input;LEdgeCampaign$Generator;)V"⟩) : Cond) ∈ tb := tb_in (List.mem_of_getElem? (i := 588) (by decide +kernel)) (by decide +kernel)
theorem q_293 : ((.fieldLink "EdgeCampaign$Trials" 62 "EdgeCampaign$Trials" "PUT" "[I") : Cond) ∈ tb := tb_in (List.mem_of_getElem? (i := 584) (by decide +kernel)) (by decide +kernel)
theorem q_294 : ((.fieldLink "EdgeCampaign$Trials" 55 "EdgeCampaign$Trials" "ADDED" "[I") : Cond) ∈ tb := tb_in (List.mem_of_getElem? (i := 578) (by decide +kernel)) (by decide +kernel)
theorem q_295 : ((.code y_ST_behind b_ST_behind 2 (some .int)) : Cond) ∈ tb := tb_in (List.mem_of_getElem? (i := 626) (by decide +kernel)) (by decide +kernel)
theorem q_296 : ((.methodLink "EdgeCampaign$Trials" 99 ⟨"EdgeCampaign$Store", "behind", "(I)I"⟩) : Cond) ∈ tb := tb_in (List.mem_of_getElem? (i := 623) (by decide +kernel)) (by decide +kernel)
theorem q_297 : ((.instanceMethod ⟨"EdgeCampaign$Store", "behind", "(I)I"⟩) : Cond) ∈ tb := tb_in (List.mem_of_getElem? (i := 624) (by decide +kernel)) (by decide +kernel)
theorem q_298 : ((.selects "EdgeCampaign$Store" ⟨"EdgeCampaign$Store", "behind", "(I)I"⟩ ⟨"EdgeCampaign$Store", "behind", "(I)I"⟩) : Cond) ∈ tb := tb_in (List.mem_of_getElem? (i := 625) (by decide +kernel)) (by decide +kernel)
theorem q_299 : ((.code y_TR_next b_TR_next 4 (some .int)) : Cond) ∈ tb := tb_in (List.mem_of_getElem? (i := 622) (by decide +kernel)) (by decide +kernel)
theorem q_300 : ((.methodLink "EdgeCampaign$Trials" 83 ⟨"EdgeCampaign$Trials", "next", "(LEdgeCampaign$Store;)I"⟩) : Cond) ∈ tb := tb_in (List.mem_of_getElem? (i := 619) (by decide +kernel)) (by decide +kernel)
theorem q_301 : ((.instanceMethod ⟨"EdgeCampaign$Trials", "next", "(LEdgeCampaign$Store;)I"⟩) : Cond) ∈ tb := tb_in (List.mem_of_getElem? (i := 621) (by decide +kernel)) (by decide +kernel)
theorem q_302 : ((.selects "EdgeCampaign$Trials" ⟨"EdgeCampaign$Trials", "next", "(LEdgeCampaign$Store;)I"⟩ ⟨"EdgeCampaign$Trials", "next", "(LEdgeCampaign$Store;)I"⟩) : Cond) ∈ tb := tb_in (List.mem_of_getElem? (i := 17) (by decide +kernel)) (by decide +kernel)
theorem q_303 : ((.fieldLink "EdgeCampaign" 23 "EdgeCampaign" "changed" "LEdgeCampaign$Input;") : Cond) ∈ tb := tb_in (List.mem_of_getElem? (i := 327) (by decide +kernel)) (by decide +kernel)
theorem q_304 : ((.fieldLink "EdgeCampaign" 59 "EdgeCampaign" "generator" "LEdgeCampaign$Generator;") : Cond) ∈ tb := tb_in (List.mem_of_getElem? (i := 332) (by decide +kernel)) (by decide +kernel)
theorem q_305 : ((.code y_TR_change b_TR_change 8 none) : Cond) ∈ tb := tb_in (List.mem_of_getElem? (i := 568) (by decide +kernel)) (by decide +kernel)
theorem q_306 : ((.methodLink "EdgeCampaign" 97 ⟨"EdgeCampaign$Trials", "change", "(LEdgeCampaign$Input;LEdgeCampaign$Store;LEdgeCampaign$Generator;)V"⟩) : Cond) ∈ tb := tb_in (List.mem_of_getElem? (i := 565) (by decide +kernel)) (by decide +kernel)
theorem q_307 : ((.instanceMethod ⟨"EdgeCampaign$Trials", "change", "(LEdgeCampaign$Input;LEdgeCampaign$Store;LEdgeCampaign$Generator;)V"⟩) : Cond) ∈ tb := tb_in (List.mem_of_getElem? (i := 566) (by decide +kernel)) (by decide +kernel)
theorem q_308 : ((.selects "EdgeCampaign$Trials" ⟨"EdgeCampaign$Trials", "change", "(LEdgeCampaign$Input;LEdgeCampaign$Store;LEdgeCampaign$Generator;)V"⟩ ⟨"EdgeCampaign$Trials", "change", "(LEdgeCampaign$Input;LEdgeCampaign$Store;LEdgeCampaign$Generator;)V"⟩) : Cond) ∈ tb := tb_in (List.mem_of_getElem? (i := 567) (by decide +kernel)) (by decide +kernel)
theorem q_309 : ((.code y_TR_advance b_TR_advance 3 none) : Cond) ∈ tb := tb_in (List.mem_of_getElem? (i := 618) (by decide +kernel)) (by decide +kernel)
theorem q_310 : ((.methodLink "EdgeCampaign" 101 ⟨"EdgeCampaign$Trials", "advance", "(LEdgeCampaign$Store;)V"⟩) : Cond) ∈ tb := tb_in (List.mem_of_getElem? (i := 615) (by decide +kernel)) (by decide +kernel)
theorem q_311 : ((.instanceMethod ⟨"EdgeCampaign$Trials", "advance", "(LEdgeCampaign$Store;)V"⟩) : Cond) ∈ tb := tb_in (List.mem_of_getElem? (i := 616) (by decide +kernel)) (by decide +kernel)
theorem q_312 : ((.selects "EdgeCampaign$Trials" ⟨"EdgeCampaign$Trials", "advance", "(LEdgeCampaign$Store;)V"⟩ ⟨"EdgeCampaign$Trials", "advance", "(LEdgeCampaign$Store;)V"⟩) : Cond) ∈ tb := tb_in (List.mem_of_getElem? (i := 617) (by decide +kernel)) (by decide +kernel)
theorem q_313 : ((.methodLink "EdgeCampaign" 112 ⟨"EdgeCampaign$Store", "has", "(I)Z"⟩) : Cond) ∈ tb := tb_in (List.mem_of_getElem? (i := 635) (by decide +kernel)) (by decide +kernel)
theorem q_314 : ((.methodLink "EdgeCampaign" 134 ⟨"EdgeCampaign$Store", "isFavoured", "(I)Z"⟩) : Cond) ∈ tb := tb_in (List.mem_of_getElem? (i := 636) (by decide +kernel)) (by decide +kernel)
theorem q_315 : ((.methodLink "EdgeCampaign" 137 ⟨"EdgeCampaign$Input", "at", "(I)I"⟩) : Cond) ∈ tb := tb_in (List.mem_of_getElem? (i := 641) (by decide +kernel)) (by decide +kernel)
theorem q_316 : ((.methodLink "EdgeCampaign" 141 ⟨"EdgeCampaign$Program", "isPlace", "(I)Z"⟩) : Cond) ∈ tb := tb_in (List.mem_of_getElem? (i := 646) (by decide +kernel)) (by decide +kernel)
theorem q_317 : ((.code y_FS_has b_FS_has 2 (some .boolean)) : Cond) ∈ tb := tb_in (List.mem_of_getElem? (i := 654) (by decide +kernel)) (by decide +kernel)
theorem q_318 : ((.methodLink "EdgeCampaign" 148 ⟨"EdgeCampaign$Findings", "has", "(I)Z"⟩) : Cond) ∈ tb := tb_in (List.mem_of_getElem? (i := 651) (by decide +kernel)) (by decide +kernel)
theorem q_319 : ((.instanceMethod ⟨"EdgeCampaign$Findings", "has", "(I)Z"⟩) : Cond) ∈ tb := tb_in (List.mem_of_getElem? (i := 652) (by decide +kernel)) (by decide +kernel)
theorem q_320 : ((.selects "EdgeCampaign$Findings" ⟨"EdgeCampaign$Findings", "has", "(I)Z"⟩ ⟨"EdgeCampaign$Findings", "has", "(I)Z"⟩) : Cond) ∈ tb := tb_in (List.mem_of_getElem? (i := 653) (by decide +kernel)) (by decide +kernel)
theorem q_321 : ((.code y_MO_within b_MO_within 2 (some .boolean)) : Cond) ∈ tb := tb_in (List.mem_of_getElem? (i := 818) (by decide +kernel)) (by decide +kernel)
theorem q_322 : ((.methodLink "EdgeCampaignModel" 89 ⟨"EdgeCampaignModel", "within", "(II)Z"⟩) : Cond) ∈ tb := tb_in (List.mem_of_getElem? (i := 816) (by decide +kernel)) (by decide +kernel)
theorem q_323 : ((.initialized "EdgeCampaignModel") : Cond) ∈ tb := tb_in (List.mem_of_getElem? (i := 59) (by decide +kernel)) (by decide +kernel)
theorem q_324 : ((.static ⟨"EdgeCampaignModel", "within", "(II)Z"⟩) : Cond) ∈ tb := tb_in (List.mem_of_getElem? (i := 817) (by decide +kernel)) (by decide +kernel)
theorem q_325 : ((.code y_MO_fits b_MO_fits 2 (some .boolean)) : Cond) ∈ tb := tb_in (List.mem_of_getElem? (i := 821) (by decide +kernel)) (by decide +kernel)
theorem q_326 : ((.methodLink "EdgeCampaignModel" 93 ⟨"EdgeCampaignModel", "fits", "(II)Z"⟩) : Cond) ∈ tb := tb_in (List.mem_of_getElem? (i := 819) (by decide +kernel)) (by decide +kernel)
theorem q_327 : ((.static ⟨"EdgeCampaignModel", "fits", "(II)Z"⟩) : Cond) ∈ tb := tb_in (List.mem_of_getElem? (i := 820) (by decide +kernel)) (by decide +kernel)
theorem q_328 : ((.fieldLink "EdgeCampaignModel" 96 "EdgeCampaignModel" "size" "I") : Cond) ∈ tb := tb_in (List.mem_of_getElem? (i := 676) (by decide +kernel)) (by decide +kernel)
theorem q_329 : ((.fieldLink "EdgeCampaignModel" 99 "EdgeCampaignModel" "executions" "I") : Cond) ∈ tb := tb_in (List.mem_of_getElem? (i := 708) (by decide +kernel)) (by decide +kernel)
theorem q_330 : ((.fieldLink "EdgeCampaignModel" 7 "EdgeCampaignModel" "ops" "[I") : Cond) ∈ tb := tb_in (List.mem_of_getElem? (i := 677) (by decide +kernel)) (by decide +kernel)
theorem q_331 : ((.fieldLink "EdgeCampaignModel" 13 "EdgeCampaignModel" "as" "[I") : Cond) ∈ tb := tb_in (List.mem_of_getElem? (i := 678) (by decide +kernel)) (by decide +kernel)
theorem q_332 : ((.fieldLink "EdgeCampaignModel" 16 "EdgeCampaignModel" "bs" "[I") : Cond) ∈ tb := tb_in (List.mem_of_getElem? (i := 679) (by decide +kernel)) (by decide +kernel)
theorem q_333 : ((.fieldLink "EdgeCampaignModel" 102 "EdgeCampaignModel" "drafted" "I") : Cond) ∈ tb := tb_in (List.mem_of_getElem? (i := 681) (by decide +kernel)) (by decide +kernel)
theorem q_334 : ((.fieldLink "EdgeCampaignModel" 19 "EdgeCampaignModel" "draft" "[I") : Cond) ∈ tb := tb_in (List.mem_of_getElem? (i := 680) (by decide +kernel)) (by decide +kernel)
theorem q_335 : ((.fieldLink "EdgeCampaignModel" 105 "EdgeCampaignModel" "depth" "I") : Cond) ∈ tb := tb_in (List.mem_of_getElem? (i := 688) (by decide +kernel)) (by decide +kernel)
theorem q_336 : ((.fieldLink "EdgeCampaignModel" 31 "EdgeCampaignModel" "stack" "[I") : Cond) ∈ tb := tb_in (List.mem_of_getElem? (i := 687) (by decide +kernel)) (by decide +kernel)
theorem q_337 : ((.fieldLink "EdgeCampaignModel" 108 "EdgeCampaignModel" "pc" "I") : Cond) ∈ tb := tb_in (List.mem_of_getElem? (i := 689) (by decide +kernel)) (by decide +kernel)
theorem q_338 : ((.fieldLink "EdgeCampaignModel" 114 "EdgeCampaignModel" "outcome" "I") : Cond) ∈ tb := tb_in (List.mem_of_getElem? (i := 692) (by decide +kernel)) (by decide +kernel)
theorem q_339 : ((.fieldLink "EdgeCampaignModel" 120 "EdgeCampaignModel" "here" "I") : Cond) ∈ tb := tb_in (List.mem_of_getElem? (i := 690) (by decide +kernel)) (by decide +kernel)
theorem q_340 : ((.fieldLink "EdgeCampaignModel" 25 "EdgeCampaignModel" "\x72" "[I") : Cond) ∈ tb := tb_in (List.mem_of_getElem? (i := 685) (by decide +kernel)) (by decide +kernel)
theorem q_341 : ((.fieldLink "EdgeCampaignModel" 28 "EdgeCampaignModel" "memory" "[I") : Cond) ∈ tb := tb_in (List.mem_of_getElem? (i := 686) (by decide +kernel)) (by decide +kernel)
theorem q_342 : ((.code y_MO_word b_MO_word 4 none) : Cond) ∈ tb := tb_in (List.mem_of_getElem? (i := 861) (by decide +kernel)) (by decide +kernel)
theorem q_343 : ((.methodLink "EdgeCampaignModel" 133 ⟨"EdgeCampaignModel", "word", "(III)V"⟩) : Cond) ∈ tb := tb_in (List.mem_of_getElem? (i := 858) (by decide +kernel)) (by decide +kernel)
theorem q_344 : ((.instanceMethod ⟨"EdgeCampaignModel", "word", "(III)V"⟩) : Cond) ∈ tb := tb_in (List.mem_of_getElem? (i := 860) (by decide +kernel)) (by decide +kernel)
theorem q_345 : ((.selects "EdgeCampaignModel" ⟨"EdgeCampaignModel", "word", "(III)V"⟩ ⟨"EdgeCampaignModel", "word", "(III)V"⟩) : Cond) ∈ tb := tb_in (List.mem_of_getElem? (i := 25) (by decide +kernel)) (by decide +kernel)
theorem q_346 : ((.fieldLink "EdgeCampaignModel" 130 "EdgeCampaignModel" "tapeLength" "I") : Cond) ∈ tb := tb_in (List.mem_of_getElem? (i := 684) (by decide +kernel)) (by decide +kernel)
theorem q_347 : ((.fieldLink "EdgeCampaignModel" 22 "EdgeCampaignModel" "tape" "[I") : Cond) ∈ tb := tb_in (List.mem_of_getElem? (i := 683) (by decide +kernel)) (by decide +kernel)
theorem q_348 : ((.code y_MO_work b_MO_work 4 none) : Cond) ∈ tb := tb_in (List.mem_of_getElem? (i := 857) (by decide +kernel)) (by decide +kernel)
theorem q_349 : ((.methodLink "EdgeCampaignModel" 127 ⟨"EdgeCampaignModel", "work", "(III)V"⟩) : Cond) ∈ tb := tb_in (List.mem_of_getElem? (i := 854) (by decide +kernel)) (by decide +kernel)
theorem q_350 : ((.instanceMethod ⟨"EdgeCampaignModel", "work", "(III)V"⟩) : Cond) ∈ tb := tb_in (List.mem_of_getElem? (i := 856) (by decide +kernel)) (by decide +kernel)
theorem q_351 : ((.selects "EdgeCampaignModel" ⟨"EdgeCampaignModel", "work", "(III)V"⟩ ⟨"EdgeCampaignModel", "work", "(III)V"⟩) : Cond) ∈ tb := tb_in (List.mem_of_getElem? (i := 24) (by decide +kernel)) (by decide +kernel)
theorem q_352 : ((.fieldLink "EdgeCampaignModel" 111 "EdgeCampaignModel" "steps" "I") : Cond) ∈ tb := tb_in (List.mem_of_getElem? (i := 691) (by decide +kernel)) (by decide +kernel)
theorem q_353 : ((.code y_MO_jump b_MO_jump 4 none) : Cond) ∈ tb := tb_in (List.mem_of_getElem? (i := 853) (by decide +kernel)) (by decide +kernel)
theorem q_354 : ((.methodLink "EdgeCampaignModel" 123 ⟨"EdgeCampaignModel", "jump", "(III)V"⟩) : Cond) ∈ tb := tb_in (List.mem_of_getElem? (i := 850) (by decide +kernel)) (by decide +kernel)
theorem q_355 : ((.instanceMethod ⟨"EdgeCampaignModel", "jump", "(III)V"⟩) : Cond) ∈ tb := tb_in (List.mem_of_getElem? (i := 852) (by decide +kernel)) (by decide +kernel)
theorem q_356 : ((.selects "EdgeCampaignModel" ⟨"EdgeCampaignModel", "jump", "(III)V"⟩ ⟨"EdgeCampaignModel", "jump", "(III)V"⟩) : Cond) ∈ tb := tb_in (List.mem_of_getElem? (i := 23) (by decide +kernel)) (by decide +kernel)
theorem q_357 : ((.fieldLink "EdgeCampaignModel" 34 "EdgeCampaignModel" "times" "[I") : Cond) ∈ tb := tb_in (List.mem_of_getElem? (i := 693) (by decide +kernel)) (by decide +kernel)
theorem q_358 : ((.code y_MO_step b_MO_step 4 none) : Cond) ∈ tb := tb_in (List.mem_of_getElem? (i := 849) (by decide +kernel)) (by decide +kernel)
theorem q_359 : ((.methodLink "EdgeCampaignModel" 117 ⟨"EdgeCampaignModel", "step", "()V"⟩) : Cond) ∈ tb := tb_in (List.mem_of_getElem? (i := 846) (by decide +kernel)) (by decide +kernel)
theorem q_360 : ((.instanceMethod ⟨"EdgeCampaignModel", "step", "()V"⟩) : Cond) ∈ tb := tb_in (List.mem_of_getElem? (i := 848) (by decide +kernel)) (by decide +kernel)
theorem q_361 : ((.selects "EdgeCampaignModel" ⟨"EdgeCampaignModel", "step", "()V"⟩ ⟨"EdgeCampaignModel", "step", "()V"⟩) : Cond) ∈ tb := tb_in (List.mem_of_getElem? (i := 22) (by decide +kernel)) (by decide +kernel)
theorem q_362 : ((.code y_MO_run b_MO_run 2 none) : Cond) ∈ tb := tb_in (List.mem_of_getElem? (i := 845) (by decide +kernel)) (by decide +kernel)
theorem q_363 : ((.methodLink "EdgeCampaignModel" 136 ⟨"EdgeCampaignModel", "run", "()V"⟩) : Cond) ∈ tb := tb_in (List.mem_of_getElem? (i := 842) (by decide +kernel)) (by decide +kernel)
theorem q_364 : ((.instanceMethod ⟨"EdgeCampaignModel", "run", "()V"⟩) : Cond) ∈ tb := tb_in (List.mem_of_getElem? (i := 844) (by decide +kernel)) (by decide +kernel)
theorem q_365 : ((.selects "EdgeCampaignModel" ⟨"EdgeCampaignModel", "run", "()V"⟩ ⟨"EdgeCampaignModel", "run", "()V"⟩) : Cond) ∈ tb := tb_in (List.mem_of_getElem? (i := 21) (by decide +kernel)) (by decide +kernel)
theorem q_366 : ((.fieldLink "EdgeCampaignModel" 40 "EdgeCampaignModel" "lengths" "[I") : Cond) ∈ tb := tb_in (List.mem_of_getElem? (i := 696) (by decide +kernel)) (by decide +kernel)
theorem q_367 : ((.fieldLink "EdgeCampaignModel" 37 "EdgeCampaignModel" "inputs" "[I") : Cond) ∈ tb := tb_in (List.mem_of_getElem? (i := 695) (by decide +kernel)) (by decide +kernel)
theorem q_368 : ((.fieldLink "EdgeCampaignModel" 139 "EdgeCampaignModel" "curLength" "I") : Cond) ∈ tb := tb_in (List.mem_of_getElem? (i := 720) (by decide +kernel)) (by decide +kernel)
theorem q_369 : ((.fieldLink "EdgeCampaignModel" 82 "EdgeCampaignModel" "cur" "[I") : Cond) ∈ tb := tb_in (List.mem_of_getElem? (i := 719) (by decide +kernel)) (by decide +kernel)
theorem q_370 : ((.fieldLink "EdgeCampaignModel" 145 "EdgeCampaignModel" "entries" "I") : Cond) ∈ tb := tb_in (List.mem_of_getElem? (i := 694) (by decide +kernel)) (by decide +kernel)
theorem q_371 : ((.fieldLink "EdgeCampaignModel" 79 "EdgeCampaignModel" "stepsOf" "[I") : Cond) ∈ tb := tb_in (List.mem_of_getElem? (i := 714) (by decide +kernel)) (by decide +kernel)
theorem q_372 : ((.fieldLink "EdgeCampaignModel" 156 "EdgeCampaignModel" "favoured" "I") : Cond) ∈ tb := tb_in (List.mem_of_getElem? (i := 715) (by decide +kernel)) (by decide +kernel)
theorem q_373 : ((.fieldLink "EdgeCampaignModel" 76 "EdgeCampaignModel" "went" "[I") : Cond) ∈ tb := tb_in (List.mem_of_getElem? (i := 713) (by decide +kernel)) (by decide +kernel)
theorem q_374 : ((.code y_MO_top b_MO_top 6 (some .int)) : Cond) ∈ tb := tb_in (List.mem_of_getElem? (i := 868) (by decide +kernel)) (by decide +kernel)
theorem q_375 : ((.methodLink "EdgeCampaignModel" 159 ⟨"EdgeCampaignModel", "top", "(I)I"⟩) : Cond) ∈ tb := tb_in (List.mem_of_getElem? (i := 865) (by decide +kernel)) (by decide +kernel)
theorem q_376 : ((.instanceMethod ⟨"EdgeCampaignModel", "top", "(I)I"⟩) : Cond) ∈ tb := tb_in (List.mem_of_getElem? (i := 867) (by decide +kernel)) (by decide +kernel)
theorem q_377 : ((.selects "EdgeCampaignModel" ⟨"EdgeCampaignModel", "top", "(I)I"⟩ ⟨"EdgeCampaignModel", "top", "(I)I"⟩) : Cond) ∈ tb := tb_in (List.mem_of_getElem? (i := 26) (by decide +kernel)) (by decide +kernel)
theorem q_378 : ((.code y_MO_runEntry b_MO_runEntry 3 none) : Cond) ∈ tb := tb_in (List.mem_of_getElem? (i := 841) (by decide +kernel)) (by decide +kernel)
theorem q_379 : ((.methodLink "EdgeCampaignModel" 148 ⟨"EdgeCampaignModel", "runEntry", "(I)V"⟩) : Cond) ∈ tb := tb_in (List.mem_of_getElem? (i := 838) (by decide +kernel)) (by decide +kernel)
theorem q_380 : ((.instanceMethod ⟨"EdgeCampaignModel", "runEntry", "(I)V"⟩) : Cond) ∈ tb := tb_in (List.mem_of_getElem? (i := 840) (by decide +kernel)) (by decide +kernel)
theorem q_381 : ((.selects "EdgeCampaignModel" ⟨"EdgeCampaignModel", "runEntry", "(I)V"⟩ ⟨"EdgeCampaignModel", "runEntry", "(I)V"⟩) : Cond) ∈ tb := tb_in (List.mem_of_getElem? (i := 20) (by decide +kernel)) (by decide +kernel)
theorem q_382 : ((.fieldLink "EdgeCampaignModel" 73 "EdgeCampaignModel" "buckets" "[I") : Cond) ∈ tb := tb_in (List.mem_of_getElem? (i := 712) (by decide +kernel)) (by decide +kernel)
theorem q_383 : ((.code y_MO_bucket b_MO_bucket 1 (some .int)) : Cond) ∈ tb := tb_in (List.mem_of_getElem? (i := 864) (by decide +kernel)) (by decide +kernel)
theorem q_384 : ((.methodLink "EdgeCampaignModel" 152 ⟨"EdgeCampaignModel", "bucket", "(I)I"⟩) : Cond) ∈ tb := tb_in (List.mem_of_getElem? (i := 862) (by decide +kernel)) (by decide +kernel)
theorem q_385 : ((.static ⟨"EdgeCampaignModel", "bucket", "(I)I"⟩) : Cond) ∈ tb := tb_in (List.mem_of_getElem? (i := 863) (by decide +kernel)) (by decide +kernel)
theorem q_386 : ((.fieldLink "EdgeCampaignModel" 142 "EdgeCampaignModel" "surveyed" "I") : Cond) ∈ tb := tb_in (List.mem_of_getElem? (i := 711) (by decide +kernel)) (by decide +kernel)
theorem q_387 : ((.fieldLink "EdgeCampaignModel" 52 "EdgeCampaignModel" "depths" "[I") : Cond) ∈ tb := tb_in (List.mem_of_getElem? (i := 701) (by decide +kernel)) (by decide +kernel)
theorem q_388 : ((.fieldLink "EdgeCampaignModel" 55 "EdgeCampaignModel" "stacks" "[I") : Cond) ∈ tb := tb_in (List.mem_of_getElem? (i := 702) (by decide +kernel)) (by decide +kernel)
theorem q_389 : ((.fieldLink "EdgeCampaignModel" 46 "EdgeCampaignModel" "traps" "[I") : Cond) ∈ tb := tb_in (List.mem_of_getElem? (i := 699) (by decide +kernel)) (by decide +kernel)
theorem q_390 : ((.fieldLink "EdgeCampaignModel" 49 "EdgeCampaignModel" "places" "[I") : Cond) ∈ tb := tb_in (List.mem_of_getElem? (i := 700) (by decide +kernel)) (by decide +kernel)
theorem q_391 : ((.code y_MO_signed b_MO_signed 4 (some .boolean)) : Cond) ∈ tb := tb_in (List.mem_of_getElem? (i := 884) (by decide +kernel)) (by decide +kernel)
theorem q_392 : ((.methodLink "EdgeCampaignModel" 187 ⟨"EdgeCampaignModel", "signed", "(I)Z"⟩) : Cond) ∈ tb := tb_in (List.mem_of_getElem? (i := 881) (by decide +kernel)) (by decide +kernel)
theorem q_393 : ((.instanceMethod ⟨"EdgeCampaignModel", "signed", "(I)Z"⟩) : Cond) ∈ tb := tb_in (List.mem_of_getElem? (i := 883) (by decide +kernel)) (by decide +kernel)
theorem q_394 : ((.selects "EdgeCampaignModel" ⟨"EdgeCampaignModel", "signed", "(I)Z"⟩ ⟨"EdgeCampaignModel", "signed", "(I)Z"⟩) : Cond) ∈ tb := tb_in (List.mem_of_getElem? (i := 30) (by decide +kernel)) (by decide +kernel)
theorem q_395 : ((.fieldLink "EdgeCampaignModel" 67 "EdgeCampaignModel" "brief" "[I") : Cond) ∈ tb := tb_in (List.mem_of_getElem? (i := 706) (by decide +kernel)) (by decide +kernel)
theorem q_396 : ((.fieldLink "EdgeCampaignModel" 70 "EdgeCampaignModel" "briefLength" "[I") : Cond) ∈ tb := tb_in (List.mem_of_getElem? (i := 707) (by decide +kernel)) (by decide +kernel)
theorem q_397 : ((.code y_MO_adopt b_MO_adopt 3 none) : Cond) ∈ tb := tb_in (List.mem_of_getElem? (i := 900) (by decide +kernel)) (by decide +kernel)
theorem q_398 : ((.methodLink "EdgeCampaignModel" 198 ⟨"EdgeCampaignModel", "adopt", "(I)V"⟩) : Cond) ∈ tb := tb_in (List.mem_of_getElem? (i := 897) (by decide +kernel)) (by decide +kernel)
theorem q_399 : ((.instanceMethod ⟨"EdgeCampaignModel", "adopt", "(I)V"⟩) : Cond) ∈ tb := tb_in (List.mem_of_getElem? (i := 899) (by decide +kernel)) (by decide +kernel)
theorem q_400 : ((.selects "EdgeCampaignModel" ⟨"EdgeCampaignModel", "adopt", "(I)V"⟩ ⟨"EdgeCampaignModel", "adopt", "(I)V"⟩) : Cond) ∈ tb := tb_in (List.mem_of_getElem? (i := 34) (by decide +kernel)) (by decide +kernel)
theorem q_401 : ((.code y_MO_still b_MO_still 7 (some .boolean)) : Cond) ∈ tb := tb_in (List.mem_of_getElem? (i := 896) (by decide +kernel)) (by decide +kernel)
theorem q_402 : ((.methodLink "EdgeCampaignModel" 194 ⟨"EdgeCampaignModel", "still", "(IIIZ)Z"⟩) : Cond) ∈ tb := tb_in (List.mem_of_getElem? (i := 893) (by decide +kernel)) (by decide +kernel)
theorem q_403 : ((.instanceMethod ⟨"EdgeCampaignModel", "still", "(IIIZ)Z"⟩) : Cond) ∈ tb := tb_in (List.mem_of_getElem? (i := 895) (by decide +kernel)) (by decide +kernel)
theorem q_404 : ((.selects "EdgeCampaignModel" ⟨"EdgeCampaignModel", "still", "(IIIZ)Z"⟩ ⟨"EdgeCampaignModel", "still", "(IIIZ)Z"⟩) : Cond) ∈ tb := tb_in (List.mem_of_getElem? (i := 33) (by decide +kernel)) (by decide +kernel)
theorem q_405 : ((.code y_MO_part b_MO_part 6 (some .boolean)) : Cond) ∈ tb := tb_in (List.mem_of_getElem? (i := 892) (by decide +kernel)) (by decide +kernel)
theorem q_406 : ((.methodLink "EdgeCampaignModel" 201 ⟨"EdgeCampaignModel", "part", "(IIZ)Z"⟩) : Cond) ∈ tb := tb_in (List.mem_of_getElem? (i := 889) (by decide +kernel)) (by decide +kernel)
theorem q_407 : ((.instanceMethod ⟨"EdgeCampaignModel", "part", "(IIZ)Z"⟩) : Cond) ∈ tb := tb_in (List.mem_of_getElem? (i := 891) (by decide +kernel)) (by decide +kernel)
theorem q_408 : ((.selects "EdgeCampaignModel" ⟨"EdgeCampaignModel", "part", "(IIZ)Z"⟩ ⟨"EdgeCampaignModel", "part", "(IIZ)Z"⟩) : Cond) ∈ tb := tb_in (List.mem_of_getElem? (i := 32) (by decide +kernel)) (by decide +kernel)
theorem q_409 : ((.code y_MO_shorten b_MO_shorten 6 none) : Cond) ∈ tb := tb_in (List.mem_of_getElem? (i := 888) (by decide +kernel)) (by decide +kernel)
theorem q_410 : ((.methodLink "EdgeCampaignModel" 191 ⟨"EdgeCampaignModel", "shorten", "(I)V"⟩) : Cond) ∈ tb := tb_in (List.mem_of_getElem? (i := 885) (by decide +kernel)) (by decide +kernel)
theorem q_411 : ((.instanceMethod ⟨"EdgeCampaignModel", "shorten", "(I)V"⟩) : Cond) ∈ tb := tb_in (List.mem_of_getElem? (i := 887) (by decide +kernel)) (by decide +kernel)
theorem q_412 : ((.selects "EdgeCampaignModel" ⟨"EdgeCampaignModel", "shorten", "(I)V"⟩ ⟨"EdgeCampaignModel", "shorten", "(I)V"⟩) : Cond) ∈ tb := tb_in (List.mem_of_getElem? (i := 31) (by decide +kernel)) (by decide +kernel)
theorem q_413 : ((.fieldLink "EdgeCampaignModel" 184 "EdgeCampaignModel" "findings" "I") : Cond) ∈ tb := tb_in (List.mem_of_getElem? (i := 698) (by decide +kernel)) (by decide +kernel)
theorem q_414 : ((.fieldLink "EdgeCampaignModel" 58 "EdgeCampaignModel" "hits" "[I") : Cond) ∈ tb := tb_in (List.mem_of_getElem? (i := 703) (by decide +kernel)) (by decide +kernel)
theorem q_415 : ((.fieldLink "EdgeCampaignModel" 64 "EdgeCampaignModel" "foundLength" "[I") : Cond) ∈ tb := tb_in (List.mem_of_getElem? (i := 705) (by decide +kernel)) (by decide +kernel)
theorem q_416 : ((.fieldLink "EdgeCampaignModel" 61 "EdgeCampaignModel" "found" "[I") : Cond) ∈ tb := tb_in (List.mem_of_getElem? (i := 704) (by decide +kernel)) (by decide +kernel)
theorem q_417 : ((.fieldLink "EdgeCampaignModel" 178 "EdgeCampaignModel" "lost" "I") : Cond) ∈ tb := tb_in (List.mem_of_getElem? (i := 710) (by decide +kernel)) (by decide +kernel)
theorem q_418 : ((.fieldLink "EdgeCampaignModel" 212 "EdgeCampaignModel" "energy" "I") : Cond) ∈ tb := tb_in (List.mem_of_getElem? (i := 718) (by decide +kernel)) (by decide +kernel)
theorem q_419 : ((.fieldLink "EdgeCampaignModel" 43 "EdgeCampaignModel" "finished" "[I") : Cond) ∈ tb := tb_in (List.mem_of_getElem? (i := 697) (by decide +kernel)) (by decide +kernel)
theorem q_420 : ((.fieldLink "EdgeCampaignModel" 215 "EdgeCampaignModel" "next" "I") : Cond) ∈ tb := tb_in (List.mem_of_getElem? (i := 717) (by decide +kernel)) (by decide +kernel)
theorem q_421 : ((.fieldLink "EdgeCampaignModel" 209 "EdgeCampaignModel" "taken" "I") : Cond) ∈ tb := tb_in (List.mem_of_getElem? (i := 716) (by decide +kernel)) (by decide +kernel)
theorem q_422 : ((.code y_MO_survey b_MO_survey 3 none) : Cond) ∈ tb := tb_in (List.mem_of_getElem? (i := 837) (by decide +kernel)) (by decide +kernel)
theorem q_423 : ((.methodLink "EdgeCampaignModel" 162 ⟨"EdgeCampaignModel", "survey", "()V"⟩) : Cond) ∈ tb := tb_in (List.mem_of_getElem? (i := 834) (by decide +kernel)) (by decide +kernel)
theorem q_424 : ((.instanceMethod ⟨"EdgeCampaignModel", "survey", "()V"⟩) : Cond) ∈ tb := tb_in (List.mem_of_getElem? (i := 836) (by decide +kernel)) (by decide +kernel)
theorem q_425 : ((.selects "EdgeCampaignModel" ⟨"EdgeCampaignModel", "survey", "()V"⟩ ⟨"EdgeCampaignModel", "survey", "()V"⟩) : Cond) ∈ tb := tb_in (List.mem_of_getElem? (i := 19) (by decide +kernel)) (by decide +kernel)
theorem q_426 : ((.code y_MO_edgesOf b_MO_edgesOf 4 (some .int)) : Cond) ∈ tb := tb_in (List.mem_of_getElem? (i := 908) (by decide +kernel)) (by decide +kernel)
theorem q_427 : ((.methodLink "EdgeCampaignModel" 206 ⟨"EdgeCampaignModel", "edgesOf", "(I)I"⟩) : Cond) ∈ tb := tb_in (List.mem_of_getElem? (i := 905) (by decide +kernel)) (by decide +kernel)
theorem q_428 : ((.instanceMethod ⟨"EdgeCampaignModel", "edgesOf", "(I)I"⟩) : Cond) ∈ tb := tb_in (List.mem_of_getElem? (i := 907) (by decide +kernel)) (by decide +kernel)
theorem q_429 : ((.selects "EdgeCampaignModel" ⟨"EdgeCampaignModel", "edgesOf", "(I)I"⟩ ⟨"EdgeCampaignModel", "edgesOf", "(I)I"⟩) : Cond) ∈ tb := tb_in (List.mem_of_getElem? (i := 36) (by decide +kernel)) (by decide +kernel)
theorem q_430 : ((.code y_MO_takeUp b_MO_takeUp 4 none) : Cond) ∈ tb := tb_in (List.mem_of_getElem? (i := 904) (by decide +kernel)) (by decide +kernel)
theorem q_431 : ((.methodLink "EdgeCampaignModel" 181 ⟨"EdgeCampaignModel", "takeUp", "(I)V"⟩) : Cond) ∈ tb := tb_in (List.mem_of_getElem? (i := 901) (by decide +kernel)) (by decide +kernel)
theorem q_432 : ((.instanceMethod ⟨"EdgeCampaignModel", "takeUp", "(I)V"⟩) : Cond) ∈ tb := tb_in (List.mem_of_getElem? (i := 903) (by decide +kernel)) (by decide +kernel)
theorem q_433 : ((.selects "EdgeCampaignModel" ⟨"EdgeCampaignModel", "takeUp", "(I)V"⟩ ⟨"EdgeCampaignModel", "takeUp", "(I)V"⟩) : Cond) ∈ tb := tb_in (List.mem_of_getElem? (i := 35) (by decide +kernel)) (by decide +kernel)
theorem q_434 : ((.fieldLink "EdgeCampaignModel" 168 "EdgeCampaignModel" "hangs" "I") : Cond) ∈ tb := tb_in (List.mem_of_getElem? (i := 709) (by decide +kernel)) (by decide +kernel)
theorem q_435 : ((.code y_MO_newPair b_MO_newPair 3 (some .boolean)) : Cond) ∈ tb := tb_in (List.mem_of_getElem? (i := 876) (by decide +kernel)) (by decide +kernel)
theorem q_436 : ((.methodLink "EdgeCampaignModel" 171 ⟨"EdgeCampaignModel", "newPair", "()Z"⟩) : Cond) ∈ tb := tb_in (List.mem_of_getElem? (i := 873) (by decide +kernel)) (by decide +kernel)
theorem q_437 : ((.instanceMethod ⟨"EdgeCampaignModel", "newPair", "()Z"⟩) : Cond) ∈ tb := tb_in (List.mem_of_getElem? (i := 875) (by decide +kernel)) (by decide +kernel)
theorem q_438 : ((.selects "EdgeCampaignModel" ⟨"EdgeCampaignModel", "newPair", "()Z"⟩ ⟨"EdgeCampaignModel", "newPair", "()Z"⟩) : Cond) ∈ tb := tb_in (List.mem_of_getElem? (i := 28) (by decide +kernel)) (by decide +kernel)
theorem q_439 : ((.code y_MO_trapped b_MO_trapped 3 none) : Cond) ∈ tb := tb_in (List.mem_of_getElem? (i := 880) (by decide +kernel)) (by decide +kernel)
theorem q_440 : ((.methodLink "EdgeCampaignModel" 175 ⟨"EdgeCampaignModel", "trapped", "()V"⟩) : Cond) ∈ tb := tb_in (List.mem_of_getElem? (i := 877) (by decide +kernel)) (by decide +kernel)
theorem q_441 : ((.instanceMethod ⟨"EdgeCampaignModel", "trapped", "()V"⟩) : Cond) ∈ tb := tb_in (List.mem_of_getElem? (i := 879) (by decide +kernel)) (by decide +kernel)
theorem q_442 : ((.selects "EdgeCampaignModel" ⟨"EdgeCampaignModel", "trapped", "()V"⟩ ⟨"EdgeCampaignModel", "trapped", "()V"⟩) : Cond) ∈ tb := tb_in (List.mem_of_getElem? (i := 29) (by decide +kernel)) (by decide +kernel)
theorem q_443 : ((.code y_MO_runCurrent b_MO_runCurrent 2 none) : Cond) ∈ tb := tb_in (List.mem_of_getElem? (i := 872) (by decide +kernel)) (by decide +kernel)
theorem q_444 : ((.methodLink "EdgeCampaignModel" 165 ⟨"EdgeCampaignModel", "runCurrent", "()V"⟩) : Cond) ∈ tb := tb_in (List.mem_of_getElem? (i := 869) (by decide +kernel)) (by decide +kernel)
theorem q_445 : ((.instanceMethod ⟨"EdgeCampaignModel", "runCurrent", "()V"⟩) : Cond) ∈ tb := tb_in (List.mem_of_getElem? (i := 871) (by decide +kernel)) (by decide +kernel)
theorem q_446 : ((.selects "EdgeCampaignModel" ⟨"EdgeCampaignModel", "runCurrent", "()V"⟩ ⟨"EdgeCampaignModel", "runCurrent", "()V"⟩) : Cond) ∈ tb := tb_in (List.mem_of_getElem? (i := 27) (by decide +kernel)) (by decide +kernel)
theorem q_447 : ((.fieldLink "EdgeCampaignModel" 85 "EdgeCampaignModel" "x" "I") : Cond) ∈ tb := tb_in (List.mem_of_getElem? (i := 682) (by decide +kernel)) (by decide +kernel)
theorem q_448 : ((.constant "EdgeCampaignModel" 205 2147483647) : Cond) ∈ tb := tb_in (List.mem_of_getElem? (i := 929) (by decide +kernel)) (by decide +kernel)
theorem q_449 : ((.code y_MO_draw b_MO_draw 2 (some .int)) : Cond) ∈ tb := tb_in (List.mem_of_getElem? (i := 928) (by decide +kernel)) (by decide +kernel)
theorem q_450 : ((.methodLink "EdgeCampaignModel" 235 ⟨"EdgeCampaignModel", "draw", "(I)I"⟩) : Cond) ∈ tb := tb_in (List.mem_of_getElem? (i := 925) (by decide +kernel)) (by decide +kernel)
theorem q_451 : ((.instanceMethod ⟨"EdgeCampaignModel", "draw", "(I)I"⟩) : Cond) ∈ tb := tb_in (List.mem_of_getElem? (i := 927) (by decide +kernel)) (by decide +kernel)
theorem q_452 : ((.selects "EdgeCampaignModel" ⟨"EdgeCampaignModel", "draw", "(I)I"⟩ ⟨"EdgeCampaignModel", "draw", "(I)I"⟩) : Cond) ∈ tb := tb_in (List.mem_of_getElem? (i := 40) (by decide +kernel)) (by decide +kernel)
theorem q_453 : ((.code y_MO_change b_MO_change 4 none) : Cond) ∈ tb := tb_in (List.mem_of_getElem? (i := 937) (by decide +kernel)) (by decide +kernel)
theorem q_454 : ((.methodLink "EdgeCampaignModel" 241 ⟨"EdgeCampaignModel", "change", "(I)V"⟩) : Cond) ∈ tb := tb_in (List.mem_of_getElem? (i := 934) (by decide +kernel)) (by decide +kernel)
theorem q_455 : ((.instanceMethod ⟨"EdgeCampaignModel", "change", "(I)V"⟩) : Cond) ∈ tb := tb_in (List.mem_of_getElem? (i := 936) (by decide +kernel)) (by decide +kernel)
theorem q_456 : ((.selects "EdgeCampaignModel" ⟨"EdgeCampaignModel", "change", "(I)V"⟩ ⟨"EdgeCampaignModel", "change", "(I)V"⟩) : Cond) ∈ tb := tb_in (List.mem_of_getElem? (i := 42) (by decide +kernel)) (by decide +kernel)
theorem q_457 : ((.code y_MO_putIn b_MO_putIn 4 none) : Cond) ∈ tb := tb_in (List.mem_of_getElem? (i := 933) (by decide +kernel)) (by decide +kernel)
theorem q_458 : ((.methodLink "EdgeCampaignModel" 238 ⟨"EdgeCampaignModel", "putIn", "()V"⟩) : Cond) ∈ tb := tb_in (List.mem_of_getElem? (i := 930) (by decide +kernel)) (by decide +kernel)
theorem q_459 : ((.instanceMethod ⟨"EdgeCampaignModel", "putIn", "()V"⟩) : Cond) ∈ tb := tb_in (List.mem_of_getElem? (i := 932) (by decide +kernel)) (by decide +kernel)
theorem q_460 : ((.selects "EdgeCampaignModel" ⟨"EdgeCampaignModel", "putIn", "()V"⟩ ⟨"EdgeCampaignModel", "putIn", "()V"⟩) : Cond) ∈ tb := tb_in (List.mem_of_getElem? (i := 41) (by decide +kernel)) (by decide +kernel)
theorem q_461 : ((.code y_MO_takeNext b_MO_takeNext 6 none) : Cond) ∈ tb := tb_in (List.mem_of_getElem? (i := 945) (by decide +kernel)) (by decide +kernel)
theorem q_462 : ((.methodLink "EdgeCampaignModel" 232 ⟨"EdgeCampaignModel", "takeNext", "()V"⟩) : Cond) ∈ tb := tb_in (List.mem_of_getElem? (i := 942) (by decide +kernel)) (by decide +kernel)
theorem q_463 : ((.instanceMethod ⟨"EdgeCampaignModel", "takeNext", "()V"⟩) : Cond) ∈ tb := tb_in (List.mem_of_getElem? (i := 944) (by decide +kernel)) (by decide +kernel)
theorem q_464 : ((.selects "EdgeCampaignModel" ⟨"EdgeCampaignModel", "takeNext", "()V"⟩ ⟨"EdgeCampaignModel", "takeNext", "()V"⟩) : Cond) ∈ tb := tb_in (List.mem_of_getElem? (i := 44) (by decide +kernel)) (by decide +kernel)
theorem q_465 : ((.code y_MO_execute b_MO_execute 4 (some .int)) : Cond) ∈ tb := tb_in (List.mem_of_getElem? (i := 833) (by decide +kernel)) (by decide +kernel)
theorem q_466 : ((.methodLink "EdgeCampaignModel" 228 ⟨"EdgeCampaignModel", "execute", "()I"⟩) : Cond) ∈ tb := tb_in (List.mem_of_getElem? (i := 830) (by decide +kernel)) (by decide +kernel)
theorem q_467 : ((.instanceMethod ⟨"EdgeCampaignModel", "execute", "()I"⟩) : Cond) ∈ tb := tb_in (List.mem_of_getElem? (i := 832) (by decide +kernel)) (by decide +kernel)
theorem q_468 : ((.selects "EdgeCampaignModel" ⟨"EdgeCampaignModel", "execute", "()I"⟩ ⟨"EdgeCampaignModel", "execute", "()I"⟩) : Cond) ∈ tb := tb_in (List.mem_of_getElem? (i := 18) (by decide +kernel)) (by decide +kernel)
theorem q_469 : ((.code y_MO_crossed b_MO_crossed 6 none) : Cond) ∈ tb := tb_in (List.mem_of_getElem? (i := 941) (by decide +kernel)) (by decide +kernel)
theorem q_470 : ((.methodLink "EdgeCampaignModel" 225 ⟨"EdgeCampaignModel", "crossed", "(I)V"⟩) : Cond) ∈ tb := tb_in (List.mem_of_getElem? (i := 938) (by decide +kernel)) (by decide +kernel)
theorem q_471 : ((.instanceMethod ⟨"EdgeCampaignModel", "crossed", "(I)V"⟩) : Cond) ∈ tb := tb_in (List.mem_of_getElem? (i := 940) (by decide +kernel)) (by decide +kernel)
theorem q_472 : ((.selects "EdgeCampaignModel" ⟨"EdgeCampaignModel", "crossed", "(I)V"⟩ ⟨"EdgeCampaignModel", "crossed", "(I)V"⟩) : Cond) ∈ tb := tb_in (List.mem_of_getElem? (i := 43) (by decide +kernel)) (by decide +kernel)
theorem q_473 : ((.code y_MO_mixed b_MO_mixed 4 none) : Cond) ∈ tb := tb_in (List.mem_of_getElem? (i := 924) (by decide +kernel)) (by decide +kernel)
theorem q_474 : ((.methodLink "EdgeCampaignModel" 222 ⟨"EdgeCampaignModel", "mixed", "()V"⟩) : Cond) ∈ tb := tb_in (List.mem_of_getElem? (i := 921) (by decide +kernel)) (by decide +kernel)
theorem q_475 : ((.instanceMethod ⟨"EdgeCampaignModel", "mixed", "()V"⟩) : Cond) ∈ tb := tb_in (List.mem_of_getElem? (i := 923) (by decide +kernel)) (by decide +kernel)
theorem q_476 : ((.selects "EdgeCampaignModel" ⟨"EdgeCampaignModel", "mixed", "()V"⟩ ⟨"EdgeCampaignModel", "mixed", "()V"⟩) : Cond) ∈ tb := tb_in (List.mem_of_getElem? (i := 39) (by decide +kernel)) (by decide +kernel)
theorem q_477 : ((.code y_MO_plain b_MO_plain 5 none) : Cond) ∈ tb := tb_in (List.mem_of_getElem? (i := 920) (by decide +kernel)) (by decide +kernel)
theorem q_478 : ((.methodLink "EdgeCampaignModel" 218 ⟨"EdgeCampaignModel", "plain", "(II)V"⟩) : Cond) ∈ tb := tb_in (List.mem_of_getElem? (i := 917) (by decide +kernel)) (by decide +kernel)
theorem q_479 : ((.instanceMethod ⟨"EdgeCampaignModel", "plain", "(II)V"⟩) : Cond) ∈ tb := tb_in (List.mem_of_getElem? (i := 919) (by decide +kernel)) (by decide +kernel)
theorem q_480 : ((.selects "EdgeCampaignModel" ⟨"EdgeCampaignModel", "plain", "(II)V"⟩ ⟨"EdgeCampaignModel", "plain", "(II)V"⟩) : Cond) ∈ tb := tb_in (List.mem_of_getElem? (i := 38) (by decide +kernel)) (by decide +kernel)
theorem q_481 : ((.code y_MO_trial b_MO_trial 5 none) : Cond) ∈ tb := tb_in (List.mem_of_getElem? (i := 916) (by decide +kernel)) (by decide +kernel)
theorem q_482 : ((.methodLink "EdgeCampaignModel" 244 ⟨"EdgeCampaignModel", "trial", "()V"⟩) : Cond) ∈ tb := tb_in (List.mem_of_getElem? (i := 913) (by decide +kernel)) (by decide +kernel)
theorem q_483 : ((.instanceMethod ⟨"EdgeCampaignModel", "trial", "()V"⟩) : Cond) ∈ tb := tb_in (List.mem_of_getElem? (i := 915) (by decide +kernel)) (by decide +kernel)
theorem q_484 : ((.selects "EdgeCampaignModel" ⟨"EdgeCampaignModel", "trial", "()V"⟩ ⟨"EdgeCampaignModel", "trial", "()V"⟩) : Cond) ∈ tb := tb_in (List.mem_of_getElem? (i := 37) (by decide +kernel)) (by decide +kernel)
theorem q_485 : ((.code y_MO_seenEdges b_MO_seenEdges 3 (some .int)) : Cond) ∈ tb := tb_in (List.mem_of_getElem? (i := 953) (by decide +kernel)) (by decide +kernel)
theorem q_486 : ((.methodLink "EdgeCampaignModel" 247 ⟨"EdgeCampaignModel", "seenEdges", "()I"⟩) : Cond) ∈ tb := tb_in (List.mem_of_getElem? (i := 950) (by decide +kernel)) (by decide +kernel)
theorem q_487 : ((.instanceMethod ⟨"EdgeCampaignModel", "seenEdges", "()I"⟩) : Cond) ∈ tb := tb_in (List.mem_of_getElem? (i := 952) (by decide +kernel)) (by decide +kernel)
theorem q_488 : ((.selects "EdgeCampaignModel" ⟨"EdgeCampaignModel", "seenEdges", "()I"⟩ ⟨"EdgeCampaignModel", "seenEdges", "()I"⟩) : Cond) ∈ tb := tb_in (List.mem_of_getElem? (i := 45) (by decide +kernel)) (by decide +kernel)
theorem q_489 : ((.code y_MO_seenPairs b_MO_seenPairs 4 (some .int)) : Cond) ∈ tb := tb_in (List.mem_of_getElem? (i := 957) (by decide +kernel)) (by decide +kernel)
theorem q_490 : ((.methodLink "EdgeCampaignModel" 250 ⟨"EdgeCampaignModel", "seenPairs", "()I"⟩) : Cond) ∈ tb := tb_in (List.mem_of_getElem? (i := 954) (by decide +kernel)) (by decide +kernel)
theorem q_491 : ((.instanceMethod ⟨"EdgeCampaignModel", "seenPairs", "()I"⟩) : Cond) ∈ tb := tb_in (List.mem_of_getElem? (i := 956) (by decide +kernel)) (by decide +kernel)
theorem q_492 : ((.selects "EdgeCampaignModel" ⟨"EdgeCampaignModel", "seenPairs", "()I"⟩ ⟨"EdgeCampaignModel", "seenPairs", "()I"⟩) : Cond) ∈ tb := tb_in (List.mem_of_getElem? (i := 46) (by decide +kernel)) (by decide +kernel)
theorem q_493 : ((.laysFinal "EdgeCampaign$Entry" "EdgeCampaign$Entry" "input" "LEdgeCampaign$Input;") : Cond) ∈ tb := tb_in (List.mem_of_getElem? (i := 185) (by decide +kernel)) (by decide +kernel)
theorem q_494 : ((.lays "EdgeCampaign$Entry" "EdgeCampaign$Entry" "steps" "I") : Cond) ∈ tb := tb_in (List.mem_of_getElem? (i := 187) (by decide +kernel)) (by decide +kernel)
theorem q_495 : ((.lays "EdgeCampaign$Entry" "EdgeCampaign$Entry" "edgeCount" "I") : Cond) ∈ tb := tb_in (List.mem_of_getElem? (i := 189) (by decide +kernel)) (by decide +kernel)
theorem q_496 : ((.lays "EdgeCampaign$Entry" "EdgeCampaign$Entry" "finished" "I") : Cond) ∈ tb := tb_in (List.mem_of_getElem? (i := 191) (by decide +kernel)) (by decide +kernel)
theorem q_497 : ((.laysFinal "EdgeCampaign$Finding" "EdgeCampaign$Finding" "input" "LEdgeCampaign$Input;") : Cond) ∈ tb := tb_in (List.mem_of_getElem? (i := 254) (by decide +kernel)) (by decide +kernel)
theorem q_498 : ((.laysFinal "EdgeCampaign$Finding" "EdgeCampaign$Finding" "shortest" "LEdgeCampaign$Input;") : Cond) ∈ tb := tb_in (List.mem_of_getElem? (i := 256) (by decide +kernel)) (by decide +kernel)
theorem q_499 : ((.laysFinal "EdgeCampaign$Finding" "EdgeCampaign$Finding" "latestFirst" "[I") : Cond) ∈ tb := tb_in (List.mem_of_getElem? (i := 258) (by decide +kernel)) (by decide +kernel)
theorem q_500 : ((.lays "EdgeCampaign$Finding" "EdgeCampaign$Finding" "trap" "I") : Cond) ∈ tb := tb_in (List.mem_of_getElem? (i := 260) (by decide +kernel)) (by decide +kernel)
theorem q_501 : ((.lays "EdgeCampaign$Finding" "EdgeCampaign$Finding" "here" "I") : Cond) ∈ tb := tb_in (List.mem_of_getElem? (i := 262) (by decide +kernel)) (by decide +kernel)
theorem q_502 : ((.lays "EdgeCampaign$Finding" "EdgeCampaign$Finding" "depth" "I") : Cond) ∈ tb := tb_in (List.mem_of_getElem? (i := 264) (by decide +kernel)) (by decide +kernel)
theorem q_503 : ((.lays "EdgeCampaign$Finding" "EdgeCampaign$Finding" "hits" "I") : Cond) ∈ tb := tb_in (List.mem_of_getElem? (i := 266) (by decide +kernel)) (by decide +kernel)
theorem q_504 : ((.laysFinal "EdgeCampaign$Findings" "EdgeCampaign$Findings" "made" "[LEdgeCampaign$Finding;") : Cond) ∈ tb := tb_in (List.mem_of_getElem? (i := 273) (by decide +kernel)) (by decide +kernel)
theorem q_505 : ((.lays "EdgeCampaign$Findings" "EdgeCampaign$Findings" "size" "I") : Cond) ∈ tb := tb_in (List.mem_of_getElem? (i := 275) (by decide +kernel)) (by decide +kernel)
theorem q_506 : ((.lays "EdgeCampaign$Generator" "EdgeCampaign$Generator" "x" "I") : Cond) ∈ tb := tb_in (List.mem_of_getElem? (i := 303) (by decide +kernel)) (by decide +kernel)
theorem q_507 : ((.laysFinal "EdgeCampaign$Input" "EdgeCampaign$Input" "bytes" "[I") : Cond) ∈ tb := tb_in (List.mem_of_getElem? (i := 106) (by decide +kernel)) (by decide +kernel)
theorem q_508 : ((.lays "EdgeCampaign$Input" "EdgeCampaign$Input" "size" "I") : Cond) ∈ tb := tb_in (List.mem_of_getElem? (i := 108) (by decide +kernel)) (by decide +kernel)
theorem q_509 : ((.laysFinal "EdgeCampaign$Program" "EdgeCampaign$Program" "ops" "[I") : Cond) ∈ tb := tb_in (List.mem_of_getElem? (i := 83) (by decide +kernel)) (by decide +kernel)
theorem q_510 : ((.laysFinal "EdgeCampaign$Program" "EdgeCampaign$Program" "as" "[I") : Cond) ∈ tb := tb_in (List.mem_of_getElem? (i := 85) (by decide +kernel)) (by decide +kernel)
theorem q_511 : ((.laysFinal "EdgeCampaign$Program" "EdgeCampaign$Program" "bs" "[I") : Cond) ∈ tb := tb_in (List.mem_of_getElem? (i := 87) (by decide +kernel)) (by decide +kernel)
theorem q_512 : ((.lays "EdgeCampaign$Program" "EdgeCampaign$Program" "size" "I") : Cond) ∈ tb := tb_in (List.mem_of_getElem? (i := 89) (by decide +kernel)) (by decide +kernel)
theorem q_513 : ((.laysFinal "EdgeCampaign$Run" "EdgeCampaign$Run" "registers" "[I") : Cond) ∈ tb := tb_in (List.mem_of_getElem? (i := 135) (by decide +kernel)) (by decide +kernel)
theorem q_514 : ((.laysFinal "EdgeCampaign$Run" "EdgeCampaign$Run" "memory" "[I") : Cond) ∈ tb := tb_in (List.mem_of_getElem? (i := 137) (by decide +kernel)) (by decide +kernel)
theorem q_515 : ((.laysFinal "EdgeCampaign$Run" "EdgeCampaign$Run" "stack" "[I") : Cond) ∈ tb := tb_in (List.mem_of_getElem? (i := 139) (by decide +kernel)) (by decide +kernel)
theorem q_516 : ((.laysFinal "EdgeCampaign$Run" "EdgeCampaign$Run" "times" "[I") : Cond) ∈ tb := tb_in (List.mem_of_getElem? (i := 141) (by decide +kernel)) (by decide +kernel)
theorem q_517 : ((.laysFinal "EdgeCampaign$Run" "EdgeCampaign$Run" "edges" "[I") : Cond) ∈ tb := tb_in (List.mem_of_getElem? (i := 143) (by decide +kernel)) (by decide +kernel)
theorem q_518 : ((.lays "EdgeCampaign$Run" "EdgeCampaign$Run" "edgeCount" "I") : Cond) ∈ tb := tb_in (List.mem_of_getElem? (i := 145) (by decide +kernel)) (by decide +kernel)
theorem q_519 : ((.lays "EdgeCampaign$Run" "EdgeCampaign$Run" "depth" "I") : Cond) ∈ tb := tb_in (List.mem_of_getElem? (i := 147) (by decide +kernel)) (by decide +kernel)
theorem q_520 : ((.lays "EdgeCampaign$Run" "EdgeCampaign$Run" "pc" "I") : Cond) ∈ tb := tb_in (List.mem_of_getElem? (i := 149) (by decide +kernel)) (by decide +kernel)
theorem q_521 : ((.lays "EdgeCampaign$Run" "EdgeCampaign$Run" "here" "I") : Cond) ∈ tb := tb_in (List.mem_of_getElem? (i := 151) (by decide +kernel)) (by decide +kernel)
theorem q_522 : ((.lays "EdgeCampaign$Run" "EdgeCampaign$Run" "steps" "I") : Cond) ∈ tb := tb_in (List.mem_of_getElem? (i := 153) (by decide +kernel)) (by decide +kernel)
theorem q_523 : ((.lays "EdgeCampaign$Run" "EdgeCampaign$Run" "outcome" "I") : Cond) ∈ tb := tb_in (List.mem_of_getElem? (i := 155) (by decide +kernel)) (by decide +kernel)
theorem q_524 : ((.laysFinal "EdgeCampaign$Shortener" "EdgeCampaign$Shortener" "run" "LEdgeCampaign$Run;") : Cond) ∈ tb := tb_in (List.mem_of_getElem? (i := 290) (by decide +kernel)) (by decide +kernel)
theorem q_525 : ((.laysFinal "EdgeCampaign$Shortener" "EdgeCampaign$Shortener" "candidate" "LEdgeCampaign$Input;") : Cond) ∈ tb := tb_in (List.mem_of_getElem? (i := 292) (by decide +kernel)) (by decide +kernel)
theorem q_526 : ((.laysFinal "EdgeCampaign$Store" "EdgeCampaign$Store" "entries" "[LEdgeCampaign$Entry;") : Cond) ∈ tb := tb_in (List.mem_of_getElem? (i := 208) (by decide +kernel)) (by decide +kernel)
theorem q_527 : ((.laysFinal "EdgeCampaign$Store" "EdgeCampaign$Store" "buckets" "[I") : Cond) ∈ tb := tb_in (List.mem_of_getElem? (i := 210) (by decide +kernel)) (by decide +kernel)
theorem q_528 : ((.laysFinal "EdgeCampaign$Store" "EdgeCampaign$Store" "goers" "[I") : Cond) ∈ tb := tb_in (List.mem_of_getElem? (i := 212) (by decide +kernel)) (by decide +kernel)
theorem q_529 : ((.lays "EdgeCampaign$Store" "EdgeCampaign$Store" "size" "I") : Cond) ∈ tb := tb_in (List.mem_of_getElem? (i := 214) (by decide +kernel)) (by decide +kernel)
theorem q_530 : ((.lays "EdgeCampaign$Store" "EdgeCampaign$Store" "favoured" "I") : Cond) ∈ tb := tb_in (List.mem_of_getElem? (i := 216) (by decide +kernel)) (by decide +kernel)
theorem q_531 : ((.lays "EdgeCampaign$Store" "EdgeCampaign$Store" "seenEdges" "I") : Cond) ∈ tb := tb_in (List.mem_of_getElem? (i := 218) (by decide +kernel)) (by decide +kernel)
theorem q_532 : ((.lays "EdgeCampaign$Store" "EdgeCampaign$Store" "seenPairs" "I") : Cond) ∈ tb := tb_in (List.mem_of_getElem? (i := 220) (by decide +kernel)) (by decide +kernel)
theorem q_533 : ((.lays "EdgeCampaign$Trials" "EdgeCampaign$Trials" "taken" "I") : Cond) ∈ tb := tb_in (List.mem_of_getElem? (i := 318) (by decide +kernel)) (by decide +kernel)
theorem q_534 : ((.lays "EdgeCampaign$Trials" "EdgeCampaign$Trials" "number" "I") : Cond) ∈ tb := tb_in (List.mem_of_getElem? (i := 320) (by decide +kernel)) (by decide +kernel)
theorem q_535 : ((.lays "EdgeCampaign$Trials" "EdgeCampaign$Trials" "energy" "I") : Cond) ∈ tb := tb_in (List.mem_of_getElem? (i := 322) (by decide +kernel)) (by decide +kernel)
theorem q_536 : ((.laysFinal "EdgeCampaign" "EdgeCampaign" "program" "LEdgeCampaign$Program;") : Cond) ∈ tb := tb_in (List.mem_of_getElem? (i := 337) (by decide +kernel)) (by decide +kernel)
theorem q_537 : ((.laysFinal "EdgeCampaign" "EdgeCampaign" "draft" "LEdgeCampaign$Input;") : Cond) ∈ tb := tb_in (List.mem_of_getElem? (i := 339) (by decide +kernel)) (by decide +kernel)
theorem q_538 : ((.laysFinal "EdgeCampaign" "EdgeCampaign" "changed" "LEdgeCampaign$Input;") : Cond) ∈ tb := tb_in (List.mem_of_getElem? (i := 341) (by decide +kernel)) (by decide +kernel)
theorem q_539 : ((.laysFinal "EdgeCampaign" "EdgeCampaign" "run" "LEdgeCampaign$Run;") : Cond) ∈ tb := tb_in (List.mem_of_getElem? (i := 343) (by decide +kernel)) (by decide +kernel)
theorem q_540 : ((.laysFinal "EdgeCampaign" "EdgeCampaign" "store" "LEdgeCampaign$Store;") : Cond) ∈ tb := tb_in (List.mem_of_getElem? (i := 345) (by decide +kernel)) (by decide +kernel)
theorem q_541 : ((.laysFinal "EdgeCampaign" "EdgeCampaign" "findings" "LEdgeCampaign$Findings;") : Cond) ∈ tb := tb_in (List.mem_of_getElem? (i := 347) (by decide +kernel)) (by decide +kernel)
theorem q_542 : ((.laysFinal "EdgeCampaign" "EdgeCampaign" "shortener" "LEdgeCampaign$Shortener;") : Cond) ∈ tb := tb_in (List.mem_of_getElem? (i := 349) (by decide +kernel)) (by decide +kernel)
theorem q_543 : ((.laysFinal "EdgeCampaign" "EdgeCampaign" "generator" "LEdgeCampaign$Generator;") : Cond) ∈ tb := tb_in (List.mem_of_getElem? (i := 351) (by decide +kernel)) (by decide +kernel)
theorem q_544 : ((.laysFinal "EdgeCampaign" "EdgeCampaign" "trials" "LEdgeCampaign$Trials;") : Cond) ∈ tb := tb_in (List.mem_of_getElem? (i := 353) (by decide +kernel)) (by decide +kernel)
theorem q_545 : ((.lays "EdgeCampaign" "EdgeCampaign" "executions" "I") : Cond) ∈ tb := tb_in (List.mem_of_getElem? (i := 355) (by decide +kernel)) (by decide +kernel)
theorem q_546 : ((.lays "EdgeCampaign" "EdgeCampaign" "hangs" "I") : Cond) ∈ tb := tb_in (List.mem_of_getElem? (i := 357) (by decide +kernel)) (by decide +kernel)
theorem q_547 : ((.lays "EdgeCampaign" "EdgeCampaign" "lost" "I") : Cond) ∈ tb := tb_in (List.mem_of_getElem? (i := 359) (by decide +kernel)) (by decide +kernel)
theorem q_548 : ((.lays "EdgeCampaignModel" "EdgeCampaignModel" "size" "I") : Cond) ∈ tb := tb_in (List.mem_of_getElem? (i := 721) (by decide +kernel)) (by decide +kernel)
theorem q_549 : ((.laysFinal "EdgeCampaignModel" "EdgeCampaignModel" "ops" "[I") : Cond) ∈ tb := tb_in (List.mem_of_getElem? (i := 723) (by decide +kernel)) (by decide +kernel)
theorem q_550 : ((.laysFinal "EdgeCampaignModel" "EdgeCampaignModel" "as" "[I") : Cond) ∈ tb := tb_in (List.mem_of_getElem? (i := 725) (by decide +kernel)) (by decide +kernel)
theorem q_551 : ((.laysFinal "EdgeCampaignModel" "EdgeCampaignModel" "bs" "[I") : Cond) ∈ tb := tb_in (List.mem_of_getElem? (i := 727) (by decide +kernel)) (by decide +kernel)
theorem q_552 : ((.laysFinal "EdgeCampaignModel" "EdgeCampaignModel" "draft" "[I") : Cond) ∈ tb := tb_in (List.mem_of_getElem? (i := 729) (by decide +kernel)) (by decide +kernel)
theorem q_553 : ((.lays "EdgeCampaignModel" "EdgeCampaignModel" "drafted" "I") : Cond) ∈ tb := tb_in (List.mem_of_getElem? (i := 731) (by decide +kernel)) (by decide +kernel)
theorem q_554 : ((.lays "EdgeCampaignModel" "EdgeCampaignModel" "x" "I") : Cond) ∈ tb := tb_in (List.mem_of_getElem? (i := 733) (by decide +kernel)) (by decide +kernel)
theorem q_555 : ((.laysFinal "EdgeCampaignModel" "EdgeCampaignModel" "tape" "[I") : Cond) ∈ tb := tb_in (List.mem_of_getElem? (i := 735) (by decide +kernel)) (by decide +kernel)
theorem q_556 : ((.lays "EdgeCampaignModel" "EdgeCampaignModel" "tapeLength" "I") : Cond) ∈ tb := tb_in (List.mem_of_getElem? (i := 737) (by decide +kernel)) (by decide +kernel)
theorem q_557 : ((.laysFinal "EdgeCampaignModel" "EdgeCampaignModel" "\x72" "[I") : Cond) ∈ tb := tb_in (List.mem_of_getElem? (i := 739) (by decide +kernel)) (by decide +kernel)
theorem q_558 : ((.laysFinal "EdgeCampaignModel" "EdgeCampaignModel" "memory" "[I") : Cond) ∈ tb := tb_in (List.mem_of_getElem? (i := 741) (by decide +kernel)) (by decide +kernel)
theorem q_559 : ((.laysFinal "EdgeCampaignModel" "EdgeCampaignModel" "stack" "[I") : Cond) ∈ tb := tb_in (List.mem_of_getElem? (i := 743) (by decide +kernel)) (by decide +kernel)
theorem q_560 : ((.lays "EdgeCampaignModel" "EdgeCampaignModel" "depth" "I") : Cond) ∈ tb := tb_in (List.mem_of_getElem? (i := 745) (by decide +kernel)) (by decide +kernel)
theorem q_561 : ((.lays "EdgeCampaignModel" "EdgeCampaignModel" "pc" "I") : Cond) ∈ tb := tb_in (List.mem_of_getElem? (i := 747) (by decide +kernel)) (by decide +kernel)
theorem q_562 : ((.lays "EdgeCampaignModel" "EdgeCampaignModel" "here" "I") : Cond) ∈ tb := tb_in (List.mem_of_getElem? (i := 749) (by decide +kernel)) (by decide +kernel)
theorem q_563 : ((.lays "EdgeCampaignModel" "EdgeCampaignModel" "steps" "I") : Cond) ∈ tb := tb_in (List.mem_of_getElem? (i := 751) (by decide +kernel)) (by decide +kernel)
theorem q_564 : ((.lays "EdgeCampaignModel" "EdgeCampaignModel" "outcome" "I") : Cond) ∈ tb := tb_in (List.mem_of_getElem? (i := 753) (by decide +kernel)) (by decide +kernel)
theorem q_565 : ((.laysFinal "EdgeCampaignModel" "EdgeCampaignModel" "times" "[I") : Cond) ∈ tb := tb_in (List.mem_of_getElem? (i := 755) (by decide +kernel)) (by decide +kernel)
theorem q_566 : ((.lays "EdgeCampaignModel" "EdgeCampaignModel" "entries" "I") : Cond) ∈ tb := tb_in (List.mem_of_getElem? (i := 757) (by decide +kernel)) (by decide +kernel)
theorem q_567 : ((.laysFinal "EdgeCampaignModel" "EdgeCampaignModel" "inputs" "[I") : Cond) ∈ tb := tb_in (List.mem_of_getElem? (i := 759) (by decide +kernel)) (by decide +kernel)
theorem q_568 : ((.laysFinal "EdgeCampaignModel" "EdgeCampaignModel" "lengths" "[I") : Cond) ∈ tb := tb_in (List.mem_of_getElem? (i := 761) (by decide +kernel)) (by decide +kernel)
theorem q_569 : ((.laysFinal "EdgeCampaignModel" "EdgeCampaignModel" "finished" "[I") : Cond) ∈ tb := tb_in (List.mem_of_getElem? (i := 763) (by decide +kernel)) (by decide +kernel)
theorem q_570 : ((.lays "EdgeCampaignModel" "EdgeCampaignModel" "findings" "I") : Cond) ∈ tb := tb_in (List.mem_of_getElem? (i := 765) (by decide +kernel)) (by decide +kernel)
theorem q_571 : ((.laysFinal "EdgeCampaignModel" "EdgeCampaignModel" "traps" "[I") : Cond) ∈ tb := tb_in (List.mem_of_getElem? (i := 767) (by decide +kernel)) (by decide +kernel)
theorem q_572 : ((.laysFinal "EdgeCampaignModel" "EdgeCampaignModel" "places" "[I") : Cond) ∈ tb := tb_in (List.mem_of_getElem? (i := 769) (by decide +kernel)) (by decide +kernel)
theorem q_573 : ((.laysFinal "EdgeCampaignModel" "EdgeCampaignModel" "depths" "[I") : Cond) ∈ tb := tb_in (List.mem_of_getElem? (i := 771) (by decide +kernel)) (by decide +kernel)
theorem q_574 : ((.laysFinal "EdgeCampaignModel" "EdgeCampaignModel" "stacks" "[I") : Cond) ∈ tb := tb_in (List.mem_of_getElem? (i := 773) (by decide +kernel)) (by decide +kernel)
theorem q_575 : ((.laysFinal "EdgeCampaignModel" "EdgeCampaignModel" "hits" "[I") : Cond) ∈ tb := tb_in (List.mem_of_getElem? (i := 775) (by decide +kernel)) (by decide +kernel)
theorem q_576 : ((.laysFinal "EdgeCampaignModel" "EdgeCampaignModel" "found" "[I") : Cond) ∈ tb := tb_in (List.mem_of_getElem? (i := 777) (by decide +kernel)) (by decide +kernel)
theorem q_577 : ((.laysFinal "EdgeCampaignModel" "EdgeCampaignModel" "foundLength" "[I") : Cond) ∈ tb := tb_in (List.mem_of_getElem? (i := 779) (by decide +kernel)) (by decide +kernel)
theorem q_578 : ((.laysFinal "EdgeCampaignModel" "EdgeCampaignModel" "brief" "[I") : Cond) ∈ tb := tb_in (List.mem_of_getElem? (i := 781) (by decide +kernel)) (by decide +kernel)
theorem q_579 : ((.laysFinal "EdgeCampaignModel" "EdgeCampaignModel" "briefLength" "[I") : Cond) ∈ tb := tb_in (List.mem_of_getElem? (i := 783) (by decide +kernel)) (by decide +kernel)
theorem q_580 : ((.lays "EdgeCampaignModel" "EdgeCampaignModel" "executions" "I") : Cond) ∈ tb := tb_in (List.mem_of_getElem? (i := 785) (by decide +kernel)) (by decide +kernel)
theorem q_581 : ((.lays "EdgeCampaignModel" "EdgeCampaignModel" "hangs" "I") : Cond) ∈ tb := tb_in (List.mem_of_getElem? (i := 787) (by decide +kernel)) (by decide +kernel)
theorem q_582 : ((.lays "EdgeCampaignModel" "EdgeCampaignModel" "lost" "I") : Cond) ∈ tb := tb_in (List.mem_of_getElem? (i := 789) (by decide +kernel)) (by decide +kernel)
theorem q_583 : ((.lays "EdgeCampaignModel" "EdgeCampaignModel" "surveyed" "I") : Cond) ∈ tb := tb_in (List.mem_of_getElem? (i := 791) (by decide +kernel)) (by decide +kernel)
theorem q_584 : ((.laysFinal "EdgeCampaignModel" "EdgeCampaignModel" "buckets" "[I") : Cond) ∈ tb := tb_in (List.mem_of_getElem? (i := 793) (by decide +kernel)) (by decide +kernel)
theorem q_585 : ((.laysFinal "EdgeCampaignModel" "EdgeCampaignModel" "went" "[I") : Cond) ∈ tb := tb_in (List.mem_of_getElem? (i := 795) (by decide +kernel)) (by decide +kernel)
theorem q_586 : ((.laysFinal "EdgeCampaignModel" "EdgeCampaignModel" "stepsOf" "[I") : Cond) ∈ tb := tb_in (List.mem_of_getElem? (i := 797) (by decide +kernel)) (by decide +kernel)
theorem q_587 : ((.lays "EdgeCampaignModel" "EdgeCampaignModel" "favoured" "I") : Cond) ∈ tb := tb_in (List.mem_of_getElem? (i := 799) (by decide +kernel)) (by decide +kernel)
theorem q_588 : ((.lays "EdgeCampaignModel" "EdgeCampaignModel" "taken" "I") : Cond) ∈ tb := tb_in (List.mem_of_getElem? (i := 801) (by decide +kernel)) (by decide +kernel)
theorem q_589 : ((.lays "EdgeCampaignModel" "EdgeCampaignModel" "next" "I") : Cond) ∈ tb := tb_in (List.mem_of_getElem? (i := 803) (by decide +kernel)) (by decide +kernel)
theorem q_590 : ((.lays "EdgeCampaignModel" "EdgeCampaignModel" "energy" "I") : Cond) ∈ tb := tb_in (List.mem_of_getElem? (i := 805) (by decide +kernel)) (by decide +kernel)
theorem q_591 : ((.laysFinal "EdgeCampaignModel" "EdgeCampaignModel" "cur" "[I") : Cond) ∈ tb := tb_in (List.mem_of_getElem? (i := 807) (by decide +kernel)) (by decide +kernel)
theorem q_592 : ((.lays "EdgeCampaignModel" "EdgeCampaignModel" "curLength" "I") : Cond) ∈ tb := tb_in (List.mem_of_getElem? (i := 809) (by decide +kernel)) (by decide +kernel)
theorem nf_0 : (.fieldLinkNest "EdgeCampaign$Run" 65 "EdgeCampaign$Program" "ops" "[I" "EdgeCampaign" : Cond) ∈ nb := List.mem_append_left _ (List.mem_map_of_mem (f := fun q : String × Nat × String × String × String × String => Cond.fieldLinkNest q.1 q.2.1 q.2.2.1 q.2.2.2.1 q.2.2.2.2.1 q.2.2.2.2.2) (List.mem_of_getElem? (l := nbF) (i := 0) rfl))
theorem nf_1 : (.fieldLinkNest "EdgeCampaign$Run" 68 "EdgeCampaign$Program" "as" "[I" "EdgeCampaign" : Cond) ∈ nb := List.mem_append_left _ (List.mem_map_of_mem (f := fun q : String × Nat × String × String × String × String => Cond.fieldLinkNest q.1 q.2.1 q.2.2.1 q.2.2.2.1 q.2.2.2.2.1 q.2.2.2.2.2) (List.mem_of_getElem? (l := nbF) (i := 1) rfl))
theorem nf_2 : (.fieldLinkNest "EdgeCampaign$Run" 71 "EdgeCampaign$Program" "bs" "[I" "EdgeCampaign" : Cond) ∈ nb := List.mem_append_left _ (List.mem_map_of_mem (f := fun q : String × Nat × String × String × String × String => Cond.fieldLinkNest q.1 q.2.1 q.2.2.1 q.2.2.2.1 q.2.2.2.2.1 q.2.2.2.2.2) (List.mem_of_getElem? (l := nbF) (i := 2) rfl))
theorem nf_3 : (.fieldLinkNest "EdgeCampaign$Run" 97 "EdgeCampaign$Input" "size" "I" "EdgeCampaign" : Cond) ∈ nb := List.mem_append_left _ (List.mem_map_of_mem (f := fun q : String × Nat × String × String × String × String => Cond.fieldLinkNest q.1 q.2.1 q.2.2.1 q.2.2.2.1 q.2.2.2.2.1 q.2.2.2.2.2) (List.mem_of_getElem? (l := nbF) (i := 3) rfl))
theorem nf_4 : (.fieldLinkNest "EdgeCampaign$Store" 34 "EdgeCampaign$Run" "edgeCount" "I" "EdgeCampaign" : Cond) ∈ nb := List.mem_append_left _ (List.mem_map_of_mem (f := fun q : String × Nat × String × String × String × String => Cond.fieldLinkNest q.1 q.2.1 q.2.2.1 q.2.2.2.1 q.2.2.2.2.1 q.2.2.2.2.2) (List.mem_of_getElem? (l := nbF) (i := 4) rfl))
theorem nf_5 : (.fieldLinkNest "EdgeCampaign$Store" 39 "EdgeCampaign$Run" "edges" "[I" "EdgeCampaign" : Cond) ∈ nb := List.mem_append_left _ (List.mem_map_of_mem (f := fun q : String × Nat × String × String × String × String => Cond.fieldLinkNest q.1 q.2.1 q.2.2.1 q.2.2.2.1 q.2.2.2.2.1 q.2.2.2.2.2) (List.mem_of_getElem? (l := nbF) (i := 5) rfl))
theorem nf_6 : (.fieldLinkNest "EdgeCampaign$Entry" 20 "EdgeCampaign$Input" "size" "I" "EdgeCampaign" : Cond) ∈ nb := List.mem_append_left _ (List.mem_map_of_mem (f := fun q : String × Nat × String × String × String × String => Cond.fieldLinkNest q.1 q.2.1 q.2.2.1 q.2.2.2.1 q.2.2.2.2.1 q.2.2.2.2.2) (List.mem_of_getElem? (l := nbF) (i := 6) rfl))
theorem nf_7 : (.fieldLinkNest "EdgeCampaign$Store" 46 "EdgeCampaign$Entry" "input" "LEdgeCampaign$Input;" "EdgeCampaign" : Cond) ∈ nb := List.mem_append_left _ (List.mem_map_of_mem (f := fun q : String × Nat × String × String × String × String => Cond.fieldLinkNest q.1 q.2.1 q.2.2.1 q.2.2.2.1 q.2.2.2.2.1 q.2.2.2.2.2) (List.mem_of_getElem? (l := nbF) (i := 7) rfl))
theorem nf_8 : (.fieldLinkNest "EdgeCampaign$Store" 56 "EdgeCampaign$Run" "steps" "I" "EdgeCampaign" : Cond) ∈ nb := List.mem_append_left _ (List.mem_map_of_mem (f := fun q : String × Nat × String × String × String × String => Cond.fieldLinkNest q.1 q.2.1 q.2.2.1 q.2.2.2.1 q.2.2.2.2.1 q.2.2.2.2.2) (List.mem_of_getElem? (l := nbF) (i := 8) rfl))
theorem nf_9 : (.fieldLinkNest "EdgeCampaign$Store" 59 "EdgeCampaign$Entry" "steps" "I" "EdgeCampaign" : Cond) ∈ nb := List.mem_append_left _ (List.mem_map_of_mem (f := fun q : String × Nat × String × String × String × String => Cond.fieldLinkNest q.1 q.2.1 q.2.2.1 q.2.2.2.1 q.2.2.2.2.1 q.2.2.2.2.2) (List.mem_of_getElem? (l := nbF) (i := 9) rfl))
theorem nf_10 : (.fieldLinkNest "EdgeCampaign$Store" 60 "EdgeCampaign$Entry" "edgeCount" "I" "EdgeCampaign" : Cond) ∈ nb := List.mem_append_left _ (List.mem_map_of_mem (f := fun q : String × Nat × String × String × String × String => Cond.fieldLinkNest q.1 q.2.1 q.2.2.1 q.2.2.2.1 q.2.2.2.2.1 q.2.2.2.2.2) (List.mem_of_getElem? (l := nbF) (i := 10) rfl))
theorem nf_11 : (.fieldLinkNest "EdgeCampaign$Finding" 29 "EdgeCampaign$Run" "outcome" "I" "EdgeCampaign" : Cond) ∈ nb := List.mem_append_left _ (List.mem_map_of_mem (f := fun q : String × Nat × String × String × String × String => Cond.fieldLinkNest q.1 q.2.1 q.2.2.1 q.2.2.2.1 q.2.2.2.2.1 q.2.2.2.2.2) (List.mem_of_getElem? (l := nbF) (i := 11) rfl))
theorem nf_12 : (.fieldLinkNest "EdgeCampaign$Finding" 36 "EdgeCampaign$Run" "here" "I" "EdgeCampaign" : Cond) ∈ nb := List.mem_append_left _ (List.mem_map_of_mem (f := fun q : String × Nat × String × String × String × String => Cond.fieldLinkNest q.1 q.2.1 q.2.2.1 q.2.2.2.1 q.2.2.2.2.1 q.2.2.2.2.2) (List.mem_of_getElem? (l := nbF) (i := 12) rfl))
theorem nf_13 : (.fieldLinkNest "EdgeCampaign$Finding" 40 "EdgeCampaign$Run" "depth" "I" "EdgeCampaign" : Cond) ∈ nb := List.mem_append_left _ (List.mem_map_of_mem (f := fun q : String × Nat × String × String × String × String => Cond.fieldLinkNest q.1 q.2.1 q.2.2.1 q.2.2.2.1 q.2.2.2.2.1 q.2.2.2.2.2) (List.mem_of_getElem? (l := nbF) (i := 13) rfl))
theorem nf_14 : (.fieldLinkNest "EdgeCampaign$Findings" 24 "EdgeCampaign$Finding" "hits" "I" "EdgeCampaign" : Cond) ∈ nb := List.mem_append_left _ (List.mem_map_of_mem (f := fun q : String × Nat × String × String × String × String => Cond.fieldLinkNest q.1 q.2.1 q.2.2.1 q.2.2.2.1 q.2.2.2.2.1 q.2.2.2.2.2) (List.mem_of_getElem? (l := nbF) (i := 14) rfl))
theorem nf_15 : (.fieldLinkNest "EdgeCampaign$Shortener" 28 "EdgeCampaign$Input" "size" "I" "EdgeCampaign" : Cond) ∈ nb := List.mem_append_left _ (List.mem_map_of_mem (f := fun q : String × Nat × String × String × String × String => Cond.fieldLinkNest q.1 q.2.1 q.2.2.1 q.2.2.2.1 q.2.2.2.2.1 q.2.2.2.2.2) (List.mem_of_getElem? (l := nbF) (i := 15) rfl))
theorem nf_16 : (.fieldLinkNest "EdgeCampaign$Shortener" 23 "EdgeCampaign$Finding" "shortest" "LEdgeCampaign$Input;" "EdgeCampaign" : Cond) ∈ nb := List.mem_append_left _ (List.mem_map_of_mem (f := fun q : String × Nat × String × String × String × String => Cond.fieldLinkNest q.1 q.2.1 q.2.2.1 q.2.2.2.1 q.2.2.2.2.1 q.2.2.2.2.2) (List.mem_of_getElem? (l := nbF) (i := 16) rfl))
theorem nf_17 : (.fieldLinkNest "EdgeCampaign$Trials" 41 "EdgeCampaign$Input" "size" "I" "EdgeCampaign" : Cond) ∈ nb := List.mem_append_left _ (List.mem_map_of_mem (f := fun q : String × Nat × String × String × String × String => Cond.fieldLinkNest q.1 q.2.1 q.2.2.1 q.2.2.2.1 q.2.2.2.2.1 q.2.2.2.2.2) (List.mem_of_getElem? (l := nbF) (i := 17) rfl))
theorem nf_18 : (.fieldLinkNest "EdgeCampaign$Trials" 87 "EdgeCampaign$Entry" "edgeCount" "I" "EdgeCampaign" : Cond) ∈ nb := List.mem_append_left _ (List.mem_map_of_mem (f := fun q : String × Nat × String × String × String × String => Cond.fieldLinkNest q.1 q.2.1 q.2.2.1 q.2.2.2.1 q.2.2.2.2.1 q.2.2.2.2.2) (List.mem_of_getElem? (l := nbF) (i := 18) rfl))
theorem nf_19 : (.fieldLinkNest "EdgeCampaign$Trials" 25 "EdgeCampaign$Store" "entries" "[LEdgeCampaign$Entry;" "EdgeCampaign" : Cond) ∈ nb := List.mem_append_left _ (List.mem_map_of_mem (f := fun q : String × Nat × String × String × String × String => Cond.fieldLinkNest q.1 q.2.1 q.2.2.1 q.2.2.2.1 q.2.2.2.2.1 q.2.2.2.2.2) (List.mem_of_getElem? (l := nbF) (i := 19) rfl))
theorem nf_20 : (.fieldLinkNest "EdgeCampaign$Trials" 80 "EdgeCampaign$Entry" "finished" "I" "EdgeCampaign" : Cond) ∈ nb := List.mem_append_left _ (List.mem_map_of_mem (f := fun q : String × Nat × String × String × String × String => Cond.fieldLinkNest q.1 q.2.1 q.2.2.1 q.2.2.2.1 q.2.2.2.2.1 q.2.2.2.2.2) (List.mem_of_getElem? (l := nbF) (i := 20) rfl))
theorem nf_21 : (.fieldLinkNest "EdgeCampaign$Trials" 29 "EdgeCampaign$Entry" "input" "LEdgeCampaign$Input;" "EdgeCampaign" : Cond) ∈ nb := List.mem_append_left _ (List.mem_map_of_mem (f := fun q : String × Nat × String × String × String × String => Cond.fieldLinkNest q.1 q.2.1 q.2.2.1 q.2.2.2.1 q.2.2.2.2.1 q.2.2.2.2.2) (List.mem_of_getElem? (l := nbF) (i := 21) rfl))
theorem nf_22 : (.fieldLinkNest "EdgeCampaign" 190 "EdgeCampaign$Run" "outcome" "I" "EdgeCampaign" : Cond) ∈ nb := List.mem_append_left _ (List.mem_map_of_mem (f := fun q : String × Nat × String × String × String × String => Cond.fieldLinkNest q.1 q.2.1 q.2.2.1 q.2.2.2.1 q.2.2.2.2.1 q.2.2.2.2.2) (List.mem_of_getElem? (l := nbF) (i := 22) rfl))
theorem nf_23 : (.fieldLinkNest "EdgeCampaign$Trials" 79 "EdgeCampaign$Store" "size" "I" "EdgeCampaign" : Cond) ∈ nb := List.mem_append_left _ (List.mem_map_of_mem (f := fun q : String × Nat × String × String × String × String => Cond.fieldLinkNest q.1 q.2.1 q.2.2.1 q.2.2.2.1 q.2.2.2.2.1 q.2.2.2.2.2) (List.mem_of_getElem? (l := nbF) (i := 23) rfl))
theorem nf_24 : (.fieldLinkNest "EdgeCampaign" 94 "EdgeCampaign$Store" "size" "I" "EdgeCampaign" : Cond) ∈ nb := List.mem_append_left _ (List.mem_map_of_mem (f := fun q : String × Nat × String × String × String × String => Cond.fieldLinkNest q.1 q.2.1 q.2.2.1 q.2.2.2.1 q.2.2.2.2.1 q.2.2.2.2.2) (List.mem_of_getElem? (l := nbF) (i := 24) rfl))
theorem nf_25 : (.fieldLinkNest "EdgeCampaign" 105 "EdgeCampaign$Findings" "size" "I" "EdgeCampaign" : Cond) ∈ nb := List.mem_append_left _ (List.mem_map_of_mem (f := fun q : String × Nat × String × String × String × String => Cond.fieldLinkNest q.1 q.2.1 q.2.2.1 q.2.2.2.1 q.2.2.2.2.1 q.2.2.2.2.2) (List.mem_of_getElem? (l := nbF) (i := 25) rfl))
theorem nf_26 : (.fieldLinkNest "EdgeCampaign" 106 "EdgeCampaign$Store" "seenEdges" "I" "EdgeCampaign" : Cond) ∈ nb := List.mem_append_left _ (List.mem_map_of_mem (f := fun q : String × Nat × String × String × String × String => Cond.fieldLinkNest q.1 q.2.1 q.2.2.1 q.2.2.2.1 q.2.2.2.2.1 q.2.2.2.2.2) (List.mem_of_getElem? (l := nbF) (i := 26) rfl))
theorem nf_27 : (.fieldLinkNest "EdgeCampaign" 109 "EdgeCampaign$Store" "seenPairs" "I" "EdgeCampaign" : Cond) ∈ nb := List.mem_append_left _ (List.mem_map_of_mem (f := fun q : String × Nat × String × String × String × String => Cond.fieldLinkNest q.1 q.2.1 q.2.2.1 q.2.2.2.1 q.2.2.2.2.1 q.2.2.2.2.2) (List.mem_of_getElem? (l := nbF) (i := 27) rfl))
theorem nf_28 : (.fieldLinkNest "EdgeCampaign" 115 "EdgeCampaign$Store" "entries" "[LEdgeCampaign$Entry;" "EdgeCampaign" : Cond) ∈ nb := List.mem_append_left _ (List.mem_map_of_mem (f := fun q : String × Nat × String × String × String × String => Cond.fieldLinkNest q.1 q.2.1 q.2.2.1 q.2.2.2.1 q.2.2.2.2.1 q.2.2.2.2.2) (List.mem_of_getElem? (l := nbF) (i := 28) rfl))
theorem nf_29 : (.fieldLinkNest "EdgeCampaign" 119 "EdgeCampaign$Entry" "input" "LEdgeCampaign$Input;" "EdgeCampaign" : Cond) ∈ nb := List.mem_append_left _ (List.mem_map_of_mem (f := fun q : String × Nat × String × String × String × String => Cond.fieldLinkNest q.1 q.2.1 q.2.2.1 q.2.2.2.1 q.2.2.2.2.1 q.2.2.2.2.2) (List.mem_of_getElem? (l := nbF) (i := 29) rfl))
theorem nf_30 : (.fieldLinkNest "EdgeCampaign" 124 "EdgeCampaign$Input" "size" "I" "EdgeCampaign" : Cond) ∈ nb := List.mem_append_left _ (List.mem_map_of_mem (f := fun q : String × Nat × String × String × String × String => Cond.fieldLinkNest q.1 q.2.1 q.2.2.1 q.2.2.2.1 q.2.2.2.2.1 q.2.2.2.2.2) (List.mem_of_getElem? (l := nbF) (i := 30) rfl))
theorem nf_31 : (.fieldLinkNest "EdgeCampaign" 125 "EdgeCampaign$Entry" "steps" "I" "EdgeCampaign" : Cond) ∈ nb := List.mem_append_left _ (List.mem_map_of_mem (f := fun q : String × Nat × String × String × String × String => Cond.fieldLinkNest q.1 q.2.1 q.2.2.1 q.2.2.2.1 q.2.2.2.2.1 q.2.2.2.2.2) (List.mem_of_getElem? (l := nbF) (i := 31) rfl))
theorem nf_32 : (.fieldLinkNest "EdgeCampaign" 128 "EdgeCampaign$Entry" "edgeCount" "I" "EdgeCampaign" : Cond) ∈ nb := List.mem_append_left _ (List.mem_map_of_mem (f := fun q : String × Nat × String × String × String × String => Cond.fieldLinkNest q.1 q.2.1 q.2.2.1 q.2.2.2.1 q.2.2.2.2.1 q.2.2.2.2.2) (List.mem_of_getElem? (l := nbF) (i := 32) rfl))
theorem nf_33 : (.fieldLinkNest "EdgeCampaign" 131 "EdgeCampaign$Entry" "finished" "I" "EdgeCampaign" : Cond) ∈ nb := List.mem_append_left _ (List.mem_map_of_mem (f := fun q : String × Nat × String × String × String × String => Cond.fieldLinkNest q.1 q.2.1 q.2.2.1 q.2.2.2.1 q.2.2.2.2.1 q.2.2.2.2.2) (List.mem_of_getElem? (l := nbF) (i := 33) rfl))
theorem nf_34 : (.fieldLinkNest "EdgeCampaign" 144 "EdgeCampaign$Store" "buckets" "[I" "EdgeCampaign" : Cond) ∈ nb := List.mem_append_left _ (List.mem_map_of_mem (f := fun q : String × Nat × String × String × String × String => Cond.fieldLinkNest q.1 q.2.1 q.2.2.1 q.2.2.2.1 q.2.2.2.2.1 q.2.2.2.2.2) (List.mem_of_getElem? (l := nbF) (i := 34) rfl))
theorem nf_35 : (.fieldLinkNest "EdgeCampaign" 164 "EdgeCampaign$Finding" "latestFirst" "[I" "EdgeCampaign" : Cond) ∈ nb := List.mem_append_left _ (List.mem_map_of_mem (f := fun q : String × Nat × String × String × String × String => Cond.fieldLinkNest q.1 q.2.1 q.2.2.1 q.2.2.2.1 q.2.2.2.2.1 q.2.2.2.2.2) (List.mem_of_getElem? (l := nbF) (i := 35) rfl))
theorem nf_36 : (.fieldLinkNest "EdgeCampaign" 149 "EdgeCampaign$Findings" "made" "[LEdgeCampaign$Finding;" "EdgeCampaign" : Cond) ∈ nb := List.mem_append_left _ (List.mem_map_of_mem (f := fun q : String × Nat × String × String × String × String => Cond.fieldLinkNest q.1 q.2.1 q.2.2.1 q.2.2.2.1 q.2.2.2.2.1 q.2.2.2.2.2) (List.mem_of_getElem? (l := nbF) (i := 36) rfl))
theorem nf_37 : (.fieldLinkNest "EdgeCampaign" 153 "EdgeCampaign$Finding" "trap" "I" "EdgeCampaign" : Cond) ∈ nb := List.mem_append_left _ (List.mem_map_of_mem (f := fun q : String × Nat × String × String × String × String => Cond.fieldLinkNest q.1 q.2.1 q.2.2.1 q.2.2.2.1 q.2.2.2.2.1 q.2.2.2.2.2) (List.mem_of_getElem? (l := nbF) (i := 37) rfl))
theorem nf_38 : (.fieldLinkNest "EdgeCampaign" 158 "EdgeCampaign$Finding" "here" "I" "EdgeCampaign" : Cond) ∈ nb := List.mem_append_left _ (List.mem_map_of_mem (f := fun q : String × Nat × String × String × String × String => Cond.fieldLinkNest q.1 q.2.1 q.2.2.1 q.2.2.2.1 q.2.2.2.2.1 q.2.2.2.2.2) (List.mem_of_getElem? (l := nbF) (i := 38) rfl))
theorem nf_39 : (.fieldLinkNest "EdgeCampaign" 161 "EdgeCampaign$Finding" "depth" "I" "EdgeCampaign" : Cond) ∈ nb := List.mem_append_left _ (List.mem_map_of_mem (f := fun q : String × Nat × String × String × String × String => Cond.fieldLinkNest q.1 q.2.1 q.2.2.1 q.2.2.2.1 q.2.2.2.2.1 q.2.2.2.2.2) (List.mem_of_getElem? (l := nbF) (i := 39) rfl))
theorem nf_40 : (.fieldLinkNest "EdgeCampaign" 167 "EdgeCampaign$Finding" "hits" "I" "EdgeCampaign" : Cond) ∈ nb := List.mem_append_left _ (List.mem_map_of_mem (f := fun q : String × Nat × String × String × String × String => Cond.fieldLinkNest q.1 q.2.1 q.2.2.1 q.2.2.2.1 q.2.2.2.2.1 q.2.2.2.2.2) (List.mem_of_getElem? (l := nbF) (i := 40) rfl))
theorem nf_41 : (.fieldLinkNest "EdgeCampaign" 170 "EdgeCampaign$Finding" "input" "LEdgeCampaign$Input;" "EdgeCampaign" : Cond) ∈ nb := List.mem_append_left _ (List.mem_map_of_mem (f := fun q : String × Nat × String × String × String × String => Cond.fieldLinkNest q.1 q.2.1 q.2.2.1 q.2.2.2.1 q.2.2.2.2.1 q.2.2.2.2.2) (List.mem_of_getElem? (l := nbF) (i := 41) rfl))
theorem nf_42 : (.fieldLinkNest "EdgeCampaign" 171 "EdgeCampaign$Finding" "shortest" "LEdgeCampaign$Input;" "EdgeCampaign" : Cond) ∈ nb := List.mem_append_left _ (List.mem_map_of_mem (f := fun q : String × Nat × String × String × String × String => Cond.fieldLinkNest q.1 q.2.1 q.2.2.1 q.2.2.2.1 q.2.2.2.2.1 q.2.2.2.2.2) (List.mem_of_getElem? (l := nbF) (i := 42) rfl))
theorem nf_43 : (.fieldLinkNest "EdgeCampaign" 174 "EdgeCampaign$Trials" "taken" "I" "EdgeCampaign" : Cond) ∈ nb := List.mem_append_left _ (List.mem_map_of_mem (f := fun q : String × Nat × String × String × String × String => Cond.fieldLinkNest q.1 q.2.1 q.2.2.1 q.2.2.2.1 q.2.2.2.2.1 q.2.2.2.2.2) (List.mem_of_getElem? (l := nbF) (i := 43) rfl))
theorem nf_44 : (.fieldLinkNest "EdgeCampaign" 177 "EdgeCampaign$Trials" "number" "I" "EdgeCampaign" : Cond) ∈ nb := List.mem_append_left _ (List.mem_map_of_mem (f := fun q : String × Nat × String × String × String × String => Cond.fieldLinkNest q.1 q.2.1 q.2.2.1 q.2.2.2.1 q.2.2.2.2.1 q.2.2.2.2.2) (List.mem_of_getElem? (l := nbF) (i := 44) rfl))
theorem nf_45 : (.fieldLinkNest "EdgeCampaign" 180 "EdgeCampaign$Trials" "energy" "I" "EdgeCampaign" : Cond) ∈ nb := List.mem_append_left _ (List.mem_map_of_mem (f := fun q : String × Nat × String × String × String × String => Cond.fieldLinkNest q.1 q.2.1 q.2.2.1 q.2.2.2.1 q.2.2.2.2.1 q.2.2.2.2.2) (List.mem_of_getElem? (l := nbF) (i := 45) rfl))
theorem nf_46 : (.fieldLinkNest "EdgeCampaign" 183 "EdgeCampaign$Generator" "x" "I" "EdgeCampaign" : Cond) ∈ nb := List.mem_append_left _ (List.mem_map_of_mem (f := fun q : String × Nat × String × String × String × String => Cond.fieldLinkNest q.1 q.2.1 q.2.2.1 q.2.2.2.1 q.2.2.2.2.1 q.2.2.2.2.2) (List.mem_of_getElem? (l := nbF) (i := 46) rfl))
theorem in_EN : ∀ w ∈ u_ws R_EN T_EN 4, w ∈ tb := by
  intro w hw
  have e : u_ws R_EN T_EN 4 = [.laysFinal R_EN "EdgeCampaign$Entry" "input" "LEdgeCampaign$Input;", .lays R_EN "EdgeCampaign$Entry" "steps" "I", .lays R_EN "EdgeCampaign$Entry" "edgeCount" "I", .lays R_EN "EdgeCampaign$Entry" "finished" "I"] := rfl
  rw [e] at hw
  simp only [List.mem_cons, List.not_mem_nil, or_false] at hw
  rcases hw with rfl | rfl | rfl | rfl
  · exact q_493
  · exact q_494
  · exact q_495
  · exact q_496
theorem in_FI : ∀ w ∈ u_ws R_FI T_FI 7, w ∈ tb := by
  intro w hw
  have e : u_ws R_FI T_FI 7 = [.laysFinal R_FI "EdgeCampaign$Finding" "input" "LEdgeCampaign$Input;", .laysFinal R_FI "EdgeCampaign$Finding" "shortest" "LEdgeCampaign$Input;", .laysFinal R_FI "EdgeCampaign$Finding" "latestFirst" "[I", .lays R_FI "EdgeCampaign$Finding" "trap" "I", .lays R_FI "EdgeCampaign$Finding" "here" "I", .lays R_FI "EdgeCampaign$Finding" "depth" "I", .lays R_FI "EdgeCampaign$Finding" "hits" "I"] := rfl
  rw [e] at hw
  simp only [List.mem_cons, List.not_mem_nil, or_false] at hw
  rcases hw with rfl | rfl | rfl | rfl | rfl | rfl | rfl
  · exact q_497
  · exact q_498
  · exact q_499
  · exact q_500
  · exact q_501
  · exact q_502
  · exact q_503
theorem in_FS : ∀ w ∈ u_ws R_FS T_FS 2, w ∈ tb := by
  intro w hw
  have e : u_ws R_FS T_FS 2 = [.laysFinal R_FS "EdgeCampaign$Findings" "made" "[LEdgeCampaign$Finding;", .lays R_FS "EdgeCampaign$Findings" "size" "I"] := rfl
  rw [e] at hw
  simp only [List.mem_cons, List.not_mem_nil, or_false] at hw
  rcases hw with rfl | rfl
  · exact q_504
  · exact q_505
theorem in_GE : ∀ w ∈ u_ws R_GE T_GE 1, w ∈ tb := by
  intro w hw
  have e : u_ws R_GE T_GE 1 = [.lays R_GE "EdgeCampaign$Generator" "x" "I"] := rfl
  rw [e] at hw
  simp only [List.mem_cons, List.not_mem_nil, or_false] at hw
  subst hw
  · exact q_506
theorem in_IN : ∀ w ∈ u_ws R_IN T_IN 2, w ∈ tb := by
  intro w hw
  have e : u_ws R_IN T_IN 2 = [.laysFinal R_IN "EdgeCampaign$Input" "bytes" "[I", .lays R_IN "EdgeCampaign$Input" "size" "I"] := rfl
  rw [e] at hw
  simp only [List.mem_cons, List.not_mem_nil, or_false] at hw
  rcases hw with rfl | rfl
  · exact q_507
  · exact q_508
theorem in_PR : ∀ w ∈ u_ws R_PR T_PR 4, w ∈ tb := by
  intro w hw
  have e : u_ws R_PR T_PR 4 = [.laysFinal R_PR "EdgeCampaign$Program" "ops" "[I", .laysFinal R_PR "EdgeCampaign$Program" "as" "[I", .laysFinal R_PR "EdgeCampaign$Program" "bs" "[I", .lays R_PR "EdgeCampaign$Program" "size" "I"] := rfl
  rw [e] at hw
  simp only [List.mem_cons, List.not_mem_nil, or_false] at hw
  rcases hw with rfl | rfl | rfl | rfl
  · exact q_509
  · exact q_510
  · exact q_511
  · exact q_512
theorem in_RU : ∀ w ∈ u_ws R_RU T_RU 11, w ∈ tb := by
  intro w hw
  have e : u_ws R_RU T_RU 11 = [.laysFinal R_RU "EdgeCampaign$Run" "registers" "[I", .laysFinal R_RU "EdgeCampaign$Run" "memory" "[I", .laysFinal R_RU "EdgeCampaign$Run" "stack" "[I", .laysFinal R_RU "EdgeCampaign$Run" "times" "[I", .laysFinal R_RU "EdgeCampaign$Run" "edges" "[I", .lays R_RU "EdgeCampaign$Run" "edgeCount" "I", .lays R_RU "EdgeCampaign$Run" "depth" "I", .lays R_RU "EdgeCampaign$Run" "pc" "I", .lays R_RU "EdgeCampaign$Run" "here" "I", .lays R_RU "EdgeCampaign$Run" "steps" "I", .lays R_RU "EdgeCampaign$Run" "outcome" "I"] := rfl
  rw [e] at hw
  simp only [List.mem_cons, List.not_mem_nil, or_false] at hw
  rcases hw with rfl | rfl | rfl | rfl | rfl | rfl | rfl | rfl | rfl | rfl | rfl
  · exact q_513
  · exact q_514
  · exact q_515
  · exact q_516
  · exact q_517
  · exact q_518
  · exact q_519
  · exact q_520
  · exact q_521
  · exact q_522
  · exact q_523
theorem in_SH : ∀ w ∈ u_ws R_SH T_SH 2, w ∈ tb := by
  intro w hw
  have e : u_ws R_SH T_SH 2 = [.laysFinal R_SH "EdgeCampaign$Shortener" "run" "LEdgeCampaign$Run;", .laysFinal R_SH "EdgeCampaign$Shortener" "candidate" "LEdgeCampaign$Input;"] := rfl
  rw [e] at hw
  simp only [List.mem_cons, List.not_mem_nil, or_false] at hw
  rcases hw with rfl | rfl
  · exact q_524
  · exact q_525
theorem in_ST : ∀ w ∈ u_ws R_ST T_ST 7, w ∈ tb := by
  intro w hw
  have e : u_ws R_ST T_ST 7 = [.laysFinal R_ST "EdgeCampaign$Store" "entries" "[LEdgeCampaign$Entry;", .laysFinal R_ST "EdgeCampaign$Store" "buckets" "[I", .laysFinal R_ST "EdgeCampaign$Store" "goers" "[I", .lays R_ST "EdgeCampaign$Store" "size" "I", .lays R_ST "EdgeCampaign$Store" "favoured" "I", .lays R_ST "EdgeCampaign$Store" "seenEdges" "I", .lays R_ST "EdgeCampaign$Store" "seenPairs" "I"] := rfl
  rw [e] at hw
  simp only [List.mem_cons, List.not_mem_nil, or_false] at hw
  rcases hw with rfl | rfl | rfl | rfl | rfl | rfl | rfl
  · exact q_526
  · exact q_527
  · exact q_528
  · exact q_529
  · exact q_530
  · exact q_531
  · exact q_532
theorem in_TR : ∀ w ∈ u_ws R_TR T_TR 3, w ∈ tb := by
  intro w hw
  have e : u_ws R_TR T_TR 3 = [.lays R_TR "EdgeCampaign$Trials" "taken" "I", .lays R_TR "EdgeCampaign$Trials" "number" "I", .lays R_TR "EdgeCampaign$Trials" "energy" "I"] := rfl
  rw [e] at hw
  simp only [List.mem_cons, List.not_mem_nil, or_false] at hw
  rcases hw with rfl | rfl | rfl
  · exact q_533
  · exact q_534
  · exact q_535
theorem in_EC : ∀ w ∈ u_ws R_EC T_EC 12, w ∈ tb := by
  intro w hw
  have e : u_ws R_EC T_EC 12 = [.laysFinal R_EC "EdgeCampaign" "program" "LEdgeCampaign$Program;", .laysFinal R_EC "EdgeCampaign" "draft" "LEdgeCampaign$Input;", .laysFinal R_EC "EdgeCampaign" "changed" "LEdgeCampaign$Input;", .laysFinal R_EC "EdgeCampaign" "run" "LEdgeCampaign$Run;", .laysFinal R_EC "EdgeCampaign" "store" "LEdgeCampaign$Store;", .laysFinal R_EC "EdgeCampaign" "findings" "LEdgeCampaign$Findings;", .laysFinal R_EC "EdgeCampaign" "shortener" "LEdgeCampaign$Shortener;", .laysFinal R_EC "EdgeCampaign" "generator" "LEdgeCampaign$Generator;", .laysFinal R_EC "EdgeCampaign" "trials" "LEdgeCampaign$Trials;", .lays R_EC "EdgeCampaign" "executions" "I", .lays R_EC "EdgeCampaign" "hangs" "I", .lays R_EC "EdgeCampaign" "lost" "I"] := rfl
  rw [e] at hw
  simp only [List.mem_cons, List.not_mem_nil, or_false] at hw
  rcases hw with rfl | rfl | rfl | rfl | rfl | rfl | rfl | rfl | rfl | rfl | rfl | rfl
  · exact q_536
  · exact q_537
  · exact q_538
  · exact q_539
  · exact q_540
  · exact q_541
  · exact q_542
  · exact q_543
  · exact q_544
  · exact q_545
  · exact q_546
  · exact q_547
theorem in_MO : ∀ w ∈ u_ws R_MO T_MO 45, w ∈ tb := by
  intro w hw
  have e : u_ws R_MO T_MO 45 = [.lays R_MO "EdgeCampaignModel" "size" "I", .laysFinal R_MO "EdgeCampaignModel" "ops" "[I", .laysFinal R_MO "EdgeCampaignModel" "as" "[I", .laysFinal R_MO "EdgeCampaignModel" "bs" "[I", .laysFinal R_MO "EdgeCampaignModel" "draft" "[I", .lays R_MO "EdgeCampaignModel" "drafted" "I", .lays R_MO "EdgeCampaignModel" "x" "I", .laysFinal R_MO "EdgeCampaignModel" "tape" "[I", .lays R_MO "EdgeCampaignModel" "tapeLength" "I", .laysFinal R_MO "EdgeCampaignModel" "\x72" "[I", .laysFinal R_MO "EdgeCampaignModel" "memory" "[I", .laysFinal R_MO "EdgeCampaignModel" "stack" "[I", .lays R_MO "EdgeCampaignModel" "depth" "I", .lays R_MO "EdgeCampaignModel" "pc" "I", .lays R_MO "EdgeCampaignModel" "here" "I", .lays R_MO "EdgeCampaignModel" "steps" "I", .lays R_MO "EdgeCampaignModel" "outcome" "I", .laysFinal R_MO "EdgeCampaignModel" "times" "[I", .lays R_MO "EdgeCampaignModel" "entries" "I", .laysFinal R_MO "EdgeCampaignModel" "inputs" "[I", .laysFinal R_MO "EdgeCampaignModel" "lengths" "[I", .laysFinal R_MO "EdgeCampaignModel" "finished" "[I", .lays R_MO "EdgeCampaignModel" "findings" "I", .laysFinal R_MO "EdgeCampaignModel" "traps" "[I", .laysFinal R_MO "EdgeCampaignModel" "places" "[I", .laysFinal R_MO "EdgeCampaignModel" "depths" "[I", .laysFinal R_MO "EdgeCampaignModel" "stacks" "[I", .laysFinal R_MO "EdgeCampaignModel" "hits" "[I", .laysFinal R_MO "EdgeCampaignModel" "found" "[I", .laysFinal R_MO "EdgeCampaignModel" "foundLength" "[I", .laysFinal R_MO "EdgeCampaignModel" "brief" "[I", .laysFinal R_MO "EdgeCampaignModel" "briefLength" "[I", .lays R_MO "EdgeCampaignModel" "executions" "I", .lays R_MO "EdgeCampaignModel" "hangs" "I", .lays R_MO "EdgeCampaignModel" "lost" "I", .lays R_MO "EdgeCampaignModel" "surveyed" "I", .laysFinal R_MO "EdgeCampaignModel" "buckets" "[I", .laysFinal R_MO "EdgeCampaignModel" "went" "[I", .laysFinal R_MO "EdgeCampaignModel" "stepsOf" "[I", .lays R_MO "EdgeCampaignModel" "favoured" "I", .lays R_MO "EdgeCampaignModel" "taken" "I", .lays R_MO "EdgeCampaignModel" "next" "I", .lays R_MO "EdgeCampaignModel" "energy" "I", .laysFinal R_MO "EdgeCampaignModel" "cur" "[I", .lays R_MO "EdgeCampaignModel" "curLength" "I"] := rfl
  rw [e] at hw
  simp only [List.mem_cons, List.not_mem_nil, or_false] at hw
  rcases hw with rfl | rfl | rfl | rfl | rfl | rfl | rfl | rfl | rfl | rfl | rfl | rfl | rfl | rfl | rfl | rfl | rfl | rfl | rfl | rfl | rfl | rfl | rfl | rfl | rfl | rfl | rfl | rfl | rfl | rfl | rfl | rfl | rfl | rfl | rfl | rfl | rfl | rfl | rfl | rfl | rfl | rfl | rfl | rfl | rfl
  · exact q_548
  · exact q_549
  · exact q_550
  · exact q_551
  · exact q_552
  · exact q_553
  · exact q_554
  · exact q_555
  · exact q_556
  · exact q_557
  · exact q_558
  · exact q_559
  · exact q_560
  · exact q_561
  · exact q_562
  · exact q_563
  · exact q_564
  · exact q_565
  · exact q_566
  · exact q_567
  · exact q_568
  · exact q_569
  · exact q_570
  · exact q_571
  · exact q_572
  · exact q_573
  · exact q_574
  · exact q_575
  · exact q_576
  · exact q_577
  · exact q_578
  · exact q_579
  · exact q_580
  · exact q_581
  · exact q_582
  · exact q_583
  · exact q_584
  · exact q_585
  · exact q_586
  · exact q_587
  · exact q_588
  · exact q_589
  · exact q_590
  · exact q_591
  · exact q_592
