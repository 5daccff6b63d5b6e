section
-- ===== PART A: goes FIRST, ahead of the names: the tables' words, and 'selects' of the private methods out of them =====
/-- a private method of a class that the tables say can be made, by its rows of tables_1 -/
def lw_okq (q : MethodName × Nat) : Prop := (q.1.cls ≠ "java/lang/invoke/MethodHandle" ∧ q.1.cls ≠ "java/lang/invoke/VarHandle") ∧ Cond.instantiable q.1.cls q.2 ∈ tables_1 ∧ Cond.privateMethod q.1 ∈ tables_1 ∧ Cond.instanceMethod q.1 ∈ tables_1
theorem lw_p0 : lw_okq (⟨"EdgeCampaign", "execute", "(LEdgeCampaign$Input;)I"⟩, 12) := ⟨⟨by decide +kernel, by decide +kernel⟩, List.mem_of_getElem? (i := 16) (by decide +kernel), List.mem_of_getElem? (i := 345) (by decide +kernel), List.mem_of_getElem? (i := 346) (by decide +kernel)⟩
theorem lw_p1 : lw_okq (⟨"EdgeCampaign$Run", "reset", "()V"⟩, 11) := ⟨⟨by decide +kernel, by decide +kernel⟩, List.mem_of_getElem? (i := 65) (by decide +kernel), List.mem_of_getElem? (i := 353) (by decide +kernel), List.mem_of_getElem? (i := 354) (by decide +kernel)⟩
theorem lw_p2 : lw_okq (⟨"EdgeCampaign$Run", "step", "(LEdgeCampaign$Program;LEdgeCampaign$Input;)V"⟩, 11) := ⟨⟨by decide +kernel, by decide +kernel⟩, List.mem_of_getElem? (i := 65) (by decide +kernel), List.mem_of_getElem? (i := 364) (by decide +kernel), List.mem_of_getElem? (i := 365) (by decide +kernel)⟩
theorem lw_p3 : lw_okq (⟨"EdgeCampaign$Run", "goInto", "(I)V"⟩, 11) := ⟨⟨by decide +kernel, by decide +kernel⟩, List.mem_of_getElem? (i := 65) (by decide +kernel), List.mem_of_getElem? (i := 372) (by decide +kernel), List.mem_of_getElem? (i := 373) (by decide +kernel)⟩
theorem lw_p4 : lw_okq (⟨"EdgeCampaign$Run", "goBack", "()V"⟩, 11) := ⟨⟨by decide +kernel, by decide +kernel⟩, List.mem_of_getElem? (i := 65) (by decide +kernel), List.mem_of_getElem? (i := 376) (by decide +kernel), List.mem_of_getElem? (i := 377) (by decide +kernel)⟩
theorem lw_p5 : lw_okq (⟨"EdgeCampaign$Run", "divide", "(II)V"⟩, 11) := ⟨⟨by decide +kernel, by decide +kernel⟩, List.mem_of_getElem? (i := 65) (by decide +kernel), List.mem_of_getElem? (i := 380) (by decide +kernel), List.mem_of_getElem? (i := 381) (by decide +kernel)⟩
theorem lw_p6 : lw_okq (⟨"EdgeCampaign$Run", "load", "(II)V"⟩, 11) := ⟨⟨by decide +kernel, by decide +kernel⟩, List.mem_of_getElem? (i := 65) (by decide +kernel), List.mem_of_getElem? (i := 384) (by decide +kernel), List.mem_of_getElem? (i := 385) (by decide +kernel)⟩
theorem lw_p7 : lw_okq (⟨"EdgeCampaign$Run", "save", "(II)V"⟩, 11) := ⟨⟨by decide +kernel, by decide +kernel⟩, List.mem_of_getElem? (i := 65) (by decide +kernel), List.mem_of_getElem? (i := 388) (by decide +kernel), List.mem_of_getElem? (i := 389) (by decide +kernel)⟩
theorem lw_p8 : lw_okq (⟨"EdgeCampaign$Run", "goAlong", "(I)V"⟩, 11) := ⟨⟨by decide +kernel, by decide +kernel⟩, List.mem_of_getElem? (i := 65) (by decide +kernel), List.mem_of_getElem? (i := 395) (by decide +kernel), List.mem_of_getElem? (i := 396) (by decide +kernel)⟩
theorem lw_p9 : lw_okq (⟨"EdgeCampaign$Store", "markSeen", "(II)V"⟩, 7) := ⟨⟨by decide +kernel, by decide +kernel⟩, List.mem_of_getElem? (i := 112) (by decide +kernel), List.mem_of_getElem? (i := 424) (by decide +kernel), List.mem_of_getElem? (i := 425) (by decide +kernel)⟩
theorem lw_p10 : lw_okq (⟨"EdgeCampaign$Store", "chooseFavoured", "()V"⟩, 7) := ⟨⟨by decide +kernel, by decide +kernel⟩, List.mem_of_getElem? (i := 112) (by decide +kernel), List.mem_of_getElem? (i := 428) (by decide +kernel), List.mem_of_getElem? (i := 429) (by decide +kernel)⟩
theorem lw_p11 : lw_okq (⟨"EdgeCampaign$Store", "top", "(I)I"⟩, 7) := ⟨⟨by decide +kernel, by decide +kernel⟩, List.mem_of_getElem? (i := 112) (by decide +kernel), List.mem_of_getElem? (i := 432) (by decide +kernel), List.mem_of_getElem? (i := 433) (by decide +kernel)⟩
theorem lw_p12 : lw_okq (⟨"EdgeCampaign$Shortener", "keepFirst", "(LEdgeCampaign$Finding;LEdgeCampaign$Program;IZ)Z"⟩, 2) := ⟨⟨by decide +kernel, by decide +kernel⟩, List.mem_of_getElem? (i := 232) (by decide +kernel), List.mem_of_getElem? (i := 470) (by decide +kernel), List.mem_of_getElem? (i := 471) (by decide +kernel)⟩
theorem lw_p13 : lw_okq (⟨"EdgeCampaign$Shortener", "makePart", "(LEdgeCampaign$Input;II)V"⟩, 2) := ⟨⟨by decide +kernel, by decide +kernel⟩, List.mem_of_getElem? (i := 232) (by decide +kernel), List.mem_of_getElem? (i := 474) (by decide +kernel), List.mem_of_getElem? (i := 475) (by decide +kernel)⟩
theorem lw_p14 : lw_okq (⟨"EdgeCampaign$Shortener", "makeRest", "(LEdgeCampaign$Input;II)V"⟩, 2) := ⟨⟨by decide +kernel, by decide +kernel⟩, List.mem_of_getElem? (i := 232) (by decide +kernel), List.mem_of_getElem? (i := 486) (by decide +kernel), List.mem_of_getElem? (i := 487) (by decide +kernel)⟩
theorem lw_p15 : lw_okq (⟨"EdgeCampaign$Trials", "takeUp", "(LEdgeCampaign$Store;I)V"⟩, 3) := ⟨⟨by decide +kernel, by decide +kernel⟩, List.mem_of_getElem? (i := 260) (by decide +kernel), List.mem_of_getElem? (i := 502) (by decide +kernel), List.mem_of_getElem? (i := 503) (by decide +kernel)⟩
def lw_privs_1 : List (MethodName × Nat) := [(⟨"EdgeCampaign", "execute", "(LEdgeCampaign$Input;)I"⟩, 12), (⟨"EdgeCampaign$Run", "reset", "()V"⟩, 11), (⟨"EdgeCampaign$Run", "step", "(LEdgeCampaign$Program;LEdgeCampaign$Input;)V"⟩, 11), (⟨"EdgeCampaign$Run", "goInto", "(I)V"⟩, 11), (⟨"EdgeCampaign$Run", "goBack", "()V"⟩, 11), (⟨"EdgeCampaign$Run", "divide", "(II)V"⟩, 11), (⟨"EdgeCampaign$Run", "load", "(II)V"⟩, 11), (⟨"EdgeCampaign$Run", "save", "(II)V"⟩, 11), (⟨"EdgeCampaign$Run", "goAlong", "(I)V"⟩, 11), (⟨"EdgeCampaign$Store", "markSeen", "(II)V"⟩, 7), (⟨"EdgeCampaign$Store", "chooseFavoured", "()V"⟩, 7), (⟨"EdgeCampaign$Store", "top", "(I)I"⟩, 7), (⟨"EdgeCampaign$Shortener", "keepFirst", "(LEdgeCampaign$Finding;LEdgeCampaign$Program;IZ)Z"⟩, 2), (⟨"EdgeCampaign$Shortener", "makePart", "(LEdgeCampaign$Input;II)V"⟩, 2), (⟨"EdgeCampaign$Shortener", "makeRest", "(LEdgeCampaign$Input;II)V"⟩, 2), (⟨"EdgeCampaign$Trials", "takeUp", "(LEdgeCampaign$Store;I)V"⟩, 3)]
theorem lw_r1 : ∀ q ∈ lw_privs_1, lw_okq q := List.forall_mem_cons.mpr ⟨lw_p0, List.forall_mem_cons.mpr ⟨lw_p1, List.forall_mem_cons.mpr ⟨lw_p2, List.forall_mem_cons.mpr ⟨lw_p3, List.forall_mem_cons.mpr ⟨lw_p4, List.forall_mem_cons.mpr ⟨lw_p5, List.forall_mem_cons.mpr ⟨lw_p6, List.forall_mem_cons.mpr ⟨lw_p7, List.forall_mem_cons.mpr ⟨lw_p8, List.forall_mem_cons.mpr ⟨lw_p9, List.forall_mem_cons.mpr ⟨lw_p10, List.forall_mem_cons.mpr ⟨lw_p11, List.forall_mem_cons.mpr ⟨lw_p12, List.forall_mem_cons.mpr ⟨lw_p13, List.forall_mem_cons.mpr ⟨lw_p14, List.forall_mem_cons.mpr ⟨lw_p15, fun _ h => absurd h List.not_mem_nil⟩⟩⟩⟩⟩⟩⟩⟩⟩⟩⟩⟩⟩⟩⟩⟩
theorem lw_p16 : lw_okq (⟨"EdgeCampaign$Trials", "joinPartner", "(LEdgeCampaign$Input;LEdgeCampaign$Store;LEdgeCampaign$Generator;)V"⟩, 3) := ⟨⟨by decide +kernel, by decide +kernel⟩, List.mem_of_getElem? (i := 260) (by decide +kernel), List.mem_of_getElem? (i := 563) (by decide +kernel), List.mem_of_getElem? (i := 564) (by decide +kernel)⟩
theorem lw_p17 : lw_okq (⟨"EdgeCampaign$Trials", "next", "(LEdgeCampaign$Store;)I"⟩, 3) := ⟨⟨by decide +kernel, by decide +kernel⟩, List.mem_of_getElem? (i := 260) (by decide +kernel), List.mem_of_getElem? (i := 573) (by decide +kernel), List.mem_of_getElem? (i := 574) (by decide +kernel)⟩
theorem lw_p18 : lw_okq (⟨"EdgeCampaignModel", "execute", "()I"⟩, 45) := ⟨⟨by decide +kernel, by decide +kernel⟩, List.mem_of_getElem? (i := 624) (by decide +kernel), List.mem_of_getElem? (i := 784) (by decide +kernel), List.mem_of_getElem? (i := 785) (by decide +kernel)⟩
theorem lw_p19 : lw_okq (⟨"EdgeCampaignModel", "survey", "()V"⟩, 45) := ⟨⟨by decide +kernel, by decide +kernel⟩, List.mem_of_getElem? (i := 624) (by decide +kernel), List.mem_of_getElem? (i := 788) (by decide +kernel), List.mem_of_getElem? (i := 789) (by decide +kernel)⟩
theorem lw_p20 : lw_okq (⟨"EdgeCampaignModel", "runEntry", "(I)V"⟩, 45) := ⟨⟨by decide +kernel, by decide +kernel⟩, List.mem_of_getElem? (i := 624) (by decide +kernel), List.mem_of_getElem? (i := 792) (by decide +kernel), List.mem_of_getElem? (i := 793) (by decide +kernel)⟩
theorem lw_p21 : lw_okq (⟨"EdgeCampaignModel", "run", "()V"⟩, 45) := ⟨⟨by decide +kernel, by decide +kernel⟩, List.mem_of_getElem? (i := 624) (by decide +kernel), List.mem_of_getElem? (i := 796) (by decide +kernel), List.mem_of_getElem? (i := 797) (by decide +kernel)⟩
theorem lw_p22 : lw_okq (⟨"EdgeCampaignModel", "step", "()V"⟩, 45) := ⟨⟨by decide +kernel, by decide +kernel⟩, List.mem_of_getElem? (i := 624) (by decide +kernel), List.mem_of_getElem? (i := 800) (by decide +kernel), List.mem_of_getElem? (i := 801) (by decide +kernel)⟩
theorem lw_p23 : lw_okq (⟨"EdgeCampaignModel", "jump", "(III)V"⟩, 45) := ⟨⟨by decide +kernel, by decide +kernel⟩, List.mem_of_getElem? (i := 624) (by decide +kernel), List.mem_of_getElem? (i := 804) (by decide +kernel), List.mem_of_getElem? (i := 805) (by decide +kernel)⟩
theorem lw_p24 : lw_okq (⟨"EdgeCampaignModel", "work", "(III)V"⟩, 45) := ⟨⟨by decide +kernel, by decide +kernel⟩, List.mem_of_getElem? (i := 624) (by decide +kernel), List.mem_of_getElem? (i := 808) (by decide +kernel), List.mem_of_getElem? (i := 809) (by decide +kernel)⟩
theorem lw_p25 : lw_okq (⟨"EdgeCampaignModel", "word", "(III)V"⟩, 45) := ⟨⟨by decide +kernel, by decide +kernel⟩, List.mem_of_getElem? (i := 624) (by decide +kernel), List.mem_of_getElem? (i := 812) (by decide +kernel), List.mem_of_getElem? (i := 813) (by decide +kernel)⟩
theorem lw_p26 : lw_okq (⟨"EdgeCampaignModel", "top", "(I)I"⟩, 45) := ⟨⟨by decide +kernel, by decide +kernel⟩, List.mem_of_getElem? (i := 624) (by decide +kernel), List.mem_of_getElem? (i := 819) (by decide +kernel), List.mem_of_getElem? (i := 820) (by decide +kernel)⟩
theorem lw_p27 : lw_okq (⟨"EdgeCampaignModel", "runCurrent", "()V"⟩, 45) := ⟨⟨by decide +kernel, by decide +kernel⟩, List.mem_of_getElem? (i := 624) (by decide +kernel), List.mem_of_getElem? (i := 823) (by decide +kernel), List.mem_of_getElem? (i := 824) (by decide +kernel)⟩
theorem lw_p28 : lw_okq (⟨"EdgeCampaignModel", "newPair", "()Z"⟩, 45) := ⟨⟨by decide +kernel, by decide +kernel⟩, List.mem_of_getElem? (i := 624) (by decide +kernel), List.mem_of_getElem? (i := 827) (by decide +kernel), List.mem_of_getElem? (i := 828) (by decide +kernel)⟩
theorem lw_p29 : lw_okq (⟨"EdgeCampaignModel", "trapped", "()V"⟩, 45) := ⟨⟨by decide +kernel, by decide +kernel⟩, List.mem_of_getElem? (i := 624) (by decide +kernel), List.mem_of_getElem? (i := 831) (by decide +kernel), List.mem_of_getElem? (i := 832) (by decide +kernel)⟩
theorem lw_p30 : lw_okq (⟨"EdgeCampaignModel", "signed", "(I)Z"⟩, 45) := ⟨⟨by decide +kernel, by decide +kernel⟩, List.mem_of_getElem? (i := 624) (by decide +kernel), List.mem_of_getElem? (i := 835) (by decide +kernel), List.mem_of_getElem? (i := 836) (by decide +kernel)⟩
theorem lw_p31 : lw_okq (⟨"EdgeCampaignModel", "shorten", "(I)V"⟩, 45) := ⟨⟨by decide +kernel, by decide +kernel⟩, List.mem_of_getElem? (i := 624) (by decide +kernel), List.mem_of_getElem? (i := 839) (by decide +kernel), List.mem_of_getElem? (i := 840) (by decide +kernel)⟩
def lw_privs_2 : List (MethodName × Nat) := [(⟨"EdgeCampaign$Trials", "joinPartner", "(LEdgeCampaign$Input;LEdgeCampaign$Store;LEdgeCampaign$Generator;)V"⟩, 3), (⟨"EdgeCampaign$Trials", "next", "(LEdgeCampaign$Store;)I"⟩, 3), (⟨"EdgeCampaignModel", "execute", "()I"⟩, 45), (⟨"EdgeCampaignModel", "survey", "()V"⟩, 45), (⟨"EdgeCampaignModel", "runEntry", "(I)V"⟩, 45), (⟨"EdgeCampaignModel", "run", "()V"⟩, 45), (⟨"EdgeCampaignModel", "step", "()V"⟩, 45), (⟨"EdgeCampaignModel", "jump", "(III)V"⟩, 45), (⟨"EdgeCampaignModel", "work", "(III)V"⟩, 45), (⟨"EdgeCampaignModel", "word", "(III)V"⟩, 45), (⟨"EdgeCampaignModel", "top", "(I)I"⟩, 45), (⟨"EdgeCampaignModel", "runCurrent", "()V"⟩, 45), (⟨"EdgeCampaignModel", "newPair", "()Z"⟩, 45), (⟨"EdgeCampaignModel", "trapped", "()V"⟩, 45), (⟨"EdgeCampaignModel", "signed", "(I)Z"⟩, 45), (⟨"EdgeCampaignModel", "shorten", "(I)V"⟩, 45)]
theorem lw_r2 : ∀ q ∈ lw_privs_2, lw_okq q := List.forall_mem_cons.mpr ⟨lw_p16, List.forall_mem_cons.mpr ⟨lw_p17, List.forall_mem_cons.mpr ⟨lw_p18, List.forall_mem_cons.mpr ⟨lw_p19, List.forall_mem_cons.mpr ⟨lw_p20, List.forall_mem_cons.mpr ⟨lw_p21, List.forall_mem_cons.mpr ⟨lw_p22, List.forall_mem_cons.mpr ⟨lw_p23, List.forall_mem_cons.mpr ⟨lw_p24, List.forall_mem_cons.mpr ⟨lw_p25, List.forall_mem_cons.mpr ⟨lw_p26, List.forall_mem_cons.mpr ⟨lw_p27, List.forall_mem_cons.mpr ⟨lw_p28, List.forall_mem_cons.mpr ⟨lw_p29, List.forall_mem_cons.mpr ⟨lw_p30, List.forall_mem_cons.mpr ⟨lw_p31, fun _ h => absurd h List.not_mem_nil⟩⟩⟩⟩⟩⟩⟩⟩⟩⟩⟩⟩⟩⟩⟩⟩
theorem lw_p32 : lw_okq (⟨"EdgeCampaignModel", "part", "(IIZ)Z"⟩, 45) := ⟨⟨by decide +kernel, by decide +kernel⟩, List.mem_of_getElem? (i := 624) (by decide +kernel), List.mem_of_getElem? (i := 843) (by decide +kernel), List.mem_of_getElem? (i := 844) (by decide +kernel)⟩
theorem lw_p33 : lw_okq (⟨"EdgeCampaignModel", "still", "(IIIZ)Z"⟩, 45) := ⟨⟨by decide +kernel, by decide +kernel⟩, List.mem_of_getElem? (i := 624) (by decide +kernel), List.mem_of_getElem? (i := 847) (by decide +kernel), List.mem_of_getElem? (i := 848) (by decide +kernel)⟩
theorem lw_p34 : lw_okq (⟨"EdgeCampaignModel", "adopt", "(I)V"⟩, 45) := ⟨⟨by decide +kernel, by decide +kernel⟩, List.mem_of_getElem? (i := 624) (by decide +kernel), List.mem_of_getElem? (i := 851) (by decide +kernel), List.mem_of_getElem? (i := 852) (by decide +kernel)⟩
theorem lw_p35 : lw_okq (⟨"EdgeCampaignModel", "takeUp", "(I)V"⟩, 45) := ⟨⟨by decide +kernel, by decide +kernel⟩, List.mem_of_getElem? (i := 624) (by decide +kernel), List.mem_of_getElem? (i := 855) (by decide +kernel), List.mem_of_getElem? (i := 856) (by decide +kernel)⟩
theorem lw_p36 : lw_okq (⟨"EdgeCampaignModel", "edgesOf", "(I)I"⟩, 45) := ⟨⟨by decide +kernel, by decide +kernel⟩, List.mem_of_getElem? (i := 624) (by decide +kernel), List.mem_of_getElem? (i := 859) (by decide +kernel), List.mem_of_getElem? (i := 860) (by decide +kernel)⟩
theorem lw_p37 : lw_okq (⟨"EdgeCampaignModel", "trial", "()V"⟩, 45) := ⟨⟨by decide +kernel, by decide +kernel⟩, List.mem_of_getElem? (i := 624) (by decide +kernel), List.mem_of_getElem? (i := 867) (by decide +kernel), List.mem_of_getElem? (i := 868) (by decide +kernel)⟩
theorem lw_p38 : lw_okq (⟨"EdgeCampaignModel", "plain", "(II)V"⟩, 45) := ⟨⟨by decide +kernel, by decide +kernel⟩, List.mem_of_getElem? (i := 624) (by decide +kernel), List.mem_of_getElem? (i := 871) (by decide +kernel), List.mem_of_getElem? (i := 872) (by decide +kernel)⟩
theorem lw_p39 : lw_okq (⟨"EdgeCampaignModel", "mixed", "()V"⟩, 45) := ⟨⟨by decide +kernel, by decide +kernel⟩, List.mem_of_getElem? (i := 624) (by decide +kernel), List.mem_of_getElem? (i := 875) (by decide +kernel), List.mem_of_getElem? (i := 876) (by decide +kernel)⟩
theorem lw_p40 : lw_okq (⟨"EdgeCampaignModel", "draw", "(I)I"⟩, 45) := ⟨⟨by decide +kernel, by decide +kernel⟩, List.mem_of_getElem? (i := 624) (by decide +kernel), List.mem_of_getElem? (i := 879) (by decide +kernel), List.mem_of_getElem? (i := 880) (by decide +kernel)⟩
theorem lw_p41 : lw_okq (⟨"EdgeCampaignModel", "putIn", "()V"⟩, 45) := ⟨⟨by decide +kernel, by decide +kernel⟩, List.mem_of_getElem? (i := 624) (by decide +kernel), List.mem_of_getElem? (i := 884) (by decide +kernel), List.mem_of_getElem? (i := 885) (by decide +kernel)⟩
theorem lw_p42 : lw_okq (⟨"EdgeCampaignModel", "change", "(I)V"⟩, 45) := ⟨⟨by decide +kernel, by decide +kernel⟩, List.mem_of_getElem? (i := 624) (by decide +kernel), List.mem_of_getElem? (i := 888) (by decide +kernel), List.mem_of_getElem? (i := 889) (by decide +kernel)⟩
theorem lw_p43 : lw_okq (⟨"EdgeCampaignModel", "crossed", "(I)V"⟩, 45) := ⟨⟨by decide +kernel, by decide +kernel⟩, List.mem_of_getElem? (i := 624) (by decide +kernel), List.mem_of_getElem? (i := 892) (by decide +kernel), List.mem_of_getElem? (i := 893) (by decide +kernel)⟩
theorem lw_p44 : lw_okq (⟨"EdgeCampaignModel", "takeNext", "()V"⟩, 45) := ⟨⟨by decide +kernel, by decide +kernel⟩, List.mem_of_getElem? (i := 624) (by decide +kernel), List.mem_of_getElem? (i := 896) (by decide +kernel), List.mem_of_getElem? (i := 897) (by decide +kernel)⟩
theorem lw_p45 : lw_okq (⟨"EdgeCampaignModel", "seenEdges", "()I"⟩, 45) := ⟨⟨by decide +kernel, by decide +kernel⟩, List.mem_of_getElem? (i := 624) (by decide +kernel), List.mem_of_getElem? (i := 904) (by decide +kernel), List.mem_of_getElem? (i := 905) (by decide +kernel)⟩
theorem lw_p46 : lw_okq (⟨"EdgeCampaignModel", "seenPairs", "()I"⟩, 45) := ⟨⟨by decide +kernel, by decide +kernel⟩, List.mem_of_getElem? (i := 624) (by decide +kernel), List.mem_of_getElem? (i := 908) (by decide +kernel), List.mem_of_getElem? (i := 909) (by decide +kernel)⟩
def lw_privs_3 : List (MethodName × Nat) := [(⟨"EdgeCampaignModel", "part", "(IIZ)Z"⟩, 45), (⟨"EdgeCampaignModel", "still", "(IIIZ)Z"⟩, 45), (⟨"EdgeCampaignModel", "adopt", "(I)V"⟩, 45), (⟨"EdgeCampaignModel", "takeUp", "(I)V"⟩, 45), (⟨"EdgeCampaignModel", "edgesOf", "(I)I"⟩, 45), (⟨"EdgeCampaignModel", "trial", "()V"⟩, 45), (⟨"EdgeCampaignModel", "plain", "(II)V"⟩, 45), (⟨"EdgeCampaignModel", "mixed", "()V"⟩, 45), (⟨"EdgeCampaignModel", "draw", "(I)I"⟩, 45), (⟨"EdgeCampaignModel", "putIn", "()V"⟩, 45), (⟨"EdgeCampaignModel", "change", "(I)V"⟩, 45), (⟨"EdgeCampaignModel", "crossed", "(I)V"⟩, 45), (⟨"EdgeCampaignModel", "takeNext", "()V"⟩, 45), (⟨"EdgeCampaignModel", "seenEdges", "()I"⟩, 45), (⟨"EdgeCampaignModel", "seenPairs", "()I"⟩, 45)]
theorem lw_r3 : ∀ q ∈ lw_privs_3, lw_okq q := List.forall_mem_cons.mpr ⟨lw_p32, List.forall_mem_cons.mpr ⟨lw_p33, List.forall_mem_cons.mpr ⟨lw_p34, List.forall_mem_cons.mpr ⟨lw_p35, List.forall_mem_cons.mpr ⟨lw_p36, List.forall_mem_cons.mpr ⟨lw_p37, List.forall_mem_cons.mpr ⟨lw_p38, List.forall_mem_cons.mpr ⟨lw_p39, List.forall_mem_cons.mpr ⟨lw_p40, List.forall_mem_cons.mpr ⟨lw_p41, List.forall_mem_cons.mpr ⟨lw_p42, List.forall_mem_cons.mpr ⟨lw_p43, List.forall_mem_cons.mpr ⟨lw_p44, List.forall_mem_cons.mpr ⟨lw_p45, List.forall_mem_cons.mpr ⟨lw_p46, fun _ h => absurd h List.not_mem_nil⟩⟩⟩⟩⟩⟩⟩⟩⟩⟩⟩⟩⟩⟩⟩
def lw_privs : List (MethodName × Nat) := lw_privs_1 ++ (lw_privs_2 ++ (lw_privs_3))
def lw_tbl : List Cond := k2_sels lw_privs ++ tables_1
theorem lw_privs_ok : ∀ q ∈ lw_privs, lw_okq q := by
  show ∀ q ∈ lw_privs_1 ++ (lw_privs_2 ++ (lw_privs_3)), lw_okq q
  exact List.forall_mem_append.mpr ⟨lw_r1, List.forall_mem_append.mpr ⟨lw_r2, lw_r3⟩⟩
end
section
def R_EC : String := "EdgeCampaign"
def T_EC : u_T := fun k => match k with
  | 0 => ("EdgeCampaign", "program", "LEdgeCampaign$Program;", true)
  | 1 => ("EdgeCampaign", "draft", "LEdgeCampaign$Input;", true)
  | 2 => ("EdgeCampaign", "changed", "LEdgeCampaign$Input;", true)
  | 3 => ("EdgeCampaign", "run", "LEdgeCampaign$Run;", true)
  | 4 => ("EdgeCampaign", "store", "LEdgeCampaign$Store;", true)
  | 5 => ("EdgeCampaign", "findings", "LEdgeCampaign$Findings;", true)
  | 6 => ("EdgeCampaign", "shortener", "LEdgeCampaign$Shortener;", true)
  | 7 => ("EdgeCampaign", "generator", "LEdgeCampaign$Generator;", true)
  | 8 => ("EdgeCampaign", "trials", "LEdgeCampaign$Trials;", true)
  | 9 => ("EdgeCampaign", "executions", "I", false)
  | 10 => ("EdgeCampaign", "hangs", "I", false)
  | _ => ("EdgeCampaign", "lost", "I", false)
def t_EC : Nat → FieldType := fun k => match k with
  | 0 => .object "EdgeCampaign$Program"
  | 1 => .object "EdgeCampaign$Input"
  | 2 => .object "EdgeCampaign$Input"
  | 3 => .object "EdgeCampaign$Run"
  | 4 => .object "EdgeCampaign$Store"
  | 5 => .object "EdgeCampaign$Findings"
  | 6 => .object "EdgeCampaign$Shortener"
  | 7 => .object "EdgeCampaign$Generator"
  | 8 => .object "EdgeCampaign$Trials"
  | 9 => .int
  | 10 => .int
  | _ => .int
theorem nm_EC : ∀ a, a < 12 → ∀ b, b < 12 → a ≠ b → (T_EC a).2.1 ≠ (T_EC b).2.1 := by decide +kernel
theorem ty_EC : ∀ k, k < 12 → parseFieldDescriptor (T_EC k).2.2.1 = some (t_EC k) := by decide +kernel
def R_MO : String := "EdgeCampaignModel"
def T_MO : u_T := fun k => match k with
  | 0 => ("EdgeCampaignModel", "size", "I", false)
  | 1 => ("EdgeCampaignModel", "ops", "[I", true)
  | 2 => ("EdgeCampaignModel", "as", "[I", true)
  | 3 => ("EdgeCampaignModel", "bs", "[I", true)
  | 4 => ("EdgeCampaignModel", "draft", "[I", true)
  | 5 => ("EdgeCampaignModel", "drafted", "I", false)
  | 6 => ("EdgeCampaignModel", "x", "I", false)
  | 7 => ("EdgeCampaignModel", "tape", "[I", true)
  | 8 => ("EdgeCampaignModel", "tapeLength", "I", false)
  | 9 => ("EdgeCampaignModel", "\x72", "[I", true)
  | 10 => ("EdgeCampaignModel", "memory", "[I", true)
  | 11 => ("EdgeCampaignModel", "stack", "[I", true)
  | 12 => ("EdgeCampaignModel", "depth", "I", false)
  | 13 => ("EdgeCampaignModel", "pc", "I", false)
  | 14 => ("EdgeCampaignModel", "here", "I", false)
  | 15 => ("EdgeCampaignModel", "steps", "I", false)
  | 16 => ("EdgeCampaignModel", "outcome", "I", false)
  | 17 => ("EdgeCampaignModel", "times", "[I", true)
  | 18 => ("EdgeCampaignModel", "entries", "I", false)
  | 19 => ("EdgeCampaignModel", "inputs", "[I", true)
  | 20 => ("EdgeCampaignModel", "lengths", "[I", true)
  | 21 => ("EdgeCampaignModel", "finished", "[I", true)
  | 22 => ("EdgeCampaignModel", "findings", "I", false)
  | 23 => ("EdgeCampaignModel", "traps", "[I", true)
  | 24 => ("EdgeCampaignModel", "places", "[I", true)
  | 25 => ("EdgeCampaignModel", "depths", "[I", true)
  | 26 => ("EdgeCampaignModel", "stacks", "[I", true)
  | 27 => ("EdgeCampaignModel", "hits", "[I", true)
  | 28 => ("EdgeCampaignModel", "found", "[I", true)
  | 29 => ("EdgeCampaignModel", "foundLength", "[I", true)
  | 30 => ("EdgeCampaignModel", "brief", "[I", true)
  | 31 => ("EdgeCampaignModel", "briefLength", "[I", true)
  | 32 => ("EdgeCampaignModel", "executions", "I", false)
  | 33 => ("EdgeCampaignModel", "hangs", "I", false)
  | 34 => ("EdgeCampaignModel", "lost", "I", false)
  | 35 => ("EdgeCampaignModel", "surveyed", "I", false)
  | 36 => ("EdgeCampaignModel", "buckets", "[I", true)
  | 37 => ("EdgeCampaignModel", "went", "[I", true)
  | 38 => ("EdgeCampaignModel", "stepsOf", "[I", true)
  | 39 => ("EdgeCampaignModel", "favoured", "I", false)
  | 40 => ("EdgeCampaignModel", "taken", "I", false)
  | 41 => ("EdgeCampaignModel", "next", "I", false)
  | 42 => ("EdgeCampaignModel", "energy", "I", false)
  | 43 => ("EdgeCampaignModel", "cur", "[I", true)
  | _ => ("EdgeCampaignModel", "curLength", "I", false)
def t_MO : Nat → FieldType := fun k => match k with
  | 0 => .int
  | 1 => .array (.int)
  | 2 => .array (.int)
  | 3 => .array (.int)
  | 4 => .array (.int)
  | 5 => .int
  | 6 => .int
  | 7 => .array (.int)
  | 8 => .int
  | 9 => .array (.int)
  | 10 => .array (.int)
  | 11 => .array (.int)
  | 12 => .int
  | 13 => .int
  | 14 => .int
  | 15 => .int
  | 16 => .int
  | 17 => .array (.int)
  | 18 => .int
  | 19 => .array (.int)
  | 20 => .array (.int)
  | 21 => .array (.int)
  | 22 => .int
  | 23 => .array (.int)
  | 24 => .array (.int)
  | 25 => .array (.int)
  | 26 => .array (.int)
  | 27 => .array (.int)
  | 28 => .array (.int)
  | 29 => .array (.int)
  | 30 => .array (.int)
  | 31 => .array (.int)
  | 32 => .int
  | 33 => .int
  | 34 => .int
  | 35 => .int
  | 36 => .array (.int)
  | 37 => .array (.int)
  | 38 => .array (.int)
  | 39 => .int
  | 40 => .int
  | 41 => .int
  | 42 => .int
  | 43 => .array (.int)
  | _ => .int
theorem nm_MO : ∀ a, a < 45 → ∀ b, b < 45 → a ≠ b → (T_MO a).2.1 ≠ (T_MO b).2.1 := by decide +kernel
theorem ty_MO : ∀ k, k < 45 → parseFieldDescriptor (T_MO k).2.2.1 = some (t_MO k) := by decide +kernel
def R_LAW : String := "EdgeCampaignLaw"
def R_JM : String := "java/lang/Math"
def R_JA : String := "java/util/Arrays"
def R_PR : String := "EdgeCampaign$Program"
def T_PR : u_T := fun k => match k with
  | 0 => ("EdgeCampaign$Program", "ops", "[I", true)
  | 1 => ("EdgeCampaign$Program", "as", "[I", true)
  | 2 => ("EdgeCampaign$Program", "bs", "[I", true)
  | _ => ("EdgeCampaign$Program", "size", "I", false)
def t_PR : Nat → FieldType := fun k => match k with
  | 0 => .array (.int)
  | 1 => .array (.int)
  | 2 => .array (.int)
  | _ => .int
theorem nm_PR : ∀ a, a < 4 → ∀ b, b < 4 → a ≠ b → (T_PR a).2.1 ≠ (T_PR b).2.1 := by decide +kernel
theorem ty_PR : ∀ k, k < 4 → parseFieldDescriptor (T_PR k).2.2.1 = some (t_PR k) := by decide +kernel
def R_IN : String := "EdgeCampaign$Input"
def T_IN : u_T := fun k => match k with
  | 0 => ("EdgeCampaign$Input", "bytes", "[I", true)
  | _ => ("EdgeCampaign$Input", "size", "I", false)
def t_IN : Nat → FieldType := fun k => match k with
  | 0 => .array (.int)
  | _ => .int
theorem nm_IN : ∀ a, a < 2 → ∀ b, b < 2 → a ≠ b → (T_IN a).2.1 ≠ (T_IN b).2.1 := by decide +kernel
theorem ty_IN : ∀ k, k < 2 → parseFieldDescriptor (T_IN k).2.2.1 = some (t_IN k) := by decide +kernel
def R_RU : String := "EdgeCampaign$Run"
def T_RU : u_T := fun k => match k with
  | 0 => ("EdgeCampaign$Run", "registers", "[I", true)
  | 1 => ("EdgeCampaign$Run", "memory", "[I", true)
  | 2 => ("EdgeCampaign$Run", "stack", "[I", true)
  | 3 => ("EdgeCampaign$Run", "times", "[I", true)
  | 4 => ("EdgeCampaign$Run", "edges", "[I", true)
  | 5 => ("EdgeCampaign$Run", "edgeCount", "I", false)
  | 6 => ("EdgeCampaign$Run", "depth", "I", false)
  | 7 => ("EdgeCampaign$Run", "pc", "I", false)
  | 8 => ("EdgeCampaign$Run", "here", "I", false)
  | 9 => ("EdgeCampaign$Run", "steps", "I", false)
  | _ => ("EdgeCampaign$Run", "outcome", "I", false)
def t_RU : Nat → FieldType := fun k => match k with
  | 0 => .array (.int)
  | 1 => .array (.int)
  | 2 => .array (.int)
  | 3 => .array (.int)
  | 4 => .array (.int)
  | 5 => .int
  | 6 => .int
  | 7 => .int
  | 8 => .int
  | 9 => .int
  | _ => .int
theorem nm_RU : ∀ a, a < 11 → ∀ b, b < 11 → a ≠ b → (T_RU a).2.1 ≠ (T_RU b).2.1 := by decide +kernel
theorem ty_RU : ∀ k, k < 11 → parseFieldDescriptor (T_RU k).2.2.1 = some (t_RU k) := by decide +kernel
def R_EN : String := "EdgeCampaign$Entry"
def T_EN : u_T := fun k => match k with
  | 0 => ("EdgeCampaign$Entry", "input", "LEdgeCampaign$Input;", true)
  | 1 => ("EdgeCampaign$Entry", "steps", "I", false)
  | 2 => ("EdgeCampaign$Entry", "edgeCount", "I", false)
  | _ => ("EdgeCampaign$Entry", "finished", "I", false)
def t_EN : Nat → FieldType := fun k => match k with
  | 0 => .object "EdgeCampaign$Input"
  | 1 => .int
  | 2 => .int
  | _ => .int
theorem nm_EN : ∀ a, a < 4 → ∀ b, b < 4 → a ≠ b → (T_EN a).2.1 ≠ (T_EN b).2.1 := by decide +kernel
theorem ty_EN : ∀ k, k < 4 → parseFieldDescriptor (T_EN k).2.2.1 = some (t_EN k) := by decide +kernel
def R_ST : String := "EdgeCampaign$Store"
def T_ST : u_T := fun k => match k with
  | 0 => ("EdgeCampaign$Store", "entries", "[LEdgeCampaign$Entry;", true)
  | 1 => ("EdgeCampaign$Store", "buckets", "[I", true)
  | 2 => ("EdgeCampaign$Store", "goers", "[I", true)
  | 3 => ("EdgeCampaign$Store", "size", "I", false)
  | 4 => ("EdgeCampaign$Store", "favoured", "I", false)
  | 5 => ("EdgeCampaign$Store", "seenEdges", "I", false)
  | _ => ("EdgeCampaign$Store", "seenPairs", "I", false)
def t_ST : Nat → FieldType := fun k => match k with
  | 0 => .array (.object "EdgeCampaign$Entry")
  | 1 => .array (.int)
  | 2 => .array (.int)
  | 3 => .int
  | 4 => .int
  | 5 => .int
  | _ => .int
theorem nm_ST : ∀ a, a < 7 → ∀ b, b < 7 → a ≠ b → (T_ST a).2.1 ≠ (T_ST b).2.1 := by decide +kernel
theorem ty_ST : ∀ k, k < 7 → parseFieldDescriptor (T_ST k).2.2.1 = some (t_ST k) := by decide +kernel
def R_FI : String := "EdgeCampaign$Finding"
def T_FI : u_T := fun k => match k with
  | 0 => ("EdgeCampaign$Finding", "input", "LEdgeCampaign$Input;", true)
  | 1 => ("EdgeCampaign$Finding", "shortest", "LEdgeCampaign$Input;", true)
  | 2 => ("EdgeCampaign$Finding", "latestFirst", "[I", true)
  | 3 => ("EdgeCampaign$Finding", "trap", "I", false)
  | 4 => ("EdgeCampaign$Finding", "here", "I", false)
  | 5 => ("EdgeCampaign$Finding", "depth", "I", false)
  | _ => ("EdgeCampaign$Finding", "hits", "I", false)
def t_FI : Nat → FieldType := fun k => match k with
  | 0 => .object "EdgeCampaign$Input"
  | 1 => .object "EdgeCampaign$Input"
  | 2 => .array (.int)
  | 3 => .int
  | 4 => .int
  | 5 => .int
  | _ => .int
theorem nm_FI : ∀ a, a < 7 → ∀ b, b < 7 → a ≠ b → (T_FI a).2.1 ≠ (T_FI b).2.1 := by decide +kernel
theorem ty_FI : ∀ k, k < 7 → parseFieldDescriptor (T_FI k).2.2.1 = some (t_FI k) := by decide +kernel
def R_FS : String := "EdgeCampaign$Findings"
def T_FS : u_T := fun k => match k with
  | 0 => ("EdgeCampaign$Findings", "made", "[LEdgeCampaign$Finding;", true)
  | _ => ("EdgeCampaign$Findings", "size", "I", false)
def t_FS : Nat → FieldType := fun k => match k with
  | 0 => .array (.object "EdgeCampaign$Finding")
  | _ => .int
theorem nm_FS : ∀ a, a < 2 → ∀ b, b < 2 → a ≠ b → (T_FS a).2.1 ≠ (T_FS b).2.1 := by decide +kernel
theorem ty_FS : ∀ k, k < 2 → parseFieldDescriptor (T_FS k).2.2.1 = some (t_FS k) := by decide +kernel
def R_SH : String := "EdgeCampaign$Shortener"
def T_SH : u_T := fun k => match k with
  | 0 => ("EdgeCampaign$Shortener", "run", "LEdgeCampaign$Run;", true)
  | _ => ("EdgeCampaign$Shortener", "candidate", "LEdgeCampaign$Input;", true)
def t_SH : Nat → FieldType := fun k => match k with
  | 0 => .object "EdgeCampaign$Run"
  | _ => .object "EdgeCampaign$Input"
theorem nm_SH : ∀ a, a < 2 → ∀ b, b < 2 → a ≠ b → (T_SH a).2.1 ≠ (T_SH b).2.1 := by decide +kernel
theorem ty_SH : ∀ k, k < 2 → parseFieldDescriptor (T_SH k).2.2.1 = some (t_SH k) := by decide +kernel
def R_GE : String := "EdgeCampaign$Generator"
def T_GE : u_T := fun k => match k with
  | _ => ("EdgeCampaign$Generator", "x", "I", false)
def t_GE : Nat → FieldType := fun k => match k with
  | _ => .int
theorem nm_GE : ∀ a, a < 1 → ∀ b, b < 1 → a ≠ b → (T_GE a).2.1 ≠ (T_GE b).2.1 := by decide +kernel
theorem ty_GE : ∀ k, k < 1 → parseFieldDescriptor (T_GE k).2.2.1 = some (t_GE k) := by decide +kernel
def R_TR : String := "EdgeCampaign$Trials"
def T_TR : u_T := fun k => match k with
  | 0 => ("EdgeCampaign$Trials", "taken", "I", false)
  | 1 => ("EdgeCampaign$Trials", "number", "I", false)
  | _ => ("EdgeCampaign$Trials", "energy", "I", false)
def t_TR : Nat → FieldType := fun k => match k with
  | 0 => .int
  | 1 => .int
  | _ => .int
theorem nm_TR : ∀ a, a < 3 → ∀ b, b < 3 → a ≠ b → (T_TR a).2.1 ≠ (T_TR b).2.1 := by decide +kernel
theorem ty_TR : ∀ k, k < 3 → parseFieldDescriptor (T_TR k).2.2.1 = some (t_TR k) := by decide +kernel
abbrev b_EC_init : ByteArray := prog_1_method_1_code
def y_EC_init : MethodName := ⟨R_EC, "<init>", "(I)V"⟩
def r_EC_init : Room := { frames := 4, cells := 0, slots := 0, locals := 101 }
abbrev b_EC_emit : ByteArray := prog_1_method_2_code
def y_EC_emit : MethodName := ⟨R_EC, "emit", "(III)Z"⟩
def r_EC_emit : Room := { frames := 3, cells := 0, slots := 0, locals := 64 }
abbrev b_EC_feed : ByteArray := prog_1_method_3_code
def y_EC_feed : MethodName := ⟨R_EC, "feed", "(I)Z"⟩
def r_EC_feed : Room := { frames := 1, cells := 0, slots := 0, locals := 21 }
abbrev b_EC_plant : ByteArray := prog_1_method_4_code
def y_EC_plant : MethodName := ⟨R_EC, "plant", "()I"⟩
def r_EC_plant : Room := { frames := 6, cells := 0, slots := 0, locals := 146 }
abbrev b_EC_fuzz : ByteArray := prog_1_method_5_code
def y_EC_fuzz : MethodName := ⟨R_EC, "fuzz", "(I)I"⟩
def r_EC_fuzz : Room := { frames := 6, cells := 0, slots := 0, locals := 146 }
abbrev b_EC_count : ByteArray := prog_1_method_6_code
def y_EC_count : MethodName := ⟨R_EC, "count", "(I)I"⟩
def r_EC_count : Room := { frames := 0, cells := 0, slots := 0, locals := 0 }
abbrev b_EC_entry : ByteArray := prog_1_method_7_code
def y_EC_entry : MethodName := ⟨R_EC, "entry", "(II)I"⟩
def r_EC_entry : Room := { frames := 1, cells := 0, slots := 0, locals := 21 }
abbrev b_EC_entryByte : ByteArray := prog_1_method_8_code
def y_EC_entryByte : MethodName := ⟨R_EC, "entryByte", "(II)I"⟩
def r_EC_entryByte : Room := { frames := 1, cells := 0, slots := 0, locals := 21 }
abbrev b_EC_seen : ByteArray := prog_1_method_9_code
def y_EC_seen : MethodName := ⟨R_EC, "seen", "(II)I"⟩
def r_EC_seen : Room := { frames := 1, cells := 0, slots := 0, locals := 20 }
abbrev b_EC_finding : ByteArray := prog_1_method_10_code
def y_EC_finding : MethodName := ⟨R_EC, "finding", "(II)I"⟩
def r_EC_finding : Room := { frames := 1, cells := 0, slots := 0, locals := 21 }
abbrev b_EC_findingByte : ByteArray := prog_1_method_11_code
def y_EC_findingByte : MethodName := ⟨R_EC, "findingByte", "(IZI)I"⟩
def r_EC_findingByte : Room := { frames := 1, cells := 0, slots := 0, locals := 21 }
abbrev b_EC_current : ByteArray := prog_1_method_12_code
def y_EC_current : MethodName := ⟨R_EC, "current", "(I)I"⟩
def r_EC_current : Room := { frames := 0, cells := 0, slots := 0, locals := 0 }
abbrev b_EC_state : ByteArray := prog_1_method_13_code
def y_EC_state : MethodName := ⟨R_EC, "state", "()I"⟩
def r_EC_state : Room := { frames := 0, cells := 0, slots := 0, locals := 0 }
abbrev b_EC_execute : ByteArray := prog_1_method_14_code
def y_EC_execute : MethodName := ⟨R_EC, "execute", "(LEdgeCampaign$Input;)I"⟩
def r_EC_execute : Room := { frames := 5, cells := 0, slots := 0, locals := 124 }
abbrev b_MO_init : ByteArray := prog_13_method_1_code
def y_MO_init : MethodName := ⟨R_MO, "<init>", "(I)V"⟩
def r_MO_init : Room := { frames := 1, cells := 0, slots := 0, locals := 40 }
abbrev b_MO_within : ByteArray := prog_13_method_2_code
def y_MO_within : MethodName := ⟨R_MO, "within", "(II)Z"⟩
def r_MO_within : Room := { frames := 0, cells := 0, slots := 0, locals := 0 }
abbrev b_MO_fits : ByteArray := prog_13_method_3_code
def y_MO_fits : MethodName := ⟨R_MO, "fits", "(II)Z"⟩
def r_MO_fits : Room := { frames := 1, cells := 0, slots := 0, locals := 21 }
abbrev b_MO_emit : ByteArray := prog_13_method_4_code
def y_MO_emit : MethodName := ⟨R_MO, "emit", "(III)Z"⟩
def r_MO_emit : Room := { frames := 2, cells := 0, slots := 0, locals := 42 }
abbrev b_MO_feed : ByteArray := prog_13_method_5_code
def y_MO_feed : MethodName := ⟨R_MO, "feed", "(I)Z"⟩
def r_MO_feed : Room := { frames := 1, cells := 0, slots := 0, locals := 21 }
abbrev b_MO_run : ByteArray := prog_13_method_6_code
def y_MO_run : MethodName := ⟨R_MO, "run", "()V"⟩
def r_MO_run : Room := { frames := 4, cells := 0, slots := 0, locals := 90 }
abbrev b_MO_step : ByteArray := prog_13_method_7_code
def y_MO_step : MethodName := ⟨R_MO, "step", "()V"⟩
def r_MO_step : Room := { frames := 3, cells := 0, slots := 0, locals := 67 }
abbrev b_MO_jump : ByteArray := prog_13_method_8_code
def y_MO_jump : MethodName := ⟨R_MO, "jump", "(III)V"⟩
def r_MO_jump : Room := { frames := 0, cells := 0, slots := 0, locals := 0 }
abbrev b_MO_work : ByteArray := prog_13_method_9_code
def y_MO_work : MethodName := ⟨R_MO, "work", "(III)V"⟩
def r_MO_work : Room := { frames := 2, cells := 0, slots := 0, locals := 44 }
abbrev b_MO_word : ByteArray := prog_13_method_10_code
def y_MO_word : MethodName := ⟨R_MO, "word", "(III)V"⟩
def r_MO_word : Room := { frames := 1, cells := 0, slots := 0, locals := 21 }
abbrev b_MO_bucket : ByteArray := prog_13_method_11_code
def y_MO_bucket : MethodName := ⟨R_MO, "bucket", "(I)I"⟩
def r_MO_bucket : Room := { frames := 0, cells := 0, slots := 0, locals := 0 }
abbrev b_MO_runEntry : ByteArray := prog_13_method_12_code
def y_MO_runEntry : MethodName := ⟨R_MO, "runEntry", "(I)V"⟩
def r_MO_runEntry : Room := { frames := 5, cells := 0, slots := 0, locals := 111 }
abbrev b_MO_runCurrent : ByteArray := prog_13_method_13_code
def y_MO_runCurrent : MethodName := ⟨R_MO, "runCurrent", "()V"⟩
def r_MO_runCurrent : Room := { frames := 5, cells := 0, slots := 0, locals := 111 }
abbrev b_MO_survey : ByteArray := prog_13_method_14_code
def y_MO_survey : MethodName := ⟨R_MO, "survey", "()V"⟩
def r_MO_survey : Room := { frames := 6, cells := 0, slots := 0, locals := 133 }
abbrev b_MO_top : ByteArray := prog_13_method_15_code
def y_MO_top : MethodName := ⟨R_MO, "top", "(I)I"⟩
def r_MO_top : Room := { frames := 0, cells := 0, slots := 0, locals := 0 }
abbrev b_MO_edgesOf : ByteArray := prog_13_method_16_code
def y_MO_edgesOf : MethodName := ⟨R_MO, "edgesOf", "(I)I"⟩
def r_MO_edgesOf : Room := { frames := 0, cells := 0, slots := 0, locals := 0 }
abbrev b_MO_newPair : ByteArray := prog_13_method_17_code
def y_MO_newPair : MethodName := ⟨R_MO, "newPair", "()Z"⟩
def r_MO_newPair : Room := { frames := 1, cells := 0, slots := 0, locals := 20 }
abbrev b_MO_execute : ByteArray := prog_13_method_18_code
def y_MO_execute : MethodName := ⟨R_MO, "execute", "()I"⟩
def r_MO_execute : Room := { frames := 9, cells := 0, slots := 0, locals := 209 }
abbrev b_MO_signed : ByteArray := prog_13_method_19_code
def y_MO_signed : MethodName := ⟨R_MO, "signed", "(I)Z"⟩
def r_MO_signed : Room := { frames := 0, cells := 0, slots := 0, locals := 0 }
abbrev b_MO_trapped : ByteArray := prog_13_method_20_code
def y_MO_trapped : MethodName := ⟨R_MO, "trapped", "()V"⟩
def r_MO_trapped : Room := { frames := 8, cells := 0, slots := 0, locals := 187 }
abbrev b_MO_still : ByteArray := prog_13_method_21_code
def y_MO_still : MethodName := ⟨R_MO, "still", "(IIIZ)Z"⟩
def r_MO_still : Room := { frames := 5, cells := 0, slots := 0, locals := 111 }
abbrev b_MO_adopt : ByteArray := prog_13_method_22_code
def y_MO_adopt : MethodName := ⟨R_MO, "adopt", "(I)V"⟩
def r_MO_adopt : Room := { frames := 0, cells := 0, slots := 0, locals := 0 }
abbrev b_MO_part : ByteArray := prog_13_method_23_code
def y_MO_part : MethodName := ⟨R_MO, "part", "(IIZ)Z"⟩
def r_MO_part : Room := { frames := 6, cells := 0, slots := 0, locals := 137 }
abbrev b_MO_shorten : ByteArray := prog_13_method_24_code
def y_MO_shorten : MethodName := ⟨R_MO, "shorten", "(I)V"⟩
def r_MO_shorten : Room := { frames := 7, cells := 0, slots := 0, locals := 162 }
abbrev b_MO_draw : ByteArray := prog_13_method_25_code
def y_MO_draw : MethodName := ⟨R_MO, "draw", "(I)I"⟩
def r_MO_draw : Room := { frames := 0, cells := 0, slots := 0, locals := 0 }
abbrev b_MO_takeUp : ByteArray := prog_13_method_26_code
def y_MO_takeUp : MethodName := ⟨R_MO, "takeUp", "(I)V"⟩
def r_MO_takeUp : Room := { frames := 7, cells := 0, slots := 0, locals := 155 }
abbrev b_MO_takeNext : ByteArray := prog_13_method_27_code
def y_MO_takeNext : MethodName := ⟨R_MO, "takeNext", "()V"⟩
def r_MO_takeNext : Room := { frames := 8, cells := 0, slots := 0, locals := 178 }
abbrev b_MO_trial : ByteArray := prog_13_method_28_code
def y_MO_trial : MethodName := ⟨R_MO, "trial", "()V"⟩
def r_MO_trial : Room := { frames := 10, cells := 0, slots := 0, locals := 232 }
abbrev b_MO_plain : ByteArray := prog_13_method_29_code
def y_MO_plain : MethodName := ⟨R_MO, "plain", "(II)V"⟩
def r_MO_plain : Room := { frames := 0, cells := 0, slots := 0, locals := 0 }
abbrev b_MO_mixed : ByteArray := prog_13_method_30_code
def y_MO_mixed : MethodName := ⟨R_MO, "mixed", "()V"⟩
def r_MO_mixed : Room := { frames := 2, cells := 0, slots := 0, locals := 44 }
abbrev b_MO_putIn : ByteArray := prog_13_method_31_code
def y_MO_putIn : MethodName := ⟨R_MO, "putIn", "()V"⟩
def r_MO_putIn : Room := { frames := 1, cells := 0, slots := 0, locals := 21 }
abbrev b_MO_change : ByteArray := prog_13_method_32_code
def y_MO_change : MethodName := ⟨R_MO, "change", "(I)V"⟩
def r_MO_change : Room := { frames := 1, cells := 0, slots := 0, locals := 21 }
abbrev b_MO_crossed : ByteArray := prog_13_method_33_code
def y_MO_crossed : MethodName := ⟨R_MO, "crossed", "(I)V"⟩
def r_MO_crossed : Room := { frames := 1, cells := 0, slots := 0, locals := 21 }
abbrev b_MO_plant : ByteArray := prog_13_method_34_code
def y_MO_plant : MethodName := ⟨R_MO, "plant", "()I"⟩
def r_MO_plant : Room := { frames := 10, cells := 0, slots := 0, locals := 232 }
abbrev b_MO_fuzz : ByteArray := prog_13_method_35_code
def y_MO_fuzz : MethodName := ⟨R_MO, "fuzz", "(I)I"⟩
def r_MO_fuzz : Room := { frames := 11, cells := 0, slots := 0, locals := 256 }
abbrev b_MO_seenEdges : ByteArray := prog_13_method_36_code
def y_MO_seenEdges : MethodName := ⟨R_MO, "seenEdges", "()I"⟩
def r_MO_seenEdges : Room := { frames := 0, cells := 0, slots := 0, locals := 0 }
abbrev b_MO_seenPairs : ByteArray := prog_13_method_37_code
def y_MO_seenPairs : MethodName := ⟨R_MO, "seenPairs", "()I"⟩
def r_MO_seenPairs : Room := { frames := 0, cells := 0, slots := 0, locals := 0 }
abbrev b_MO_count : ByteArray := prog_13_method_38_code
def y_MO_count : MethodName := ⟨R_MO, "count", "(I)I"⟩
def r_MO_count : Room := { frames := 7, cells := 0, slots := 0, locals := 155 }
abbrev b_MO_entry : ByteArray := prog_13_method_39_code
def y_MO_entry : MethodName := ⟨R_MO, "entry", "(II)I"⟩
def r_MO_entry : Room := { frames := 7, cells := 0, slots := 0, locals := 155 }
abbrev b_MO_entryByte : ByteArray := prog_13_method_40_code
def y_MO_entryByte : MethodName := ⟨R_MO, "entryByte", "(II)I"⟩
def r_MO_entryByte : Room := { frames := 1, cells := 0, slots := 0, locals := 21 }
abbrev b_MO_seen : ByteArray := prog_13_method_41_code
def y_MO_seen : MethodName := ⟨R_MO, "seen", "(II)I"⟩
def r_MO_seen : Room := { frames := 7, cells := 0, slots := 0, locals := 155 }
abbrev b_MO_finding : ByteArray := prog_13_method_42_code
def y_MO_finding : MethodName := ⟨R_MO, "finding", "(II)I"⟩
def r_MO_finding : Room := { frames := 1, cells := 0, slots := 0, locals := 21 }
abbrev b_MO_findingByte : ByteArray := prog_13_method_43_code
def y_MO_findingByte : MethodName := ⟨R_MO, "findingByte", "(IZI)I"⟩
def r_MO_findingByte : Room := { frames := 1, cells := 0, slots := 0, locals := 21 }
abbrev b_MO_current : ByteArray := prog_13_method_44_code
def y_MO_current : MethodName := ⟨R_MO, "current", "(I)I"⟩
def r_MO_current : Room := { frames := 1, cells := 0, slots := 0, locals := 21 }
abbrev b_MO_state : ByteArray := prog_13_method_45_code
def y_MO_state : MethodName := ⟨R_MO, "state", "()I"⟩
def r_MO_state : Room := { frames := 0, cells := 0, slots := 0, locals := 0 }
abbrev b_EN_init : ByteArray := prog_2_method_1_code
def y_EN_init : MethodName := ⟨R_EN, "<init>", "()V"⟩
def r_EN_init : Room := { frames := 2, cells := 0, slots := 0, locals := 60 }
abbrev b_EN_cost : ByteArray := prog_2_method_2_code
def y_EN_cost : MethodName := ⟨R_EN, "cost", "()I"⟩
def r_EN_cost : Room := { frames := 0, cells := 0, slots := 0, locals := 0 }
abbrev b_FI_init : ByteArray := prog_3_method_1_code
def y_FI_init : MethodName := ⟨R_FI, "<init>", "()V"⟩
def r_FI_init : Room := { frames := 2, cells := 0, slots := 0, locals := 60 }
abbrev b_FI_begin : ByteArray := prog_3_method_2_code
def y_FI_begin : MethodName := ⟨R_FI, "begin", "(LEdgeCampaign$Input;LEdgeCampaign$Run;)V"⟩
def r_FI_begin : Room := { frames := 3, cells := 0, slots := 0, locals := 67 }
abbrev b_FI_hasSignOf : ByteArray := prog_3_method_3_code
def y_FI_hasSignOf : MethodName := ⟨R_FI, "hasSignOf", "(LEdgeCampaign$Run;)Z"⟩
def r_FI_hasSignOf : Room := { frames := 1, cells := 0, slots := 0, locals := 22 }
abbrev b_FS_init : ByteArray := prog_4_method_1_code
def y_FS_init : MethodName := ⟨R_FS, "<init>", "()V"⟩
def r_FS_init : Room := { frames := 3, cells := 0, slots := 0, locals := 80 }
abbrev b_FS_has : ByteArray := prog_4_method_2_code
def y_FS_has : MethodName := ⟨R_FS, "has", "(I)Z"⟩
def r_FS_has : Room := { frames := 0, cells := 0, slots := 0, locals := 0 }
abbrev b_FS_countHit : ByteArray := prog_4_method_3_code
def y_FS_countHit : MethodName := ⟨R_FS, "countHit", "(LEdgeCampaign$Run;)Z"⟩
def r_FS_countHit : Room := { frames := 2, cells := 0, slots := 0, locals := 44 }
abbrev b_FS_begin : ByteArray := prog_4_method_4_code
def y_FS_begin : MethodName := ⟨R_FS, "begin", "(LEdgeCampaign$Input;LEdgeCampaign$Run;)LEdgeCampaign$Finding;"⟩
def r_FS_begin : Room := { frames := 4, cells := 0, slots := 0, locals := 90 }
abbrev b_GE_init : ByteArray := prog_5_method_1_code
def y_GE_init : MethodName := ⟨R_GE, "<init>", "(I)V"⟩
def r_GE_init : Room := { frames := 1, cells := 0, slots := 0, locals := 40 }
abbrev b_GE_draw : ByteArray := prog_5_method_2_code
def y_GE_draw : MethodName := ⟨R_GE, "draw", "(I)I"⟩
def r_GE_draw : Room := { frames := 0, cells := 0, slots := 0, locals := 0 }
abbrev b_IN_init : ByteArray := prog_6_method_1_code
def y_IN_init : MethodName := ⟨R_IN, "<init>", "()V"⟩
def r_IN_init : Room := { frames := 1, cells := 0, slots := 0, locals := 40 }
abbrev b_IN_at : ByteArray := prog_6_method_2_code
def y_IN_at : MethodName := ⟨R_IN, "at", "(I)I"⟩
def r_IN_at : Room := { frames := 0, cells := 0, slots := 0, locals := 0 }
abbrev b_IN_append : ByteArray := prog_6_method_3_code
def y_IN_append : MethodName := ⟨R_IN, "append", "(I)Z"⟩
def r_IN_append : Room := { frames := 0, cells := 0, slots := 0, locals := 0 }
abbrev b_IN_appendPart : ByteArray := prog_6_method_4_code
def y_IN_appendPart : MethodName := ⟨R_IN, "appendPart", "(LEdgeCampaign$Input;II)V"⟩
def r_IN_appendPart : Room := { frames := 1, cells := 0, slots := 0, locals := 21 }
abbrev b_IN_copy : ByteArray := prog_6_method_5_code
def y_IN_copy : MethodName := ⟨R_IN, "copy", "(LEdgeCampaign$Input;)V"⟩
def r_IN_copy : Room := { frames := 2, cells := 0, slots := 0, locals := 46 }
abbrev b_IN_cutTo : ByteArray := prog_6_method_6_code
def y_IN_cutTo : MethodName := ⟨R_IN, "cutTo", "(I)V"⟩
def r_IN_cutTo : Room := { frames := 1, cells := 0, slots := 0, locals := 21 }
abbrev b_IN_put : ByteArray := prog_6_method_7_code
def y_IN_put : MethodName := ⟨R_IN, "put", "(II)V"⟩
def r_IN_put : Room := { frames := 0, cells := 0, slots := 0, locals := 0 }
abbrev b_IN_addTo : ByteArray := prog_6_method_8_code
def y_IN_addTo : MethodName := ⟨R_IN, "addTo", "(II)V"⟩
def r_IN_addTo : Room := { frames := 1, cells := 0, slots := 0, locals := 22 }
abbrev b_IN_turnBit : ByteArray := prog_6_method_9_code
def y_IN_turnBit : MethodName := ⟨R_IN, "turnBit", "(II)V"⟩
def r_IN_turnBit : Room := { frames := 1, cells := 0, slots := 0, locals := 22 }
abbrev b_IN_insert : ByteArray := prog_6_method_10_code
def y_IN_insert : MethodName := ⟨R_IN, "insert", "(II)V"⟩
def r_IN_insert : Room := { frames := 1, cells := 0, slots := 0, locals := 21 }
abbrev b_IN_takeOut : ByteArray := prog_6_method_11_code
def y_IN_takeOut : MethodName := ⟨R_IN, "takeOut", "(I)V"⟩
def r_IN_takeOut : Room := { frames := 0, cells := 0, slots := 0, locals := 0 }
abbrev b_PR_init : ByteArray := prog_7_method_1_code
def y_PR_init : MethodName := ⟨R_PR, "<init>", "()V"⟩
def r_PR_init : Room := { frames := 1, cells := 0, slots := 0, locals := 40 }
abbrev b_PR_isPlace : ByteArray := prog_7_method_2_code
def y_PR_isPlace : MethodName := ⟨R_PR, "isPlace", "(I)Z"⟩
def r_PR_isPlace : Room := { frames := 0, cells := 0, slots := 0, locals := 0 }
abbrev b_PR_isJump : ByteArray := prog_7_method_3_code
def y_PR_isJump : MethodName := ⟨R_PR, "isJump", "(I)Z"⟩
def r_PR_isJump : Room := { frames := 0, cells := 0, slots := 0, locals := 0 }
abbrev b_PR_has : ByteArray := prog_7_method_4_code
def y_PR_has : MethodName := ⟨R_PR, "has", "(I)Z"⟩
def r_PR_has : Room := { frames := 0, cells := 0, slots := 0, locals := 0 }
abbrev b_PR_append : ByteArray := prog_7_method_5_code
def y_PR_append : MethodName := ⟨R_PR, "append", "(III)Z"⟩
def r_PR_append : Room := { frames := 2, cells := 0, slots := 0, locals := 41 }
abbrev b_PR_isRegister : ByteArray := prog_7_method_6_code
def y_PR_isRegister : MethodName := ⟨R_PR, "isRegister", "(I)Z"⟩
def r_PR_isRegister : Room := { frames := 0, cells := 0, slots := 0, locals := 0 }
abbrev b_PR_fits : ByteArray := prog_7_method_7_code
def y_PR_fits : MethodName := ⟨R_PR, "fits", "(II)Z"⟩
def r_PR_fits : Room := { frames := 1, cells := 0, slots := 0, locals := 20 }
abbrev b_RU_init : ByteArray := prog_8_method_1_code
def y_RU_init : MethodName := ⟨R_RU, "<init>", "()V"⟩
def r_RU_init : Room := { frames := 1, cells := 0, slots := 0, locals := 40 }
abbrev b_RU_perform : ByteArray := prog_8_method_2_code
def y_RU_perform : MethodName := ⟨R_RU, "perform", "(LEdgeCampaign$Program;LEdgeCampaign$Input;)V"⟩
def r_RU_perform : Room := { frames := 2, cells := 0, slots := 0, locals := 47 }
abbrev b_RU_hasTrapped : ByteArray := prog_8_method_3_code
def y_RU_hasTrapped : MethodName := ⟨R_RU, "hasTrapped", "()Z"⟩
def r_RU_hasTrapped : Room := { frames := 0, cells := 0, slots := 0, locals := 0 }
abbrev b_RU_onStack : ByteArray := prog_8_method_4_code
def y_RU_onStack : MethodName := ⟨R_RU, "onStack", "(I)I"⟩
def r_RU_onStack : Room := { frames := 0, cells := 0, slots := 0, locals := 0 }
abbrev b_RU_pairBit : ByteArray := prog_8_method_5_code
def y_RU_pairBit : MethodName := ⟨R_RU, "pairBit", "(I)I"⟩
def r_RU_pairBit : Room := { frames := 0, cells := 0, slots := 0, locals := 0 }
abbrev b_RU_reset : ByteArray := prog_8_method_6_code
def y_RU_reset : MethodName := ⟨R_RU, "reset", "()V"⟩
def r_RU_reset : Room := { frames := 1, cells := 0, slots := 0, locals := 23 }
abbrev b_RU_step : ByteArray := prog_8_method_7_code
def y_RU_step : MethodName := ⟨R_RU, "step", "(LEdgeCampaign$Program;LEdgeCampaign$Input;)V"⟩
def r_RU_step : Room := { frames := 1, cells := 0, slots := 0, locals := 22 }
abbrev b_RU_divide : ByteArray := prog_8_method_8_code
def y_RU_divide : MethodName := ⟨R_RU, "divide", "(II)V"⟩
def r_RU_divide : Room := { frames := 0, cells := 0, slots := 0, locals := 0 }
abbrev b_RU_load : ByteArray := prog_8_method_9_code
def y_RU_load : MethodName := ⟨R_RU, "load", "(II)V"⟩
def r_RU_load : Room := { frames := 0, cells := 0, slots := 0, locals := 0 }
abbrev b_RU_save : ByteArray := prog_8_method_10_code
def y_RU_save : MethodName := ⟨R_RU, "save", "(II)V"⟩
def r_RU_save : Room := { frames := 0, cells := 0, slots := 0, locals := 0 }
abbrev b_RU_goInto : ByteArray := prog_8_method_11_code
def y_RU_goInto : MethodName := ⟨R_RU, "goInto", "(I)V"⟩
def r_RU_goInto : Room := { frames := 0, cells := 0, slots := 0, locals := 0 }
abbrev b_RU_goBack : ByteArray := prog_8_method_12_code
def y_RU_goBack : MethodName := ⟨R_RU, "goBack", "()V"⟩
def r_RU_goBack : Room := { frames := 0, cells := 0, slots := 0, locals := 0 }
abbrev b_RU_goAlong : ByteArray := prog_8_method_13_code
def y_RU_goAlong : MethodName := ⟨R_RU, "goAlong", "(I)V"⟩
def r_RU_goAlong : Room := { frames := 0, cells := 0, slots := 0, locals := 0 }
abbrev b_SH_init : ByteArray := prog_9_method_1_code
def y_SH_init : MethodName := ⟨R_SH, "<init>", "()V"⟩
def r_SH_init : Room := { frames := 2, cells := 0, slots := 0, locals := 60 }
abbrev b_SH_shorten : ByteArray := prog_9_method_2_code
def y_SH_shorten : MethodName := ⟨R_SH, "shorten", "(LEdgeCampaign$Finding;LEdgeCampaign$Program;)V"⟩
def r_SH_shorten : Room := { frames := 4, cells := 0, slots := 0, locals := 98 }
abbrev b_SH_keepFirst : ByteArray := prog_9_method_3_code
def y_SH_keepFirst : MethodName := ⟨R_SH, "keepFirst", "(LEdgeCampaign$Finding;LEdgeCampaign$Program;IZ)Z"⟩
def r_SH_keepFirst : Room := { frames := 3, cells := 0, slots := 0, locals := 70 }
abbrev b_SH_makePart : ByteArray := prog_9_method_4_code
def y_SH_makePart : MethodName := ⟨R_SH, "makePart", "(LEdgeCampaign$Input;II)V"⟩
def r_SH_makePart : Room := { frames := 2, cells := 0, slots := 0, locals := 46 }
abbrev b_SH_makeRest : ByteArray := prog_9_method_5_code
def y_SH_makeRest : MethodName := ⟨R_SH, "makeRest", "(LEdgeCampaign$Input;II)V"⟩
def r_SH_makeRest : Room := { frames := 2, cells := 0, slots := 0, locals := 46 }
abbrev b_ST_init : ByteArray := prog_10_method_1_code
def y_ST_init : MethodName := ⟨R_ST, "<init>", "()V"⟩
def r_ST_init : Room := { frames := 3, cells := 0, slots := 0, locals := 80 }
abbrev b_ST_has : ByteArray := prog_10_method_2_code
def y_ST_has : MethodName := ⟨R_ST, "has", "(I)Z"⟩
def r_ST_has : Room := { frames := 0, cells := 0, slots := 0, locals := 0 }
abbrev b_ST_isFavoured : ByteArray := prog_10_method_3_code
def y_ST_isFavoured : MethodName := ⟨R_ST, "isFavoured", "(I)Z"⟩
def r_ST_isFavoured : Room := { frames := 0, cells := 0, slots := 0, locals := 0 }
abbrev b_ST_behind : ByteArray := prog_10_method_4_code
def y_ST_behind : MethodName := ⟨R_ST, "behind", "(I)I"⟩
def r_ST_behind : Room := { frames := 0, cells := 0, slots := 0, locals := 0 }
abbrev b_ST_hasNews : ByteArray := prog_10_method_5_code
def y_ST_hasNews : MethodName := ⟨R_ST, "hasNews", "(LEdgeCampaign$Run;)Z"⟩
def r_ST_hasNews : Room := { frames := 1, cells := 0, slots := 0, locals := 22 }
abbrev b_ST_keep : ByteArray := prog_10_method_6_code
def y_ST_keep : MethodName := ⟨R_ST, "keep", "(LEdgeCampaign$Input;LEdgeCampaign$Run;)Z"⟩
def r_ST_keep : Room := { frames := 3, cells := 0, slots := 0, locals := 67 }
abbrev b_ST_markSeen : ByteArray := prog_10_method_7_code
def y_ST_markSeen : MethodName := ⟨R_ST, "markSeen", "(II)V"⟩
def r_ST_markSeen : Room := { frames := 0, cells := 0, slots := 0, locals := 0 }
abbrev b_ST_chooseFavoured : ByteArray := prog_10_method_8_code
def y_ST_chooseFavoured : MethodName := ⟨R_ST, "chooseFavoured", "()V"⟩
def r_ST_chooseFavoured : Room := { frames := 2, cells := 0, slots := 0, locals := 44 }
abbrev b_ST_top : ByteArray := prog_10_method_9_code
def y_ST_top : MethodName := ⟨R_ST, "top", "(I)I"⟩
def r_ST_top : Room := { frames := 1, cells := 0, slots := 0, locals := 20 }
abbrev b_TR_init : ByteArray := prog_11_method_1_code
def y_TR_init : MethodName := ⟨R_TR, "<init>", "()V"⟩
def r_TR_init : Room := { frames := 1, cells := 0, slots := 0, locals := 40 }
abbrev b_TR_beginWithFirst : ByteArray := prog_11_method_2_code
def y_TR_beginWithFirst : MethodName := ⟨R_TR, "beginWithFirst", "(LEdgeCampaign$Store;)V"⟩
def r_TR_beginWithFirst : Room := { frames := 2, cells := 0, slots := 0, locals := 44 }
abbrev b_TR_change : ByteArray := prog_11_method_3_code
def y_TR_change : MethodName := ⟨R_TR, "change", "(LEdgeCampaign$Input;LEdgeCampaign$Store;LEdgeCampaign$Generator;)V"⟩
def r_TR_change : Room := { frames := 4, cells := 0, slots := 0, locals := 92 }
abbrev b_TR_advance : ByteArray := prog_11_method_4_code
def y_TR_advance : MethodName := ⟨R_TR, "advance", "(LEdgeCampaign$Store;)V"⟩
def r_TR_advance : Room := { frames := 2, cells := 0, slots := 0, locals := 44 }
abbrev b_TR_firstDrawing : ByteArray := prog_11_method_5_code
def y_TR_firstDrawing : MethodName := ⟨R_TR, "firstDrawing", "(LEdgeCampaign$Input;)I"⟩
def r_TR_firstDrawing : Room := { frames := 0, cells := 0, slots := 0, locals := 0 }
abbrev b_TR_takeUp : ByteArray := prog_11_method_6_code
def y_TR_takeUp : MethodName := ⟨R_TR, "takeUp", "(LEdgeCampaign$Store;I)V"⟩
def r_TR_takeUp : Room := { frames := 1, cells := 0, slots := 0, locals := 21 }
abbrev b_TR_next : ByteArray := prog_11_method_7_code
def y_TR_next : MethodName := ⟨R_TR, "next", "(LEdgeCampaign$Store;)I"⟩
def r_TR_next : Room := { frames := 1, cells := 0, slots := 0, locals := 21 }
abbrev b_TR_changeByDraws : ByteArray := prog_11_method_8_code
def y_TR_changeByDraws : MethodName := ⟨R_TR, "changeByDraws", "(LEdgeCampaign$Input;LEdgeCampaign$Generator;)V"⟩
def r_TR_changeByDraws : Room := { frames := 3, cells := 0, slots := 0, locals := 68 }
abbrev b_TR_insertDrawn : ByteArray := prog_11_method_9_code
def y_TR_insertDrawn : MethodName := ⟨R_TR, "insertDrawn", "(LEdgeCampaign$Input;LEdgeCampaign$Generator;)V"⟩
def r_TR_insertDrawn : Room := { frames := 2, cells := 0, slots := 0, locals := 44 }
abbrev b_TR_changeDrawn : ByteArray := prog_11_method_10_code
def y_TR_changeDrawn : MethodName := ⟨R_TR, "changeDrawn", "(ILEdgeCampaign$Input;LEdgeCampaign$Generator;)V"⟩
def r_TR_changeDrawn : Room := { frames := 2, cells := 0, slots := 0, locals := 44 }
abbrev b_TR_joinPartner : ByteArray := prog_11_method_11_code
def y_TR_joinPartner : MethodName := ⟨R_TR, "joinPartner", "(LEdgeCampaign$Input;LEdgeCampaign$Store;LEdgeCampaign$Generator;)V"⟩
def r_TR_joinPartner : Room := { frames := 2, cells := 0, slots := 0, locals := 46 }
abbrev b_LAW_cell : ByteArray := method_2_code
def y_LAW_cell : MethodName := ⟨R_LAW, "cell", "([II)I"⟩
def r_LAW_cell : Room := { frames := 0, cells := 0, slots := 0, locals := 0 }
abbrev b_LAW_law : ByteArray := code
def y_LAW_law : MethodName := ⟨R_LAW, "law", "([I)Z"⟩
def r_LAW_law : Room := { frames := 12, cells := 0, slots := 0, locals := 278 }
abbrev b_JM_max : ByteArray := prog_14_method_65_code
def y_JM_max : MethodName := ⟨R_JM, "max", "(II)I"⟩
def r_JM_max : Room := { frames := 0, cells := 0, slots := 0, locals := 0 }
abbrev b_JM_min : ByteArray := prog_14_method_69_code
def y_JM_min : MethodName := ⟨R_JM, "min", "(II)I"⟩
def r_JM_min : Room := { frames := 0, cells := 0, slots := 0, locals := 0 }
abbrev b_JA_fill : ByteArray := prog_15_method_103_code
def y_JA_fill : MethodName := ⟨R_JA, "fill", "([II)V"⟩
def r_JA_fill : Room := { frames := 0, cells := 0, slots := 0, locals := 0 }
abbrev vwCl : List vw_C := [(R_EN, T_EN, 4), (R_FI, T_FI, 7), (R_FS, T_FS, 2), (R_GE, T_GE, 1), (R_IN, T_IN, 2), (R_PR, T_PR, 4), (R_RU, T_RU, 11), (R_SH, T_SH, 2), (R_ST, T_ST, 7), (R_TR, T_TR, 3), (R_EC, T_EC, 12), (R_MO, T_MO, 45)]
end
section
/-! Own words: a memory of cells and slots, loops over Option, the elimination rows of the semantic words. Nothing here speaks of the machine. -/
abbrev Mem : Type := Nat → Nat → Int32
def st (M : Mem) (j k : Nat) (v : Int32) : Mem := fun a => if a = j then upd (M j) k v else M a
theorem st_same (M : Mem) (j k : Nat) (v : Int32) : st M j k v j = upd (M j) k v := by unfold st; rw [if_pos rfl]
theorem st_other {M : Mem} {j k a : Nat} {v : Int32} (h : a ≠ j) : st M j k v a = M a := by unfold st; rw [if_neg h]
-- loops: the body says 'go on with this state' (inl) or 'the loop has ended with this' (inr)
def lpn {S E : Type} (b : S → Option (S ⊕ E)) : Nat → S → Option E
  | 0, _ => none
  | n + 1, s => match b s with
    | none => none
    | some (.inl s1) => lpn b n s1
    | some (.inr e) => some e
theorem lpn_mono {S E : Type} {b : S → Option (S ⊕ E)} : ∀ (n : Nat) (s : S) (e : E), lpn b n s = some e → ∀ k, n ≤ k → lpn b k s = some e := by
  intro n
  induction n with
  | zero => intro s e h; cases h
  | succ n ih =>
    intro s e h k hk
    obtain ⟨k', rfl⟩ : ∃ k', k = k' + 1 := ⟨k - 1, by omega⟩
    cases hb : b s with
    | none => simp only [lpn, hb] at h; cases h
    | some r =>
      cases r with
      | inl s1 =>
        simp only [lpn, hb] at h ⊢
        exact ih s1 e h k' (by omega)
      | inr e1 =>
        simp only [lpn, hb] at h ⊢
        exact h
noncomputable def lp {S E : Type} (b : S → Option (S ⊕ E)) (s : S) : Option E := @dite _ (∃ e n, lpn b n s = some e) (Classical.propDecidable _) (fun h => some (Classical.choose h)) (fun _ => none)
theorem lp_iff {S E : Type} {b : S → Option (S ⊕ E)} {s : S} {e : E} : lp b s = some e ↔ ∃ n, lpn b n s = some e := by
  unfold lp
  constructor
  · intro h
    by_cases hh : ∃ e n, lpn b n s = some e
    · rw [dif_pos hh] at h
      obtain ⟨n, hn⟩ := Classical.choose_spec hh
      exact ⟨n, hn.trans h⟩
    · rw [dif_neg hh] at h; cases h
  · rintro ⟨n, hn⟩
    have hh : ∃ e n, lpn b n s = some e := ⟨e, n, hn⟩
    rw [dif_pos hh]
    obtain ⟨k, hk⟩ := Classical.choose_spec hh
    have h1 := lpn_mono n s e hn (n + k) (by omega)
    have h2 := lpn_mono k s _ hk (n + k) (by omega)
    exact h2.symm.trans h1
theorem lp_none {S E : Type} {b : S → Option (S ⊕ E)} {s : S} (h : b s = none) : lp b s = none := by
  cases hl : lp b s with
  | none => rfl
  | some e =>
    obtain ⟨n, hn⟩ := lp_iff.mp hl
    cases n with
    | zero => cases hn
    | succ n => simp only [lpn, h] at hn; cases hn
theorem lp_inl {S E : Type} {b : S → Option (S ⊕ E)} {s s1 : S} (h : b s = some (.inl s1)) : lp b s = lp b s1 := by
  apply Option.ext
  intro e
  constructor
  · intro hl
    obtain ⟨n, hn⟩ := lp_iff.mp hl
    cases n with
    | zero => cases hn
    | succ n => simp only [lpn, h] at hn; exact lp_iff.mpr ⟨n, hn⟩
  · intro hl
    obtain ⟨n, hn⟩ := lp_iff.mp hl
    exact lp_iff.mpr ⟨n + 1, by simp only [lpn, h]; exact hn⟩
theorem lp_inr {S E : Type} {b : S → Option (S ⊕ E)} {s : S} {e : E} (h : b s = some (.inr e)) : lp b s = some e := lp_iff.mpr ⟨1, by simp only [lpn, h]⟩
def lpG {S E : Type} (P : S → Prop) (G : E → Prop) : S ⊕ E → Prop
  | .inl s => P s
  | .inr e => G e
theorem lp_walk {S E : Type} {b : S → Option (S ⊕ E)} {P : S → Prop} {G : E → Prop} (step : ∀ (s : S) (res : S ⊕ E), b s = some res → lpG P G res → P s) {s : S} {e : E} (h : lp b s = some e) (g : G e) : P s := by
  obtain ⟨n, hn⟩ := lp_iff.mp h
  clear h
  induction n generalizing s with
  | zero => cases hn
  | succ n ih =>
    cases hb : b s with
    | none => simp only [lpn, hb] at hn; cases hn
    | some r =>
      cases r with
      | inl s1 =>
        simp only [lpn, hb] at hn
        exact step s _ hb (ih hn)
      | inr e1 =>
        simp only [lpn, hb] at hn
        obtain rfl := Option.some.inj hn
        exact step s _ hb g
-- words of the semantics, and their eliminations
def nx {α β : Type} (a : α) (f : α → β) : β := f a
theorem nx_e {α β : Type} {a : α} {f : α → β} {r : β} (h : nx a f = r) : ∃ v, v = a ∧ f v = r := ⟨a, rfl, h⟩
def ck {α : Type} (i : Int32) (n : Nat) (k : Option α) : Option α := if i < 0 ∨ n ≤ i.toNatClampNeg then none else k
theorem ck_e {α : Type} {i : Int32} {n : Nat} {k : Option α} {r : α} (h : ck i n k = some r) : vp_in i n ∧ k = some r := by
  unfold ck at h
  by_cases hc : i < 0 ∨ n ≤ i.toNatClampNeg
  · rw [if_pos hc] at h; cases h
  · rw [if_neg hc] at h; exact ⟨hc, h⟩
theorem ck_i {α : Type} {i : Int32} {n : Nat} {k : Option α} (h : vp_in i n) : ck i n k = k := by unfold ck; exact if_neg h
def cz {α : Type} (y : Int32) (k : Option α) : Option α := if y = 0 then none else k
theorem cz_e {α : Type} {y : Int32} {k : Option α} {r : α} (h : cz y k = some r) : ¬ y = 0 ∧ k = some r := by
  unfold cz at h
  by_cases hc : y = 0
  · rw [if_pos hc] at h; cases h
  · rw [if_neg hc] at h; exact ⟨hc, h⟩
def cb {α : Type} (v : Int32) (k : Option α) : Option α := if v = 0 ∨ v = 1 then k else none
theorem cb_e {α : Type} {v : Int32} {k : Option α} {r : α} (h : cb v k = some r) : (v = 0 ∨ v = 1) ∧ k = some r := by
  unfold cb at h
  by_cases hc : v = 0 ∨ v = 1
  · rw [if_pos hc] at h; exact ⟨hc, h⟩
  · rw [if_neg hc] at h; cases h
def cp {α : Type} (P : Prop) [Decidable P] (k : Option α) : Option α := if P then k else none
theorem cp_e {α : Type} {P : Prop} [Decidable P] {k : Option α} {r : α} (h : cp P k = some r) : P ∧ k = some r := by
  unfold cp at h
  by_cases hc : P
  · rw [if_pos hc] at h; exact ⟨hc, h⟩
  · rw [if_neg hc] at h; cases h
def bi {α β : Type} (o : Option (α × Mem)) (f : α → Mem → Option β) : Option β := match o with
  | none => none
  | some q => f q.1 q.2
theorem bi_e {α β : Type} {o : Option (α × Mem)} {f : α → Mem → Option β} {r : β} (h : bi o f = some r) : ∃ v M, o = some (v, M) ∧ f v M = some r := by
  cases o with
  | none => cases h
  | some q => exact ⟨q.1, q.2, rfl, h⟩
def bv {β : Type} (o : Option Mem) (f : Mem → Option β) : Option β := match o with
  | none => none
  | some M => f M
theorem bv_e {β : Type} {o : Option Mem} {f : Mem → Option β} {r : β} (h : bv o f = some r) : ∃ M, o = some M ∧ f M = some r := by
  cases o with
  | none => cases h
  | some M => exact ⟨M, rfl, h⟩
theorem if_p {α : Type} {c : Prop} [Decidable c] {a b r : α} (hc : c) (h : (if c then a else b) = r) : a = r := by rw [if_pos hc] at h; exact h
theorem if_m {α : Type} {c : Prop} [Decidable c] {a b r : α} (hc : ¬ c) (h : (if c then a else b) = r) : b = r := by rw [if_neg hc] at h; exact h
def mo {α β : Type} (o : Option α) (a : β) (f : α → β) : β := match o with
  | none => a
  | some j => f j
theorem sw_ne {x k : Int32} {z : Int} (hk : k.toInt = z) (h : ¬ x = k) : ¬ x.toInt = z := by
  intro e
  exact h (Int32.toInt_inj.mp (e.trans hk.symm))
def jw1 {S E : Type} (o : Option E) : Option (S ⊕ E) := match o with
  | none => none
  | some r => some (.inr r)
theorem jw1_e {S E : Type} {o : Option E} {res : S ⊕ E} (h : jw1 o = some res) : ∃ r, res = .inr r ∧ o = some r := by
  cases o with
  | none => cases h
  | some r => exact ⟨r, (Option.some.inj h).symm, rfl⟩
def jw2 {S T E : Type} (o : Option E) : Option (S ⊕ (T ⊕ E)) := jw1 (jw1 o)
theorem jw2_e {S T E : Type} {o : Option E} {res : S ⊕ (T ⊕ E)} (h : jw2 o = some res) : ∃ r, res = .inr (.inr r) ∧ o = some r := by
  obtain ⟨r, h1, h2⟩ := jw1_e h
  obtain ⟨r2, h3, h4⟩ := jw1_e h2
  subst h1; subst h3
  exact ⟨r2, rfl, h4⟩
end
section
def nbF : List (String × Nat × String × String × String × String) := [("EdgeCampaign$Run", 65, "EdgeCampaign$Program", "ops", "[I", "EdgeCampaign"), ("EdgeCampaign$Run", 68, "EdgeCampaign$Program", "as", "[I", "EdgeCampaign"), ("EdgeCampaign$Run", 71, "EdgeCampaign$Program", "bs", "[I", "EdgeCampaign"), ("EdgeCampaign$Run", 97, "EdgeCampaign$Input", "size", "I", "EdgeCampaign"), ("EdgeCampaign$Store", 34, "EdgeCampaign$Run", "edgeCount", "I", "EdgeCampaign"), ("EdgeCampaign$Store", 39, "EdgeCampaign$Run", "edges", "[I", "EdgeCampaign"), ("EdgeCampaign$Entry", 20, "EdgeCampaign$Input", "size", "I", "EdgeCampaign"), ("EdgeCampaign$Store", 46, "EdgeCampaign$Entry", "input", "LEdgeCampaign$Input;", "EdgeCampaign"), ("EdgeCampaign$Store", 56, "EdgeCampaign$Run", "steps", "I", "EdgeCampaign"), ("EdgeCampaign$Store", 59, "EdgeCampaign$Entry", "steps", "I", "EdgeCampaign"), ("EdgeCampaign$Store", 60, "EdgeCampaign$Entry", "edgeCount", "I", "EdgeCampaign"), ("EdgeCampaign$Finding", 29, "EdgeCampaign$Run", "outcome", "I", "EdgeCampaign"), ("EdgeCampaign$Finding", 36, "EdgeCampaign$Run", "here", "I", "EdgeCampaign"), ("EdgeCampaign$Finding", 40, "EdgeCampaign$Run", "depth", "I", "EdgeCampaign"), ("EdgeCampaign$Findings", 24, "EdgeCampaign$Finding", "hits", "I", "EdgeCampaign"), ("EdgeCampaign$Shortener", 28, "EdgeCampaign$Input", "size", "I", "EdgeCampaign"), ("EdgeCampaign$Shortener", 23, "EdgeCampaign$Finding", "shortest", "LEdgeCampaign$Input;", "EdgeCampaign"), ("EdgeCampaign$Trials", 41, "EdgeCampaign$Input", "size", "I", "EdgeCampaign"), ("EdgeCampaign$Trials", 87, "EdgeCampaign$Entry", "edgeCount", "I", "EdgeCampaign"), ("EdgeCampaign$Trials", 25, "EdgeCampaign$Store", "entries", "[LEdgeCampaign$Entry;", "EdgeCampaign"), ("EdgeCampaign$Trials", 80, "EdgeCampaign$Entry", "finished", "I", "EdgeCampaign"), ("EdgeCampaign$Trials", 29, "EdgeCampaign$Entry", "input", "LEdgeCampaign$Input;", "EdgeCampaign"), ("EdgeCampaign", 190, "EdgeCampaign$Run", "outcome", "I", "EdgeCampaign"), ("EdgeCampaign$Trials", 79, "EdgeCampaign$Store", "size", "I", "EdgeCampaign"), ("EdgeCampaign", 94, "EdgeCampaign$Store", "size", "I", "EdgeCampaign"), ("EdgeCampaign", 105, "EdgeCampaign$Findings", "size", "I", "EdgeCampaign"), ("EdgeCampaign", 106, "EdgeCampaign$Store", "seenEdges", "I", "EdgeCampaign"), ("EdgeCampaign", 109, "EdgeCampaign$Store", "seenPairs", "I", "EdgeCampaign"), ("EdgeCampaign", 115, "EdgeCampaign$Store", "entries", "[LEdgeCampaign$Entry;", "EdgeCampaign"), ("EdgeCampaign", 119, "EdgeCampaign$Entry", "input", "LEdgeCampaign$Input;", "EdgeCampaign"), ("EdgeCampaign", 124, "EdgeCampaign$Input", "size", "I", "EdgeCampaign"), ("EdgeCampaign", 125, "EdgeCampaign$Entry", "steps", "I", "EdgeCampaign"), ("EdgeCampaign", 128, "EdgeCampaign$Entry", "edgeCount", "I", "EdgeCampaign"), ("EdgeCampaign", 131, "EdgeCampaign$Entry", "finished", "I", "EdgeCampaign"), ("EdgeCampaign", 144, "EdgeCampaign$Store", "buckets", "[I", "EdgeCampaign"), ("EdgeCampaign", 164, "EdgeCampaign$Finding", "latestFirst", "[I", "EdgeCampaign"), ("EdgeCampaign", 149, "EdgeCampaign$Findings", "made", "[LEdgeCampaign$Finding;", "EdgeCampaign"), ("EdgeCampaign", 153, "EdgeCampaign$Finding", "trap", "I", "EdgeCampaign"), ("EdgeCampaign", 158, "EdgeCampaign$Finding", "here", "I", "EdgeCampaign"), ("EdgeCampaign", 161, "EdgeCampaign$Finding", "depth", "I", "EdgeCampaign"), ("EdgeCampaign", 167, "EdgeCampaign$Finding", "hits", "I", "EdgeCampaign"), ("EdgeCampaign", 170, "EdgeCampaign$Finding", "input", "LEdgeCampaign$Input;", "EdgeCampaign"), ("EdgeCampaign", 171, "EdgeCampaign$Finding", "shortest", "LEdgeCampaign$Input;", "EdgeCampaign"), ("EdgeCampaign", 174, "EdgeCampaign$Trials", "taken", "I", "EdgeCampaign"), ("EdgeCampaign", 177, "EdgeCampaign$Trials", "number", "I", "EdgeCampaign"), ("EdgeCampaign", 180, "EdgeCampaign$Trials", "energy", "I", "EdgeCampaign"), ("EdgeCampaign", 183, "EdgeCampaign$Generator", "x", "I", "EdgeCampaign")]
def nbM : List (String × Nat × MethodName × String) := []
/-! The machine's side of the memory: one world of 154 cells for every method that makes nothing; contracts Ci, Cv, Cq over it; rows for fields, arrays, calls. -/
abbrev Cx : Type := va_G × (Nat → Nat) × (ClassId × ClassId × ClassId) × (Nat × Nat)
def mw (ad : Nat → Nat) (ly : Nat → (Nat → Int32) → va_E) (N : Nat) (M : Mem) : va_W := (List.range N).map (fun j => (ad j, ly j (M j)))
theorem mw_at {ad : Nat → Nat} {ly : Nat → (Nat → Int32) → va_E} {N : Nat} {M : Mem} {j : Nat} (h : j < N) : (mw ad ly N M)[j]? = some (ad j, ly j (M j)) := by
  unfold mw
  rw [List.getElem?_map, List.getElem?_range h]
  rfl
theorem mw_inv {ad : Nat → Nat} {ly : Nat → (Nat → Int32) → va_E} {N : Nat} {M : Mem} {k : Nat} {q : Nat × va_E} (h : (mw ad ly N M)[k]? = some q) : k < N ∧ q = (ad k, ly k (M k)) := by
  by_cases hk : k < N
  · rw [mw_at hk] at h
    exact ⟨hk, (Option.some.inj h).symm⟩
  · rw [List.getElem?_eq_none (by unfold mw; rw [List.length_map, List.length_range]; omega)] at h
    cases h
theorem mw_set {ad : Nat → Nat} {ly : Nat → (Nat → Int32) → va_E} {N : Nat} {M : Mem} {j k : Nat} {v : Int32} {e : va_E} (h : j < N) (he : e = ly j (upd (M j) k v)) : (mw ad ly N M).set j (ad j, e) = mw ad ly N (st M j k v) := by
  subst he
  apply List.ext_getElem?
  intro i
  have hlen : (mw ad ly N M).length = N := by unfold mw; rw [List.length_map, List.length_range]
  have hlen2 : (mw ad ly N (st M j k v)).length = N := by unfold mw; rw [List.length_map, List.length_range]
  by_cases hi : i < N
  · rw [mw_at hi]
    by_cases hij : i = j
    · subst hij
      rw [List.getElem?_set_self (by rw [hlen]; exact hi), st_same]
    · rw [List.getElem?_set_ne (Ne.symm hij), mw_at hi, st_other hij]
  · rw [List.getElem?_eq_none (by rw [List.length_set, hlen]; omega), List.getElem?_eq_none (by rw [hlen2]; omega)]
def lay0 (x : Cx) (j : Nat) (r : Nat → Int32) : va_E := match j with
  | 0 => .inr (10, [.ref (x.2.1 1), .ref (x.2.1 52), .ref (x.2.1 54), .ref (x.2.1 14), .ref (x.2.1 5), .ref (x.2.1 9), .ref (x.2.1 11), .ref (x.2.1 12), .ref (x.2.1 13), .int (r 9), .int (r 10), .int (r 11)])
  | 1 => .inr (5, [.ref (x.2.1 2), .ref (x.2.1 3), .ref (x.2.1 4), .int (r 3)])
  | 2 => .inl (x.2.2.1.1, 24, .inl r)
  | 3 => .inl (x.2.2.1.1, 24, .inl r)
  | 4 => .inl (x.2.2.1.1, 24, .inl r)
  | 5 => .inr (8, [.ref (x.2.1 6), .ref (x.2.1 7), .ref (x.2.1 8), .int (r 3), .int (r 4), .int (r 5), .int (r 6)])
  | 6 => .inl (x.2.2.1.2.1, 16, .inr (.inr (.inr (.inr (fun k => some (x.2.1 (122 + k)))))))
  | 7 => .inl (x.2.2.1.1, 576, .inl r)
  | 8 => .inl (x.2.2.1.1, 576, .inl r)
  | 9 => .inr (2, [.ref (x.2.1 10), .int (r 1)])
  | 10 => .inl (x.2.2.1.2.2, 8, .inr (.inr (.inr (.inr (fun k => some (x.2.1 (138 + 2 * k)))))))
  | 11 => .inr (7, [.ref (x.2.1 20), .ref (x.2.1 56)])
  | 12 => .inr (3, [.int (r 0)])
  | 13 => .inr (9, [.int (r 0), .int (r 1), .int (r 2)])
  | 14 => .inr (6, [.ref (x.2.1 15), .ref (x.2.1 16), .ref (x.2.1 17), .ref (x.2.1 18), .ref (x.2.1 19), .int (r 5), .int (r 6), .int (r 7), .int (r 8), .int (r 9), .int (r 10)])
  | 15 => .inl (x.2.2.1.1, 4, .inl r)
  | 16 => .inl (x.2.2.1.1, 4, .inl r)
  | 17 => .inl (x.2.2.1.1, 3, .inl r)
  | 18 => .inl (x.2.2.1.1, 576, .inl r)
  | 19 => .inl (x.2.2.1.1, 64, .inl r)
  | 20 => .inr (6, [.ref (x.2.1 21), .ref (x.2.1 22), .ref (x.2.1 23), .ref (x.2.1 24), .ref (x.2.1 25), .int (r 5), .int (r 6), .int (r 7), .int (r 8), .int (r 9), .int (r 10)])
  | 21 => .inl (x.2.2.1.1, 4, .inl r)
  | 22 => .inl (x.2.2.1.1, 4, .inl r)
  | 23 => .inl (x.2.2.1.1, 3, .inl r)
  | 24 => .inl (x.2.2.1.1, 576, .inl r)
  | 25 => .inl (x.2.2.1.1, 64, .inl r)
  | 26 => .inr (11, [.int (r 0), .ref (x.2.1 27), .ref (x.2.1 28), .ref (x.2.1 29), .ref (x.2.1 30), .int (r 5), .int (r 6), .ref (x.2.1 31), .int (r 8), .ref (x.2.1 32), .ref (x.2.1 33), .ref (x.2.1 34), .int (r 12), .int (r 13), .int (r 14), .int (r 15), .int (r 16), .ref (x.2.1 35), .int (r 18), .ref (x.2.1 36), .ref (x.2.1 37), .ref (x.2.1 38), .int (r 22), .ref (x.2.1 39), .ref (x.2.1 40), .ref (x.2.1 41), .ref (x.2.1 42), .ref (x.2.1 43), .ref (x.2.1 44), .ref (x.2.1 45), .ref (x.2.1 46), .ref (x.2.1 47), .int (r 32), .int (r 33), .int (r 34), .int (r 35), .ref (x.2.1 48), .ref (x.2.1 49), .ref (x.2.1 50), .int (r 39), .int (r 40), .int (r 41), .int (r 42), .ref (x.2.1 51), .int (r 44)])
  | 27 => .inl (x.2.2.1.1, 24, .inl r)
  | 28 => .inl (x.2.2.1.1, 24, .inl r)
  | 29 => .inl (x.2.2.1.1, 24, .inl r)
  | 30 => .inl (x.2.2.1.1, 6, .inl r)
  | 31 => .inl (x.2.2.1.1, 6, .inl r)
  | 32 => .inl (x.2.2.1.1, 4, .inl r)
  | 33 => .inl (x.2.2.1.1, 4, .inl r)
  | 34 => .inl (x.2.2.1.1, 3, .inl r)
  | 35 => .inl (x.2.2.1.1, 576, .inl r)
  | 36 => .inl (x.2.2.1.1, 96, .inl r)
  | 37 => .inl (x.2.2.1.1, 16, .inl r)
  | 38 => .inl (x.2.2.1.1, 16, .inl r)
  | 39 => .inl (x.2.2.1.1, 8, .inl r)
  | 40 => .inl (x.2.2.1.1, 8, .inl r)
  | 41 => .inl (x.2.2.1.1, 8, .inl r)
  | 42 => .inl (x.2.2.1.1, 24, .inl r)
  | 43 => .inl (x.2.2.1.1, 8, .inl r)
  | 44 => .inl (x.2.2.1.1, 48, .inl r)
  | 45 => .inl (x.2.2.1.1, 8, .inl r)
  | 46 => .inl (x.2.2.1.1, 48, .inl r)
  | 47 => .inl (x.2.2.1.1, 8, .inl r)
  | 48 => .inl (x.2.2.1.1, 576, .inl r)
  | 49 => .inl (x.2.2.1.1, 576, .inl r)
  | 50 => .inl (x.2.2.1.1, 16, .inl r)
  | _ => .inl (x.2.2.1.1, 6, .inl r)
def lay (x : Cx) (j : Nat) (r : Nat → Int32) : va_E := if j < 52 then lay0 x j r else if j < 122 then (if j % 2 = 0 then .inr (4, [.ref (x.2.1 (j + 1)), .int (r 1)]) else .inl (x.2.2.1.1, 6, .inl r)) else if j < 138 then .inr (0, [.ref (x.2.1 (2 * j - 186)), .int (r 1), .int (r 2), .int (r 3)]) else (if j % 2 = 0 then .inr (1, [.ref (x.2.1 (2 * j - 186)), .ref (x.2.1 (2 * j - 184)), .ref (x.2.1 (j + 1)), .int (r 3), .int (r 4), .int (r 5), .int (r 6)]) else .inl (x.2.2.1.1, 3, .inl r))
abbrev kd_in (j : Nat) : Prop := 52 ≤ j ∧ j < 122 ∧ j % 2 = 0
abbrev kd_en (j : Nat) : Prop := 122 ≤ j ∧ j < 138
abbrev kd_fi (j : Nat) : Prop := 138 ≤ j ∧ j < 154 ∧ j % 2 = 0
abbrev kd_run (j : Nat) : Prop := j = 14 ∨ j = 20
def AR (x : Cx) (j n : Nat) : Prop := j < 154 ∧ ∀ r : Nat → Int32, lay x j r = .inl (x.2.2.1.1, n, .inl r)
theorem ly_IN {x : Cx} {j : Nat} {r : Nat → Int32} (k : kd_in j) : lay x j r = .inr (4, [.ref (x.2.1 (j + 1)), .int (r 1)]) := by
  obtain ⟨h1, h2, h3⟩ := k
  unfold lay
  rw [if_neg (by omega), if_pos h2, if_pos h3]
theorem ly_EN {x : Cx} {j : Nat} {r : Nat → Int32} (k : kd_en j) : lay x j r = .inr (0, [.ref (x.2.1 (2 * j - 186)), .int (r 1), .int (r 2), .int (r 3)]) := by
  obtain ⟨h1, h2⟩ := k
  unfold lay
  rw [if_neg (by omega), if_neg (by omega), if_pos h2]
theorem ly_FI {x : Cx} {j : Nat} {r : Nat → Int32} (k : kd_fi j) : lay x j r = .inr (1, [.ref (x.2.1 (2 * j - 186)), .ref (x.2.1 (2 * j - 184)), .ref (x.2.1 (j + 1)), .int (r 3), .int (r 4), .int (r 5), .int (r 6)]) := by
  obtain ⟨h1, h2, h3⟩ := k
  unfold lay
  rw [if_neg (by omega), if_neg (by omega), if_neg (by omega), if_pos h3]
theorem ly_RU {x : Cx} {j : Nat} {r : Nat → Int32} (k : kd_run j) : lay x j r = .inr (6, [.ref (x.2.1 (j + 1)), .ref (x.2.1 (j + 2)), .ref (x.2.1 (j + 3)), .ref (x.2.1 (j + 4)), .ref (x.2.1 (j + 5)), .int (r 5), .int (r 6), .int (r 7), .int (r 8), .int (r 9), .int (r 10)]) := by
  rcases k with rfl | rfl <;> rfl
theorem lt_IN {j : Nat} (k : kd_in j) : j < 154 := by
  unfold kd_in at k; omega
theorem lt_EN {j : Nat} (k : kd_en j) : j < 154 := by
  unfold kd_en at k; omega
theorem lt_FI {j : Nat} (k : kd_fi j) : j < 154 := by
  unfold kd_fi at k; omega
theorem lt_RU {j : Nat} (k : kd_run j) : j < 154 := by
  rcases k with rfl | rfl <;> decide
theorem kd_EC_draft : kd_in 52 := by unfold kd_in; omega
theorem kd_EC_changed : kd_in 54 := by unfold kd_in; omega
theorem kd_EC_run : kd_run 14 := by unfold kd_run; omega
theorem ar_PR_ops {x : Cx} : AR x 2 24 := ⟨by decide, fun _ => rfl⟩
theorem ar_PR_as {x : Cx} : AR x 3 24 := ⟨by decide, fun _ => rfl⟩
theorem ar_PR_bs {x : Cx} : AR x 4 24 := ⟨by decide, fun _ => rfl⟩
theorem ar_IN_bytes {x : Cx} {j : Nat} (k : kd_in j) : AR x (j + 1) 6 := by
  obtain ⟨h1, h2, h3⟩ := k
  refine ⟨by omega, fun r => ?_⟩
  unfold lay
  rw [if_neg (by omega), if_pos (by omega), if_neg (by omega)]
theorem ar_RU_registers {x : Cx} {j : Nat} (k : kd_run j) : AR x (j + 1) 4 := by
  rcases k with rfl | rfl <;> exact ⟨by decide, fun _ => rfl⟩
theorem ar_RU_memory {x : Cx} {j : Nat} (k : kd_run j) : AR x (j + 2) 4 := by
  rcases k with rfl | rfl <;> exact ⟨by decide, fun _ => rfl⟩
theorem ar_RU_stack {x : Cx} {j : Nat} (k : kd_run j) : AR x (j + 3) 3 := by
  rcases k with rfl | rfl <;> exact ⟨by decide, fun _ => rfl⟩
theorem ar_RU_times {x : Cx} {j : Nat} (k : kd_run j) : AR x (j + 4) 576 := by
  rcases k with rfl | rfl <;> exact ⟨by decide, fun _ => rfl⟩
theorem ar_RU_edges {x : Cx} {j : Nat} (k : kd_run j) : AR x (j + 5) 64 := by
  rcases k with rfl | rfl <;> exact ⟨by decide, fun _ => rfl⟩
theorem kd_EN_input {j : Nat} (k : kd_en j) : kd_in (2 * j - 186) := by
  unfold kd_en at k; unfold kd_in; omega
theorem ar_ST_buckets {x : Cx} : AR x 7 576 := ⟨by decide, fun _ => rfl⟩
theorem ar_ST_goers {x : Cx} : AR x 8 576 := ⟨by decide, fun _ => rfl⟩
theorem kd_FI_input {j : Nat} (k : kd_fi j) : kd_in (2 * j - 186) := by
  unfold kd_fi at k; unfold kd_in; omega
theorem kd_FI_shortest {j : Nat} (k : kd_fi j) : kd_in (2 * j - 184) := by
  unfold kd_fi at k; unfold kd_in; omega
theorem ar_FI_latestFirst {x : Cx} {j : Nat} (k : kd_fi j) : AR x (j + 1) 3 := by
  obtain ⟨h1, h2, h3⟩ := k
  refine ⟨by omega, fun r => ?_⟩
  unfold lay
  rw [if_neg (by omega), if_neg (by omega), if_neg (by omega), if_neg (by omega)]
theorem kd_SH_run : kd_run 20 := by unfold kd_run; omega
theorem kd_SH_candidate : kd_in 56 := by unfold kd_in; omega
theorem ar_MO_ops {x : Cx} : AR x 27 24 := ⟨by decide, fun _ => rfl⟩
theorem ar_MO_as {x : Cx} : AR x 28 24 := ⟨by decide, fun _ => rfl⟩
theorem ar_MO_bs {x : Cx} : AR x 29 24 := ⟨by decide, fun _ => rfl⟩
theorem ar_MO_draft {x : Cx} : AR x 30 6 := ⟨by decide, fun _ => rfl⟩
theorem ar_MO_tape {x : Cx} : AR x 31 6 := ⟨by decide, fun _ => rfl⟩
theorem ar_MO_r {x : Cx} : AR x 32 4 := ⟨by decide, fun _ => rfl⟩
theorem ar_MO_memory {x : Cx} : AR x 33 4 := ⟨by decide, fun _ => rfl⟩
theorem ar_MO_stack {x : Cx} : AR x 34 3 := ⟨by decide, fun _ => rfl⟩
theorem ar_MO_times {x : Cx} : AR x 35 576 := ⟨by decide, fun _ => rfl⟩
theorem ar_MO_inputs {x : Cx} : AR x 36 96 := ⟨by decide, fun _ => rfl⟩
theorem ar_MO_lengths {x : Cx} : AR x 37 16 := ⟨by decide, fun _ => rfl⟩
theorem ar_MO_finished {x : Cx} : AR x 38 16 := ⟨by decide, fun _ => rfl⟩
theorem ar_MO_traps {x : Cx} : AR x 39 8 := ⟨by decide, fun _ => rfl⟩
theorem ar_MO_places {x : Cx} : AR x 40 8 := ⟨by decide, fun _ => rfl⟩
theorem ar_MO_depths {x : Cx} : AR x 41 8 := ⟨by decide, fun _ => rfl⟩
theorem ar_MO_stacks {x : Cx} : AR x 42 24 := ⟨by decide, fun _ => rfl⟩
theorem ar_MO_hits {x : Cx} : AR x 43 8 := ⟨by decide, fun _ => rfl⟩
theorem ar_MO_found {x : Cx} : AR x 44 48 := ⟨by decide, fun _ => rfl⟩
theorem ar_MO_foundLength {x : Cx} : AR x 45 8 := ⟨by decide, fun _ => rfl⟩
theorem ar_MO_brief {x : Cx} : AR x 46 48 := ⟨by decide, fun _ => rfl⟩
theorem ar_MO_briefLength {x : Cx} : AR x 47 8 := ⟨by decide, fun _ => rfl⟩
theorem ar_MO_buckets {x : Cx} : AR x 48 576 := ⟨by decide, fun _ => rfl⟩
theorem ar_MO_went {x : Cx} : AR x 49 576 := ⟨by decide, fun _ => rfl⟩
theorem ar_MO_stepsOf {x : Cx} : AR x 50 16 := ⟨by decide, fun _ => rfl⟩
theorem ar_MO_cur {x : Cx} : AR x 51 6 := ⟨by decide, fun _ => rfl⟩
theorem kd_en_at {i : Int32} (h : vp_in i 16) : kd_en (122 + i.toNatClampNeg) := by
  have h2 : ¬ 16 ≤ i.toNatClampNeg := fun z => h (Or.inr z)
  unfold kd_en; omega
theorem kd_fi_at {i : Int32} (h : vp_in i 8) : kd_fi (138 + 2 * i.toNatClampNeg) := by
  have h2 : ¬ 8 ≤ i.toNatClampNeg := fun z => h (Or.inr z)
  unfold kd_fi; omega
def A0 (x : Cx) : Nat → Prop := fun q => ∃ j, j < 154 ∧ q = x.2.1 j
def Inj (x : Cx) : Prop := ∀ i j, i < 154 → j < 154 → x.2.1 i = x.2.1 j → i = j
def wld (x : Cx) (M : Mem) : va_W := mw x.2.1 (lay x) 154 M
theorem wld_D {x : Cx} {M : Mem} (hJ : Inj x) : va_D (A0 x) (wld x M) := by
  refine ⟨fun i j p q hi hj h => ?_, fun k q hk => ?_⟩
  · obtain ⟨a, rfl⟩ := mw_inv hi
    obtain ⟨b, rfl⟩ := mw_inv hj
    exact hJ i j a b h
  · obtain ⟨a, rfl⟩ := mw_inv hk
    exact ⟨k, a, rfl⟩
theorem wld_at {x : Cx} {M : Mem} {j : Nat} {e : va_E} (h : j < 154) (he : lay x j (M j) = e) : (wld x M)[j]? = some (x.2.1 j, e) := by
  unfold wld
  rw [mw_at h, he]
def tysx (x : Cx) : List (ClassId × FieldType) := [(x.2.2.1.1, .int), (x.2.2.1.2.1, .object "EdgeCampaign$Entry"), (x.2.2.1.2.2, .object "EdgeCampaign$Finding")]
def sADD (k : Nat) : Int32 := match k with
  | 0 => 1
  | 1 => -1
  | 2 => 16
  | _ => -16
def sPUT (k : Nat) : Int32 := match k with
  | 0 => 0
  | 1 => 127
  | 2 => 128
  | _ => 255
def Stc (x : Cx) (U : State) (H : Heap) : Prop := (va_Z "EdgeCampaign$Trials" "ADDED" "[I" (.ref x.2.2.2.1) (A0 x) U H ∧ va_T .int x.2.2.2.1 4 (fun k => .int (sADD k)) (A0 x) U H) ∧ (va_Z "EdgeCampaign$Trials" "PUT" "[I" (.ref x.2.2.2.2) (A0 x) U H ∧ va_T .int x.2.2.2.2 4 (fun k => .int (sPUT k)) (A0 x) U H)
theorem Stc.moved {x : Cx} {u U : State} {H : Heap} (hvm : u.vm.Alike U.vm) (h : Stc x u H) : Stc x U H := ⟨⟨h.1.1.moved hvm, h.1.2.moved hvm⟩, h.2.1.moved hvm, h.2.2.moved hvm⟩
theorem Stc.kept {x : Cx} {U : State} {H H1 : Heap} (h : Stc x U H) (hq : ∀ a : Nat, a < H.size → ¬ A0 x a → H1[a]? = H[a]?) : Stc x U H1 := ⟨⟨h.1.1.kept hq, h.1.2.kept hq⟩, h.2.1.kept hq, h.2.2.kept hq⟩
def tb : List Cond := lw_tbl.filter goodWord
theorem tb_in {w : Cond} (h : w ∈ lw_tbl) (hg : goodWord w = true) : w ∈ tb := List.mem_filter.mpr ⟨h, hg⟩
theorem tb_good {b : Cond} (hb : b ∈ tb) : GoodIn tb (b :: tb) := fun w hw => by
  have h : w ∈ tb := by
    rcases List.mem_cons.mp hw with rfl | h
    · exact hb
    · exact h
  exact ⟨h, good_of_word (List.mem_filter.mp h).2⟩
def nb : List Cond := nbF.map (fun q => .fieldLinkNest q.1 q.2.1 q.2.2.1 q.2.2.2.1 q.2.2.2.2.1 q.2.2.2.2.2) ++ nbM.map (fun q => .methodLinkNest q.1 q.2.1 q.2.2.1 q.2.2.2)
def Nst (U : State) : Prop := ∀ w ∈ nb, va_Nw w U
theorem Nst.moved {s U : State} (hW : s.WarmedH U.vm) (h : Nst s) : Nst U := by
  intro w hw
  have h1 := h w hw
  rcases List.mem_append.mp hw with h2 | h2
  · obtain ⟨q, -, rfl⟩ := List.mem_map.mp h2
    exact h1.warmF hW
  · obtain ⟨q, -, rfl⟩ := List.mem_map.mp h2
    exact h1.warmM hW
theorem Nst.same {s U : State} (hv : s.vm = U.vm) (h : Nst s) : Nst U := by
  intro w hw
  have h1 := h w hw
  rcases List.mem_append.mp hw with h2 | h2
  · obtain ⟨q, -, rfl⟩ := List.mem_map.mp h2
    exact h1.same rfl hv
  · obtain ⟨q, -, rfl⟩ := List.mem_map.mp h2
    exact h1.same rfl hv
def Tb (args : Array Value) (s : State) : Prop := (∀ w ∈ tb, w.before args s = true) ∧ Nst s
def Ok (x : Cx) (M : Mem) (U : State) : Prop := va_P x.1 vwCl (wld x M) U.heap ∧ va_K x.1 vwCl (tysx x) U ∧ Stc x U U.heap ∧ Nst U
def Ci (l : Launch) (x : Cx) (y : MethodName) (w : List Cond) (rm : Room) (av : List Value) (M : Mem) (out : Int32 × Mem) : Prop := Met l y w rm (va_Pc av (Ok x M)) (va_Qi (fun r u => (r, u) = out) (fun u t => va_P x.1 vwCl (wld x u) t.heap) (A0 x)) 0 0 (A0 x)
def Cv (l : Launch) (x : Cx) (y : MethodName) (w : List Cond) (rm : Room) (av : List Value) (M : Mem) (out : Mem) : Prop := Met l y w rm (va_Pc av (Ok x M)) (va_Qv (fun u => u = out) (fun u t => va_P x.1 vwCl (wld x u) t.heap) (A0 x)) 0 0 (A0 x)
def Cq (l : Launch) (x : Cx) (y : MethodName) (w : List Cond) (rm : Room) (av : List Value) (M : Mem) (out : Option Nat × Mem) : Prop := Met l y w rm (va_Pc av (Ok x M)) (va_Qq (fun r u => r = out.1.map x.2.1 ∧ u = out.2) (fun u t => va_P x.1 vwCl (wld x u) t.heap) (A0 x)) 0 0 (A0 x)
theorem blind {x : Cx} {M : Mem} {av : List Value} : FrameBlind (va_Pc av (Ok x M)) := fun a U g mk q => by
  obtain ⟨q0, q1, q2, q3, q4⟩ := q
  exact ⟨q0, q1, va_K.moved (u := U) (U := U.calling g mk a) (Vm.Alike.refl U.vm) q2, Stc.moved (u := U) (U := U.calling g mk a) (Vm.Alike.refl U.vm) q3, Nst.same (s := U) (U := U.calling g mk a) rfl q4⟩
theorem iinc_v {z v k : Int32} {n : Int} (hk : Int32.ofInt n = k) (e : v = z + k) : z + Int32.ofInt n = v := by rw [hk, e]
section OF
variable {l : Launch} {x : Cx} {y : MethodName} {rm : Room} {av : List Value} {M : Mem} {cc : ByteArray} {maxL : Nat} {ret : Option FieldType} {ws' : List Cond}
theorem ofCi {out : Int32 × Mem} (hy : plainName y.cls = true) (hw : (Cond.code y cc maxL ret :: tb) = Cond.code y cc maxL ret :: ws') (hret0 : ret = some .int) (hn : (lg_sl av).length ≤ maxL)
    (body : ∀ (p : Program) (e : Env) (s : State) (m : MethodId) (args : Array Value) (below : List Frame) (meth : Method) (c : Code) (Q : State → Prop) (G0 : Int32 × Mem → Prop) (ls : Array Slot), G0 out → p.tables.exec = Jvm.exec → c.code = cc → c.maxLocals = maxL → s.vm.findClass y.cls = some m.cls → Tb args s → va_K x.1 vwCl (tysx x) s → Stc x s s.heap → va_P x.1 vwCl (wld x M) s.heap → va_S (A0 x) s.heap s.heap [] → lv_has ls maxL (lv_args 0 av) →
      (∀ {v : Int32} {M1 : Mem} {H : Heap} {locs : List Loc} {ls : Array Slot} {pc : Nat}, decode cc pc = .ok (.ireturn, 1) → G0 (v, M1) → va_P x.1 vwCl (wld x M1) H → va_S (A0 x) s.heap H locs → W p l e rm s m args below meth c H locs 0 0 Q (F0 m pc ls [.int v])) →
      W p l e rm s m args below meth c s.heap [] 0 0 Q (F0 m 0 ls [])) : Ci l x y (Cond.code y cc maxL ret :: tb) rm av M out := by
  subst hret0
  refine Met.ofW (cc := cc) (maxL := maxL) (ret := some .int) hy hw ?_
  intro p e s m args below meth c s₁ B hml hv
  obtain ⟨rfl, hP, hK, hZ, hN⟩ := hv
  have hts := atoms_spec (ws := Cond.code y cc maxL (some .int) :: tb) B.pre
  have hlocks := B.notSynchronized
  have hr := B.returns
  rw [lg_entry_eq]
  refine body p e s m _ below meth c _ (fun o => o = out) _ rfl B.exec B.bytes hml (findClass_of_methodNamed B.named) ⟨fun w hw => hts w (List.mem_cons_of_mem _ hw), hN⟩ hK hZ hP va_S.rf (lv_entry av hn) ?_
  intro v M1 H locs ls pc hd hg hP1 hS1
  exact W.iret B.exec B.bytes hr (fun t ht _ => ⟨⟨v, M1, rfl, hg, by show va_P x.1 vwCl (wld x M1) t.heap; rw [ht]; exact hP1⟩, hS1.F ht⟩) hS1.2.2 hd
theorem ofCz {out : Int32 × Mem} (hy : plainName y.cls = true) (hw : (Cond.code y cc maxL ret :: tb) = Cond.code y cc maxL ret :: ws') (hret0 : ret = some .boolean) (hn : (lg_sl av).length ≤ maxL)
    (body : ∀ (p : Program) (e : Env) (s : State) (m : MethodId) (args : Array Value) (below : List Frame) (meth : Method) (c : Code) (Q : State → Prop) (G0 : Int32 × Mem → Prop) (ls : Array Slot), G0 out → p.tables.exec = Jvm.exec → c.code = cc → c.maxLocals = maxL → s.vm.findClass y.cls = some m.cls → Tb args s → va_K x.1 vwCl (tysx x) s → Stc x s s.heap → va_P x.1 vwCl (wld x M) s.heap → va_S (A0 x) s.heap s.heap [] → lv_has ls maxL (lv_args 0 av) →
      (∀ {v : Int32} {M1 : Mem} {H : Heap} {locs : List Loc} {ls : Array Slot} {pc : Nat}, (v = 0 ∨ v = 1) → decode cc pc = .ok (.ireturn, 1) → G0 (v, M1) → va_P x.1 vwCl (wld x M1) H → va_S (A0 x) s.heap H locs → W p l e rm s m args below meth c H locs 0 0 Q (F0 m pc ls [.int v])) →
      W p l e rm s m args below meth c s.heap [] 0 0 Q (F0 m 0 ls [])) : Ci l x y (Cond.code y cc maxL ret :: tb) rm av M out := by
  subst hret0
  refine Met.ofW (cc := cc) (maxL := maxL) (ret := some .boolean) hy hw ?_
  intro p e s m args below meth c s₁ B hml hv
  obtain ⟨rfl, hP, hK, hZ, hN⟩ := hv
  have hts := atoms_spec (ws := Cond.code y cc maxL (some .boolean) :: tb) B.pre
  have hlocks := B.notSynchronized
  have hr := B.returns
  rw [lg_entry_eq]
  refine body p e s m _ below meth c _ (fun o => o = out) _ rfl B.exec B.bytes hml (findClass_of_methodNamed B.named) ⟨fun w hw => hts w (List.mem_cons_of_mem _ hw), hN⟩ hK hZ hP va_S.rf (lv_entry av hn) ?_
  intro v M1 H locs ls pc hv hd hg hP1 hS1
  exact W.zret (ty := .boolean) B.exec B.bytes hr (by rcases hv with rfl | rfl <;> rfl) (fun t ht _ => ⟨⟨v, M1, rfl, hg, by show va_P x.1 vwCl (wld x M1) t.heap; rw [ht]; exact hP1⟩, hS1.F ht⟩) hS1.2.2 hd
theorem ofCv {out : Mem} (hy : plainName y.cls = true) (hw : (Cond.code y cc maxL ret :: tb) = Cond.code y cc maxL ret :: ws') (hret0 : ret = none) (hn : (lg_sl av).length ≤ maxL)
    (body : ∀ (p : Program) (e : Env) (s : State) (m : MethodId) (args : Array Value) (below : List Frame) (meth : Method) (c : Code) (Q : State → Prop) (G0 : Mem → Prop) (ls : Array Slot), G0 out → p.tables.exec = Jvm.exec → c.code = cc → c.maxLocals = maxL → s.vm.findClass y.cls = some m.cls → Tb args s → va_K x.1 vwCl (tysx x) s → Stc x s s.heap → va_P x.1 vwCl (wld x M) s.heap → va_S (A0 x) s.heap s.heap [] → lv_has ls maxL (lv_args 0 av) →
      (∀ {M1 : Mem} {H : Heap} {locs : List Loc} {ls : Array Slot} {pc : Nat}, decode cc pc = .ok (.return_, 1) → G0 M1 → va_P x.1 vwCl (wld x M1) H → va_S (A0 x) s.heap H locs → W p l e rm s m args below meth c H locs 0 0 Q (F0 m pc ls [])) →
      W p l e rm s m args below meth c s.heap [] 0 0 Q (F0 m 0 ls [])) : Cv l x y (Cond.code y cc maxL ret :: tb) rm av M out := by
  subst hret0
  refine Met.ofW (cc := cc) (maxL := maxL) (ret := none) hy hw ?_
  intro p e s m args below meth c s₁ B hml hv
  obtain ⟨rfl, hP, hK, hZ, hN⟩ := hv
  have hts := atoms_spec (ws := Cond.code y cc maxL none :: tb) B.pre
  have hlocks := B.notSynchronized
  have hr := B.returns
  rw [lg_entry_eq]
  refine body p e s m _ below meth c _ (fun o => o = out) _ rfl B.exec B.bytes hml (findClass_of_methodNamed B.named) ⟨fun w hw => hts w (List.mem_cons_of_mem _ hw), hN⟩ hK hZ hP va_S.rf (lv_entry av hn) ?_
  intro M1 H locs ls pc hd hg hP1 hS1
  exact W.vret B.exec B.bytes hr (fun t ht _ => ⟨⟨M1, rfl, hg, by show va_P x.1 vwCl (wld x M1) t.heap; rw [ht]; exact hP1⟩, hS1.F ht⟩) hS1.2.2 hd
theorem ofCq {out : Option Nat × Mem} {cn : String} (hy : plainName y.cls = true) (hw : (Cond.code y cc maxL ret :: tb) = Cond.code y cc maxL ret :: ws') (hret0 : ret = some (.object cn)) (hn : (lg_sl av).length ≤ maxL)
    (body : ∀ (p : Program) (e : Env) (s : State) (m : MethodId) (args : Array Value) (below : List Frame) (meth : Method) (c : Code) (Q : State → Prop) (G0 : Option Nat × Mem → Prop) (ls : Array Slot), G0 out → p.tables.exec = Jvm.exec → c.code = cc → c.maxLocals = maxL → s.vm.findClass y.cls = some m.cls → Tb args s → va_K x.1 vwCl (tysx x) s → Stc x s s.heap → va_P x.1 vwCl (wld x M) s.heap → va_S (A0 x) s.heap s.heap [] → lv_has ls maxL (lv_args 0 av) →
      (∀ {r : Option Nat} {M1 : Mem} {H : Heap} {locs : List Loc} {ls : Array Slot} {pc : Nat}, decode cc pc = .ok (.areturn, 1) → G0 (r, M1) → va_P x.1 vwCl (wld x M1) H → va_S (A0 x) s.heap H locs → W p l e rm s m args below meth c H locs 0 0 Q (F0 m pc ls [va_rf (r.map x.2.1)])) →
      W p l e rm s m args below meth c s.heap [] 0 0 Q (F0 m 0 ls [])) : Cq l x y (Cond.code y cc maxL ret :: tb) rm av M out := by
  subst hret0
  refine Met.ofW (cc := cc) (maxL := maxL) (ret := some (.object cn)) hy hw ?_
  intro p e s m args below meth c s₁ B hml hv
  obtain ⟨rfl, hP, hK, hZ, hN⟩ := hv
  have hts := atoms_spec (ws := Cond.code y cc maxL (some (.object cn)) :: tb) B.pre
  have hlocks := B.notSynchronized
  have hr := B.returns
  rw [lg_entry_eq]
  refine body p e s m _ below meth c _ (fun o => o = out) _ rfl B.exec B.bytes hml (findClass_of_methodNamed B.named) ⟨fun w hw => hts w (List.mem_cons_of_mem _ hw), hN⟩ hK hZ hP va_S.rf (lv_entry av hn) ?_
  intro r M1 H locs ls pc hd hg hP1 hS1
  exact W.aret B.exec B.bytes hr (Or.inl ⟨cn, rfl⟩) (va_rf_or _) (fun t ht _ => ⟨⟨r.map x.2.1, M1, rfl, ⟨by rw [← hg], by rw [← hg]⟩, by show va_P x.1 vwCl (wld x M1) t.heap; rw [ht]; exact hP1⟩, hS1.F ht⟩) hS1.2.2 hd
end OF
section ROWS
variable {p : Program} {l : Launch} {e : Env} {R : Room} {s : State} {m : MethodId} {args : Array Value} {below : List Frame} {meth : Method} {c : Code} {H H0 : Heap} {locs : List Loc} {cells slots : Nat} {Q : State → Prop}
variable {cc : ByteArray} {pc : Nat} {ls : Array Slot} {rest : List Value} {x : Cx} {M M1 : Mem} {j : Nat}
theorem tp_i {v w : Int32} (h : w = v) (k : W p l e R s m args below meth c H locs cells slots Q (F0 m pc ls (.int w :: rest))) : W p l e R s m args below meth c H locs cells slots Q (F0 m pc ls (.int v :: rest)) := h ▸ k
theorem tp_r {v w : Nat} (h : w = v) (k : W p l e R s m args below meth c H locs cells slots Q (F0 m pc ls (.ref (x.2.1 w) :: rest))) : W p l e R s m args below meth c H locs cells slots Q (F0 m pc ls (.ref (x.2.1 v) :: rest)) := h ▸ k
theorem sw_in (hexec : p.tables.exec = Jvm.exec) (hb : c.code = cc) {dflt lo hi : Int} {offs : Array Int} {len : Nat} {z k : Int32} {off : Int} {tgt : Nat} (hz : z = k) (hdg : decode cc pc = .ok (.tableswitch dflt lo hi offs, len)) (h1 : ¬ k.toInt < lo) (h2 : ¬ hi < k.toInt) (ho : offs[(k.toInt - lo).toNat]? = some off) (ht : (pc : Int) + off = (tgt : Int))
    (kk : W p l e R s m args below meth c H locs cells slots Q (F0 m tgt ls rest)) : W p l e R s m args below meth c H locs cells slots Q (F0 m pc ls (.int z :: rest)) := by
  subst hz
  exact lv_tableIn hexec hb hdg h1 h2 ho ht kk
theorem m_get (hexec : p.tables.exec = Jvm.exec) (hb : c.code = cc) {own ref C : String} {T : u_T} {N ci index : Nat} (hts : Tb args s) (hin : ∀ w ∈ u_ws C T N, w ∈ tb) (hown : s.vm.findClass own = some m.cls) (hK : va_K x.1 vwCl (tysx x) s) (hP : va_P x.1 vwCl (wld x M) H) (hj : j < 154) {fs : List Value} (he : lay x j (M j) = .inr (ci, fs)) (hc : vwCl[ci]? = some (C, T, N)) (k : Nat) (hk : k < N) (hlink : Cond.fieldLink own index ref (T k).2.1 (T k).2.2.1 ∈ tb) (href : ref = (T k).1) {v : Value} (hv : fs[k]? = some v) (hdg : decode cc pc = .ok (.getfield index, 3))
    (kk : W p l e R s m args below meth c H locs cells slots Q (F0 m (pc + 3) ls (v :: rest))) : W p l e R s m args below meth c H locs cells slots Q (F0 m pc ls (.ref (x.2.1 j) :: rest)) :=
  va_get (D := x.1) hexec hb hts.1 hin hown hK hP j (wld_at hj he) hc k hk (hts.1 _ hlink) (fun z h => by rw [href]; exact h) hv hdg kk
theorem m_getN (hexec : p.tables.exec = Jvm.exec) (hb : c.code = cc) {own ref C host : String} {T : u_T} {N ci index : Nat} (hts : Tb args s) (hin : ∀ w ∈ u_ws C T N, w ∈ tb) (hown : s.vm.findClass own = some m.cls) (hK : va_K x.1 vwCl (tysx x) s) (hP : va_P x.1 vwCl (wld x M) H) (hj : j < 154) {fs : List Value} (he : lay x j (M j) = .inr (ci, fs)) (hc : vwCl[ci]? = some (C, T, N)) (k : Nat) (hk : k < N) (hlink : Cond.fieldLinkNest own index ref (T k).2.1 (T k).2.2.1 host ∈ nb) (href : ref = (T k).1) {v : Value} (hv : fs[k]? = some v) (hdg : decode cc pc = .ok (.getfield index, 3))
    (kk : W p l e R s m args below meth c H locs cells slots Q (F0 m (pc + 3) ls (v :: rest))) : W p l e R s m args below meth c H locs cells slots Q (F0 m pc ls (.ref (x.2.1 j) :: rest)) :=
  va_getN (D := x.1) hexec hb hts.1 hin hown hK hP j (wld_at hj he) hc k hk ((hts.2 _ hlink).use rfl) (fun z h => by rw [href]; exact h) hv hdg kk
theorem m_back {k : Nat} {v : Int32} {e0 : va_E} {H1 : Heap} (hj : j < 154) (hset : e0 = lay x j (upd (M j) k v)) (hM : M1 = st M j k v) (h : va_P x.1 vwCl ((wld x M).set j (x.2.1 j, e0)) H1) : va_P x.1 vwCl (wld x M1) H1 := by
  subst hM
  unfold wld at h ⊢
  rw [mw_set hj hset] at h
  exact h
theorem m_put (hexec : p.tables.exec = Jvm.exec) (hb : c.code = cc) {own ref C : String} {T : u_T} {N ci index : Nat} (hts : Tb args s) (hin : ∀ w ∈ u_ws C T N, w ∈ tb) (ty0 : Nat → FieldType) (hty : ∀ k, k < N → parseFieldDescriptor (T k).2.2.1 = some (ty0 k)) (hnm : ∀ a, a < N → ∀ b, b < N → a ≠ b → (T a).2.1 ≠ (T b).2.1) (hown : s.vm.findClass own = some m.cls) (hK : va_K x.1 vwCl (tysx x) s) (hJ : Inj x) (hP : va_P x.1 vwCl (wld x M) H) (hS : va_S (A0 x) H0 H locs) (hj : j < 154) {fs : List Value} (he : lay x j (M j) = .inr (ci, fs)) (hc : vwCl[ci]? = some (C, T, N)) (k : Nat) (hk : k < N) (hlink : Cond.fieldLink own index ref (T k).2.1 (T k).2.2.1 ∈ tb) (href : ref = (T k).1) (hfin : (T k).2.2.2 = false) {v : Int32} (hd : parseFieldDescriptor (T k).2.2.1 = some .int) (hl : k < fs.length) (hset : .inr (ci, fs.set k (.int v)) = lay x j (upd (M j) k v)) (hM : M1 = st M j k v) (hdg : decode cc pc = .ok (.putfield index, 3))
    (kk : ∀ (H1 : Heap) (locs1 : List Loc), va_P x.1 vwCl (wld x M1) H1 → va_S (A0 x) H0 H1 locs1 → W p l e R s m args below meth c H1 locs1 cells slots Q (F0 m (pc + 3) ls rest)) : W p l e R s m args below meth c H locs cells slots Q (F0 m pc ls (.int v :: .ref (x.2.1 j) :: rest)) :=
  va_put (D := x.1) hexec hb hts.1 hin ty0 hty hnm hown hK hP (wld_D hJ) hS j (wld_at hj he) hc k hk (hts.1 _ hlink) (fun z h => by rw [href]; exact h) hfin hd (vp_nar_int v) rfl hl hdg (fun H1 locs1 h1 _ h3 => kk H1 locs1 (m_back hj hset hM h1) h3)
theorem m_putN (hexec : p.tables.exec = Jvm.exec) (hb : c.code = cc) {own ref C host : String} {T : u_T} {N ci index : Nat} (hts : Tb args s) (hin : ∀ w ∈ u_ws C T N, w ∈ tb) (ty0 : Nat → FieldType) (hty : ∀ k, k < N → parseFieldDescriptor (T k).2.2.1 = some (ty0 k)) (hnm : ∀ a, a < N → ∀ b, b < N → a ≠ b → (T a).2.1 ≠ (T b).2.1) (hown : s.vm.findClass own = some m.cls) (hK : va_K x.1 vwCl (tysx x) s) (hJ : Inj x) (hP : va_P x.1 vwCl (wld x M) H) (hS : va_S (A0 x) H0 H locs) (hj : j < 154) {fs : List Value} (he : lay x j (M j) = .inr (ci, fs)) (hc : vwCl[ci]? = some (C, T, N)) (k : Nat) (hk : k < N) (hlink : Cond.fieldLinkNest own index ref (T k).2.1 (T k).2.2.1 host ∈ nb) (href : ref = (T k).1) (hfin : (T k).2.2.2 = false) {v : Int32} (hd : parseFieldDescriptor (T k).2.2.1 = some .int) (hl : k < fs.length) (hset : .inr (ci, fs.set k (.int v)) = lay x j (upd (M j) k v)) (hM : M1 = st M j k v) (hdg : decode cc pc = .ok (.putfield index, 3))
    (kk : ∀ (H1 : Heap) (locs1 : List Loc), va_P x.1 vwCl (wld x M1) H1 → va_S (A0 x) H0 H1 locs1 → W p l e R s m args below meth c H1 locs1 cells slots Q (F0 m (pc + 3) ls rest)) : W p l e R s m args below meth c H locs cells slots Q (F0 m pc ls (.int v :: .ref (x.2.1 j) :: rest)) :=
  va_putN (D := x.1) hexec hb hts.1 hin ty0 hty hnm hown hK hP (wld_D hJ) hS j (wld_at hj he) hc k hk ((hts.2 _ hlink).use rfl) (fun z h => by rw [href]; exact h) hfin hd (vp_nar_int v) rfl hl hdg (fun H1 locs1 h1 _ h3 => kk H1 locs1 (m_back hj hset hM h1) h3)
theorem m_ald (hexec : p.tables.exec = Jvm.exec) (hb : c.code = cc) (hK : va_K x.1 vwCl (tysx x) s) (hP : va_P x.1 vwCl (wld x M) H) {n : Nat} (ha : AR x j n) {i : Int32} (hin : vp_in i n) (hdg : decode cc pc = .ok (.iaload, 1))
    (kk : W p l e R s m args below meth c H locs cells slots Q (F0 m (pc + 1) ls (.int (M j i.toNatClampNeg) :: rest))) : W p l e R s m args below meth c H locs cells slots Q (F0 m pc ls (.int i :: .ref (x.2.1 j) :: rest)) :=
  va_iald (D := x.1) hexec hb hK hP j 0 (wld_at ha.1 (ha.2 _)) rfl hin hdg kk
theorem m_ast (hexec : p.tables.exec = Jvm.exec) (hb : c.code = cc) (hK : va_K x.1 vwCl (tysx x) s) (hJ : Inj x) (hP : va_P x.1 vwCl (wld x M) H) (hS : va_S (A0 x) H0 H locs) {n : Nat} (ha : AR x j n) {i v : Int32} (hin : vp_in i n) (hM : M1 = st M j i.toNatClampNeg v) (hdg : decode cc pc = .ok (.iastore, 1))
    (kk : ∀ (H1 : Heap) (locs1 : List Loc), va_P x.1 vwCl (wld x M1) H1 → va_S (A0 x) H0 H1 locs1 → W p l e R s m args below meth c H1 locs1 cells slots Q (F0 m (pc + 1) ls rest)) : W p l e R s m args below meth c H locs cells slots Q (F0 m pc ls (.int v :: .int i :: .ref (x.2.1 j) :: rest)) :=
  va_iast (D := x.1) hexec hb hK hP (wld_D hJ) hS j 0 (wld_at ha.1 (ha.2 _)) rfl hin hdg (fun H1 locs1 h1 _ h3 => kk H1 locs1 (m_back ha.1 (ha.2 _).symm hM h1) h3)
theorem m_alen (hexec : p.tables.exec = Jvm.exec) (hb : c.code = cc) (hK : va_K x.1 vwCl (tysx x) s) (hP : va_P x.1 vwCl (wld x M) H) {n : Nat} (ha : AR x j n) {v : Int32} (hv : Int32.ofNat n = v) (hdg : decode cc pc = .ok (.arraylength, 1))
    (kk : W p l e R s m args below meth c H locs cells slots Q (F0 m (pc + 1) ls (.int v :: rest))) : W p l e R s m args below meth c H locs cells slots Q (F0 m pc ls (.ref (x.2.1 j) :: rest)) :=
  va_alen (D := x.1) hexec hb hK hP j 0 (wld_at ha.1 (ha.2 _)) (ty := .int) rfl hv hdg kk
theorem m_aaE (hexec : p.tables.exec = Jvm.exec) (hb : c.code = cc) (hK : va_K x.1 vwCl (tysx x) s) (hP : va_P x.1 vwCl (wld x M) H) {i : Int32} (hin : vp_in i 16) (hdg : decode cc pc = .ok (.aaload, 1))
    (kk : W p l e R s m args below meth c H locs cells slots Q (F0 m (pc + 1) ls (.ref (x.2.1 (122 + i.toNatClampNeg)) :: rest))) : W p l e R s m args below meth c H locs cells slots Q (F0 m pc ls (.int i :: .ref (x.2.1 6) :: rest)) :=
  va_aldq (D := x.1) (C := "EdgeCampaign$Entry") hexec hb hK hP 6 1 (wld_at (by decide) rfl) rfl hin hdg kk
theorem m_aaF (hexec : p.tables.exec = Jvm.exec) (hb : c.code = cc) (hK : va_K x.1 vwCl (tysx x) s) (hP : va_P x.1 vwCl (wld x M) H) {i : Int32} (hin : vp_in i 8) (hdg : decode cc pc = .ok (.aaload, 1))
    (kk : W p l e R s m args below meth c H locs cells slots Q (F0 m (pc + 1) ls (.ref (x.2.1 (138 + 2 * i.toNatClampNeg)) :: rest))) : W p l e R s m args below meth c H locs cells slots Q (F0 m pc ls (.int i :: .ref (x.2.1 10) :: rest)) :=
  va_aldq (D := x.1) (C := "EdgeCampaign$Finding") hexec hb hK hP 10 2 (wld_at (by decide) rfl) rfl hin hdg kk
theorem m_pre {av : List Value} (hts : Tb args s) (hK : va_K x.1 vwCl (tysx x) s) (hZ : Stc x s s.heap) (hP : va_P x.1 vwCl (wld x M) H) (hS : va_S (A0 x) s.heap H locs) : ∀ U : State, U.heap = H → s.WarmedH U.vm → va_Pc av (Ok x M) av.toArray U := fun U hU hW => ⟨rfl, by rw [hU]; exact hP, va_K.moved hW.alike hK, by rw [hU]; exact (Stc.moved hW.alike hZ).kept hS.2.1, hts.2.moved hW⟩
variable {st0 : List Value} {a : Array Value}
theorem m_ci {out : Int32 × Mem} (hr : va_Run p l e R s m args below meth c H locs cells slots 0 0 (F0 m pc ls st0) rest (va_Qi (fun r u => (r, u) = out) (fun u t => va_P x.1 vwCl (wld x u) t.heap) (A0 x) a) (A0 x)) (hS : va_S (A0 x) H0 H locs)
    (kk : ∀ (H1 : Heap) (locs1 : List Loc), va_P x.1 vwCl (wld x out.2) H1 → va_S (A0 x) H0 H1 locs1 → W p l e R s m args below meth c H1 locs1 cells slots Q (F0 m (pc + 3) ls (.int out.1 :: rest))) : W p l e R s m args below meth c H locs cells slots Q (F0 m pc ls st0) :=
  va_calli hr hS (fun _ _ h => h) (fun _ h => h) (fun r u t H1 locs1 ht _ hp hB _ _ hS1 => by subst hp; rw [ht] at hB; exact kk H1 locs1 hB hS1)
theorem m_cv {out : Mem} (hr : va_Run p l e R s m args below meth c H locs cells slots 0 0 (F0 m pc ls st0) rest (va_Qv (fun u => u = out) (fun u t => va_P x.1 vwCl (wld x u) t.heap) (A0 x) a) (A0 x)) (hS : va_S (A0 x) H0 H locs)
    (kk : ∀ (H1 : Heap) (locs1 : List Loc), va_P x.1 vwCl (wld x out) H1 → va_S (A0 x) H0 H1 locs1 → W p l e R s m args below meth c H1 locs1 cells slots Q (F0 m (pc + 3) ls rest)) : W p l e R s m args below meth c H locs cells slots Q (F0 m pc ls st0) :=
  va_callv hr hS (fun _ _ h => h) (fun _ h => h) (fun u t H1 locs1 ht _ hp hB _ _ hS1 => by subst hp; rw [ht] at hB; exact kk H1 locs1 hB hS1)
theorem m_cq {out : Option Nat × Mem} (hr : va_Run p l e R s m args below meth c H locs cells slots 0 0 (F0 m pc ls st0) rest (va_Qq (fun r u => r = out.1.map x.2.1 ∧ u = out.2) (fun u t => va_P x.1 vwCl (wld x u) t.heap) (A0 x) a) (A0 x)) (hS : va_S (A0 x) H0 H locs)
    (kk : ∀ (H1 : Heap) (locs1 : List Loc), va_P x.1 vwCl (wld x out.2) H1 → va_S (A0 x) H0 H1 locs1 → W p l e R s m args below meth c H1 locs1 cells slots Q (F0 m (pc + 3) ls (va_rf (out.1.map x.2.1) :: rest))) : W p l e R s m args below meth c H locs cells slots Q (F0 m pc ls st0) :=
  va_callq hr hS (fun _ _ h => h) (fun _ h => h) (fun r u t H1 locs1 ht _ hp hB _ _ hS1 => by obtain ⟨h1, h2⟩ := hp; subst h1; subst h2; rw [ht] at hB; exact kk H1 locs1 hB hS1)
end ROWS
end
section
theorem q_0 : ((.code y_PR_isPlace b_PR_isPlace 1 (some .boolean)) : Cond) ∈ tb := tb_in (List.mem_of_getElem? (i := 378) (by decide +kernel)) (by decide +kernel)
theorem q_1 : ((.methodLink "EdgeCampaign$Program" 31 ⟨"EdgeCampaign$Program", "isPlace", "(I)Z"⟩) : Cond) ∈ tb := tb_in (List.mem_of_getElem? (i := 376) (by decide +kernel)) (by decide +kernel)
theorem q_2 : ((.initialized "EdgeCampaign$Program") : Cond) ∈ tb := tb_in (List.mem_of_getElem? (i := 49) (by decide +kernel)) (by decide +kernel)
theorem q_3 : ((.static ⟨"EdgeCampaign$Program", "isPlace", "(I)Z"⟩) : Cond) ∈ tb := tb_in (List.mem_of_getElem? (i := 377) (by decide +kernel)) (by decide +kernel)
theorem q_4 : ((.code y_PR_isRegister b_PR_isRegister 1 (some .boolean)) : Cond) ∈ tb := tb_in (List.mem_of_getElem? (i := 372) (by decide +kernel)) (by decide +kernel)
theorem q_5 : ((.methodLink "EdgeCampaign$Program" 23 ⟨"EdgeCampaign$Program", "isRegister", "(I)Z"⟩) : Cond) ∈ tb := tb_in (List.mem_of_getElem? (i := 370) (by decide +kernel)) (by decide +kernel)
theorem q_6 : ((.static ⟨"EdgeCampaign$Program", "isRegister", "(I)Z"⟩) : Cond) ∈ tb := tb_in (List.mem_of_getElem? (i := 371) (by decide +kernel)) (by decide +kernel)
theorem q_7 : ((.fieldLink "EdgeCampaign$Program" 19 "EdgeCampaign$Program" "size" "I") : Cond) ∈ tb := tb_in (List.mem_of_getElem? (i := 82) (by decide +kernel)) (by decide +kernel)
theorem q_8 : ((.code y_PR_fits b_PR_fits 2 (some .boolean)) : Cond) ∈ tb := tb_in (List.mem_of_getElem? (i := 375) (by decide +kernel)) (by decide +kernel)
theorem q_9 : ((.methodLink "EdgeCampaign$Program" 27 ⟨"EdgeCampaign$Program", "fits", "(II)Z"⟩) : Cond) ∈ tb := tb_in (List.mem_of_getElem? (i := 373) (by decide +kernel)) (by decide +kernel)
theorem q_10 : ((.static ⟨"EdgeCampaign$Program", "fits", "(II)Z"⟩) : Cond) ∈ tb := tb_in (List.mem_of_getElem? (i := 374) (by decide +kernel)) (by decide +kernel)
theorem q_11 : ((.fieldLink "EdgeCampaign$Program" 9 "EdgeCampaign$Program" "ops" "[I") : Cond) ∈ tb := tb_in (List.mem_of_getElem? (i := 76) (by decide +kernel)) (by decide +kernel)
theorem q_12 : ((.fieldLink "EdgeCampaign$Program" 13 "EdgeCampaign$Program" "as" "[I") : Cond) ∈ tb := tb_in (List.mem_of_getElem? (i := 78) (by decide +kernel)) (by decide +kernel)
theorem q_13 : ((.fieldLink "EdgeCampaign$Program" 16 "EdgeCampaign$Program" "bs" "[I") : Cond) ∈ tb := tb_in (List.mem_of_getElem? (i := 80) (by decide +kernel)) (by decide +kernel)
theorem q_14 : ((.fieldLink "EdgeCampaign" 70 "EdgeCampaign" "executions" "I") : Cond) ∈ tb := tb_in (List.mem_of_getElem? (i := 334) (by decide +kernel)) (by decide +kernel)
theorem q_15 : ((.fieldLink "EdgeCampaign" 10 "EdgeCampaign" "program" "LEdgeCampaign$Program;") : Cond) ∈ tb := tb_in (List.mem_of_getElem? (i := 325) (by decide +kernel)) (by decide +kernel)
theorem q_16 : ((.code y_PR_append b_PR_append 4 (some .boolean)) : Cond) ∈ tb := tb_in (List.mem_of_getElem? (i := 369) (by decide +kernel)) (by decide +kernel)
theorem q_17 : ((.methodLink "EdgeCampaign" 80 ⟨"EdgeCampaign$Program", "append", "(III)Z"⟩) : Cond) ∈ tb := tb_in (List.mem_of_getElem? (i := 366) (by decide +kernel)) (by decide +kernel)
theorem q_18 : ((.instanceMethod ⟨"EdgeCampaign$Program", "append", "(III)Z"⟩) : Cond) ∈ tb := tb_in (List.mem_of_getElem? (i := 367) (by decide +kernel)) (by decide +kernel)
theorem q_19 : ((.selects "EdgeCampaign$Program" ⟨"EdgeCampaign$Program", "append", "(III)Z"⟩ ⟨"EdgeCampaign$Program", "append", "(III)Z"⟩) : Cond) ∈ tb := tb_in (List.mem_of_getElem? (i := 368) (by decide +kernel)) (by decide +kernel)
theorem q_20 : ((.fieldLink "EdgeCampaign$Input" 15 "EdgeCampaign$Input" "size" "I") : Cond) ∈ tb := tb_in (List.mem_of_getElem? (i := 100) (by decide +kernel)) (by decide +kernel)
theorem q_21 : ((.fieldLink "EdgeCampaign$Input" 11 "EdgeCampaign$Input" "bytes" "[I") : Cond) ∈ tb := tb_in (List.mem_of_getElem? (i := 99) (by decide +kernel)) (by decide +kernel)
theorem q_22 : ((.fieldLink "EdgeCampaign" 19 "EdgeCampaign" "draft" "LEdgeCampaign$Input;") : Cond) ∈ tb := tb_in (List.mem_of_getElem? (i := 326) (by decide +kernel)) (by decide +kernel)
theorem q_23 : ((.code y_IN_append b_IN_append 2 (some .boolean)) : Cond) ∈ tb := tb_in (List.mem_of_getElem? (i := 386) (by decide +kernel)) (by decide +kernel)
theorem q_24 : ((.methodLink "EdgeCampaign" 84 ⟨"EdgeCampaign$Input", "append", "(I)Z"⟩) : Cond) ∈ tb := tb_in (List.mem_of_getElem? (i := 383) (by decide +kernel)) (by decide +kernel)
theorem q_25 : ((.initialized "EdgeCampaign$Input") : Cond) ∈ tb := tb_in (List.mem_of_getElem? (i := 50) (by decide +kernel)) (by decide +kernel)
theorem q_26 : ((.instanceMethod ⟨"EdgeCampaign$Input", "append", "(I)Z"⟩) : Cond) ∈ tb := tb_in (List.mem_of_getElem? (i := 384) (by decide +kernel)) (by decide +kernel)
theorem q_27 : ((.selects "EdgeCampaign$Input" ⟨"EdgeCampaign$Input", "append", "(I)Z"⟩ ⟨"EdgeCampaign$Input", "append", "(I)Z"⟩) : Cond) ∈ tb := tb_in (List.mem_of_getElem? (i := 385) (by decide +kernel)) (by decide +kernel)
theorem q_28 : ((.fieldLink "EdgeCampaign$Run" 11 "EdgeCampaign$Run" "registers" "[I") : Cond) ∈ tb := tb_in (List.mem_of_getElem? (i := 117) (by decide +kernel)) (by decide +kernel)
theorem q_29 : ((.code y_JA_fill b_JA_fill 4 none) : Cond) ∈ tb := tb_in (List.mem_of_getElem? (i := 405) (by decide +kernel)) (by decide +kernel)
theorem q_30 : ((.methodLink "EdgeCampaign$Run" 53 ⟨"java/util/Arrays", "fill", "([II)V"⟩) : Cond) ∈ tb := tb_in (List.mem_of_getElem? (i := 403) (by decide +kernel)) (by decide +kernel)
theorem q_31 : ((.initialized "java/util/Arrays") : Cond) ∈ tb := tb_in (List.mem_of_getElem? (i := 60) (by decide +kernel)) (by decide +kernel)
theorem q_32 : ((.static ⟨"java/util/Arrays", "fill", "([II)V"⟩) : Cond) ∈ tb := tb_in (List.mem_of_getElem? (i := 404) (by decide +kernel)) (by decide +kernel)
theorem q_33 : ((.fieldLink "EdgeCampaign$Run" 17 "EdgeCampaign$Run" "memory" "[I") : Cond) ∈ tb := tb_in (List.mem_of_getElem? (i := 118) (by decide +kernel)) (by decide +kernel)
theorem q_34 : ((.fieldLink "EdgeCampaign$Run" 50 "EdgeCampaign$Run" "edgeCount" "I") : Cond) ∈ tb := tb_in (List.mem_of_getElem? (i := 124) (by decide +kernel)) (by decide +kernel)
theorem q_35 : ((.fieldLink "EdgeCampaign$Run" 47 "EdgeCampaign$Run" "depth" "I") : Cond) ∈ tb := tb_in (List.mem_of_getElem? (i := 126) (by decide +kernel)) (by decide +kernel)
theorem q_36 : ((.fieldLink "EdgeCampaign$Run" 36 "EdgeCampaign$Run" "pc" "I") : Cond) ∈ tb := tb_in (List.mem_of_getElem? (i := 127) (by decide +kernel)) (by decide +kernel)
theorem q_37 : ((.fieldLink "EdgeCampaign$Run" 59 "EdgeCampaign$Run" "here" "I") : Cond) ∈ tb := tb_in (List.mem_of_getElem? (i := 129) (by decide +kernel)) (by decide +kernel)
theorem q_38 : ((.fieldLink "EdgeCampaign$Run" 62 "EdgeCampaign$Run" "steps" "I") : Cond) ∈ tb := tb_in (List.mem_of_getElem? (i := 131) (by decide +kernel)) (by decide +kernel)
theorem q_39 : ((.fieldLink "EdgeCampaign$Run" 32 "EdgeCampaign$Run" "outcome" "I") : Cond) ∈ tb := tb_in (List.mem_of_getElem? (i := 132) (by decide +kernel)) (by decide +kernel)
theorem q_40 : ((.fieldLink "EdgeCampaign$Run" 23 "EdgeCampaign$Run" "times" "[I") : Cond) ∈ tb := tb_in (List.mem_of_getElem? (i := 120) (by decide +kernel)) (by decide +kernel)
theorem q_41 : ((.fieldLink "EdgeCampaign$Run" 26 "EdgeCampaign$Run" "edges" "[I") : Cond) ∈ tb := tb_in (List.mem_of_getElem? (i := 121) (by decide +kernel)) (by decide +kernel)
theorem q_42 : ((.fieldLink "EdgeCampaign$Run" 20 "EdgeCampaign$Run" "stack" "[I") : Cond) ∈ tb := tb_in (List.mem_of_getElem? (i := 119) (by decide +kernel)) (by decide +kernel)
theorem q_43 : ((.code y_PR_isJump b_PR_isJump 1 (some .boolean)) : Cond) ∈ tb := tb_in (List.mem_of_getElem? (i := 440) (by decide +kernel)) (by decide +kernel)
theorem q_44 : ((.methodLink "EdgeCampaign$Run" 100 ⟨"EdgeCampaign$Program", "isJump", "(I)Z"⟩) : Cond) ∈ tb := tb_in (List.mem_of_getElem? (i := 438) (by decide +kernel)) (by decide +kernel)
theorem q_45 : ((.static ⟨"EdgeCampaign$Program", "isJump", "(I)Z"⟩) : Cond) ∈ tb := tb_in (List.mem_of_getElem? (i := 439) (by decide +kernel)) (by decide +kernel)
theorem q_46 : ((.code y_PR_has b_PR_has 2 (some .boolean)) : Cond) ∈ tb := tb_in (List.mem_of_getElem? (i := 409) (by decide +kernel)) (by decide +kernel)
theorem q_47 : ((.methodLink "EdgeCampaign$Run" 39 ⟨"EdgeCampaign$Program", "has", "(I)Z"⟩) : Cond) ∈ tb := tb_in (List.mem_of_getElem? (i := 406) (by decide +kernel)) (by decide +kernel)
theorem q_48 : ((.instanceMethod ⟨"EdgeCampaign$Program", "has", "(I)Z"⟩) : Cond) ∈ tb := tb_in (List.mem_of_getElem? (i := 407) (by decide +kernel)) (by decide +kernel)
theorem q_49 : ((.selects "EdgeCampaign$Program" ⟨"EdgeCampaign$Program", "has", "(I)Z"⟩ ⟨"EdgeCampaign$Program", "has", "(I)Z"⟩) : Cond) ∈ tb := tb_in (List.mem_of_getElem? (i := 408) (by decide +kernel)) (by decide +kernel)
theorem q_50 : ((.code y_RU_goAlong b_RU_goAlong 2 none) : Cond) ∈ tb := tb_in (List.mem_of_getElem? (i := 444) (by decide +kernel)) (by decide +kernel)
theorem q_51 : ((.methodLink "EdgeCampaign$Run" 103 ⟨"EdgeCampaign$Run", "goAlong", "(I)V"⟩) : Cond) ∈ tb := tb_in (List.mem_of_getElem? (i := 441) (by decide +kernel)) (by decide +kernel)
theorem q_52 : ((.initialized "EdgeCampaign$Run") : Cond) ∈ tb := tb_in (List.mem_of_getElem? (i := 51) (by decide +kernel)) (by decide +kernel)
theorem q_53 : ((.instanceMethod ⟨"EdgeCampaign$Run", "goAlong", "(I)V"⟩) : Cond) ∈ tb := tb_in (List.mem_of_getElem? (i := 443) (by decide +kernel)) (by decide +kernel)
theorem q_54 : ((.selects "EdgeCampaign$Run" ⟨"EdgeCampaign$Run", "goAlong", "(I)V"⟩ ⟨"EdgeCampaign$Run", "goAlong", "(I)V"⟩) : Cond) ∈ tb := tb_in (List.mem_of_getElem? (i := 8) (by decide +kernel)) (by decide +kernel)
theorem q_55 : ((.code y_IN_at b_IN_at 2 (some .int)) : Cond) ∈ tb := tb_in (List.mem_of_getElem? (i := 417) (by decide +kernel)) (by decide +kernel)
theorem q_56 : ((.methodLink "EdgeCampaign$Run" 74 ⟨"EdgeCampaign$Input", "at", "(I)I"⟩) : Cond) ∈ tb := tb_in (List.mem_of_getElem? (i := 414) (by decide +kernel)) (by decide +kernel)
theorem q_57 : ((.instanceMethod ⟨"EdgeCampaign$Input", "at", "(I)I"⟩) : Cond) ∈ tb := tb_in (List.mem_of_getElem? (i := 415) (by decide +kernel)) (by decide +kernel)
theorem q_58 : ((.selects "EdgeCampaign$Input" ⟨"EdgeCampaign$Input", "at", "(I)I"⟩ ⟨"EdgeCampaign$Input", "at", "(I)I"⟩) : Cond) ∈ tb := tb_in (List.mem_of_getElem? (i := 416) (by decide +kernel)) (by decide +kernel)
theorem q_59 : ((.code y_RU_goInto b_RU_goInto 2 none) : Cond) ∈ tb := tb_in (List.mem_of_getElem? (i := 421) (by decide +kernel)) (by decide +kernel)
theorem q_60 : ((.methodLink "EdgeCampaign$Run" 80 ⟨"EdgeCampaign$Run", "goInto", "(I)V"⟩) : Cond) ∈ tb := tb_in (List.mem_of_getElem? (i := 418) (by decide +kernel)) (by decide +kernel)
theorem q_61 : ((.instanceMethod ⟨"EdgeCampaign$Run", "goInto", "(I)V"⟩) : Cond) ∈ tb := tb_in (List.mem_of_getElem? (i := 420) (by decide +kernel)) (by decide +kernel)
theorem q_62 : ((.selects "EdgeCampaign$Run" ⟨"EdgeCampaign$Run", "goInto", "(I)V"⟩ ⟨"EdgeCampaign$Run", "goInto", "(I)V"⟩) : Cond) ∈ tb := tb_in (List.mem_of_getElem? (i := 3) (by decide +kernel)) (by decide +kernel)
theorem q_63 : ((.code y_RU_goBack b_RU_goBack 1 none) : Cond) ∈ tb := tb_in (List.mem_of_getElem? (i := 425) (by decide +kernel)) (by decide +kernel)
theorem q_64 : ((.methodLink "EdgeCampaign$Run" 84 ⟨"EdgeCampaign$Run", "goBack", "()V"⟩) : Cond) ∈ tb := tb_in (List.mem_of_getElem? (i := 422) (by decide +kernel)) (by decide +kernel)
theorem q_65 : ((.instanceMethod ⟨"EdgeCampaign$Run", "goBack", "()V"⟩) : Cond) ∈ tb := tb_in (List.mem_of_getElem? (i := 424) (by decide +kernel)) (by decide +kernel)
theorem q_66 : ((.selects "EdgeCampaign$Run" ⟨"EdgeCampaign$Run", "goBack", "()V"⟩ ⟨"EdgeCampaign$Run", "goBack", "()V"⟩) : Cond) ∈ tb := tb_in (List.mem_of_getElem? (i := 4) (by decide +kernel)) (by decide +kernel)
theorem q_67 : ((.code y_RU_divide b_RU_divide 3 none) : Cond) ∈ tb := tb_in (List.mem_of_getElem? (i := 429) (by decide +kernel)) (by decide +kernel)
theorem q_68 : ((.methodLink "EdgeCampaign$Run" 87 ⟨"EdgeCampaign$Run", "divide", "(II)V"⟩) : Cond) ∈ tb := tb_in (List.mem_of_getElem? (i := 426) (by decide +kernel)) (by decide +kernel)
theorem q_69 : ((.instanceMethod ⟨"EdgeCampaign$Run", "divide", "(II)V"⟩) : Cond) ∈ tb := tb_in (List.mem_of_getElem? (i := 428) (by decide +kernel)) (by decide +kernel)
theorem q_70 : ((.selects "EdgeCampaign$Run" ⟨"EdgeCampaign$Run", "divide", "(II)V"⟩ ⟨"EdgeCampaign$Run", "divide", "(II)V"⟩) : Cond) ∈ tb := tb_in (List.mem_of_getElem? (i := 5) (by decide +kernel)) (by decide +kernel)
theorem q_71 : ((.code y_RU_load b_RU_load 3 none) : Cond) ∈ tb := tb_in (List.mem_of_getElem? (i := 433) (by decide +kernel)) (by decide +kernel)
theorem q_72 : ((.methodLink "EdgeCampaign$Run" 91 ⟨"EdgeCampaign$Run", "load", "(II)V"⟩) : Cond) ∈ tb := tb_in (List.mem_of_getElem? (i := 430) (by decide +kernel)) (by decide +kernel)
theorem q_73 : ((.instanceMethod ⟨"EdgeCampaign$Run", "load", "(II)V"⟩) : Cond) ∈ tb := tb_in (List.mem_of_getElem? (i := 432) (by decide +kernel)) (by decide +kernel)
theorem q_74 : ((.selects "EdgeCampaign$Run" ⟨"EdgeCampaign$Run", "load", "(II)V"⟩ ⟨"EdgeCampaign$Run", "load", "(II)V"⟩) : Cond) ∈ tb := tb_in (List.mem_of_getElem? (i := 6) (by decide +kernel)) (by decide +kernel)
theorem q_75 : ((.code y_RU_save b_RU_save 3 none) : Cond) ∈ tb := tb_in (List.mem_of_getElem? (i := 437) (by decide +kernel)) (by decide +kernel)
theorem q_76 : ((.methodLink "EdgeCampaign$Run" 94 ⟨"EdgeCampaign$Run", "save", "(II)V"⟩) : Cond) ∈ tb := tb_in (List.mem_of_getElem? (i := 434) (by decide +kernel)) (by decide +kernel)
theorem q_77 : ((.instanceMethod ⟨"EdgeCampaign$Run", "save", "(II)V"⟩) : Cond) ∈ tb := tb_in (List.mem_of_getElem? (i := 436) (by decide +kernel)) (by decide +kernel)
theorem q_78 : ((.selects "EdgeCampaign$Run" ⟨"EdgeCampaign$Run", "save", "(II)V"⟩ ⟨"EdgeCampaign$Run", "save", "(II)V"⟩) : Cond) ∈ tb := tb_in (List.mem_of_getElem? (i := 7) (by decide +kernel)) (by decide +kernel)
theorem q_79 : ((.code y_RU_reset b_RU_reset 2 none) : Cond) ∈ tb := tb_in (List.mem_of_getElem? (i := 402) (by decide +kernel)) (by decide +kernel)
theorem q_80 : ((.methodLink "EdgeCampaign$Run" 29 ⟨"EdgeCampaign$Run", "reset", "()V"⟩) : Cond) ∈ tb := tb_in (List.mem_of_getElem? (i := 399) (by decide +kernel)) (by decide +kernel)
theorem q_81 : ((.instanceMethod ⟨"EdgeCampaign$Run", "reset", "()V"⟩) : Cond) ∈ tb := tb_in (List.mem_of_getElem? (i := 401) (by decide +kernel)) (by decide +kernel)
theorem q_82 : ((.selects "EdgeCampaign$Run" ⟨"EdgeCampaign$Run", "reset", "()V"⟩ ⟨"EdgeCampaign$Run", "reset", "()V"⟩) : Cond) ∈ tb := tb_in (List.mem_of_getElem? (i := 1) (by decide +kernel)) (by decide +kernel)
theorem q_83 : ((.code y_RU_step b_RU_step 6 none) : Cond) ∈ tb := tb_in (List.mem_of_getElem? (i := 413) (by decide +kernel)) (by decide +kernel)
theorem q_84 : ((.methodLink "EdgeCampaign$Run" 43 ⟨"EdgeCampaign$Run", "step", "(LEdgeCampaign$Program;LEdgeCampaign$Input;)V"⟩) : Cond) ∈ tb := tb_in (List.mem_of_getElem? (i := 410) (by decide +kernel)) (by decide +kernel)
theorem q_85 : ((.instanceMethod ⟨"EdgeCampaign$Run", "step", "(LEdgeCampaign$Program;LEdgeCampaign$Input;)V"⟩) : Cond) ∈ tb := tb_in (List.mem_of_getElem? (i := 412) (by decide +kernel)) (by decide +kernel)
theorem q_86 : ((.selects "EdgeCampaign$Run" ⟨"EdgeCampaign$Run", "step", "(LEdgeCampaign$Program;LEdgeCampaign$Input;)V"⟩ ⟨"EdgeCampaign$Run", "step", "(LEdgeCampaign$Program;LEdgeCampaign$Input;)V"⟩) : Cond) ∈ tb := tb_in (List.mem_of_getElem? (i := 2) (by decide +kernel)) (by decide +kernel)
theorem q_87 : ((.fieldLink "EdgeCampaign$Store" 19 "EdgeCampaign$Store" "buckets" "[I") : Cond) ∈ tb := tb_in (List.mem_of_getElem? (i := 197) (by decide +kernel)) (by decide +kernel)
theorem q_88 : ((.code y_RU_pairBit b_RU_pairBit 3 (some .int)) : Cond) ∈ tb := tb_in (List.mem_of_getElem? (i := 452) (by decide +kernel)) (by decide +kernel)
theorem q_89 : ((.methodLink "EdgeCampaign$Store" 42 ⟨"EdgeCampaign$Run", "pairBit", "(I)I"⟩) : Cond) ∈ tb := tb_in (List.mem_of_getElem? (i := 449) (by decide +kernel)) (by decide +kernel)
theorem q_90 : ((.instanceMethod ⟨"EdgeCampaign$Run", "pairBit", "(I)I"⟩) : Cond) ∈ tb := tb_in (List.mem_of_getElem? (i := 450) (by decide +kernel)) (by decide +kernel)
theorem q_91 : ((.selects "EdgeCampaign$Run" ⟨"EdgeCampaign$Run", "pairBit", "(I)I"⟩ ⟨"EdgeCampaign$Run", "pairBit", "(I)I"⟩) : Cond) ∈ tb := tb_in (List.mem_of_getElem? (i := 451) (by decide +kernel)) (by decide +kernel)
theorem q_92 : ((.code y_JM_min b_JM_min 2 (some .int)) : Cond) ∈ tb := tb_in (List.mem_of_getElem? (i := 467) (by decide +kernel)) (by decide +kernel)
theorem q_93 : ((.methodLink "EdgeCampaign$Input" 19 ⟨"java/lang/Math", "min", "(II)I"⟩) : Cond) ∈ tb := tb_in (List.mem_of_getElem? (i := 465) (by decide +kernel)) (by decide +kernel)
theorem q_94 : ((.initialized "java/lang/Math") : Cond) ∈ tb := tb_in (List.mem_of_getElem? (i := 61) (by decide +kernel)) (by decide +kernel)
theorem q_95 : ((.static ⟨"java/lang/Math", "min", "(II)I"⟩) : Cond) ∈ tb := tb_in (List.mem_of_getElem? (i := 466) (by decide +kernel)) (by decide +kernel)
theorem q_96 : ((.methodLink "EdgeCampaign$Input" 25 ⟨"EdgeCampaign$Input", "at", "(I)I"⟩) : Cond) ∈ tb := tb_in (List.mem_of_getElem? (i := 468) (by decide +kernel)) (by decide +kernel)
theorem q_97 : ((.methodLink "EdgeCampaign$Input" 29 ⟨"EdgeCampaign$Input", "append", "(I)Z"⟩) : Cond) ∈ tb := tb_in (List.mem_of_getElem? (i := 469) (by decide +kernel)) (by decide +kernel)
theorem q_98 : ((.code y_IN_appendPart b_IN_appendPart 6 none) : Cond) ∈ tb := tb_in (List.mem_of_getElem? (i := 464) (by decide +kernel)) (by decide +kernel)
theorem q_99 : ((.methodLink "EdgeCampaign$Input" 33 ⟨"EdgeCampaign$Input", "appendPart", "(LEdgeCampaign$Input;II)V"⟩) : Cond) ∈ tb := tb_in (List.mem_of_getElem? (i := 461) (by decide +kernel)) (by decide +kernel)
theorem q_100 : ((.instanceMethod ⟨"EdgeCampaign$Input", "appendPart", "(LEdgeCampaign$Input;II)V"⟩) : Cond) ∈ tb := tb_in (List.mem_of_getElem? (i := 462) (by decide +kernel)) (by decide +kernel)
theorem q_101 : ((.selects "EdgeCampaign$Input" ⟨"EdgeCampaign$Input", "appendPart", "(LEdgeCampaign$Input;II)V"⟩ ⟨"EdgeCampaign$Input", "appendPart", "(LEdgeCampaign$Input;II)V"⟩) : Cond) ∈ tb := tb_in (List.mem_of_getElem? (i := 463) (by decide +kernel)) (by decide +kernel)
theorem q_102 : ((.fieldLink "EdgeCampaign$Store" 23 "EdgeCampaign$Store" "goers" "[I") : Cond) ∈ tb := tb_in (List.mem_of_getElem? (i := 199) (by decide +kernel)) (by decide +kernel)
theorem q_103 : ((.fieldLink "EdgeCampaign$Store" 27 "EdgeCampaign$Store" "size" "I") : Cond) ∈ tb := tb_in (List.mem_of_getElem? (i := 200) (by decide +kernel)) (by decide +kernel)
theorem q_104 : ((.fieldLink "EdgeCampaign$Store" 71 "EdgeCampaign$Store" "seenPairs" "I") : Cond) ∈ tb := tb_in (List.mem_of_getElem? (i := 207) (by decide +kernel)) (by decide +kernel)
theorem q_105 : ((.fieldLink "EdgeCampaign$Store" 68 "EdgeCampaign$Store" "seenEdges" "I") : Cond) ∈ tb := tb_in (List.mem_of_getElem? (i := 205) (by decide +kernel)) (by decide +kernel)
theorem q_106 : ((.fieldLink "EdgeCampaign$Entry" 16 "EdgeCampaign$Entry" "steps" "I") : Cond) ∈ tb := tb_in (List.mem_of_getElem? (i := 177) (by decide +kernel)) (by decide +kernel)
theorem q_107 : ((.fieldLink "EdgeCampaign$Entry" 10 "EdgeCampaign$Entry" "input" "LEdgeCampaign$Input;") : Cond) ∈ tb := tb_in (List.mem_of_getElem? (i := 173) (by decide +kernel)) (by decide +kernel)
theorem q_108 : ((.fieldLink "EdgeCampaign$Store" 13 "EdgeCampaign$Store" "entries" "[LEdgeCampaign$Entry;") : Cond) ∈ tb := tb_in (List.mem_of_getElem? (i := 194) (by decide +kernel)) (by decide +kernel)
theorem q_109 : ((.code y_EN_cost b_EN_cost 1 (some .int)) : Cond) ∈ tb := tb_in (List.mem_of_getElem? (i := 485) (by decide +kernel)) (by decide +kernel)
theorem q_110 : ((.methodLink "EdgeCampaign$Store" 77 ⟨"EdgeCampaign$Entry", "cost", "()I"⟩) : Cond) ∈ tb := tb_in (List.mem_of_getElem? (i := 482) (by decide +kernel)) (by decide +kernel)
theorem q_111 : ((.initialized "EdgeCampaign$Entry") : Cond) ∈ tb := tb_in (List.mem_of_getElem? (i := 53) (by decide +kernel)) (by decide +kernel)
theorem q_112 : ((.instanceMethod ⟨"EdgeCampaign$Entry", "cost", "()I"⟩) : Cond) ∈ tb := tb_in (List.mem_of_getElem? (i := 483) (by decide +kernel)) (by decide +kernel)
theorem q_113 : ((.selects "EdgeCampaign$Entry" ⟨"EdgeCampaign$Entry", "cost", "()I"⟩ ⟨"EdgeCampaign$Entry", "cost", "()I"⟩) : Cond) ∈ tb := tb_in (List.mem_of_getElem? (i := 484) (by decide +kernel)) (by decide +kernel)
theorem q_114 : ((.fieldLink "EdgeCampaign$Store" 31 "EdgeCampaign$Store" "favoured" "I") : Cond) ∈ tb := tb_in (List.mem_of_getElem? (i := 203) (by decide +kernel)) (by decide +kernel)
theorem q_115 : ((.code y_ST_top b_ST_top 5 (some .int)) : Cond) ∈ tb := tb_in (List.mem_of_getElem? (i := 481) (by decide +kernel)) (by decide +kernel)
theorem q_116 : ((.methodLink "EdgeCampaign$Store" 74 ⟨"EdgeCampaign$Store", "top", "(I)I"⟩) : Cond) ∈ tb := tb_in (List.mem_of_getElem? (i := 478) (by decide +kernel)) (by decide +kernel)
theorem q_117 : ((.initialized "EdgeCampaign$Store") : Cond) ∈ tb := tb_in (List.mem_of_getElem? (i := 52) (by decide +kernel)) (by decide +kernel)
theorem q_118 : ((.instanceMethod ⟨"EdgeCampaign$Store", "top", "(I)I"⟩) : Cond) ∈ tb := tb_in (List.mem_of_getElem? (i := 480) (by decide +kernel)) (by decide +kernel)
theorem q_119 : ((.selects "EdgeCampaign$Store" ⟨"EdgeCampaign$Store", "top", "(I)I"⟩ ⟨"EdgeCampaign$Store", "top", "(I)I"⟩) : Cond) ∈ tb := tb_in (List.mem_of_getElem? (i := 11) (by decide +kernel)) (by decide +kernel)
theorem q_120 : ((.code y_ST_chooseFavoured b_ST_chooseFavoured 2 none) : Cond) ∈ tb := tb_in (List.mem_of_getElem? (i := 477) (by decide +kernel)) (by decide +kernel)
theorem q_121 : ((.methodLink "EdgeCampaign$Store" 65 ⟨"EdgeCampaign$Store", "chooseFavoured", "()V"⟩) : Cond) ∈ tb := tb_in (List.mem_of_getElem? (i := 474) (by decide +kernel)) (by decide +kernel)
theorem q_122 : ((.instanceMethod ⟨"EdgeCampaign$Store", "chooseFavoured", "()V"⟩) : Cond) ∈ tb := tb_in (List.mem_of_getElem? (i := 476) (by decide +kernel)) (by decide +kernel)
theorem q_123 : ((.selects "EdgeCampaign$Store" ⟨"EdgeCampaign$Store", "chooseFavoured", "()V"⟩ ⟨"EdgeCampaign$Store", "chooseFavoured", "()V"⟩) : Cond) ∈ tb := tb_in (List.mem_of_getElem? (i := 10) (by decide +kernel)) (by decide +kernel)
theorem q_124 : ((.code y_IN_copy b_IN_copy 2 none) : Cond) ∈ tb := tb_in (List.mem_of_getElem? (i := 460) (by decide +kernel)) (by decide +kernel)
theorem q_125 : ((.methodLink "EdgeCampaign$Store" 50 ⟨"EdgeCampaign$Input", "copy", "(LEdgeCampaign$Input;)V"⟩) : Cond) ∈ tb := tb_in (List.mem_of_getElem? (i := 457) (by decide +kernel)) (by decide +kernel)
theorem q_126 : ((.instanceMethod ⟨"EdgeCampaign$Input", "copy", "(LEdgeCampaign$Input;)V"⟩) : Cond) ∈ tb := tb_in (List.mem_of_getElem? (i := 458) (by decide +kernel)) (by decide +kernel)
theorem q_127 : ((.selects "EdgeCampaign$Input" ⟨"EdgeCampaign$Input", "copy", "(LEdgeCampaign$Input;)V"⟩ ⟨"EdgeCampaign$Input", "copy", "(LEdgeCampaign$Input;)V"⟩) : Cond) ∈ tb := tb_in (List.mem_of_getElem? (i := 459) (by decide +kernel)) (by decide +kernel)
theorem q_128 : ((.code y_ST_markSeen b_ST_markSeen 3 none) : Cond) ∈ tb := tb_in (List.mem_of_getElem? (i := 473) (by decide +kernel)) (by decide +kernel)
theorem q_129 : ((.methodLink "EdgeCampaign$Store" 61 ⟨"EdgeCampaign$Store", "markSeen", "(II)V"⟩) : Cond) ∈ tb := tb_in (List.mem_of_getElem? (i := 470) (by decide +kernel)) (by decide +kernel)
theorem q_130 : ((.instanceMethod ⟨"EdgeCampaign$Store", "markSeen", "(II)V"⟩) : Cond) ∈ tb := tb_in (List.mem_of_getElem? (i := 472) (by decide +kernel)) (by decide +kernel)
theorem q_131 : ((.selects "EdgeCampaign$Store" ⟨"EdgeCampaign$Store", "markSeen", "(II)V"⟩ ⟨"EdgeCampaign$Store", "markSeen", "(II)V"⟩) : Cond) ∈ tb := tb_in (List.mem_of_getElem? (i := 9) (by decide +kernel)) (by decide +kernel)
theorem q_132 : ((.fieldLink "EdgeCampaign$Finding" 33 "EdgeCampaign$Finding" "trap" "I") : Cond) ∈ tb := tb_in (List.mem_of_getElem? (i := 245) (by decide +kernel)) (by decide +kernel)
theorem q_133 : ((.fieldLink "EdgeCampaign$Finding" 39 "EdgeCampaign$Finding" "here" "I") : Cond) ∈ tb := tb_in (List.mem_of_getElem? (i := 247) (by decide +kernel)) (by decide +kernel)
theorem q_134 : ((.fieldLink "EdgeCampaign$Finding" 43 "EdgeCampaign$Finding" "depth" "I") : Cond) ∈ tb := tb_in (List.mem_of_getElem? (i := 249) (by decide +kernel)) (by decide +kernel)
theorem q_135 : ((.fieldLink "EdgeCampaign$Finding" 21 "EdgeCampaign$Finding" "latestFirst" "[I") : Cond) ∈ tb := tb_in (List.mem_of_getElem? (i := 243) (by decide +kernel)) (by decide +kernel)
theorem q_136 : ((.code y_RU_onStack b_RU_onStack 3 (some .int)) : Cond) ∈ tb := tb_in (List.mem_of_getElem? (i := 501) (by decide +kernel)) (by decide +kernel)
theorem q_137 : ((.methodLink "EdgeCampaign$Finding" 44 ⟨"EdgeCampaign$Run", "onStack", "(I)I"⟩) : Cond) ∈ tb := tb_in (List.mem_of_getElem? (i := 498) (by decide +kernel)) (by decide +kernel)
theorem q_138 : ((.instanceMethod ⟨"EdgeCampaign$Run", "onStack", "(I)I"⟩) : Cond) ∈ tb := tb_in (List.mem_of_getElem? (i := 499) (by decide +kernel)) (by decide +kernel)
theorem q_139 : ((.selects "EdgeCampaign$Run" ⟨"EdgeCampaign$Run", "onStack", "(I)I"⟩ ⟨"EdgeCampaign$Run", "onStack", "(I)I"⟩) : Cond) ∈ tb := tb_in (List.mem_of_getElem? (i := 500) (by decide +kernel)) (by decide +kernel)
theorem q_140 : ((.fieldLink "EdgeCampaign$Findings" 11 "EdgeCampaign$Findings" "made" "[LEdgeCampaign$Finding;") : Cond) ∈ tb := tb_in (List.mem_of_getElem? (i := 269) (by decide +kernel)) (by decide +kernel)
theorem q_141 : ((.fieldLink "EdgeCampaign$Findings" 16 "EdgeCampaign$Findings" "size" "I") : Cond) ∈ tb := tb_in (List.mem_of_getElem? (i := 271) (by decide +kernel)) (by decide +kernel)
theorem q_142 : ((.code y_FI_hasSignOf b_FI_hasSignOf 3 (some .boolean)) : Cond) ∈ tb := tb_in (List.mem_of_getElem? (i := 497) (by decide +kernel)) (by decide +kernel)
theorem q_143 : ((.methodLink "EdgeCampaign$Findings" 20 ⟨"EdgeCampaign$Finding", "hasSignOf", "(LEdgeCampaign$Run;)Z"⟩) : Cond) ∈ tb := tb_in (List.mem_of_getElem? (i := 494) (by decide +kernel)) (by decide +kernel)
theorem q_144 : ((.initialized "EdgeCampaign$Finding") : Cond) ∈ tb := tb_in (List.mem_of_getElem? (i := 55) (by decide +kernel)) (by decide +kernel)
theorem q_145 : ((.instanceMethod ⟨"EdgeCampaign$Finding", "hasSignOf", "(LEdgeCampaign$Run;)Z"⟩) : Cond) ∈ tb := tb_in (List.mem_of_getElem? (i := 495) (by decide +kernel)) (by decide +kernel)
theorem q_146 : ((.selects "EdgeCampaign$Finding" ⟨"EdgeCampaign$Finding", "hasSignOf", "(LEdgeCampaign$Run;)Z"⟩ ⟨"EdgeCampaign$Finding", "hasSignOf", "(LEdgeCampaign$Run;)Z"⟩) : Cond) ∈ tb := tb_in (List.mem_of_getElem? (i := 496) (by decide +kernel)) (by decide +kernel)
theorem q_147 : ((.fieldLink "EdgeCampaign$Finding" 10 "EdgeCampaign$Finding" "input" "LEdgeCampaign$Input;") : Cond) ∈ tb := tb_in (List.mem_of_getElem? (i := 238) (by decide +kernel)) (by decide +kernel)
theorem q_148 : ((.methodLink "EdgeCampaign$Finding" 25 ⟨"EdgeCampaign$Input", "copy", "(LEdgeCampaign$Input;)V"⟩) : Cond) ∈ tb := tb_in (List.mem_of_getElem? (i := 510) (by decide +kernel)) (by decide +kernel)
theorem q_149 : ((.fieldLink "EdgeCampaign$Finding" 16 "EdgeCampaign$Finding" "shortest" "LEdgeCampaign$Input;") : Cond) ∈ tb := tb_in (List.mem_of_getElem? (i := 240) (by decide +kernel)) (by decide +kernel)
theorem q_150 : ((.fieldLink "EdgeCampaign$Finding" 48 "EdgeCampaign$Finding" "hits" "I") : Cond) ∈ tb := tb_in (List.mem_of_getElem? (i := 251) (by decide +kernel)) (by decide +kernel)
theorem q_151 : ((.code y_FI_begin b_FI_begin 4 none) : Cond) ∈ tb := tb_in (List.mem_of_getElem? (i := 509) (by decide +kernel)) (by decide +kernel)
theorem q_152 : ((.methodLink "EdgeCampaign$Findings" 27 ⟨"EdgeCampaign$Finding", "begin", "(LEdgeCampaign$Input;LEdgeCampaign$Run;)V"⟩) : Cond) ∈ tb := tb_in (List.mem_of_getElem? (i := 506) (by decide +kernel)) (by decide +kernel)
theorem q_153 : ((.instanceMethod ⟨"EdgeCampaign$Finding", "begin", "(LEdgeCampaign$Input;LEdgeCampaign$Run;)V"⟩) : Cond) ∈ tb := tb_in (List.mem_of_getElem? (i := 507) (by decide +kernel)) (by decide +kernel)
theorem q_154 : ((.selects "EdgeCampaign$Finding" ⟨"EdgeCampaign$Finding", "begin", "(LEdgeCampaign$Input;LEdgeCampaign$Run;)V"⟩ ⟨"EdgeCampaign$Finding", "begin", "(LEdgeCampaign$Input;LEdgeCampaign$Run;)V"⟩) : Cond) ∈ tb := tb_in (List.mem_of_getElem? (i := 508) (by decide +kernel)) (by decide +kernel)
theorem q_155 : ((.code y_JM_max b_JM_max 2 (some .int)) : Cond) ∈ tb := tb_in (List.mem_of_getElem? (i := 530) (by decide +kernel)) (by decide +kernel)
theorem q_156 : ((.methodLink "EdgeCampaign$Input" 37 ⟨"java/lang/Math", "max", "(II)I"⟩) : Cond) ∈ tb := tb_in (List.mem_of_getElem? (i := 528) (by decide +kernel)) (by decide +kernel)
theorem q_157 : ((.static ⟨"java/lang/Math", "max", "(II)I"⟩) : Cond) ∈ tb := tb_in (List.mem_of_getElem? (i := 529) (by decide +kernel)) (by decide +kernel)
theorem q_158 : ((.fieldLink "EdgeCampaign$Shortener" 19 "EdgeCampaign$Shortener" "candidate" "LEdgeCampaign$Input;") : Cond) ∈ tb := tb_in (List.mem_of_getElem? (i := 289) (by decide +kernel)) (by decide +kernel)
theorem q_159 : ((.code y_IN_cutTo b_IN_cutTo 2 none) : Cond) ∈ tb := tb_in (List.mem_of_getElem? (i := 527) (by decide +kernel)) (by decide +kernel)
theorem q_160 : ((.methodLink "EdgeCampaign$Shortener" 64 ⟨"EdgeCampaign$Input", "cutTo", "(I)V"⟩) : Cond) ∈ tb := tb_in (List.mem_of_getElem? (i := 524) (by decide +kernel)) (by decide +kernel)
theorem q_161 : ((.instanceMethod ⟨"EdgeCampaign$Input", "cutTo", "(I)V"⟩) : Cond) ∈ tb := tb_in (List.mem_of_getElem? (i := 525) (by decide +kernel)) (by decide +kernel)
theorem q_162 : ((.selects "EdgeCampaign$Input" ⟨"EdgeCampaign$Input", "cutTo", "(I)V"⟩ ⟨"EdgeCampaign$Input", "cutTo", "(I)V"⟩) : Cond) ∈ tb := tb_in (List.mem_of_getElem? (i := 526) (by decide +kernel)) (by decide +kernel)
theorem q_163 : ((.methodLink "EdgeCampaign$Shortener" 68 ⟨"EdgeCampaign$Input", "appendPart", "(LEdgeCampaign$Input;II)V"⟩) : Cond) ∈ tb := tb_in (List.mem_of_getElem? (i := 531) (by decide +kernel)) (by decide +kernel)
theorem q_164 : ((.methodLink "EdgeCampaign$Shortener" 60 ⟨"EdgeCampaign$Input", "copy", "(LEdgeCampaign$Input;)V"⟩) : Cond) ∈ tb := tb_in (List.mem_of_getElem? (i := 538) (by decide +kernel)) (by decide +kernel)
theorem q_165 : ((.fieldLink "EdgeCampaign$Shortener" 10 "EdgeCampaign$Shortener" "run" "LEdgeCampaign$Run;") : Cond) ∈ tb := tb_in (List.mem_of_getElem? (i := 288) (by decide +kernel)) (by decide +kernel)
theorem q_166 : ((.code y_RU_perform b_RU_perform 4 none) : Cond) ∈ tb := tb_in (List.mem_of_getElem? (i := 398) (by decide +kernel)) (by decide +kernel)
theorem q_167 : ((.methodLink "EdgeCampaign$Shortener" 52 ⟨"EdgeCampaign$Run", "perform", "(LEdgeCampaign$Program;LEdgeCampaign$Input;)V"⟩) : Cond) ∈ tb := tb_in (List.mem_of_getElem? (i := 536) (by decide +kernel)) (by decide +kernel)
theorem q_168 : ((.instanceMethod ⟨"EdgeCampaign$Run", "perform", "(LEdgeCampaign$Program;LEdgeCampaign$Input;)V"⟩) : Cond) ∈ tb := tb_in (List.mem_of_getElem? (i := 396) (by decide +kernel)) (by decide +kernel)
theorem q_169 : ((.selects "EdgeCampaign$Run" ⟨"EdgeCampaign$Run", "perform", "(LEdgeCampaign$Program;LEdgeCampaign$Input;)V"⟩ ⟨"EdgeCampaign$Run", "perform", "(LEdgeCampaign$Program;LEdgeCampaign$Input;)V"⟩) : Cond) ∈ tb := tb_in (List.mem_of_getElem? (i := 397) (by decide +kernel)) (by decide +kernel)
theorem q_170 : ((.methodLink "EdgeCampaign$Shortener" 56 ⟨"EdgeCampaign$Finding", "hasSignOf", "(LEdgeCampaign$Run;)Z"⟩) : Cond) ∈ tb := tb_in (List.mem_of_getElem? (i := 537) (by decide +kernel)) (by decide +kernel)
theorem q_171 : ((.code y_SH_makeRest b_SH_makeRest 4 none) : Cond) ∈ tb := tb_in (List.mem_of_getElem? (i := 535) (by decide +kernel)) (by decide +kernel)
theorem q_172 : ((.methodLink "EdgeCampaign$Shortener" 49 ⟨"EdgeCampaign$Shortener", "makeRest", "(LEdgeCampaign$Input;II)V"⟩) : Cond) ∈ tb := tb_in (List.mem_of_getElem? (i := 532) (by decide +kernel)) (by decide +kernel)
theorem q_173 : ((.initialized "EdgeCampaign$Shortener") : Cond) ∈ tb := tb_in (List.mem_of_getElem? (i := 56) (by decide +kernel)) (by decide +kernel)
theorem q_174 : ((.instanceMethod ⟨"EdgeCampaign$Shortener", "makeRest", "(LEdgeCampaign$Input;II)V"⟩) : Cond) ∈ tb := tb_in (List.mem_of_getElem? (i := 534) (by decide +kernel)) (by decide +kernel)
theorem q_175 : ((.selects "EdgeCampaign$Shortener" ⟨"EdgeCampaign$Shortener", "makeRest", "(LEdgeCampaign$Input;II)V"⟩ ⟨"EdgeCampaign$Shortener", "makeRest", "(LEdgeCampaign$Input;II)V"⟩) : Cond) ∈ tb := tb_in (List.mem_of_getElem? (i := 14) (by decide +kernel)) (by decide +kernel)
theorem q_176 : ((.code y_SH_makePart b_SH_makePart 4 none) : Cond) ∈ tb := tb_in (List.mem_of_getElem? (i := 523) (by decide +kernel)) (by decide +kernel)
theorem q_177 : ((.methodLink "EdgeCampaign$Shortener" 45 ⟨"EdgeCampaign$Shortener", "makePart", "(LEdgeCampaign$Input;II)V"⟩) : Cond) ∈ tb := tb_in (List.mem_of_getElem? (i := 520) (by decide +kernel)) (by decide +kernel)
theorem q_178 : ((.instanceMethod ⟨"EdgeCampaign$Shortener", "makePart", "(LEdgeCampaign$Input;II)V"⟩) : Cond) ∈ tb := tb_in (List.mem_of_getElem? (i := 522) (by decide +kernel)) (by decide +kernel)
theorem q_179 : ((.selects "EdgeCampaign$Shortener" ⟨"EdgeCampaign$Shortener", "makePart", "(LEdgeCampaign$Input;II)V"⟩ ⟨"EdgeCampaign$Shortener", "makePart", "(LEdgeCampaign$Input;II)V"⟩) : Cond) ∈ tb := tb_in (List.mem_of_getElem? (i := 13) (by decide +kernel)) (by decide +kernel)
theorem q_180 : ((.code y_SH_keepFirst b_SH_keepFirst 9 (some .boolean)) : Cond) ∈ tb := tb_in (List.mem_of_getElem? (i := 519) (by decide +kernel)) (by decide +kernel)
theorem q_181 : ((.methodLink "EdgeCampaign$Shortener" 38 ⟨"EdgeCampaign$Shortener", "keepFirst", "(LEdgeCampaign$Finding;LEdgeCampaign$Program;IZ)Z"⟩) : Cond) ∈ tb := tb_in (List.mem_of_getElem? (i := 516) (by decide +kernel)) (by decide +kernel)
theorem q_182 : ((.instanceMethod ⟨"EdgeCampaign$Shortener", "keepFirst", "(LEdgeCampaign$Finding;LEdgeCampaign$Program;IZ)Z"⟩) : Cond) ∈ tb := tb_in (List.mem_of_getElem? (i := 518) (by decide +kernel)) (by decide +kernel)
theorem q_183 : ((.selects "EdgeCampaign$Shortener" ⟨"EdgeCampaign$Shortener", "keepFirst", "(LEdgeCampaign$Finding;LEdgeCampaign$Program;IZ)Z"⟩ ⟨"EdgeCampaign$Shortener", "keepFirst", "(LEdgeCampaign$Finding;LEdgeCampaign$Program;IZ)Z"⟩) : Cond) ∈ tb := tb_in (List.mem_of_getElem? (i := 12) (by decide +kernel)) (by decide +kernel)
theorem q_184 : ((.methodLink "EdgeCampaign$Shortener" 32 ⟨"java/lang/Math", "min", "(II)I"⟩) : Cond) ∈ tb := tb_in (List.mem_of_getElem? (i := 515) (by decide +kernel)) (by decide +kernel)
theorem q_185 : ((.methodLink "EdgeCampaign$Shortener" 42 ⟨"java/lang/Math", "max", "(II)I"⟩) : Cond) ∈ tb := tb_in (List.mem_of_getElem? (i := 539) (by decide +kernel)) (by decide +kernel)
theorem q_186 : ((.fieldLink "EdgeCampaign$Trials" 48 "EdgeCampaign$Trials" "number" "I") : Cond) ∈ tb := tb_in (List.mem_of_getElem? (i := 314) (by decide +kernel)) (by decide +kernel)
theorem q_187 : ((.methodLink "EdgeCampaign$Trials" 90 ⟨"java/lang/Math", "min", "(II)I"⟩) : Cond) ∈ tb := tb_in (List.mem_of_getElem? (i := 555) (by decide +kernel)) (by decide +kernel)
theorem q_188 : ((.code y_ST_isFavoured b_ST_isFavoured 2 (some .boolean)) : Cond) ∈ tb := tb_in (List.mem_of_getElem? (i := 559) (by decide +kernel)) (by decide +kernel)
theorem q_189 : ((.methodLink "EdgeCampaign$Trials" 96 ⟨"EdgeCampaign$Store", "isFavoured", "(I)Z"⟩) : Cond) ∈ tb := tb_in (List.mem_of_getElem? (i := 556) (by decide +kernel)) (by decide +kernel)
theorem q_190 : ((.instanceMethod ⟨"EdgeCampaign$Store", "isFavoured", "(I)Z"⟩) : Cond) ∈ tb := tb_in (List.mem_of_getElem? (i := 557) (by decide +kernel)) (by decide +kernel)
theorem q_191 : ((.selects "EdgeCampaign$Store" ⟨"EdgeCampaign$Store", "isFavoured", "(I)Z"⟩ ⟨"EdgeCampaign$Store", "isFavoured", "(I)Z"⟩) : Cond) ∈ tb := tb_in (List.mem_of_getElem? (i := 558) (by decide +kernel)) (by decide +kernel)
theorem q_192 : ((.fieldLink "EdgeCampaign$Trials" 68 "EdgeCampaign$Trials" "energy" "I") : Cond) ∈ tb := tb_in (List.mem_of_getElem? (i := 316) (by decide +kernel)) (by decide +kernel)
theorem q_193 : ((.fieldLink "EdgeCampaign$Trials" 9 "EdgeCampaign$Trials" "taken" "I") : Cond) ∈ tb := tb_in (List.mem_of_getElem? (i := 312) (by decide +kernel)) (by decide +kernel)
theorem q_194 : ((.code y_TR_firstDrawing b_TR_firstDrawing 1 (some .int)) : Cond) ∈ tb := tb_in (List.mem_of_getElem? (i := 554) (by decide +kernel)) (by decide +kernel)
theorem q_195 : ((.methodLink "EdgeCampaign$Trials" 44 ⟨"EdgeCampaign$Trials", "firstDrawing", "(LEdgeCampaign$Input;)I"⟩) : Cond) ∈ tb := tb_in (List.mem_of_getElem? (i := 552) (by decide +kernel)) (by decide +kernel)
theorem q_196 : ((.initialized "EdgeCampaign$Trials") : Cond) ∈ tb := tb_in (List.mem_of_getElem? (i := 58) (by decide +kernel)) (by decide +kernel)
theorem q_197 : ((.static ⟨"EdgeCampaign$Trials", "firstDrawing", "(LEdgeCampaign$Input;)I"⟩) : Cond) ∈ tb := tb_in (List.mem_of_getElem? (i := 553) (by decide +kernel)) (by decide +kernel)
theorem q_198 : ((.code y_ST_has b_ST_has 2 (some .boolean)) : Cond) ∈ tb := tb_in (List.mem_of_getElem? (i := 547) (by decide +kernel)) (by decide +kernel)
theorem q_199 : ((.methodLink "EdgeCampaign$Trials" 15 ⟨"EdgeCampaign$Store", "has", "(I)Z"⟩) : Cond) ∈ tb := tb_in (List.mem_of_getElem? (i := 544) (by decide +kernel)) (by decide +kernel)
theorem q_200 : ((.instanceMethod ⟨"EdgeCampaign$Store", "has", "(I)Z"⟩) : Cond) ∈ tb := tb_in (List.mem_of_getElem? (i := 545) (by decide +kernel)) (by decide +kernel)
theorem q_201 : ((.selects "EdgeCampaign$Store" ⟨"EdgeCampaign$Store", "has", "(I)Z"⟩ ⟨"EdgeCampaign$Store", "has", "(I)Z"⟩) : Cond) ∈ tb := tb_in (List.mem_of_getElem? (i := 546) (by decide +kernel)) (by decide +kernel)
theorem q_202 : ((.code y_TR_takeUp b_TR_takeUp 4 none) : Cond) ∈ tb := tb_in (List.mem_of_getElem? (i := 551) (by decide +kernel)) (by decide +kernel)
theorem q_203 : ((.methodLink "EdgeCampaign$Trials" 21 ⟨"EdgeCampaign$Trials", "takeUp", "(LEdgeCampaign$Store;I)V"⟩) : Cond) ∈ tb := tb_in (List.mem_of_getElem? (i := 548) (by decide +kernel)) (by decide +kernel)
theorem q_204 : ((.instanceMethod ⟨"EdgeCampaign$Trials", "takeUp", "(LEdgeCampaign$Store;I)V"⟩) : Cond) ∈ tb := tb_in (List.mem_of_getElem? (i := 550) (by decide +kernel)) (by decide +kernel)
theorem q_205 : ((.selects "EdgeCampaign$Trials" ⟨"EdgeCampaign$Trials", "takeUp", "(LEdgeCampaign$Store;I)V"⟩ ⟨"EdgeCampaign$Trials", "takeUp", "(LEdgeCampaign$Store;I)V"⟩) : Cond) ∈ tb := tb_in (List.mem_of_getElem? (i := 15) (by decide +kernel)) (by decide +kernel)
theorem q_206 : ((.fieldLink "EdgeCampaign" 66 "EdgeCampaign" "trials" "LEdgeCampaign$Trials;") : Cond) ∈ tb := tb_in (List.mem_of_getElem? (i := 333) (by decide +kernel)) (by decide +kernel)
theorem q_207 : ((.fieldLink "EdgeCampaign" 36 "EdgeCampaign" "store" "LEdgeCampaign$Store;") : Cond) ∈ tb := tb_in (List.mem_of_getElem? (i := 329) (by decide +kernel)) (by decide +kernel)
theorem q_208 : ((.code y_TR_beginWithFirst b_TR_beginWithFirst 2 none) : Cond) ∈ tb := tb_in (List.mem_of_getElem? (i := 543) (by decide +kernel)) (by decide +kernel)
theorem q_209 : ((.methodLink "EdgeCampaign" 216 ⟨"EdgeCampaign$Trials", "beginWithFirst", "(LEdgeCampaign$Store;)V"⟩) : Cond) ∈ tb := tb_in (List.mem_of_getElem? (i := 540) (by decide +kernel)) (by decide +kernel)
theorem q_210 : ((.instanceMethod ⟨"EdgeCampaign$Trials", "beginWithFirst", "(LEdgeCampaign$Store;)V"⟩) : Cond) ∈ tb := tb_in (List.mem_of_getElem? (i := 541) (by decide +kernel)) (by decide +kernel)
theorem q_211 : ((.selects "EdgeCampaign$Trials" ⟨"EdgeCampaign$Trials", "beginWithFirst", "(LEdgeCampaign$Store;)V"⟩ ⟨"EdgeCampaign$Trials", "beginWithFirst", "(LEdgeCampaign$Store;)V"⟩) : Cond) ∈ tb := tb_in (List.mem_of_getElem? (i := 542) (by decide +kernel)) (by decide +kernel)
theorem q_212 : ((.fieldLink "EdgeCampaign" 29 "EdgeCampaign" "run" "LEdgeCampaign$Run;") : Cond) ∈ tb := tb_in (List.mem_of_getElem? (i := 328) (by decide +kernel)) (by decide +kernel)
theorem q_213 : ((.code y_RU_hasTrapped b_RU_hasTrapped 1 (some .boolean)) : Cond) ∈ tb := tb_in (List.mem_of_getElem? (i := 489) (by decide +kernel)) (by decide +kernel)
theorem q_214 : ((.methodLink "EdgeCampaign" 201 ⟨"EdgeCampaign$Run", "hasTrapped", "()Z"⟩) : Cond) ∈ tb := tb_in (List.mem_of_getElem? (i := 486) (by decide +kernel)) (by decide +kernel)
theorem q_215 : ((.instanceMethod ⟨"EdgeCampaign$Run", "hasTrapped", "()Z"⟩) : Cond) ∈ tb := tb_in (List.mem_of_getElem? (i := 487) (by decide +kernel)) (by decide +kernel)
theorem q_216 : ((.selects "EdgeCampaign$Run" ⟨"EdgeCampaign$Run", "hasTrapped", "()Z"⟩ ⟨"EdgeCampaign$Run", "hasTrapped", "()Z"⟩) : Cond) ∈ tb := tb_in (List.mem_of_getElem? (i := 488) (by decide +kernel)) (by decide +kernel)
theorem q_217 : ((.fieldLink "EdgeCampaign" 43 "EdgeCampaign" "findings" "LEdgeCampaign$Findings;") : Cond) ∈ tb := tb_in (List.mem_of_getElem? (i := 330) (by decide +kernel)) (by decide +kernel)
theorem q_218 : ((.code y_FS_countHit b_FS_countHit 3 (some .boolean)) : Cond) ∈ tb := tb_in (List.mem_of_getElem? (i := 493) (by decide +kernel)) (by decide +kernel)
theorem q_219 : ((.methodLink "EdgeCampaign" 205 ⟨"EdgeCampaign$Findings", "countHit", "(LEdgeCampaign$Run;)Z"⟩) : Cond) ∈ tb := tb_in (List.mem_of_getElem? (i := 490) (by decide +kernel)) (by decide +kernel)
theorem q_220 : ((.initialized "EdgeCampaign$Findings") : Cond) ∈ tb := tb_in (List.mem_of_getElem? (i := 54) (by decide +kernel)) (by decide +kernel)
theorem q_221 : ((.instanceMethod ⟨"EdgeCampaign$Findings", "countHit", "(LEdgeCampaign$Run;)Z"⟩) : Cond) ∈ tb := tb_in (List.mem_of_getElem? (i := 491) (by decide +kernel)) (by decide +kernel)
theorem q_222 : ((.selects "EdgeCampaign$Findings" ⟨"EdgeCampaign$Findings", "countHit", "(LEdgeCampaign$Run;)Z"⟩ ⟨"EdgeCampaign$Findings", "countHit", "(LEdgeCampaign$Run;)Z"⟩) : Cond) ∈ tb := tb_in (List.mem_of_getElem? (i := 492) (by decide +kernel)) (by decide +kernel)
theorem q_223 : ((.code y_FS_begin b_FS_begin 4 (some (.object "EdgeCampaign$Finding"))) : Cond) ∈ tb := tb_in (List.mem_of_getElem? (i := 505) (by decide +kernel)) (by decide +kernel)
theorem q_224 : ((.methodLink "EdgeCampaign" 208 ⟨"EdgeCampaign$Findings", "begin", "(LEdgeCampaign$Input;LEdgeCampaign$Run;)LEdgeCampaign$Finding;"⟩) : Cond) ∈ tb := tb_in (List.mem_of_getElem? (i := 502) (by decide +kernel)) (by decide +kernel)
theorem q_225 : ((.instanceMethod ⟨"EdgeCampaign$Findings", "begin", "(LEdgeCampaign$Input;LEdgeCampaign$Run;)LEdgeCampaign$Finding;"⟩) : Cond) ∈ tb := tb_in (List.mem_of_getElem? (i := 503) (by decide +kernel)) (by decide +kernel)
theorem q_226 : ((.selects "EdgeCampaign$Findings" ⟨"EdgeCampaign$Findings", "begin", "(LEdgeCampaign$Input;LEdgeCampaign$Run;)LEdgeCampaign$Finding;"⟩ ⟨"EdgeCampaign$Findings", "begin", "(LEdgeCampaign$Input;LEdgeCampaign$Run;)LEdgeCampaign$Finding;"⟩) : Cond) ∈ tb := tb_in (List.mem_of_getElem? (i := 504) (by decide +kernel)) (by decide +kernel)
theorem q_227 : ((.fieldLink "EdgeCampaign" 77 "EdgeCampaign" "lost" "I") : Cond) ∈ tb := tb_in (List.mem_of_getElem? (i := 336) (by decide +kernel)) (by decide +kernel)
theorem q_228 : ((.fieldLink "EdgeCampaign" 50 "EdgeCampaign" "shortener" "LEdgeCampaign$Shortener;") : Cond) ∈ tb := tb_in (List.mem_of_getElem? (i := 331) (by decide +kernel)) (by decide +kernel)
theorem q_229 : ((.code y_SH_shorten b_SH_shorten 7 none) : Cond) ∈ tb := tb_in (List.mem_of_getElem? (i := 514) (by decide +kernel)) (by decide +kernel)
theorem q_230 : ((.methodLink "EdgeCampaign" 212 ⟨"EdgeCampaign$Shortener", "shorten", "(LEdgeCampaign$Finding;LEdgeCampaign$Program;)V"⟩) : Cond) ∈ tb := tb_in (List.mem_of_getElem? (i := 511) (by decide +kernel)) (by decide +kernel)
theorem q_231 : ((.instanceMethod ⟨"EdgeCampaign$Shortener", "shorten", "(LEdgeCampaign$Finding;LEdgeCampaign$Program;)V"⟩) : Cond) ∈ tb := tb_in (List.mem_of_getElem? (i := 512) (by decide +kernel)) (by decide +kernel)
theorem q_232 : ((.selects "EdgeCampaign$Shortener" ⟨"EdgeCampaign$Shortener", "shorten", "(LEdgeCampaign$Finding;LEdgeCampaign$Program;)V"⟩ ⟨"EdgeCampaign$Shortener", "shorten", "(LEdgeCampaign$Finding;LEdgeCampaign$Program;)V"⟩) : Cond) ∈ tb := tb_in (List.mem_of_getElem? (i := 513) (by decide +kernel)) (by decide +kernel)
theorem q_233 : ((.code y_ST_hasNews b_ST_hasNews 4 (some .boolean)) : Cond) ∈ tb := tb_in (List.mem_of_getElem? (i := 448) (by decide +kernel)) (by decide +kernel)
theorem q_234 : ((.methodLink "EdgeCampaign" 193 ⟨"EdgeCampaign$Store", "hasNews", "(LEdgeCampaign$Run;)Z"⟩) : Cond) ∈ tb := tb_in (List.mem_of_getElem? (i := 445) (by decide +kernel)) (by decide +kernel)
theorem q_235 : ((.instanceMethod ⟨"EdgeCampaign$Store", "hasNews", "(LEdgeCampaign$Run;)Z"⟩) : Cond) ∈ tb := tb_in (List.mem_of_getElem? (i := 446) (by decide +kernel)) (by decide +kernel)
theorem q_236 : ((.selects "EdgeCampaign$Store" ⟨"EdgeCampaign$Store", "hasNews", "(LEdgeCampaign$Run;)Z"⟩ ⟨"EdgeCampaign$Store", "hasNews", "(LEdgeCampaign$Run;)Z"⟩) : Cond) ∈ tb := tb_in (List.mem_of_getElem? (i := 447) (by decide +kernel)) (by decide +kernel)
theorem q_237 : ((.code y_ST_keep b_ST_keep 5 (some .boolean)) : Cond) ∈ tb := tb_in (List.mem_of_getElem? (i := 456) (by decide +kernel)) (by decide +kernel)
theorem q_238 : ((.methodLink "EdgeCampaign" 197 ⟨"EdgeCampaign$Store", "keep", "(LEdgeCampaign$Input;LEdgeCampaign$Run;)Z"⟩) : Cond) ∈ tb := tb_in (List.mem_of_getElem? (i := 453) (by decide +kernel)) (by decide +kernel)
theorem q_239 : ((.instanceMethod ⟨"EdgeCampaign$Store", "keep", "(LEdgeCampaign$Input;LEdgeCampaign$Run;)Z"⟩) : Cond) ∈ tb := tb_in (List.mem_of_getElem? (i := 454) (by decide +kernel)) (by decide +kernel)
theorem q_240 : ((.selects "EdgeCampaign$Store" ⟨"EdgeCampaign$Store", "keep", "(LEdgeCampaign$Input;LEdgeCampaign$Run;)Z"⟩ ⟨"EdgeCampaign$Store", "keep", "(LEdgeCampaign$Input;LEdgeCampaign$Run;)Z"⟩) : Cond) ∈ tb := tb_in (List.mem_of_getElem? (i := 455) (by decide +kernel)) (by decide +kernel)
theorem q_241 : ((.methodLink "EdgeCampaign" 186 ⟨"EdgeCampaign$Run", "perform", "(LEdgeCampaign$Program;LEdgeCampaign$Input;)V"⟩) : Cond) ∈ tb := tb_in (List.mem_of_getElem? (i := 395) (by decide +kernel)) (by decide +kernel)
theorem q_242 : ((.fieldLink "EdgeCampaign" 74 "EdgeCampaign" "hangs" "I") : Cond) ∈ tb := tb_in (List.mem_of_getElem? (i := 335) (by decide +kernel)) (by decide +kernel)
theorem q_243 : ((.code y_EC_execute b_EC_execute 3 (some .int)) : Cond) ∈ tb := tb_in (List.mem_of_getElem? (i := 394) (by decide +kernel)) (by decide +kernel)
theorem q_244 : ((.methodLink "EdgeCampaign" 87 ⟨"EdgeCampaign", "execute", "(LEdgeCampaign$Input;)I"⟩) : Cond) ∈ tb := tb_in (List.mem_of_getElem? (i := 391) (by decide +kernel)) (by decide +kernel)
theorem q_245 : ((.initialized "EdgeCampaign") : Cond) ∈ tb := tb_in (List.mem_of_getElem? (i := 48) (by decide +kernel)) (by decide +kernel)
theorem q_246 : ((.instanceMethod ⟨"EdgeCampaign", "execute", "(LEdgeCampaign$Input;)I"⟩) : Cond) ∈ tb := tb_in (List.mem_of_getElem? (i := 393) (by decide +kernel)) (by decide +kernel)
theorem q_247 : ((.selects "EdgeCampaign" ⟨"EdgeCampaign", "execute", "(LEdgeCampaign$Input;)I"⟩ ⟨"EdgeCampaign", "execute", "(LEdgeCampaign$Input;)I"⟩) : Cond) ∈ tb := tb_in (List.mem_of_getElem? (i := 0) (by decide +kernel)) (by decide +kernel)
theorem q_248 : ((.methodLink "EdgeCampaign" 91 ⟨"EdgeCampaign$Input", "cutTo", "(I)V"⟩) : Cond) ∈ tb := tb_in (List.mem_of_getElem? (i := 560) (by decide +kernel)) (by decide +kernel)
theorem q_249 : ((.code y_IN_put b_IN_put 3 none) : Cond) ∈ tb := tb_in (List.mem_of_getElem? (i := 577) (by decide +kernel)) (by decide +kernel)
theorem q_250 : ((.methodLink "EdgeCampaign$Input" 40 ⟨"EdgeCampaign$Input", "put", "(II)V"⟩) : Cond) ∈ tb := tb_in (List.mem_of_getElem? (i := 574) (by decide +kernel)) (by decide +kernel)
theorem q_251 : ((.instanceMethod ⟨"EdgeCampaign$Input", "put", "(II)V"⟩) : Cond) ∈ tb := tb_in (List.mem_of_getElem? (i := 575) (by decide +kernel)) (by decide +kernel)
theorem q_252 : ((.selects "EdgeCampaign$Input" ⟨"EdgeCampaign$Input", "put", "(II)V"⟩ ⟨"EdgeCampaign$Input", "put", "(II)V"⟩) : Cond) ∈ tb := tb_in (List.mem_of_getElem? (i := 576) (by decide +kernel)) (by decide +kernel)
theorem q_253 : ((.fieldLink "EdgeCampaign$Generator" 7 "EdgeCampaign$Generator" "x" "I") : Cond) ∈ tb := tb_in (List.mem_of_getElem? (i := 301) (by decide +kernel)) (by decide +kernel)
theorem q_254 : ((.constant "EdgeCampaign$Generator" 13 2147483647) : Cond) ∈ tb := tb_in (List.mem_of_getElem? (i := 594) (by decide +kernel)) (by decide +kernel)
theorem q_255 : ((.code y_GE_draw b_GE_draw 2 (some .int)) : Cond) ∈ tb := tb_in (List.mem_of_getElem? (i := 593) (by decide +kernel)) (by decide +kernel)
theorem q_256 : ((.methodLink "EdgeCampaign$Trials" 103 ⟨"EdgeCampaign$Generator", "draw", "(I)I"⟩) : Cond) ∈ tb := tb_in (List.mem_of_getElem? (i := 590) (by decide +kernel)) (by decide +kernel)
theorem q_257 : ((.initialized "EdgeCampaign$Generator") : Cond) ∈ tb := tb_in (List.mem_of_getElem? (i := 57) (by decide +kernel)) (by decide +kernel)
theorem q_258 : ((.instanceMethod ⟨"EdgeCampaign$Generator", "draw", "(I)I"⟩) : Cond) ∈ tb := tb_in (List.mem_of_getElem? (i := 591) (by decide +kernel)) (by decide +kernel)
theorem q_259 : ((.selects "EdgeCampaign$Generator" ⟨"EdgeCampaign$Generator", "draw", "(I)I"⟩ ⟨"EdgeCampaign$Generator", "draw", "(I)I"⟩) : Cond) ∈ tb := tb_in (List.mem_of_getElem? (i := 592) (by decide +kernel)) (by decide +kernel)
theorem q_260 : ((.code y_IN_insert b_IN_insert 4 none) : Cond) ∈ tb := tb_in (List.mem_of_getElem? (i := 601) (by decide +kernel)) (by decide +kernel)
theorem q_261 : ((.methodLink "EdgeCampaign$Trials" 115 ⟨"EdgeCampaign$Input", "insert", "(II)V"⟩) : Cond) ∈ tb := tb_in (List.mem_of_getElem? (i := 598) (by decide +kernel)) (by decide +kernel)
theorem q_262 : ((.instanceMethod ⟨"EdgeCampaign$Input", "insert", "(II)V"⟩) : Cond) ∈ tb := tb_in (List.mem_of_getElem? (i := 599) (by decide +kernel)) (by decide +kernel)
theorem q_263 : ((.selects "EdgeCampaign$Input" ⟨"EdgeCampaign$Input", "insert", "(II)V"⟩ ⟨"EdgeCampaign$Input", "insert", "(II)V"⟩) : Cond) ∈ tb := tb_in (List.mem_of_getElem? (i := 600) (by decide +kernel)) (by decide +kernel)
theorem q_264 : ((.code y_IN_addTo b_IN_addTo 3 none) : Cond) ∈ tb := tb_in (List.mem_of_getElem? (i := 583) (by decide +kernel)) (by decide +kernel)
theorem q_265 : ((.methodLink "EdgeCampaign$Trials" 59 ⟨"EdgeCampaign$Input", "addTo", "(II)V"⟩) : Cond) ∈ tb := tb_in (List.mem_of_getElem? (i := 580) (by decide +kernel)) (by decide +kernel)
theorem q_266 : ((.instanceMethod ⟨"EdgeCampaign$Input", "addTo", "(II)V"⟩) : Cond) ∈ tb := tb_in (List.mem_of_getElem? (i := 581) (by decide +kernel)) (by decide +kernel)
theorem q_267 : ((.selects "EdgeCampaign$Input" ⟨"EdgeCampaign$Input", "addTo", "(II)V"⟩ ⟨"EdgeCampaign$Input", "addTo", "(II)V"⟩) : Cond) ∈ tb := tb_in (List.mem_of_getElem? (i := 582) (by decide +kernel)) (by decide +kernel)
theorem q_268 : ((.code y_IN_turnBit b_IN_turnBit 3 none) : Cond) ∈ tb := tb_in (List.mem_of_getElem? (i := 573) (by decide +kernel)) (by decide +kernel)
theorem q_269 : ((.methodLink "EdgeCampaign$Trials" 51 ⟨"EdgeCampaign$Input", "turnBit", "(II)V"⟩) : Cond) ∈ tb := tb_in (List.mem_of_getElem? (i := 570) (by decide +kernel)) (by decide +kernel)
theorem q_270 : ((.instanceMethod ⟨"EdgeCampaign$Input", "turnBit", "(II)V"⟩) : Cond) ∈ tb := tb_in (List.mem_of_getElem? (i := 571) (by decide +kernel)) (by decide +kernel)
theorem q_271 : ((.selects "EdgeCampaign$Input" ⟨"EdgeCampaign$Input", "turnBit", "(II)V"⟩ ⟨"EdgeCampaign$Input", "turnBit", "(II)V"⟩) : Cond) ∈ tb := tb_in (List.mem_of_getElem? (i := 572) (by decide +kernel)) (by decide +kernel)
theorem q_272 : ((.methodLink "EdgeCampaign$Trials" 65 ⟨"EdgeCampaign$Input", "put", "(II)V"⟩) : Cond) ∈ tb := tb_in (List.mem_of_getElem? (i := 586) (by decide +kernel)) (by decide +kernel)
theorem q_273 : ((.code y_IN_takeOut b_IN_takeOut 3 none) : Cond) ∈ tb := tb_in (List.mem_of_getElem? (i := 608) (by decide +kernel)) (by decide +kernel)
theorem q_274 : ((.methodLink "EdgeCampaign$Trials" 118 ⟨"EdgeCampaign$Input", "takeOut", "(I)V"⟩) : Cond) ∈ tb := tb_in (List.mem_of_getElem? (i := 605) (by decide +kernel)) (by decide +kernel)
theorem q_275 : ((.instanceMethod ⟨"EdgeCampaign$Input", "takeOut", "(I)V"⟩) : Cond) ∈ tb := tb_in (List.mem_of_getElem? (i := 606) (by decide +kernel)) (by decide +kernel)
theorem q_276 : ((.selects "EdgeCampaign$Input" ⟨"EdgeCampaign$Input", "takeOut", "(I)V"⟩ ⟨"EdgeCampaign$Input", "takeOut", "(I)V"⟩) : Cond) ∈ tb := tb_in (List.mem_of_getElem? (i := 607) (by decide +kernel)) (by decide +kernel)
theorem q_277 : ((.code y_TR_changeDrawn b_TR_changeDrawn 5 none) : Cond) ∈ tb := tb_in (List.mem_of_getElem? (i := 604) (by decide +kernel)) (by decide +kernel)
theorem q_278 : ((.methodLink "EdgeCampaign$Trials" 111 ⟨"EdgeCampaign$Trials", "changeDrawn", "(ILEdgeCampaign$Input;LEdgeCampaign$Generator;)V"⟩) : Cond) ∈ tb := tb_in (List.mem_of_getElem? (i := 602) (by decide +kernel)) (by decide +kernel)
theorem q_279 : ((.static ⟨"EdgeCampaign$Trials", "changeDrawn", "(ILEdgeCampaign$Input;LEdgeCampaign$Generator;)V"⟩) : Cond) ∈ tb := tb_in (List.mem_of_getElem? (i := 603) (by decide +kernel)) (by decide +kernel)
theorem q_280 : ((.code y_TR_insertDrawn b_TR_insertDrawn 3 none) : Cond) ∈ tb := tb_in (List.mem_of_getElem? (i := 597) (by decide +kernel)) (by decide +kernel)
theorem q_281 : ((.methodLink "EdgeCampaign$Trials" 108 ⟨"EdgeCampaign$Trials", "insertDrawn", "(LEdgeCampaign$Input;LEdgeCampaign$Generator;)V"⟩) : Cond) ∈ tb := tb_in (List.mem_of_getElem? (i := 595) (by decide +kernel)) (by decide +kernel)
theorem q_282 : ((.static ⟨"EdgeCampaign$Trials", "insertDrawn", "(LEdgeCampaign$Input;LEdgeCampaign$Generator;)V"⟩) : Cond) ∈ tb := tb_in (List.mem_of_getElem? (i := 596) (by decide +kernel)) (by decide +kernel)
theorem q_283 : ((.methodLink "EdgeCampaign$Trials" 122 ⟨"EdgeCampaign$Input", "cutTo", "(I)V"⟩) : Cond) ∈ tb := tb_in (List.mem_of_getElem? (i := 613) (by decide +kernel)) (by decide +kernel)
theorem q_284 : ((.methodLink "EdgeCampaign$Trials" 125 ⟨"EdgeCampaign$Input", "appendPart", "(LEdgeCampaign$Input;II)V"⟩) : Cond) ∈ tb := tb_in (List.mem_of_getElem? (i := 614) (by decide +kernel)) (by decide +kernel)
theorem q_285 : ((.methodLink "EdgeCampaign$Trials" 35 ⟨"EdgeCampaign$Input", "copy", "(LEdgeCampaign$Input;)V"⟩) : Cond) ∈ tb := tb_in (List.mem_of_getElem? (i := 569) (by decide +kernel)) (by decide +kernel)
theorem q_286 : ((.code y_TR_joinPartner b_TR_joinPartner 8 none) : Cond) ∈ tb := tb_in (List.mem_of_getElem? (i := 612) (by decide +kernel)) (by decide +kernel)
theorem q_287 : ((.methodLink "EdgeCampaign$Trials" 75 ⟨"EdgeCampaign$Trials", "joinPartner", "(LEdgeCampaign$Input;LEdgeCampaign$Store;LEdgeCampaign$Generator;)V"⟩) : Cond) ∈ tb := tb_in (List.mem_of_getElem? (i := 609) (by decide +kernel)) (by decide +kernel)
theorem q_288 : ((.instanceMethod ⟨"EdgeCampaign$Trials", "joinPartner", "(LEdgeCampaign$Input;LEdgeCampaign$Store;LEdgeCampaign$Generator;)V"⟩) : Cond) ∈ tb := tb_in (List.mem_of_getElem? (i := 611) (by decide +kernel)) (by decide +kernel)
theorem q_289 : ((.selects "EdgeCampaign$Trials" ⟨"EdgeCampaign$Trials", "joinPartner", "(LEdgeCampaign$Input;LEdgeCampaign$Store;LEdgeCampaign$Generator;)V"⟩ ⟨"EdgeCampaign$Trials", "joinPartner", "(LEdgeCampaign$Input;LEdgeCampaign$Store;LEdgeCampaign$Generator;)V"⟩) : Cond) ∈ tb := tb_in (List.mem_of_getElem? (i := 16) (by decide +kernel)) (by decide +kernel)
theorem q_290 : ((.code y_TR_changeByDraws b_TR_changeByDraws 5 none) : Cond) ∈ tb := tb_in (List.mem_of_getElem? (i := 589) (by decide +kernel)) (by decide +kernel)
theorem q_291 : ((.methodLink "EdgeCampaign$Trials" 71 ⟨"EdgeCampaign$Trials", "changeByDraws", "(LEdgeCampaign$Input;LEdgeCampaign$Generator;)V"⟩) : Cond) ∈ tb := tb_in (List.mem_of_getElem? (i := 587) (by decide +kernel)) (by decide +kernel)
theorem q_292 : ((.static ⟨"EdgeCampaign$Trials", "changeByDraws", "(LEdgeCampaign$Input;LEdgeCampaign$Generator;)V"⟩) : Cond) ∈ tb := tb_in (List.mem_of_getElem? (i := 588) (by decide +kernel)) (by decide +kernel)
theorem q_293 : ((.fieldLink "EdgeCampaign$Trials" 62 "EdgeCampaign$Trials" "PUT" "[I") : Cond) ∈ tb := tb_in (List.mem_of_getElem? (i := 584) (by decide +kernel)) (by decide +kernel)
theorem q_294 : ((.fieldLink "EdgeCampaign$Trials" 55 "EdgeCampaign$Trials" "ADDED" "[I") : Cond) ∈ tb := tb_in (List.mem_of_getElem? (i := 578) (by decide +kernel)) (by decide +kernel)
theorem q_295 : ((.code y_ST_behind b_ST_behind 2 (some .int)) : Cond) ∈ tb := tb_in (List.mem_of_getElem? (i := 626) (by decide +kernel)) (by decide +kernel)
theorem q_296 : ((.methodLink "EdgeCampaign$Trials" 99 ⟨"EdgeCampaign$Store", "behind", "(I)I"⟩) : Cond) ∈ tb := tb_in (List.mem_of_getElem? (i := 623) (by decide +kernel)) (by decide +kernel)
theorem q_297 : ((.instanceMethod ⟨"EdgeCampaign$Store", "behind", "(I)I"⟩) : Cond) ∈ tb := tb_in (List.mem_of_getElem? (i := 624) (by decide +kernel)) (by decide +kernel)
theorem q_298 : ((.selects "EdgeCampaign$Store" ⟨"EdgeCampaign$Store", "behind", "(I)I"⟩ ⟨"EdgeCampaign$Store", "behind", "(I)I"⟩) : Cond) ∈ tb := tb_in (List.mem_of_getElem? (i := 625) (by decide +kernel)) (by decide +kernel)
theorem q_299 : ((.code y_TR_next b_TR_next 4 (some .int)) : Cond) ∈ tb := tb_in (List.mem_of_getElem? (i := 622) (by decide +kernel)) (by decide +kernel)
theorem q_300 : ((.methodLink "EdgeCampaign$Trials" 83 ⟨"EdgeCampaign$Trials", "next", "(LEdgeCampaign$Store;)I"⟩) : Cond) ∈ tb := tb_in (List.mem_of_getElem? (i := 619) (by decide +kernel)) (by decide +kernel)
theorem q_301 : ((.instanceMethod ⟨"EdgeCampaign$Trials", "next", "(LEdgeCampaign$Store;)I"⟩) : Cond) ∈ tb := tb_in (List.mem_of_getElem? (i := 621) (by decide +kernel)) (by decide +kernel)
theorem q_302 : ((.selects "EdgeCampaign$Trials" ⟨"EdgeCampaign$Trials", "next", "(LEdgeCampaign$Store;)I"⟩ ⟨"EdgeCampaign$Trials", "next", "(LEdgeCampaign$Store;)I"⟩) : Cond) ∈ tb := tb_in (List.mem_of_getElem? (i := 17) (by decide +kernel)) (by decide +kernel)
theorem q_303 : ((.fieldLink "EdgeCampaign" 23 "EdgeCampaign" "changed" "LEdgeCampaign$Input;") : Cond) ∈ tb := tb_in (List.mem_of_getElem? (i := 327) (by decide +kernel)) (by decide +kernel)
theorem q_304 : ((.fieldLink "EdgeCampaign" 59 "EdgeCampaign" "generator" "LEdgeCampaign$Generator;") : Cond) ∈ tb := tb_in (List.mem_of_getElem? (i := 332) (by decide +kernel)) (by decide +kernel)
theorem q_305 : ((.code y_TR_change b_TR_change 8 none) : Cond) ∈ tb := tb_in (List.mem_of_getElem? (i := 568) (by decide +kernel)) (by decide +kernel)
theorem q_306 : ((.methodLink "EdgeCampaign" 97 ⟨"EdgeCampaign$Trials", "change", "(LEdgeCampaign$Input;LEdgeCampaign$Store;LEdgeCampaign$Generator;)V"⟩) : Cond) ∈ tb := tb_in (List.mem_of_getElem? (i := 565) (by decide +kernel)) (by decide +kernel)
theorem q_307 : ((.instanceMethod ⟨"EdgeCampaign$Trials", "change", "(LEdgeCampaign$Input;LEdgeCampaign$Store;LEdgeCampaign$Generator;)V"⟩) : Cond) ∈ tb := tb_in (List.mem_of_getElem? (i := 566) (by decide +kernel)) (by decide +kernel)
theorem q_308 : ((.selects "EdgeCampaign$Trials" ⟨"EdgeCampaign$Trials", "change", "(LEdgeCampaign$Input;LEdgeCampaign$Store;LEdgeCampaign$Generator;)V"⟩ ⟨"EdgeCampaign$Trials", "change", "(LEdgeCampaign$Input;LEdgeCampaign$Store;LEdgeCampaign$Generator;)V"⟩) : Cond) ∈ tb := tb_in (List.mem_of_getElem? (i := 567) (by decide +kernel)) (by decide +kernel)
theorem q_309 : ((.code y_TR_advance b_TR_advance 3 none) : Cond) ∈ tb := tb_in (List.mem_of_getElem? (i := 618) (by decide +kernel)) (by decide +kernel)
theorem q_310 : ((.methodLink "EdgeCampaign" 101 ⟨"EdgeCampaign$Trials", "advance", "(LEdgeCampaign$Store;)V"⟩) : Cond) ∈ tb := tb_in (List.mem_of_getElem? (i := 615) (by decide +kernel)) (by decide +kernel)
theorem q_311 : ((.instanceMethod ⟨"EdgeCampaign$Trials", "advance", "(LEdgeCampaign$Store;)V"⟩) : Cond) ∈ tb := tb_in (List.mem_of_getElem? (i := 616) (by decide +kernel)) (by decide +kernel)
theorem q_312 : ((.selects "EdgeCampaign$Trials" ⟨"EdgeCampaign$Trials", "advance", "(LEdgeCampaign$Store;)V"⟩ ⟨"EdgeCampaign$Trials", "advance", "(LEdgeCampaign$Store;)V"⟩) : Cond) ∈ tb := tb_in (List.mem_of_getElem? (i := 617) (by decide +kernel)) (by decide +kernel)
theorem q_313 : ((.methodLink "EdgeCampaign" 112 ⟨"EdgeCampaign$Store", "has", "(I)Z"⟩) : Cond) ∈ tb := tb_in (List.mem_of_getElem? (i := 635) (by decide +kernel)) (by decide +kernel)
theorem q_314 : ((.methodLink "EdgeCampaign" 134 ⟨"EdgeCampaign$Store", "isFavoured", "(I)Z"⟩) : Cond) ∈ tb := tb_in (List.mem_of_getElem? (i := 636) (by decide +kernel)) (by decide +kernel)
theorem q_315 : ((.methodLink "EdgeCampaign" 137 ⟨"EdgeCampaign$Input", "at", "(I)I"⟩) : Cond) ∈ tb := tb_in (List.mem_of_getElem? (i := 641) (by decide +kernel)) (by decide +kernel)
theorem q_316 : ((.methodLink "EdgeCampaign" 141 ⟨"EdgeCampaign$Program", "isPlace", "(I)Z"⟩) : Cond) ∈ tb := tb_in (List.mem_of_getElem? (i := 646) (by decide +kernel)) (by decide +kernel)
theorem q_317 : ((.code y_FS_has b_FS_has 2 (some .boolean)) : Cond) ∈ tb := tb_in (List.mem_of_getElem? (i := 654) (by decide +kernel)) (by decide +kernel)
theorem q_318 : ((.methodLink "EdgeCampaign" 148 ⟨"EdgeCampaign$Findings", "has", "(I)Z"⟩) : Cond) ∈ tb := tb_in (List.mem_of_getElem? (i := 651) (by decide +kernel)) (by decide +kernel)
theorem q_319 : ((.instanceMethod ⟨"EdgeCampaign$Findings", "has", "(I)Z"⟩) : Cond) ∈ tb := tb_in (List.mem_of_getElem? (i := 652) (by decide +kernel)) (by decide +kernel)
theorem q_320 : ((.selects "EdgeCampaign$Findings" ⟨"EdgeCampaign$Findings", "has", "(I)Z"⟩ ⟨"EdgeCampaign$Findings", "has", "(I)Z"⟩) : Cond) ∈ tb := tb_in (List.mem_of_getElem? (i := 653) (by decide +kernel)) (by decide +kernel)
theorem q_321 : ((.code y_MO_within b_MO_within 2 (some .boolean)) : Cond) ∈ tb := tb_in (List.mem_of_getElem? (i := 818) (by decide +kernel)) (by decide +kernel)
theorem q_322 : ((.methodLink "EdgeCampaignModel" 89 ⟨"EdgeCampaignModel", "within", "(II)Z"⟩) : Cond) ∈ tb := tb_in (List.mem_of_getElem? (i := 816) (by decide +kernel)) (by decide +kernel)
theorem q_323 : ((.initialized "EdgeCampaignModel") : Cond) ∈ tb := tb_in (List.mem_of_getElem? (i := 59) (by decide +kernel)) (by decide +kernel)
theorem q_324 : ((.static ⟨"EdgeCampaignModel", "within", "(II)Z"⟩) : Cond) ∈ tb := tb_in (List.mem_of_getElem? (i := 817) (by decide +kernel)) (by decide +kernel)
theorem q_325 : ((.code y_MO_fits b_MO_fits 2 (some .boolean)) : Cond) ∈ tb := tb_in (List.mem_of_getElem? (i := 821) (by decide +kernel)) (by decide +kernel)
theorem q_326 : ((.methodLink "EdgeCampaignModel" 93 ⟨"EdgeCampaignModel", "fits", "(II)Z"⟩) : Cond) ∈ tb := tb_in (List.mem_of_getElem? (i := 819) (by decide +kernel)) (by decide +kernel)
theorem q_327 : ((.static ⟨"EdgeCampaignModel", "fits", "(II)Z"⟩) : Cond) ∈ tb := tb_in (List.mem_of_getElem? (i := 820) (by decide +kernel)) (by decide +kernel)
theorem q_328 : ((.fieldLink "EdgeCampaignModel" 96 "EdgeCampaignModel" "size" "I") : Cond) ∈ tb := tb_in (List.mem_of_getElem? (i := 676) (by decide +kernel)) (by decide +kernel)
theorem q_329 : ((.fieldLink "EdgeCampaignModel" 99 "EdgeCampaignModel" "executions" "I") : Cond) ∈ tb := tb_in (List.mem_of_getElem? (i := 708) (by decide +kernel)) (by decide +kernel)
theorem q_330 : ((.fieldLink "EdgeCampaignModel" 7 "EdgeCampaignModel" "ops" "[I") : Cond) ∈ tb := tb_in (List.mem_of_getElem? (i := 677) (by decide +kernel)) (by decide +kernel)
theorem q_331 : ((.fieldLink "EdgeCampaignModel" 13 "EdgeCampaignModel" "as" "[I") : Cond) ∈ tb := tb_in (List.mem_of_getElem? (i := 678) (by decide +kernel)) (by decide +kernel)
theorem q_332 : ((.fieldLink "EdgeCampaignModel" 16 "EdgeCampaignModel" "bs" "[I") : Cond) ∈ tb := tb_in (List.mem_of_getElem? (i := 679) (by decide +kernel)) (by decide +kernel)
theorem q_333 : ((.fieldLink "EdgeCampaignModel" 102 "EdgeCampaignModel" "drafted" "I") : Cond) ∈ tb := tb_in (List.mem_of_getElem? (i := 681) (by decide +kernel)) (by decide +kernel)
theorem q_334 : ((.fieldLink "EdgeCampaignModel" 19 "EdgeCampaignModel" "draft" "[I") : Cond) ∈ tb := tb_in (List.mem_of_getElem? (i := 680) (by decide +kernel)) (by decide +kernel)
theorem q_335 : ((.fieldLink "EdgeCampaignModel" 105 "EdgeCampaignModel" "depth" "I") : Cond) ∈ tb := tb_in (List.mem_of_getElem? (i := 688) (by decide +kernel)) (by decide +kernel)
theorem q_336 : ((.fieldLink "EdgeCampaignModel" 31 "EdgeCampaignModel" "stack" "[I") : Cond) ∈ tb := tb_in (List.mem_of_getElem? (i := 687) (by decide +kernel)) (by decide +kernel)
theorem q_337 : ((.fieldLink "EdgeCampaignModel" 108 "EdgeCampaignModel" "pc" "I") : Cond) ∈ tb := tb_in (List.mem_of_getElem? (i := 689) (by decide +kernel)) (by decide +kernel)
theorem q_338 : ((.fieldLink "EdgeCampaignModel" 114 "EdgeCampaignModel" "outcome" "I") : Cond) ∈ tb := tb_in (List.mem_of_getElem? (i := 692) (by decide +kernel)) (by decide +kernel)
theorem q_339 : ((.fieldLink "EdgeCampaignModel" 120 "EdgeCampaignModel" "here" "I") : Cond) ∈ tb := tb_in (List.mem_of_getElem? (i := 690) (by decide +kernel)) (by decide +kernel)
theorem q_340 : ((.fieldLink "EdgeCampaignModel" 25 "EdgeCampaignModel" "\x72" "[I") : Cond) ∈ tb := tb_in (List.mem_of_getElem? (i := 685) (by decide +kernel)) (by decide +kernel)
theorem q_341 : ((.fieldLink "EdgeCampaignModel" 28 "EdgeCampaignModel" "memory" "[I") : Cond) ∈ tb := tb_in (List.mem_of_getElem? (i := 686) (by decide +kernel)) (by decide +kernel)
theorem q_342 : ((.code y_MO_word b_MO_word 4 none) : Cond) ∈ tb := tb_in (List.mem_of_getElem? (i := 861) (by decide +kernel)) (by decide +kernel)
theorem q_343 : ((.methodLink "EdgeCampaignModel" 133 ⟨"EdgeCampaignModel", "word", "(III)V"⟩) : Cond) ∈ tb := tb_in (List.mem_of_getElem? (i := 858) (by decide +kernel)) (by decide +kernel)
theorem q_344 : ((.instanceMethod ⟨"EdgeCampaignModel", "word", "(III)V"⟩) : Cond) ∈ tb := tb_in (List.mem_of_getElem? (i := 860) (by decide +kernel)) (by decide +kernel)
theorem q_345 : ((.selects "EdgeCampaignModel" ⟨"EdgeCampaignModel", "word", "(III)V"⟩ ⟨"EdgeCampaignModel", "word", "(III)V"⟩) : Cond) ∈ tb := tb_in (List.mem_of_getElem? (i := 25) (by decide +kernel)) (by decide +kernel)
theorem q_346 : ((.fieldLink "EdgeCampaignModel" 130 "EdgeCampaignModel" "tapeLength" "I") : Cond) ∈ tb := tb_in (List.mem_of_getElem? (i := 684) (by decide +kernel)) (by decide +kernel)
theorem q_347 : ((.fieldLink "EdgeCampaignModel" 22 "EdgeCampaignModel" "tape" "[I") : Cond) ∈ tb := tb_in (List.mem_of_getElem? (i := 683) (by decide +kernel)) (by decide +kernel)
theorem q_348 : ((.code y_MO_work b_MO_work 4 none) : Cond) ∈ tb := tb_in (List.mem_of_getElem? (i := 857) (by decide +kernel)) (by decide +kernel)
theorem q_349 : ((.methodLink "EdgeCampaignModel" 127 ⟨"EdgeCampaignModel", "work", "(III)V"⟩) : Cond) ∈ tb := tb_in (List.mem_of_getElem? (i := 854) (by decide +kernel)) (by decide +kernel)
theorem q_350 : ((.instanceMethod ⟨"EdgeCampaignModel", "work", "(III)V"⟩) : Cond) ∈ tb := tb_in (List.mem_of_getElem? (i := 856) (by decide +kernel)) (by decide +kernel)
theorem q_351 : ((.selects "EdgeCampaignModel" ⟨"EdgeCampaignModel", "work", "(III)V"⟩ ⟨"EdgeCampaignModel", "work", "(III)V"⟩) : Cond) ∈ tb := tb_in (List.mem_of_getElem? (i := 24) (by decide +kernel)) (by decide +kernel)
theorem q_352 : ((.fieldLink "EdgeCampaignModel" 111 "EdgeCampaignModel" "steps" "I") : Cond) ∈ tb := tb_in (List.mem_of_getElem? (i := 691) (by decide +kernel)) (by decide +kernel)
theorem q_353 : ((.code y_MO_jump b_MO_jump 4 none) : Cond) ∈ tb := tb_in (List.mem_of_getElem? (i := 853) (by decide +kernel)) (by decide +kernel)
theorem q_354 : ((.methodLink "EdgeCampaignModel" 123 ⟨"EdgeCampaignModel", "jump", "(III)V"⟩) : Cond) ∈ tb := tb_in (List.mem_of_getElem? (i := 850) (by decide +kernel)) (by decide +kernel)
theorem q_355 : ((.instanceMethod ⟨"EdgeCampaignModel", "jump", "(III)V"⟩) : Cond) ∈ tb := tb_in (List.mem_of_getElem? (i := 852) (by decide +kernel)) (by decide +kernel)
theorem q_356 : ((.selects "EdgeCampaignModel" ⟨"EdgeCampaignModel", "jump", "(III)V"⟩ ⟨"EdgeCampaignModel", "jump", "(III)V"⟩) : Cond) ∈ tb := tb_in (List.mem_of_getElem? (i := 23) (by decide +kernel)) (by decide +kernel)
theorem q_357 : ((.fieldLink "EdgeCampaignModel" 34 "EdgeCampaignModel" "times" "[I") : Cond) ∈ tb := tb_in (List.mem_of_getElem? (i := 693) (by decide +kernel)) (by decide +kernel)
theorem q_358 : ((.code y_MO_step b_MO_step 4 none) : Cond) ∈ tb := tb_in (List.mem_of_getElem? (i := 849) (by decide +kernel)) (by decide +kernel)
theorem q_359 : ((.methodLink "EdgeCampaignModel" 117 ⟨"EdgeCampaignModel", "step", "()V"⟩) : Cond) ∈ tb := tb_in (List.mem_of_getElem? (i := 846) (by decide +kernel)) (by decide +kernel)
theorem q_360 : ((.instanceMethod ⟨"EdgeCampaignModel", "step", "()V"⟩) : Cond) ∈ tb := tb_in (List.mem_of_getElem? (i := 848) (by decide +kernel)) (by decide +kernel)
theorem q_361 : ((.selects "EdgeCampaignModel" ⟨"EdgeCampaignModel", "step", "()V"⟩ ⟨"EdgeCampaignModel", "step", "()V"⟩) : Cond) ∈ tb := tb_in (List.mem_of_getElem? (i := 22) (by decide +kernel)) (by decide +kernel)
theorem q_362 : ((.code y_MO_run b_MO_run 2 none) : Cond) ∈ tb := tb_in (List.mem_of_getElem? (i := 845) (by decide +kernel)) (by decide +kernel)
theorem q_363 : ((.methodLink "EdgeCampaignModel" 136 ⟨"EdgeCampaignModel", "run", "()V"⟩) : Cond) ∈ tb := tb_in (List.mem_of_getElem? (i := 842) (by decide +kernel)) (by decide +kernel)
theorem q_364 : ((.instanceMethod ⟨"EdgeCampaignModel", "run", "()V"⟩) : Cond) ∈ tb := tb_in (List.mem_of_getElem? (i := 844) (by decide +kernel)) (by decide +kernel)
theorem q_365 : ((.selects "EdgeCampaignModel" ⟨"EdgeCampaignModel", "run", "()V"⟩ ⟨"EdgeCampaignModel", "run", "()V"⟩) : Cond) ∈ tb := tb_in (List.mem_of_getElem? (i := 21) (by decide +kernel)) (by decide +kernel)
theorem q_366 : ((.fieldLink "EdgeCampaignModel" 40 "EdgeCampaignModel" "lengths" "[I") : Cond) ∈ tb := tb_in (List.mem_of_getElem? (i := 696) (by decide +kernel)) (by decide +kernel)
theorem q_367 : ((.fieldLink "EdgeCampaignModel" 37 "EdgeCampaignModel" "inputs" "[I") : Cond) ∈ tb := tb_in (List.mem_of_getElem? (i := 695) (by decide +kernel)) (by decide +kernel)
theorem q_368 : ((.fieldLink "EdgeCampaignModel" 139 "EdgeCampaignModel" "curLength" "I") : Cond) ∈ tb := tb_in (List.mem_of_getElem? (i := 720) (by decide +kernel)) (by decide +kernel)
theorem q_369 : ((.fieldLink "EdgeCampaignModel" 82 "EdgeCampaignModel" "cur" "[I") : Cond) ∈ tb := tb_in (List.mem_of_getElem? (i := 719) (by decide +kernel)) (by decide +kernel)
theorem q_370 : ((.fieldLink "EdgeCampaignModel" 145 "EdgeCampaignModel" "entries" "I") : Cond) ∈ tb := tb_in (List.mem_of_getElem? (i := 694) (by decide +kernel)) (by decide +kernel)
theorem q_371 : ((.fieldLink "EdgeCampaignModel" 79 "EdgeCampaignModel" "stepsOf" "[I") : Cond) ∈ tb := tb_in (List.mem_of_getElem? (i := 714) (by decide +kernel)) (by decide +kernel)
theorem q_372 : ((.fieldLink "EdgeCampaignModel" 156 "EdgeCampaignModel" "favoured" "I") : Cond) ∈ tb := tb_in (List.mem_of_getElem? (i := 715) (by decide +kernel)) (by decide +kernel)
theorem q_373 : ((.fieldLink "EdgeCampaignModel" 76 "EdgeCampaignModel" "went" "[I") : Cond) ∈ tb := tb_in (List.mem_of_getElem? (i := 713) (by decide +kernel)) (by decide +kernel)
theorem q_374 : ((.code y_MO_top b_MO_top 6 (some .int)) : Cond) ∈ tb := tb_in (List.mem_of_getElem? (i := 868) (by decide +kernel)) (by decide +kernel)
theorem q_375 : ((.methodLink "EdgeCampaignModel" 159 ⟨"EdgeCampaignModel", "top", "(I)I"⟩) : Cond) ∈ tb := tb_in (List.mem_of_getElem? (i := 865) (by decide +kernel)) (by decide +kernel)
theorem q_376 : ((.instanceMethod ⟨"EdgeCampaignModel", "top", "(I)I"⟩) : Cond) ∈ tb := tb_in (List.mem_of_getElem? (i := 867) (by decide +kernel)) (by decide +kernel)
theorem q_377 : ((.selects "EdgeCampaignModel" ⟨"EdgeCampaignModel", "top", "(I)I"⟩ ⟨"EdgeCampaignModel", "top", "(I)I"⟩) : Cond) ∈ tb := tb_in (List.mem_of_getElem? (i := 26) (by decide +kernel)) (by decide +kernel)
theorem q_378 : ((.code y_MO_runEntry b_MO_runEntry 3 none) : Cond) ∈ tb := tb_in (List.mem_of_getElem? (i := 841) (by decide +kernel)) (by decide +kernel)
theorem q_379 : ((.methodLink "EdgeCampaignModel" 148 ⟨"EdgeCampaignModel", "runEntry", "(I)V"⟩) : Cond) ∈ tb := tb_in (List.mem_of_getElem? (i := 838) (by decide +kernel)) (by decide +kernel)
theorem q_380 : ((.instanceMethod ⟨"EdgeCampaignModel", "runEntry", "(I)V"⟩) : Cond) ∈ tb := tb_in (List.mem_of_getElem? (i := 840) (by decide +kernel)) (by decide +kernel)
theorem q_381 : ((.selects "EdgeCampaignModel" ⟨"EdgeCampaignModel", "runEntry", "(I)V"⟩ ⟨"EdgeCampaignModel", "runEntry", "(I)V"⟩) : Cond) ∈ tb := tb_in (List.mem_of_getElem? (i := 20) (by decide +kernel)) (by decide +kernel)
theorem q_382 : ((.fieldLink "EdgeCampaignModel" 73 "EdgeCampaignModel" "buckets" "[I") : Cond) ∈ tb := tb_in (List.mem_of_getElem? (i := 712) (by decide +kernel)) (by decide +kernel)
theorem q_383 : ((.code y_MO_bucket b_MO_bucket 1 (some .int)) : Cond) ∈ tb := tb_in (List.mem_of_getElem? (i := 864) (by decide +kernel)) (by decide +kernel)
theorem q_384 : ((.methodLink "EdgeCampaignModel" 152 ⟨"EdgeCampaignModel", "bucket", "(I)I"⟩) : Cond) ∈ tb := tb_in (List.mem_of_getElem? (i := 862) (by decide +kernel)) (by decide +kernel)
theorem q_385 : ((.static ⟨"EdgeCampaignModel", "bucket", "(I)I"⟩) : Cond) ∈ tb := tb_in (List.mem_of_getElem? (i := 863) (by decide +kernel)) (by decide +kernel)
theorem q_386 : ((.fieldLink "EdgeCampaignModel" 142 "EdgeCampaignModel" "surveyed" "I") : Cond) ∈ tb := tb_in (List.mem_of_getElem? (i := 711) (by decide +kernel)) (by decide +kernel)
theorem q_387 : ((.fieldLink "EdgeCampaignModel" 52 "EdgeCampaignModel" "depths" "[I") : Cond) ∈ tb := tb_in (List.mem_of_getElem? (i := 701) (by decide +kernel)) (by decide +kernel)
theorem q_388 : ((.fieldLink "EdgeCampaignModel" 55 "EdgeCampaignModel" "stacks" "[I") : Cond) ∈ tb := tb_in (List.mem_of_getElem? (i := 702) (by decide +kernel)) (by decide +kernel)
theorem q_389 : ((.fieldLink "EdgeCampaignModel" 46 "EdgeCampaignModel" "traps" "[I") : Cond) ∈ tb := tb_in (List.mem_of_getElem? (i := 699) (by decide +kernel)) (by decide +kernel)
theorem q_390 : ((.fieldLink "EdgeCampaignModel" 49 "EdgeCampaignModel" "places" "[I") : Cond) ∈ tb := tb_in (List.mem_of_getElem? (i := 700) (by decide +kernel)) (by decide +kernel)
theorem q_391 : ((.code y_MO_signed b_MO_signed 4 (some .boolean)) : Cond) ∈ tb := tb_in (List.mem_of_getElem? (i := 884) (by decide +kernel)) (by decide +kernel)
theorem q_392 : ((.methodLink "EdgeCampaignModel" 187 ⟨"EdgeCampaignModel", "signed", "(I)Z"⟩) : Cond) ∈ tb := tb_in (List.mem_of_getElem? (i := 881) (by decide +kernel)) (by decide +kernel)
theorem q_393 : ((.instanceMethod ⟨"EdgeCampaignModel", "signed", "(I)Z"⟩) : Cond) ∈ tb := tb_in (List.mem_of_getElem? (i := 883) (by decide +kernel)) (by decide +kernel)
theorem q_394 : ((.selects "EdgeCampaignModel" ⟨"EdgeCampaignModel", "signed", "(I)Z"⟩ ⟨"EdgeCampaignModel", "signed", "(I)Z"⟩) : Cond) ∈ tb := tb_in (List.mem_of_getElem? (i := 30) (by decide +kernel)) (by decide +kernel)
theorem q_395 : ((.fieldLink "EdgeCampaignModel" 67 "EdgeCampaignModel" "brief" "[I") : Cond) ∈ tb := tb_in (List.mem_of_getElem? (i := 706) (by decide +kernel)) (by decide +kernel)
theorem q_396 : ((.fieldLink "EdgeCampaignModel" 70 "EdgeCampaignModel" "briefLength" "[I") : Cond) ∈ tb := tb_in (List.mem_of_getElem? (i := 707) (by decide +kernel)) (by decide +kernel)
theorem q_397 : ((.code y_MO_adopt b_MO_adopt 3 none) : Cond) ∈ tb := tb_in (List.mem_of_getElem? (i := 900) (by decide +kernel)) (by decide +kernel)
theorem q_398 : ((.methodLink "EdgeCampaignModel" 198 ⟨"EdgeCampaignModel", "adopt", "(I)V"⟩) : Cond) ∈ tb := tb_in (List.mem_of_getElem? (i := 897) (by decide +kernel)) (by decide +kernel)
theorem q_399 : ((.instanceMethod ⟨"EdgeCampaignModel", "adopt", "(I)V"⟩) : Cond) ∈ tb := tb_in (List.mem_of_getElem? (i := 899) (by decide +kernel)) (by decide +kernel)
theorem q_400 : ((.selects "EdgeCampaignModel" ⟨"EdgeCampaignModel", "adopt", "(I)V"⟩ ⟨"EdgeCampaignModel", "adopt", "(I)V"⟩) : Cond) ∈ tb := tb_in (List.mem_of_getElem? (i := 34) (by decide +kernel)) (by decide +kernel)
theorem q_401 : ((.code y_MO_still b_MO_still 7 (some .boolean)) : Cond) ∈ tb := tb_in (List.mem_of_getElem? (i := 896) (by decide +kernel)) (by decide +kernel)
theorem q_402 : ((.methodLink "EdgeCampaignModel" 194 ⟨"EdgeCampaignModel", "still", "(IIIZ)Z"⟩) : Cond) ∈ tb := tb_in (List.mem_of_getElem? (i := 893) (by decide +kernel)) (by decide +kernel)
theorem q_403 : ((.instanceMethod ⟨"EdgeCampaignModel", "still", "(IIIZ)Z"⟩) : Cond) ∈ tb := tb_in (List.mem_of_getElem? (i := 895) (by decide +kernel)) (by decide +kernel)
theorem q_404 : ((.selects "EdgeCampaignModel" ⟨"EdgeCampaignModel", "still", "(IIIZ)Z"⟩ ⟨"EdgeCampaignModel", "still", "(IIIZ)Z"⟩) : Cond) ∈ tb := tb_in (List.mem_of_getElem? (i := 33) (by decide +kernel)) (by decide +kernel)
theorem q_405 : ((.code y_MO_part b_MO_part 6 (some .boolean)) : Cond) ∈ tb := tb_in (List.mem_of_getElem? (i := 892) (by decide +kernel)) (by decide +kernel)
theorem q_406 : ((.methodLink "EdgeCampaignModel" 201 ⟨"EdgeCampaignModel", "part", "(IIZ)Z"⟩) : Cond) ∈ tb := tb_in (List.mem_of_getElem? (i := 889) (by decide +kernel)) (by decide +kernel)
theorem q_407 : ((.instanceMethod ⟨"EdgeCampaignModel", "part", "(IIZ)Z"⟩) : Cond) ∈ tb := tb_in (List.mem_of_getElem? (i := 891) (by decide +kernel)) (by decide +kernel)
theorem q_408 : ((.selects "EdgeCampaignModel" ⟨"EdgeCampaignModel", "part", "(IIZ)Z"⟩ ⟨"EdgeCampaignModel", "part", "(IIZ)Z"⟩) : Cond) ∈ tb := tb_in (List.mem_of_getElem? (i := 32) (by decide +kernel)) (by decide +kernel)
theorem q_409 : ((.code y_MO_shorten b_MO_shorten 6 none) : Cond) ∈ tb := tb_in (List.mem_of_getElem? (i := 888) (by decide +kernel)) (by decide +kernel)
theorem q_410 : ((.methodLink "EdgeCampaignModel" 191 ⟨"EdgeCampaignModel", "shorten", "(I)V"⟩) : Cond) ∈ tb := tb_in (List.mem_of_getElem? (i := 885) (by decide +kernel)) (by decide +kernel)
theorem q_411 : ((.instanceMethod ⟨"EdgeCampaignModel", "shorten", "(I)V"⟩) : Cond) ∈ tb := tb_in (List.mem_of_getElem? (i := 887) (by decide +kernel)) (by decide +kernel)
theorem q_412 : ((.selects "EdgeCampaignModel" ⟨"EdgeCampaignModel", "shorten", "(I)V"⟩ ⟨"EdgeCampaignModel", "shorten", "(I)V"⟩) : Cond) ∈ tb := tb_in (List.mem_of_getElem? (i := 31) (by decide +kernel)) (by decide +kernel)
theorem q_413 : ((.fieldLink "EdgeCampaignModel" 184 "EdgeCampaignModel" "findings" "I") : Cond) ∈ tb := tb_in (List.mem_of_getElem? (i := 698) (by decide +kernel)) (by decide +kernel)
theorem q_414 : ((.fieldLink "EdgeCampaignModel" 58 "EdgeCampaignModel" "hits" "[I") : Cond) ∈ tb := tb_in (List.mem_of_getElem? (i := 703) (by decide +kernel)) (by decide +kernel)
theorem q_415 : ((.fieldLink "EdgeCampaignModel" 64 "EdgeCampaignModel" "foundLength" "[I") : Cond) ∈ tb := tb_in (List.mem_of_getElem? (i := 705) (by decide +kernel)) (by decide +kernel)
theorem q_416 : ((.fieldLink "EdgeCampaignModel" 61 "EdgeCampaignModel" "found" "[I") : Cond) ∈ tb := tb_in (List.mem_of_getElem? (i := 704) (by decide +kernel)) (by decide +kernel)
theorem q_417 : ((.fieldLink "EdgeCampaignModel" 178 "EdgeCampaignModel" "lost" "I") : Cond) ∈ tb := tb_in (List.mem_of_getElem? (i := 710) (by decide +kernel)) (by decide +kernel)
theorem q_418 : ((.fieldLink "EdgeCampaignModel" 212 "EdgeCampaignModel" "energy" "I") : Cond) ∈ tb := tb_in (List.mem_of_getElem? (i := 718) (by decide +kernel)) (by decide +kernel)
theorem q_419 : ((.fieldLink "EdgeCampaignModel" 43 "EdgeCampaignModel" "finished" "[I") : Cond) ∈ tb := tb_in (List.mem_of_getElem? (i := 697) (by decide +kernel)) (by decide +kernel)
theorem q_420 : ((.fieldLink "EdgeCampaignModel" 215 "EdgeCampaignModel" "next" "I") : Cond) ∈ tb := tb_in (List.mem_of_getElem? (i := 717) (by decide +kernel)) (by decide +kernel)
theorem q_421 : ((.fieldLink "EdgeCampaignModel" 209 "EdgeCampaignModel" "taken" "I") : Cond) ∈ tb := tb_in (List.mem_of_getElem? (i := 716) (by decide +kernel)) (by decide +kernel)
theorem q_422 : ((.code y_MO_survey b_MO_survey 3 none) : Cond) ∈ tb := tb_in (List.mem_of_getElem? (i := 837) (by decide +kernel)) (by decide +kernel)
theorem q_423 : ((.methodLink "EdgeCampaignModel" 162 ⟨"EdgeCampaignModel", "survey", "()V"⟩) : Cond) ∈ tb := tb_in (List.mem_of_getElem? (i := 834) (by decide +kernel)) (by decide +kernel)
theorem q_424 : ((.instanceMethod ⟨"EdgeCampaignModel", "survey", "()V"⟩) : Cond) ∈ tb := tb_in (List.mem_of_getElem? (i := 836) (by decide +kernel)) (by decide +kernel)
theorem q_425 : ((.selects "EdgeCampaignModel" ⟨"EdgeCampaignModel", "survey", "()V"⟩ ⟨"EdgeCampaignModel", "survey", "()V"⟩) : Cond) ∈ tb := tb_in (List.mem_of_getElem? (i := 19) (by decide +kernel)) (by decide +kernel)
theorem q_426 : ((.code y_MO_edgesOf b_MO_edgesOf 4 (some .int)) : Cond) ∈ tb := tb_in (List.mem_of_getElem? (i := 908) (by decide +kernel)) (by decide +kernel)
theorem q_427 : ((.methodLink "EdgeCampaignModel" 206 ⟨"EdgeCampaignModel", "edgesOf", "(I)I"⟩) : Cond) ∈ tb := tb_in (List.mem_of_getElem? (i := 905) (by decide +kernel)) (by decide +kernel)
theorem q_428 : ((.instanceMethod ⟨"EdgeCampaignModel", "edgesOf", "(I)I"⟩) : Cond) ∈ tb := tb_in (List.mem_of_getElem? (i := 907) (by decide +kernel)) (by decide +kernel)
theorem q_429 : ((.selects "EdgeCampaignModel" ⟨"EdgeCampaignModel", "edgesOf", "(I)I"⟩ ⟨"EdgeCampaignModel", "edgesOf", "(I)I"⟩) : Cond) ∈ tb := tb_in (List.mem_of_getElem? (i := 36) (by decide +kernel)) (by decide +kernel)
theorem q_430 : ((.code y_MO_takeUp b_MO_takeUp 4 none) : Cond) ∈ tb := tb_in (List.mem_of_getElem? (i := 904) (by decide +kernel)) (by decide +kernel)
theorem q_431 : ((.methodLink "EdgeCampaignModel" 181 ⟨"EdgeCampaignModel", "takeUp", "(I)V"⟩) : Cond) ∈ tb := tb_in (List.mem_of_getElem? (i := 901) (by decide +kernel)) (by decide +kernel)
theorem q_432 : ((.instanceMethod ⟨"EdgeCampaignModel", "takeUp", "(I)V"⟩) : Cond) ∈ tb := tb_in (List.mem_of_getElem? (i := 903) (by decide +kernel)) (by decide +kernel)
theorem q_433 : ((.selects "EdgeCampaignModel" ⟨"EdgeCampaignModel", "takeUp", "(I)V"⟩ ⟨"EdgeCampaignModel", "takeUp", "(I)V"⟩) : Cond) ∈ tb := tb_in (List.mem_of_getElem? (i := 35) (by decide +kernel)) (by decide +kernel)
theorem q_434 : ((.fieldLink "EdgeCampaignModel" 168 "EdgeCampaignModel" "hangs" "I") : Cond) ∈ tb := tb_in (List.mem_of_getElem? (i := 709) (by decide +kernel)) (by decide +kernel)
theorem q_435 : ((.code y_MO_newPair b_MO_newPair 3 (some .boolean)) : Cond) ∈ tb := tb_in (List.mem_of_getElem? (i := 876) (by decide +kernel)) (by decide +kernel)
theorem q_436 : ((.methodLink "EdgeCampaignModel" 171 ⟨"EdgeCampaignModel", "newPair", "()Z"⟩) : Cond) ∈ tb := tb_in (List.mem_of_getElem? (i := 873) (by decide +kernel)) (by decide +kernel)
theorem q_437 : ((.instanceMethod ⟨"EdgeCampaignModel", "newPair", "()Z"⟩) : Cond) ∈ tb := tb_in (List.mem_of_getElem? (i := 875) (by decide +kernel)) (by decide +kernel)
theorem q_438 : ((.selects "EdgeCampaignModel" ⟨"EdgeCampaignModel", "newPair", "()Z"⟩ ⟨"EdgeCampaignModel", "newPair", "()Z"⟩) : Cond) ∈ tb := tb_in (List.mem_of_getElem? (i := 28) (by decide +kernel)) (by decide +kernel)
theorem q_439 : ((.code y_MO_trapped b_MO_trapped 3 none) : Cond) ∈ tb := tb_in (List.mem_of_getElem? (i := 880) (by decide +kernel)) (by decide +kernel)
theorem q_440 : ((.methodLink "EdgeCampaignModel" 175 ⟨"EdgeCampaignModel", "trapped", "()V"⟩) : Cond) ∈ tb := tb_in (List.mem_of_getElem? (i := 877) (by decide +kernel)) (by decide +kernel)
theorem q_441 : ((.instanceMethod ⟨"EdgeCampaignModel", "trapped", "()V"⟩) : Cond) ∈ tb := tb_in (List.mem_of_getElem? (i := 879) (by decide +kernel)) (by decide +kernel)
theorem q_442 : ((.selects "EdgeCampaignModel" ⟨"EdgeCampaignModel", "trapped", "()V"⟩ ⟨"EdgeCampaignModel", "trapped", "()V"⟩) : Cond) ∈ tb := tb_in (List.mem_of_getElem? (i := 29) (by decide +kernel)) (by decide +kernel)
theorem q_443 : ((.code y_MO_runCurrent b_MO_runCurrent 2 none) : Cond) ∈ tb := tb_in (List.mem_of_getElem? (i := 872) (by decide +kernel)) (by decide +kernel)
theorem q_444 : ((.methodLink "EdgeCampaignModel" 165 ⟨"EdgeCampaignModel", "runCurrent", "()V"⟩) : Cond) ∈ tb := tb_in (List.mem_of_getElem? (i := 869) (by decide +kernel)) (by decide +kernel)
theorem q_445 : ((.instanceMethod ⟨"EdgeCampaignModel", "runCurrent", "()V"⟩) : Cond) ∈ tb := tb_in (List.mem_of_getElem? (i := 871) (by decide +kernel)) (by decide +kernel)
theorem q_446 : ((.selects "EdgeCampaignModel" ⟨"EdgeCampaignModel", "runCurrent", "()V"⟩ ⟨"EdgeCampaignModel", "runCurrent", "()V"⟩) : Cond) ∈ tb := tb_in (List.mem_of_getElem? (i := 27) (by decide +kernel)) (by decide +kernel)
theorem q_447 : ((.fieldLink "EdgeCampaignModel" 85 "EdgeCampaignModel" "x" "I") : Cond) ∈ tb := tb_in (List.mem_of_getElem? (i := 682) (by decide +kernel)) (by decide +kernel)
theorem q_448 : ((.constant "EdgeCampaignModel" 205 2147483647) : Cond) ∈ tb := tb_in (List.mem_of_getElem? (i := 929) (by decide +kernel)) (by decide +kernel)
theorem q_449 : ((.code y_MO_draw b_MO_draw 2 (some .int)) : Cond) ∈ tb := tb_in (List.mem_of_getElem? (i := 928) (by decide +kernel)) (by decide +kernel)
theorem q_450 : ((.methodLink "EdgeCampaignModel" 235 ⟨"EdgeCampaignModel", "draw", "(I)I"⟩) : Cond) ∈ tb := tb_in (List.mem_of_getElem? (i := 925) (by decide +kernel)) (by decide +kernel)
theorem q_451 : ((.instanceMethod ⟨"EdgeCampaignModel", "draw", "(I)I"⟩) : Cond) ∈ tb := tb_in (List.mem_of_getElem? (i := 927) (by decide +kernel)) (by decide +kernel)
theorem q_452 : ((.selects "EdgeCampaignModel" ⟨"EdgeCampaignModel", "draw", "(I)I"⟩ ⟨"EdgeCampaignModel", "draw", "(I)I"⟩) : Cond) ∈ tb := tb_in (List.mem_of_getElem? (i := 40) (by decide +kernel)) (by decide +kernel)
theorem q_453 : ((.code y_MO_change b_MO_change 4 none) : Cond) ∈ tb := tb_in (List.mem_of_getElem? (i := 937) (by decide +kernel)) (by decide +kernel)
theorem q_454 : ((.methodLink "EdgeCampaignModel" 241 ⟨"EdgeCampaignModel", "change", "(I)V"⟩) : Cond) ∈ tb := tb_in (List.mem_of_getElem? (i := 934) (by decide +kernel)) (by decide +kernel)
theorem q_455 : ((.instanceMethod ⟨"EdgeCampaignModel", "change", "(I)V"⟩) : Cond) ∈ tb := tb_in (List.mem_of_getElem? (i := 936) (by decide +kernel)) (by decide +kernel)
theorem q_456 : ((.selects "EdgeCampaignModel" ⟨"EdgeCampaignModel", "change", "(I)V"⟩ ⟨"EdgeCampaignModel", "change", "(I)V"⟩) : Cond) ∈ tb := tb_in (List.mem_of_getElem? (i := 42) (by decide +kernel)) (by decide +kernel)
theorem q_457 : ((.code y_MO_putIn b_MO_putIn 4 none) : Cond) ∈ tb := tb_in (List.mem_of_getElem? (i := 933) (by decide +kernel)) (by decide +kernel)
theorem q_458 : ((.methodLink "EdgeCampaignModel" 238 ⟨"EdgeCampaignModel", "putIn", "()V"⟩) : Cond) ∈ tb := tb_in (List.mem_of_getElem? (i := 930) (by decide +kernel)) (by decide +kernel)
theorem q_459 : ((.instanceMethod ⟨"EdgeCampaignModel", "putIn", "()V"⟩) : Cond) ∈ tb := tb_in (List.mem_of_getElem? (i := 932) (by decide +kernel)) (by decide +kernel)
theorem q_460 : ((.selects "EdgeCampaignModel" ⟨"EdgeCampaignModel", "putIn", "()V"⟩ ⟨"EdgeCampaignModel", "putIn", "()V"⟩) : Cond) ∈ tb := tb_in (List.mem_of_getElem? (i := 41) (by decide +kernel)) (by decide +kernel)
theorem q_461 : ((.code y_MO_takeNext b_MO_takeNext 6 none) : Cond) ∈ tb := tb_in (List.mem_of_getElem? (i := 945) (by decide +kernel)) (by decide +kernel)
theorem q_462 : ((.methodLink "EdgeCampaignModel" 232 ⟨"EdgeCampaignModel", "takeNext", "()V"⟩) : Cond) ∈ tb := tb_in (List.mem_of_getElem? (i := 942) (by decide +kernel)) (by decide +kernel)
theorem q_463 : ((.instanceMethod ⟨"EdgeCampaignModel", "takeNext", "()V"⟩) : Cond) ∈ tb := tb_in (List.mem_of_getElem? (i := 944) (by decide +kernel)) (by decide +kernel)
theorem q_464 : ((.selects "EdgeCampaignModel" ⟨"EdgeCampaignModel", "takeNext", "()V"⟩ ⟨"EdgeCampaignModel", "takeNext", "()V"⟩) : Cond) ∈ tb := tb_in (List.mem_of_getElem? (i := 44) (by decide +kernel)) (by decide +kernel)
theorem q_465 : ((.code y_MO_execute b_MO_execute 4 (some .int)) : Cond) ∈ tb := tb_in (List.mem_of_getElem? (i := 833) (by decide +kernel)) (by decide +kernel)
theorem q_466 : ((.methodLink "EdgeCampaignModel" 228 ⟨"EdgeCampaignModel", "execute", "()I"⟩) : Cond) ∈ tb := tb_in (List.mem_of_getElem? (i := 830) (by decide +kernel)) (by decide +kernel)
theorem q_467 : ((.instanceMethod ⟨"EdgeCampaignModel", "execute", "()I"⟩) : Cond) ∈ tb := tb_in (List.mem_of_getElem? (i := 832) (by decide +kernel)) (by decide +kernel)
theorem q_468 : ((.selects "EdgeCampaignModel" ⟨"EdgeCampaignModel", "execute", "()I"⟩ ⟨"EdgeCampaignModel", "execute", "()I"⟩) : Cond) ∈ tb := tb_in (List.mem_of_getElem? (i := 18) (by decide +kernel)) (by decide +kernel)
theorem q_469 : ((.code y_MO_crossed b_MO_crossed 6 none) : Cond) ∈ tb := tb_in (List.mem_of_getElem? (i := 941) (by decide +kernel)) (by decide +kernel)
theorem q_470 : ((.methodLink "EdgeCampaignModel" 225 ⟨"EdgeCampaignModel", "crossed", "(I)V"⟩) : Cond) ∈ tb := tb_in (List.mem_of_getElem? (i := 938) (by decide +kernel)) (by decide +kernel)
theorem q_471 : ((.instanceMethod ⟨"EdgeCampaignModel", "crossed", "(I)V"⟩) : Cond) ∈ tb := tb_in (List.mem_of_getElem? (i := 940) (by decide +kernel)) (by decide +kernel)
theorem q_472 : ((.selects "EdgeCampaignModel" ⟨"EdgeCampaignModel", "crossed", "(I)V"⟩ ⟨"EdgeCampaignModel", "crossed", "(I)V"⟩) : Cond) ∈ tb := tb_in (List.mem_of_getElem? (i := 43) (by decide +kernel)) (by decide +kernel)
theorem q_473 : ((.code y_MO_mixed b_MO_mixed 4 none) : Cond) ∈ tb := tb_in (List.mem_of_getElem? (i := 924) (by decide +kernel)) (by decide +kernel)
theorem q_474 : ((.methodLink "EdgeCampaignModel" 222 ⟨"EdgeCampaignModel", "mixed", "()V"⟩) : Cond) ∈ tb := tb_in (List.mem_of_getElem? (i := 921) (by decide +kernel)) (by decide +kernel)
theorem q_475 : ((.instanceMethod ⟨"EdgeCampaignModel", "mixed", "()V"⟩) : Cond) ∈ tb := tb_in (List.mem_of_getElem? (i := 923) (by decide +kernel)) (by decide +kernel)
theorem q_476 : ((.selects "EdgeCampaignModel" ⟨"EdgeCampaignModel", "mixed", "()V"⟩ ⟨"EdgeCampaignModel", "mixed", "()V"⟩) : Cond) ∈ tb := tb_in (List.mem_of_getElem? (i := 39) (by decide +kernel)) (by decide +kernel)
theorem q_477 : ((.code y_MO_plain b_MO_plain 5 none) : Cond) ∈ tb := tb_in (List.mem_of_getElem? (i := 920) (by decide +kernel)) (by decide +kernel)
theorem q_478 : ((.methodLink "EdgeCampaignModel" 218 ⟨"EdgeCampaignModel", "plain", "(II)V"⟩) : Cond) ∈ tb := tb_in (List.mem_of_getElem? (i := 917) (by decide +kernel)) (by decide +kernel)
theorem q_479 : ((.instanceMethod ⟨"EdgeCampaignModel", "plain", "(II)V"⟩) : Cond) ∈ tb := tb_in (List.mem_of_getElem? (i := 919) (by decide +kernel)) (by decide +kernel)
theorem q_480 : ((.selects "EdgeCampaignModel" ⟨"EdgeCampaignModel", "plain", "(II)V"⟩ ⟨"EdgeCampaignModel", "plain", "(II)V"⟩) : Cond) ∈ tb := tb_in (List.mem_of_getElem? (i := 38) (by decide +kernel)) (by decide +kernel)
theorem q_481 : ((.code y_MO_trial b_MO_trial 5 none) : Cond) ∈ tb := tb_in (List.mem_of_getElem? (i := 916) (by decide +kernel)) (by decide +kernel)
theorem q_482 : ((.methodLink "EdgeCampaignModel" 244 ⟨"EdgeCampaignModel", "trial", "()V"⟩) : Cond) ∈ tb := tb_in (List.mem_of_getElem? (i := 913) (by decide +kernel)) (by decide +kernel)
theorem q_483 : ((.instanceMethod ⟨"EdgeCampaignModel", "trial", "()V"⟩) : Cond) ∈ tb := tb_in (List.mem_of_getElem? (i := 915) (by decide +kernel)) (by decide +kernel)
theorem q_484 : ((.selects "EdgeCampaignModel" ⟨"EdgeCampaignModel", "trial", "()V"⟩ ⟨"EdgeCampaignModel", "trial", "()V"⟩) : Cond) ∈ tb := tb_in (List.mem_of_getElem? (i := 37) (by decide +kernel)) (by decide +kernel)
theorem q_485 : ((.code y_MO_seenEdges b_MO_seenEdges 3 (some .int)) : Cond) ∈ tb := tb_in (List.mem_of_getElem? (i := 953) (by decide +kernel)) (by decide +kernel)
theorem q_486 : ((.methodLink "EdgeCampaignModel" 247 ⟨"EdgeCampaignModel", "seenEdges", "()I"⟩) : Cond) ∈ tb := tb_in (List.mem_of_getElem? (i := 950) (by decide +kernel)) (by decide +kernel)
theorem q_487 : ((.instanceMethod ⟨"EdgeCampaignModel", "seenEdges", "()I"⟩) : Cond) ∈ tb := tb_in (List.mem_of_getElem? (i := 952) (by decide +kernel)) (by decide +kernel)
theorem q_488 : ((.selects "EdgeCampaignModel" ⟨"EdgeCampaignModel", "seenEdges", "()I"⟩ ⟨"EdgeCampaignModel", "seenEdges", "()I"⟩) : Cond) ∈ tb := tb_in (List.mem_of_getElem? (i := 45) (by decide +kernel)) (by decide +kernel)
theorem q_489 : ((.code y_MO_seenPairs b_MO_seenPairs 4 (some .int)) : Cond) ∈ tb := tb_in (List.mem_of_getElem? (i := 957) (by decide +kernel)) (by decide +kernel)
theorem q_490 : ((.methodLink "EdgeCampaignModel" 250 ⟨"EdgeCampaignModel", "seenPairs", "()I"⟩) : Cond) ∈ tb := tb_in (List.mem_of_getElem? (i := 954) (by decide +kernel)) (by decide +kernel)
theorem q_491 : ((.instanceMethod ⟨"EdgeCampaignModel", "seenPairs", "()I"⟩) : Cond) ∈ tb := tb_in (List.mem_of_getElem? (i := 956) (by decide +kernel)) (by decide +kernel)
theorem q_492 : ((.selects "EdgeCampaignModel" ⟨"EdgeCampaignModel", "seenPairs", "()I"⟩ ⟨"EdgeCampaignModel", "seenPairs", "()I"⟩) : Cond) ∈ tb := tb_in (List.mem_of_getElem? (i := 46) (by decide +kernel)) (by decide +kernel)
theorem q_493 : ((.laysFinal "EdgeCampaign$Entry" "EdgeCampaign$Entry" "input" "LEdgeCampaign$Input;") : Cond) ∈ tb := tb_in (List.mem_of_getElem? (i := 185) (by decide +kernel)) (by decide +kernel)
theorem q_494 : ((.lays "EdgeCampaign$Entry" "EdgeCampaign$Entry" "steps" "I") : Cond) ∈ tb := tb_in (List.mem_of_getElem? (i := 187) (by decide +kernel)) (by decide +kernel)
theorem q_495 : ((.lays "EdgeCampaign$Entry" "EdgeCampaign$Entry" "edgeCount" "I") : Cond) ∈ tb := tb_in (List.mem_of_getElem? (i := 189) (by decide +kernel)) (by decide +kernel)
theorem q_496 : ((.lays "EdgeCampaign$Entry" "EdgeCampaign$Entry" "finished" "I") : Cond) ∈ tb := tb_in (List.mem_of_getElem? (i := 191) (by decide +kernel)) (by decide +kernel)
theorem q_497 : ((.laysFinal "EdgeCampaign$Finding" "EdgeCampaign$Finding" "input" "LEdgeCampaign$Input;") : Cond) ∈ tb := tb_in (List.mem_of_getElem? (i := 254) (by decide +kernel)) (by decide +kernel)
theorem q_498 : ((.laysFinal "EdgeCampaign$Finding" "EdgeCampaign$Finding" "shortest" "LEdgeCampaign$Input;") : Cond) ∈ tb := tb_in (List.mem_of_getElem? (i := 256) (by decide +kernel)) (by decide +kernel)
theorem q_499 : ((.laysFinal "EdgeCampaign$Finding" "EdgeCampaign$Finding" "latestFirst" "[I") : Cond) ∈ tb := tb_in (List.mem_of_getElem? (i := 258) (by decide +kernel)) (by decide +kernel)
theorem q_500 : ((.lays "EdgeCampaign$Finding" "EdgeCampaign$Finding" "trap" "I") : Cond) ∈ tb := tb_in (List.mem_of_getElem? (i := 260) (by decide +kernel)) (by decide +kernel)
theorem q_501 : ((.lays "EdgeCampaign$Finding" "EdgeCampaign$Finding" "here" "I") : Cond) ∈ tb := tb_in (List.mem_of_getElem? (i := 262) (by decide +kernel)) (by decide +kernel)
theorem q_502 : ((.lays "EdgeCampaign$Finding" "EdgeCampaign$Finding" "depth" "I") : Cond) ∈ tb := tb_in (List.mem_of_getElem? (i := 264) (by decide +kernel)) (by decide +kernel)
theorem q_503 : ((.lays "EdgeCampaign$Finding" "EdgeCampaign$Finding" "hits" "I") : Cond) ∈ tb := tb_in (List.mem_of_getElem? (i := 266) (by decide +kernel)) (by decide +kernel)
theorem q_504 : ((.laysFinal "EdgeCampaign$Findings" "EdgeCampaign$Findings" "made" "[LEdgeCampaign$Finding;") : Cond) ∈ tb := tb_in (List.mem_of_getElem? (i := 273) (by decide +kernel)) (by decide +kernel)
theorem q_505 : ((.lays "EdgeCampaign$Findings" "EdgeCampaign$Findings" "size" "I") : Cond) ∈ tb := tb_in (List.mem_of_getElem? (i := 275) (by decide +kernel)) (by decide +kernel)
theorem q_506 : ((.lays "EdgeCampaign$Generator" "EdgeCampaign$Generator" "x" "I") : Cond) ∈ tb := tb_in (List.mem_of_getElem? (i := 303) (by decide +kernel)) (by decide +kernel)
theorem q_507 : ((.laysFinal "EdgeCampaign$Input" "EdgeCampaign$Input" "bytes" "[I") : Cond) ∈ tb := tb_in (List.mem_of_getElem? (i := 106) (by decide +kernel)) (by decide +kernel)
theorem q_508 : ((.lays "EdgeCampaign$Input" "EdgeCampaign$Input" "size" "I") : Cond) ∈ tb := tb_in (List.mem_of_getElem? (i := 108) (by decide +kernel)) (by decide +kernel)
theorem q_509 : ((.laysFinal "EdgeCampaign$Program" "EdgeCampaign$Program" "ops" "[I") : Cond) ∈ tb := tb_in (List.mem_of_getElem? (i := 83) (by decide +kernel)) (by decide +kernel)
theorem q_510 : ((.laysFinal "EdgeCampaign$Program" "EdgeCampaign$Program" "as" "[I") : Cond) ∈ tb := tb_in (List.mem_of_getElem? (i := 85) (by decide +kernel)) (by decide +kernel)
theorem q_511 : ((.laysFinal "EdgeCampaign$Program" "EdgeCampaign$Program" "bs" "[I") : Cond) ∈ tb := tb_in (List.mem_of_getElem? (i := 87) (by decide +kernel)) (by decide +kernel)
theorem q_512 : ((.lays "EdgeCampaign$Program" "EdgeCampaign$Program" "size" "I") : Cond) ∈ tb := tb_in (List.mem_of_getElem? (i := 89) (by decide +kernel)) (by decide +kernel)
theorem q_513 : ((.laysFinal "EdgeCampaign$Run" "EdgeCampaign$Run" "registers" "[I") : Cond) ∈ tb := tb_in (List.mem_of_getElem? (i := 135) (by decide +kernel)) (by decide +kernel)
theorem q_514 : ((.laysFinal "EdgeCampaign$Run" "EdgeCampaign$Run" "memory" "[I") : Cond) ∈ tb := tb_in (List.mem_of_getElem? (i := 137) (by decide +kernel)) (by decide +kernel)
theorem q_515 : ((.laysFinal "EdgeCampaign$Run" "EdgeCampaign$Run" "stack" "[I") : Cond) ∈ tb := tb_in (List.mem_of_getElem? (i := 139) (by decide +kernel)) (by decide +kernel)
theorem q_516 : ((.laysFinal "EdgeCampaign$Run" "EdgeCampaign$Run" "times" "[I") : Cond) ∈ tb := tb_in (List.mem_of_getElem? (i := 141) (by decide +kernel)) (by decide +kernel)
theorem q_517 : ((.laysFinal "EdgeCampaign$Run" "EdgeCampaign$Run" "edges" "[I") : Cond) ∈ tb := tb_in (List.mem_of_getElem? (i := 143) (by decide +kernel)) (by decide +kernel)
theorem q_518 : ((.lays "EdgeCampaign$Run" "EdgeCampaign$Run" "edgeCount" "I") : Cond) ∈ tb := tb_in (List.mem_of_getElem? (i := 145) (by decide +kernel)) (by decide +kernel)
theorem q_519 : ((.lays "EdgeCampaign$Run" "EdgeCampaign$Run" "depth" "I") : Cond) ∈ tb := tb_in (List.mem_of_getElem? (i := 147) (by decide +kernel)) (by decide +kernel)
theorem q_520 : ((.lays "EdgeCampaign$Run" "EdgeCampaign$Run" "pc" "I") : Cond) ∈ tb := tb_in (List.mem_of_getElem? (i := 149) (by decide +kernel)) (by decide +kernel)
theorem q_521 : ((.lays "EdgeCampaign$Run" "EdgeCampaign$Run" "here" "I") : Cond) ∈ tb := tb_in (List.mem_of_getElem? (i := 151) (by decide +kernel)) (by decide +kernel)
theorem q_522 : ((.lays "EdgeCampaign$Run" "EdgeCampaign$Run" "steps" "I") : Cond) ∈ tb := tb_in (List.mem_of_getElem? (i := 153) (by decide +kernel)) (by decide +kernel)
theorem q_523 : ((.lays "EdgeCampaign$Run" "EdgeCampaign$Run" "outcome" "I") : Cond) ∈ tb := tb_in (List.mem_of_getElem? (i := 155) (by decide +kernel)) (by decide +kernel)
theorem q_524 : ((.laysFinal "EdgeCampaign$Shortener" "EdgeCampaign$Shortener" "run" "LEdgeCampaign$Run;") : Cond) ∈ tb := tb_in (List.mem_of_getElem? (i := 290) (by decide +kernel)) (by decide +kernel)
theorem q_525 : ((.laysFinal "EdgeCampaign$Shortener" "EdgeCampaign$Shortener" "candidate" "LEdgeCampaign$Input;") : Cond) ∈ tb := tb_in (List.mem_of_getElem? (i := 292) (by decide +kernel)) (by decide +kernel)
theorem q_526 : ((.laysFinal "EdgeCampaign$Store" "EdgeCampaign$Store" "entries" "[LEdgeCampaign$Entry;") : Cond) ∈ tb := tb_in (List.mem_of_getElem? (i := 208) (by decide +kernel)) (by decide +kernel)
theorem q_527 : ((.laysFinal "EdgeCampaign$Store" "EdgeCampaign$Store" "buckets" "[I") : Cond) ∈ tb := tb_in (List.mem_of_getElem? (i := 210) (by decide +kernel)) (by decide +kernel)
theorem q_528 : ((.laysFinal "EdgeCampaign$Store" "EdgeCampaign$Store" "goers" "[I") : Cond) ∈ tb := tb_in (List.mem_of_getElem? (i := 212) (by decide +kernel)) (by decide +kernel)
theorem q_529 : ((.lays "EdgeCampaign$Store" "EdgeCampaign$Store" "size" "I") : Cond) ∈ tb := tb_in (List.mem_of_getElem? (i := 214) (by decide +kernel)) (by decide +kernel)
theorem q_530 : ((.lays "EdgeCampaign$Store" "EdgeCampaign$Store" "favoured" "I") : Cond) ∈ tb := tb_in (List.mem_of_getElem? (i := 216) (by decide +kernel)) (by decide +kernel)
theorem q_531 : ((.lays "EdgeCampaign$Store" "EdgeCampaign$Store" "seenEdges" "I") : Cond) ∈ tb := tb_in (List.mem_of_getElem? (i := 218) (by decide +kernel)) (by decide +kernel)
theorem q_532 : ((.lays "EdgeCampaign$Store" "EdgeCampaign$Store" "seenPairs" "I") : Cond) ∈ tb := tb_in (List.mem_of_getElem? (i := 220) (by decide +kernel)) (by decide +kernel)
theorem q_533 : ((.lays "EdgeCampaign$Trials" "EdgeCampaign$Trials" "taken" "I") : Cond) ∈ tb := tb_in (List.mem_of_getElem? (i := 318) (by decide +kernel)) (by decide +kernel)
theorem q_534 : ((.lays "EdgeCampaign$Trials" "EdgeCampaign$Trials" "number" "I") : Cond) ∈ tb := tb_in (List.mem_of_getElem? (i := 320) (by decide +kernel)) (by decide +kernel)
theorem q_535 : ((.lays "EdgeCampaign$Trials" "EdgeCampaign$Trials" "energy" "I") : Cond) ∈ tb := tb_in (List.mem_of_getElem? (i := 322) (by decide +kernel)) (by decide +kernel)
theorem q_536 : ((.laysFinal "EdgeCampaign" "EdgeCampaign" "program" "LEdgeCampaign$Program;") : Cond) ∈ tb := tb_in (List.mem_of_getElem? (i := 337) (by decide +kernel)) (by decide +kernel)
theorem q_537 : ((.laysFinal "EdgeCampaign" "EdgeCampaign" "draft" "LEdgeCampaign$Input;") : Cond) ∈ tb := tb_in (List.mem_of_getElem? (i := 339) (by decide +kernel)) (by decide +kernel)
theorem q_538 : ((.laysFinal "EdgeCampaign" "EdgeCampaign" "changed" "LEdgeCampaign$Input;") : Cond) ∈ tb := tb_in (List.mem_of_getElem? (i := 341) (by decide +kernel)) (by decide +kernel)
theorem q_539 : ((.laysFinal "EdgeCampaign" "EdgeCampaign" "run" "LEdgeCampaign$Run;") : Cond) ∈ tb := tb_in (List.mem_of_getElem? (i := 343) (by decide +kernel)) (by decide +kernel)
theorem q_540 : ((.laysFinal "EdgeCampaign" "EdgeCampaign" "store" "LEdgeCampaign$Store;") : Cond) ∈ tb := tb_in (List.mem_of_getElem? (i := 345) (by decide +kernel)) (by decide +kernel)
theorem q_541 : ((.laysFinal "EdgeCampaign" "EdgeCampaign" "findings" "LEdgeCampaign$Findings;") : Cond) ∈ tb := tb_in (List.mem_of_getElem? (i := 347) (by decide +kernel)) (by decide +kernel)
theorem q_542 : ((.laysFinal "EdgeCampaign" "EdgeCampaign" "shortener" "LEdgeCampaign$Shortener;") : Cond) ∈ tb := tb_in (List.mem_of_getElem? (i := 349) (by decide +kernel)) (by decide +kernel)
theorem q_543 : ((.laysFinal "EdgeCampaign" "EdgeCampaign" "generator" "LEdgeCampaign$Generator;") : Cond) ∈ tb := tb_in (List.mem_of_getElem? (i := 351) (by decide +kernel)) (by decide +kernel)
theorem q_544 : ((.laysFinal "EdgeCampaign" "EdgeCampaign" "trials" "LEdgeCampaign$Trials;") : Cond) ∈ tb := tb_in (List.mem_of_getElem? (i := 353) (by decide +kernel)) (by decide +kernel)
theorem q_545 : ((.lays "EdgeCampaign" "EdgeCampaign" "executions" "I") : Cond) ∈ tb := tb_in (List.mem_of_getElem? (i := 355) (by decide +kernel)) (by decide +kernel)
theorem q_546 : ((.lays "EdgeCampaign" "EdgeCampaign" "hangs" "I") : Cond) ∈ tb := tb_in (List.mem_of_getElem? (i := 357) (by decide +kernel)) (by decide +kernel)
theorem q_547 : ((.lays "EdgeCampaign" "EdgeCampaign" "lost" "I") : Cond) ∈ tb := tb_in (List.mem_of_getElem? (i := 359) (by decide +kernel)) (by decide +kernel)
theorem q_548 : ((.lays "EdgeCampaignModel" "EdgeCampaignModel" "size" "I") : Cond) ∈ tb := tb_in (List.mem_of_getElem? (i := 721) (by decide +kernel)) (by decide +kernel)
theorem q_549 : ((.laysFinal "EdgeCampaignModel" "EdgeCampaignModel" "ops" "[I") : Cond) ∈ tb := tb_in (List.mem_of_getElem? (i := 723) (by decide +kernel)) (by decide +kernel)
theorem q_550 : ((.laysFinal "EdgeCampaignModel" "EdgeCampaignModel" "as" "[I") : Cond) ∈ tb := tb_in (List.mem_of_getElem? (i := 725) (by decide +kernel)) (by decide +kernel)
theorem q_551 : ((.laysFinal "EdgeCampaignModel" "EdgeCampaignModel" "bs" "[I") : Cond) ∈ tb := tb_in (List.mem_of_getElem? (i := 727) (by decide +kernel)) (by decide +kernel)
theorem q_552 : ((.laysFinal "EdgeCampaignModel" "EdgeCampaignModel" "draft" "[I") : Cond) ∈ tb := tb_in (List.mem_of_getElem? (i := 729) (by decide +kernel)) (by decide +kernel)
theorem q_553 : ((.lays "EdgeCampaignModel" "EdgeCampaignModel" "drafted" "I") : Cond) ∈ tb := tb_in (List.mem_of_getElem? (i := 731) (by decide +kernel)) (by decide +kernel)
theorem q_554 : ((.lays "EdgeCampaignModel" "EdgeCampaignModel" "x" "I") : Cond) ∈ tb := tb_in (List.mem_of_getElem? (i := 733) (by decide +kernel)) (by decide +kernel)
theorem q_555 : ((.laysFinal "EdgeCampaignModel" "EdgeCampaignModel" "tape" "[I") : Cond) ∈ tb := tb_in (List.mem_of_getElem? (i := 735) (by decide +kernel)) (by decide +kernel)
theorem q_556 : ((.lays "EdgeCampaignModel" "EdgeCampaignModel" "tapeLength" "I") : Cond) ∈ tb := tb_in (List.mem_of_getElem? (i := 737) (by decide +kernel)) (by decide +kernel)
theorem q_557 : ((.laysFinal "EdgeCampaignModel" "EdgeCampaignModel" "\x72" "[I") : Cond) ∈ tb := tb_in (List.mem_of_getElem? (i := 739) (by decide +kernel)) (by decide +kernel)
theorem q_558 : ((.laysFinal "EdgeCampaignModel" "EdgeCampaignModel" "memory" "[I") : Cond) ∈ tb := tb_in (List.mem_of_getElem? (i := 741) (by decide +kernel)) (by decide +kernel)
theorem q_559 : ((.laysFinal "EdgeCampaignModel" "EdgeCampaignModel" "stack" "[I") : Cond) ∈ tb := tb_in (List.mem_of_getElem? (i := 743) (by decide +kernel)) (by decide +kernel)
theorem q_560 : ((.lays "EdgeCampaignModel" "EdgeCampaignModel" "depth" "I") : Cond) ∈ tb := tb_in (List.mem_of_getElem? (i := 745) (by decide +kernel)) (by decide +kernel)
theorem q_561 : ((.lays "EdgeCampaignModel" "EdgeCampaignModel" "pc" "I") : Cond) ∈ tb := tb_in (List.mem_of_getElem? (i := 747) (by decide +kernel)) (by decide +kernel)
theorem q_562 : ((.lays "EdgeCampaignModel" "EdgeCampaignModel" "here" "I") : Cond) ∈ tb := tb_in (List.mem_of_getElem? (i := 749) (by decide +kernel)) (by decide +kernel)
theorem q_563 : ((.lays "EdgeCampaignModel" "EdgeCampaignModel" "steps" "I") : Cond) ∈ tb := tb_in (List.mem_of_getElem? (i := 751) (by decide +kernel)) (by decide +kernel)
theorem q_564 : ((.lays "EdgeCampaignModel" "EdgeCampaignModel" "outcome" "I") : Cond) ∈ tb := tb_in (List.mem_of_getElem? (i := 753) (by decide +kernel)) (by decide +kernel)
theorem q_565 : ((.laysFinal "EdgeCampaignModel" "EdgeCampaignModel" "times" "[I") : Cond) ∈ tb := tb_in (List.mem_of_getElem? (i := 755) (by decide +kernel)) (by decide +kernel)
theorem q_566 : ((.lays "EdgeCampaignModel" "EdgeCampaignModel" "entries" "I") : Cond) ∈ tb := tb_in (List.mem_of_getElem? (i := 757) (by decide +kernel)) (by decide +kernel)
theorem q_567 : ((.laysFinal "EdgeCampaignModel" "EdgeCampaignModel" "inputs" "[I") : Cond) ∈ tb := tb_in (List.mem_of_getElem? (i := 759) (by decide +kernel)) (by decide +kernel)
theorem q_568 : ((.laysFinal "EdgeCampaignModel" "EdgeCampaignModel" "lengths" "[I") : Cond) ∈ tb := tb_in (List.mem_of_getElem? (i := 761) (by decide +kernel)) (by decide +kernel)
theorem q_569 : ((.laysFinal "EdgeCampaignModel" "EdgeCampaignModel" "finished" "[I") : Cond) ∈ tb := tb_in (List.mem_of_getElem? (i := 763) (by decide +kernel)) (by decide +kernel)
theorem q_570 : ((.lays "EdgeCampaignModel" "EdgeCampaignModel" "findings" "I") : Cond) ∈ tb := tb_in (List.mem_of_getElem? (i := 765) (by decide +kernel)) (by decide +kernel)
theorem q_571 : ((.laysFinal "EdgeCampaignModel" "EdgeCampaignModel" "traps" "[I") : Cond) ∈ tb := tb_in (List.mem_of_getElem? (i := 767) (by decide +kernel)) (by decide +kernel)
theorem q_572 : ((.laysFinal "EdgeCampaignModel" "EdgeCampaignModel" "places" "[I") : Cond) ∈ tb := tb_in (List.mem_of_getElem? (i := 769) (by decide +kernel)) (by decide +kernel)
theorem q_573 : ((.laysFinal "EdgeCampaignModel" "EdgeCampaignModel" "depths" "[I") : Cond) ∈ tb := tb_in (List.mem_of_getElem? (i := 771) (by decide +kernel)) (by decide +kernel)
theorem q_574 : ((.laysFinal "EdgeCampaignModel" "EdgeCampaignModel" "stacks" "[I") : Cond) ∈ tb := tb_in (List.mem_of_getElem? (i := 773) (by decide +kernel)) (by decide +kernel)
theorem q_575 : ((.laysFinal "EdgeCampaignModel" "EdgeCampaignModel" "hits" "[I") : Cond) ∈ tb := tb_in (List.mem_of_getElem? (i := 775) (by decide +kernel)) (by decide +kernel)
theorem q_576 : ((.laysFinal "EdgeCampaignModel" "EdgeCampaignModel" "found" "[I") : Cond) ∈ tb := tb_in (List.mem_of_getElem? (i := 777) (by decide +kernel)) (by decide +kernel)
theorem q_577 : ((.laysFinal "EdgeCampaignModel" "EdgeCampaignModel" "foundLength" "[I") : Cond) ∈ tb := tb_in (List.mem_of_getElem? (i := 779) (by decide +kernel)) (by decide +kernel)
theorem q_578 : ((.laysFinal "EdgeCampaignModel" "EdgeCampaignModel" "brief" "[I") : Cond) ∈ tb := tb_in (List.mem_of_getElem? (i := 781) (by decide +kernel)) (by decide +kernel)
theorem q_579 : ((.laysFinal "EdgeCampaignModel" "EdgeCampaignModel" "briefLength" "[I") : Cond) ∈ tb := tb_in (List.mem_of_getElem? (i := 783) (by decide +kernel)) (by decide +kernel)
theorem q_580 : ((.lays "EdgeCampaignModel" "EdgeCampaignModel" "executions" "I") : Cond) ∈ tb := tb_in (List.mem_of_getElem? (i := 785) (by decide +kernel)) (by decide +kernel)
theorem q_581 : ((.lays "EdgeCampaignModel" "EdgeCampaignModel" "hangs" "I") : Cond) ∈ tb := tb_in (List.mem_of_getElem? (i := 787) (by decide +kernel)) (by decide +kernel)
theorem q_582 : ((.lays "EdgeCampaignModel" "EdgeCampaignModel" "lost" "I") : Cond) ∈ tb := tb_in (List.mem_of_getElem? (i := 789) (by decide +kernel)) (by decide +kernel)
theorem q_583 : ((.lays "EdgeCampaignModel" "EdgeCampaignModel" "surveyed" "I") : Cond) ∈ tb := tb_in (List.mem_of_getElem? (i := 791) (by decide +kernel)) (by decide +kernel)
theorem q_584 : ((.laysFinal "EdgeCampaignModel" "EdgeCampaignModel" "buckets" "[I") : Cond) ∈ tb := tb_in (List.mem_of_getElem? (i := 793) (by decide +kernel)) (by decide +kernel)
theorem q_585 : ((.laysFinal "EdgeCampaignModel" "EdgeCampaignModel" "went" "[I") : Cond) ∈ tb := tb_in (List.mem_of_getElem? (i := 795) (by decide +kernel)) (by decide +kernel)
theorem q_586 : ((.laysFinal "EdgeCampaignModel" "EdgeCampaignModel" "stepsOf" "[I") : Cond) ∈ tb := tb_in (List.mem_of_getElem? (i := 797) (by decide +kernel)) (by decide +kernel)
theorem q_587 : ((.lays "EdgeCampaignModel" "EdgeCampaignModel" "favoured" "I") : Cond) ∈ tb := tb_in (List.mem_of_getElem? (i := 799) (by decide +kernel)) (by decide +kernel)
theorem q_588 : ((.lays "EdgeCampaignModel" "EdgeCampaignModel" "taken" "I") : Cond) ∈ tb := tb_in (List.mem_of_getElem? (i := 801) (by decide +kernel)) (by decide +kernel)
theorem q_589 : ((.lays "EdgeCampaignModel" "EdgeCampaignModel" "next" "I") : Cond) ∈ tb := tb_in (List.mem_of_getElem? (i := 803) (by decide +kernel)) (by decide +kernel)
theorem q_590 : ((.lays "EdgeCampaignModel" "EdgeCampaignModel" "energy" "I") : Cond) ∈ tb := tb_in (List.mem_of_getElem? (i := 805) (by decide +kernel)) (by decide +kernel)
theorem q_591 : ((.laysFinal "EdgeCampaignModel" "EdgeCampaignModel" "cur" "[I") : Cond) ∈ tb := tb_in (List.mem_of_getElem? (i := 807) (by decide +kernel)) (by decide +kernel)
theorem q_592 : ((.lays "EdgeCampaignModel" "EdgeCampaignModel" "curLength" "I") : Cond) ∈ tb := tb_in (List.mem_of_getElem? (i := 809) (by decide +kernel)) (by decide +kernel)
theorem nf_0 : (.fieldLinkNest "EdgeCampaign$Run" 65 "EdgeCampaign$Program" "ops" "[I" "EdgeCampaign" : Cond) ∈ nb := List.mem_append_left _ (List.mem_map_of_mem (f := fun q : String × Nat × String × String × String × String => Cond.fieldLinkNest q.1 q.2.1 q.2.2.1 q.2.2.2.1 q.2.2.2.2.1 q.2.2.2.2.2) (List.mem_of_getElem? (l := nbF) (i := 0) rfl))
theorem nf_1 : (.fieldLinkNest "EdgeCampaign$Run" 68 "EdgeCampaign$Program" "as" "[I" "EdgeCampaign" : Cond) ∈ nb := List.mem_append_left _ (List.mem_map_of_mem (f := fun q : String × Nat × String × String × String × String => Cond.fieldLinkNest q.1 q.2.1 q.2.2.1 q.2.2.2.1 q.2.2.2.2.1 q.2.2.2.2.2) (List.mem_of_getElem? (l := nbF) (i := 1) rfl))
theorem nf_2 : (.fieldLinkNest "EdgeCampaign$Run" 71 "EdgeCampaign$Program" "bs" "[I" "EdgeCampaign" : Cond) ∈ nb := List.mem_append_left _ (List.mem_map_of_mem (f := fun q : String × Nat × String × String × String × String => Cond.fieldLinkNest q.1 q.2.1 q.2.2.1 q.2.2.2.1 q.2.2.2.2.1 q.2.2.2.2.2) (List.mem_of_getElem? (l := nbF) (i := 2) rfl))
theorem nf_3 : (.fieldLinkNest "EdgeCampaign$Run" 97 "EdgeCampaign$Input" "size" "I" "EdgeCampaign" : Cond) ∈ nb := List.mem_append_left _ (List.mem_map_of_mem (f := fun q : String × Nat × String × String × String × String => Cond.fieldLinkNest q.1 q.2.1 q.2.2.1 q.2.2.2.1 q.2.2.2.2.1 q.2.2.2.2.2) (List.mem_of_getElem? (l := nbF) (i := 3) rfl))
theorem nf_4 : (.fieldLinkNest "EdgeCampaign$Store" 34 "EdgeCampaign$Run" "edgeCount" "I" "EdgeCampaign" : Cond) ∈ nb := List.mem_append_left _ (List.mem_map_of_mem (f := fun q : String × Nat × String × String × String × String => Cond.fieldLinkNest q.1 q.2.1 q.2.2.1 q.2.2.2.1 q.2.2.2.2.1 q.2.2.2.2.2) (List.mem_of_getElem? (l := nbF) (i := 4) rfl))
theorem nf_5 : (.fieldLinkNest "EdgeCampaign$Store" 39 "EdgeCampaign$Run" "edges" "[I" "EdgeCampaign" : Cond) ∈ nb := List.mem_append_left _ (List.mem_map_of_mem (f := fun q : String × Nat × String × String × String × String => Cond.fieldLinkNest q.1 q.2.1 q.2.2.1 q.2.2.2.1 q.2.2.2.2.1 q.2.2.2.2.2) (List.mem_of_getElem? (l := nbF) (i := 5) rfl))
theorem nf_6 : (.fieldLinkNest "EdgeCampaign$Entry" 20 "EdgeCampaign$Input" "size" "I" "EdgeCampaign" : Cond) ∈ nb := List.mem_append_left _ (List.mem_map_of_mem (f := fun q : String × Nat × String × String × String × String => Cond.fieldLinkNest q.1 q.2.1 q.2.2.1 q.2.2.2.1 q.2.2.2.2.1 q.2.2.2.2.2) (List.mem_of_getElem? (l := nbF) (i := 6) rfl))
theorem nf_7 : (.fieldLinkNest "EdgeCampaign$Store" 46 "EdgeCampaign$Entry" "input" "LEdgeCampaign$Input;" "EdgeCampaign" : Cond) ∈ nb := List.mem_append_left _ (List.mem_map_of_mem (f := fun q : String × Nat × String × String × String × String => Cond.fieldLinkNest q.1 q.2.1 q.2.2.1 q.2.2.2.1 q.2.2.2.2.1 q.2.2.2.2.2) (List.mem_of_getElem? (l := nbF) (i := 7) rfl))
theorem nf_8 : (.fieldLinkNest "EdgeCampaign$Store" 56 "EdgeCampaign$Run" "steps" "I" "EdgeCampaign" : Cond) ∈ nb := List.mem_append_left _ (List.mem_map_of_mem (f := fun q : String × Nat × String × String × String × String => Cond.fieldLinkNest q.1 q.2.1 q.2.2.1 q.2.2.2.1 q.2.2.2.2.1 q.2.2.2.2.2) (List.mem_of_getElem? (l := nbF) (i := 8) rfl))
theorem nf_9 : (.fieldLinkNest "EdgeCampaign$Store" 59 "EdgeCampaign$Entry" "steps" "I" "EdgeCampaign" : Cond) ∈ nb := List.mem_append_left _ (List.mem_map_of_mem (f := fun q : String × Nat × String × String × String × String => Cond.fieldLinkNest q.1 q.2.1 q.2.2.1 q.2.2.2.1 q.2.2.2.2.1 q.2.2.2.2.2) (List.mem_of_getElem? (l := nbF) (i := 9) rfl))
theorem nf_10 : (.fieldLinkNest "EdgeCampaign$Store" 60 "EdgeCampaign$Entry" "edgeCount" "I" "EdgeCampaign" : Cond) ∈ nb := List.mem_append_left _ (List.mem_map_of_mem (f := fun q : String × Nat × String × String × String × String => Cond.fieldLinkNest q.1 q.2.1 q.2.2.1 q.2.2.2.1 q.2.2.2.2.1 q.2.2.2.2.2) (List.mem_of_getElem? (l := nbF) (i := 10) rfl))
theorem nf_11 : (.fieldLinkNest "EdgeCampaign$Finding" 29 "EdgeCampaign$Run" "outcome" "I" "EdgeCampaign" : Cond) ∈ nb := List.mem_append_left _ (List.mem_map_of_mem (f := fun q : String × Nat × String × String × String × String => Cond.fieldLinkNest q.1 q.2.1 q.2.2.1 q.2.2.2.1 q.2.2.2.2.1 q.2.2.2.2.2) (List.mem_of_getElem? (l := nbF) (i := 11) rfl))
theorem nf_12 : (.fieldLinkNest "EdgeCampaign$Finding" 36 "EdgeCampaign$Run" "here" "I" "EdgeCampaign" : Cond) ∈ nb := List.mem_append_left _ (List.mem_map_of_mem (f := fun q : String × Nat × String × String × String × String => Cond.fieldLinkNest q.1 q.2.1 q.2.2.1 q.2.2.2.1 q.2.2.2.2.1 q.2.2.2.2.2) (List.mem_of_getElem? (l := nbF) (i := 12) rfl))
theorem nf_13 : (.fieldLinkNest "EdgeCampaign$Finding" 40 "EdgeCampaign$Run" "depth" "I" "EdgeCampaign" : Cond) ∈ nb := List.mem_append_left _ (List.mem_map_of_mem (f := fun q : String × Nat × String × String × String × String => Cond.fieldLinkNest q.1 q.2.1 q.2.2.1 q.2.2.2.1 q.2.2.2.2.1 q.2.2.2.2.2) (List.mem_of_getElem? (l := nbF) (i := 13) rfl))
theorem nf_14 : (.fieldLinkNest "EdgeCampaign$Findings" 24 "EdgeCampaign$Finding" "hits" "I" "EdgeCampaign" : Cond) ∈ nb := List.mem_append_left _ (List.mem_map_of_mem (f := fun q : String × Nat × String × String × String × String => Cond.fieldLinkNest q.1 q.2.1 q.2.2.1 q.2.2.2.1 q.2.2.2.2.1 q.2.2.2.2.2) (List.mem_of_getElem? (l := nbF) (i := 14) rfl))
theorem nf_15 : (.fieldLinkNest "EdgeCampaign$Shortener" 28 "EdgeCampaign$Input" "size" "I" "EdgeCampaign" : Cond) ∈ nb := List.mem_append_left _ (List.mem_map_of_mem (f := fun q : String × Nat × String × String × String × String => Cond.fieldLinkNest q.1 q.2.1 q.2.2.1 q.2.2.2.1 q.2.2.2.2.1 q.2.2.2.2.2) (List.mem_of_getElem? (l := nbF) (i := 15) rfl))
theorem nf_16 : (.fieldLinkNest "EdgeCampaign$Shortener" 23 "EdgeCampaign$Finding" "shortest" "LEdgeCampaign$Input;" "EdgeCampaign" : Cond) ∈ nb := List.mem_append_left _ (List.mem_map_of_mem (f := fun q : String × Nat × String × String × String × String => Cond.fieldLinkNest q.1 q.2.1 q.2.2.1 q.2.2.2.1 q.2.2.2.2.1 q.2.2.2.2.2) (List.mem_of_getElem? (l := nbF) (i := 16) rfl))
theorem nf_17 : (.fieldLinkNest "EdgeCampaign$Trials" 41 "EdgeCampaign$Input" "size" "I" "EdgeCampaign" : Cond) ∈ nb := List.mem_append_left _ (List.mem_map_of_mem (f := fun q : String × Nat × String × String × String × String => Cond.fieldLinkNest q.1 q.2.1 q.2.2.1 q.2.2.2.1 q.2.2.2.2.1 q.2.2.2.2.2) (List.mem_of_getElem? (l := nbF) (i := 17) rfl))
theorem nf_18 : (.fieldLinkNest "EdgeCampaign$Trials" 87 "EdgeCampaign$Entry" "edgeCount" "I" "EdgeCampaign" : Cond) ∈ nb := List.mem_append_left _ (List.mem_map_of_mem (f := fun q : String × Nat × String × String × String × String => Cond.fieldLinkNest q.1 q.2.1 q.2.2.1 q.2.2.2.1 q.2.2.2.2.1 q.2.2.2.2.2) (List.mem_of_getElem? (l := nbF) (i := 18) rfl))
theorem nf_19 : (.fieldLinkNest "EdgeCampaign$Trials" 25 "EdgeCampaign$Store" "entries" "[LEdgeCampaign$Entry;" "EdgeCampaign" : Cond) ∈ nb := List.mem_append_left _ (List.mem_map_of_mem (f := fun q : String × Nat × String × String × String × String => Cond.fieldLinkNest q.1 q.2.1 q.2.2.1 q.2.2.2.1 q.2.2.2.2.1 q.2.2.2.2.2) (List.mem_of_getElem? (l := nbF) (i := 19) rfl))
theorem nf_20 : (.fieldLinkNest "EdgeCampaign$Trials" 80 "EdgeCampaign$Entry" "finished" "I" "EdgeCampaign" : Cond) ∈ nb := List.mem_append_left _ (List.mem_map_of_mem (f := fun q : String × Nat × String × String × String × String => Cond.fieldLinkNest q.1 q.2.1 q.2.2.1 q.2.2.2.1 q.2.2.2.2.1 q.2.2.2.2.2) (List.mem_of_getElem? (l := nbF) (i := 20) rfl))
theorem nf_21 : (.fieldLinkNest "EdgeCampaign$Trials" 29 "EdgeCampaign$Entry" "input" "LEdgeCampaign$Input;" "EdgeCampaign" : Cond) ∈ nb := List.mem_append_left _ (List.mem_map_of_mem (f := fun q : String × Nat × String × String × String × String => Cond.fieldLinkNest q.1 q.2.1 q.2.2.1 q.2.2.2.1 q.2.2.2.2.1 q.2.2.2.2.2) (List.mem_of_getElem? (l := nbF) (i := 21) rfl))
theorem nf_22 : (.fieldLinkNest "EdgeCampaign" 190 "EdgeCampaign$Run" "outcome" "I" "EdgeCampaign" : Cond) ∈ nb := List.mem_append_left _ (List.mem_map_of_mem (f := fun q : String × Nat × String × String × String × String => Cond.fieldLinkNest q.1 q.2.1 q.2.2.1 q.2.2.2.1 q.2.2.2.2.1 q.2.2.2.2.2) (List.mem_of_getElem? (l := nbF) (i := 22) rfl))
theorem nf_23 : (.fieldLinkNest "EdgeCampaign$Trials" 79 "EdgeCampaign$Store" "size" "I" "EdgeCampaign" : Cond) ∈ nb := List.mem_append_left _ (List.mem_map_of_mem (f := fun q : String × Nat × String × String × String × String => Cond.fieldLinkNest q.1 q.2.1 q.2.2.1 q.2.2.2.1 q.2.2.2.2.1 q.2.2.2.2.2) (List.mem_of_getElem? (l := nbF) (i := 23) rfl))
theorem nf_24 : (.fieldLinkNest "EdgeCampaign" 94 "EdgeCampaign$Store" "size" "I" "EdgeCampaign" : Cond) ∈ nb := List.mem_append_left _ (List.mem_map_of_mem (f := fun q : String × Nat × String × String × String × String => Cond.fieldLinkNest q.1 q.2.1 q.2.2.1 q.2.2.2.1 q.2.2.2.2.1 q.2.2.2.2.2) (List.mem_of_getElem? (l := nbF) (i := 24) rfl))
theorem nf_25 : (.fieldLinkNest "EdgeCampaign" 105 "EdgeCampaign$Findings" "size" "I" "EdgeCampaign" : Cond) ∈ nb := List.mem_append_left _ (List.mem_map_of_mem (f := fun q : String × Nat × String × String × String × String => Cond.fieldLinkNest q.1 q.2.1 q.2.2.1 q.2.2.2.1 q.2.2.2.2.1 q.2.2.2.2.2) (List.mem_of_getElem? (l := nbF) (i := 25) rfl))
theorem nf_26 : (.fieldLinkNest "EdgeCampaign" 106 "EdgeCampaign$Store" "seenEdges" "I" "EdgeCampaign" : Cond) ∈ nb := List.mem_append_left _ (List.mem_map_of_mem (f := fun q : String × Nat × String × String × String × String => Cond.fieldLinkNest q.1 q.2.1 q.2.2.1 q.2.2.2.1 q.2.2.2.2.1 q.2.2.2.2.2) (List.mem_of_getElem? (l := nbF) (i := 26) rfl))
theorem nf_27 : (.fieldLinkNest "EdgeCampaign" 109 "EdgeCampaign$Store" "seenPairs" "I" "EdgeCampaign" : Cond) ∈ nb := List.mem_append_left _ (List.mem_map_of_mem (f := fun q : String × Nat × String × String × String × String => Cond.fieldLinkNest q.1 q.2.1 q.2.2.1 q.2.2.2.1 q.2.2.2.2.1 q.2.2.2.2.2) (List.mem_of_getElem? (l := nbF) (i := 27) rfl))
theorem nf_28 : (.fieldLinkNest "EdgeCampaign" 115 "EdgeCampaign$Store" "entries" "[LEdgeCampaign$Entry;" "EdgeCampaign" : Cond) ∈ nb := List.mem_append_left _ (List.mem_map_of_mem (f := fun q : String × Nat × String × String × String × String => Cond.fieldLinkNest q.1 q.2.1 q.2.2.1 q.2.2.2.1 q.2.2.2.2.1 q.2.2.2.2.2) (List.mem_of_getElem? (l := nbF) (i := 28) rfl))
theorem nf_29 : (.fieldLinkNest "EdgeCampaign" 119 "EdgeCampaign$Entry" "input" "LEdgeCampaign$Input;" "EdgeCampaign" : Cond) ∈ nb := List.mem_append_left _ (List.mem_map_of_mem (f := fun q : String × Nat × String × String × String × String => Cond.fieldLinkNest q.1 q.2.1 q.2.2.1 q.2.2.2.1 q.2.2.2.2.1 q.2.2.2.2.2) (List.mem_of_getElem? (l := nbF) (i := 29) rfl))
theorem nf_30 : (.fieldLinkNest "EdgeCampaign" 124 "EdgeCampaign$Input" "size" "I" "EdgeCampaign" : Cond) ∈ nb := List.mem_append_left _ (List.mem_map_of_mem (f := fun q : String × Nat × String × String × String × String => Cond.fieldLinkNest q.1 q.2.1 q.2.2.1 q.2.2.2.1 q.2.2.2.2.1 q.2.2.2.2.2) (List.mem_of_getElem? (l := nbF) (i := 30) rfl))
theorem nf_31 : (.fieldLinkNest "EdgeCampaign" 125 "EdgeCampaign$Entry" "steps" "I" "EdgeCampaign" : Cond) ∈ nb := List.mem_append_left _ (List.mem_map_of_mem (f := fun q : String × Nat × String × String × String × String => Cond.fieldLinkNest q.1 q.2.1 q.2.2.1 q.2.2.2.1 q.2.2.2.2.1 q.2.2.2.2.2) (List.mem_of_getElem? (l := nbF) (i := 31) rfl))
theorem nf_32 : (.fieldLinkNest "EdgeCampaign" 128 "EdgeCampaign$Entry" "edgeCount" "I" "EdgeCampaign" : Cond) ∈ nb := List.mem_append_left _ (List.mem_map_of_mem (f := fun q : String × Nat × String × String × String × String => Cond.fieldLinkNest q.1 q.2.1 q.2.2.1 q.2.2.2.1 q.2.2.2.2.1 q.2.2.2.2.2) (List.mem_of_getElem? (l := nbF) (i := 32) rfl))
theorem nf_33 : (.fieldLinkNest "EdgeCampaign" 131 "EdgeCampaign$Entry" "finished" "I" "EdgeCampaign" : Cond) ∈ nb := List.mem_append_left _ (List.mem_map_of_mem (f := fun q : String × Nat × String × String × String × String => Cond.fieldLinkNest q.1 q.2.1 q.2.2.1 q.2.2.2.1 q.2.2.2.2.1 q.2.2.2.2.2) (List.mem_of_getElem? (l := nbF) (i := 33) rfl))
theorem nf_34 : (.fieldLinkNest "EdgeCampaign" 144 "EdgeCampaign$Store" "buckets" "[I" "EdgeCampaign" : Cond) ∈ nb := List.mem_append_left _ (List.mem_map_of_mem (f := fun q : String × Nat × String × String × String × String => Cond.fieldLinkNest q.1 q.2.1 q.2.2.1 q.2.2.2.1 q.2.2.2.2.1 q.2.2.2.2.2) (List.mem_of_getElem? (l := nbF) (i := 34) rfl))
theorem nf_35 : (.fieldLinkNest "EdgeCampaign" 164 "EdgeCampaign$Finding" "latestFirst" "[I" "EdgeCampaign" : Cond) ∈ nb := List.mem_append_left _ (List.mem_map_of_mem (f := fun q : String × Nat × String × String × String × String => Cond.fieldLinkNest q.1 q.2.1 q.2.2.1 q.2.2.2.1 q.2.2.2.2.1 q.2.2.2.2.2) (List.mem_of_getElem? (l := nbF) (i := 35) rfl))
theorem nf_36 : (.fieldLinkNest "EdgeCampaign" 149 "EdgeCampaign$Findings" "made" "[LEdgeCampaign$Finding;" "EdgeCampaign" : Cond) ∈ nb := List.mem_append_left _ (List.mem_map_of_mem (f := fun q : String × Nat × String × String × String × String => Cond.fieldLinkNest q.1 q.2.1 q.2.2.1 q.2.2.2.1 q.2.2.2.2.1 q.2.2.2.2.2) (List.mem_of_getElem? (l := nbF) (i := 36) rfl))
theorem nf_37 : (.fieldLinkNest "EdgeCampaign" 153 "EdgeCampaign$Finding" "trap" "I" "EdgeCampaign" : Cond) ∈ nb := List.mem_append_left _ (List.mem_map_of_mem (f := fun q : String × Nat × String × String × String × String => Cond.fieldLinkNest q.1 q.2.1 q.2.2.1 q.2.2.2.1 q.2.2.2.2.1 q.2.2.2.2.2) (List.mem_of_getElem? (l := nbF) (i := 37) rfl))
theorem nf_38 : (.fieldLinkNest "EdgeCampaign" 158 "EdgeCampaign$Finding" "here" "I" "EdgeCampaign" : Cond) ∈ nb := List.mem_append_left _ (List.mem_map_of_mem (f := fun q : String × Nat × String × String × String × String => Cond.fieldLinkNest q.1 q.2.1 q.2.2.1 q.2.2.2.1 q.2.2.2.2.1 q.2.2.2.2.2) (List.mem_of_getElem? (l := nbF) (i := 38) rfl))
theorem nf_39 : (.fieldLinkNest "EdgeCampaign" 161 "EdgeCampaign$Finding" "depth" "I" "EdgeCampaign" : Cond) ∈ nb := List.mem_append_left _ (List.mem_map_of_mem (f := fun q : String × Nat × String × String × String × String => Cond.fieldLinkNest q.1 q.2.1 q.2.2.1 q.2.2.2.1 q.2.2.2.2.1 q.2.2.2.2.2) (List.mem_of_getElem? (l := nbF) (i := 39) rfl))
theorem nf_40 : (.fieldLinkNest "EdgeCampaign" 167 "EdgeCampaign$Finding" "hits" "I" "EdgeCampaign" : Cond) ∈ nb := List.mem_append_left _ (List.mem_map_of_mem (f := fun q : String × Nat × String × String × String × String => Cond.fieldLinkNest q.1 q.2.1 q.2.2.1 q.2.2.2.1 q.2.2.2.2.1 q.2.2.2.2.2) (List.mem_of_getElem? (l := nbF) (i := 40) rfl))
theorem nf_41 : (.fieldLinkNest "EdgeCampaign" 170 "EdgeCampaign$Finding" "input" "LEdgeCampaign$Input;" "EdgeCampaign" : Cond) ∈ nb := List.mem_append_left _ (List.mem_map_of_mem (f := fun q : String × Nat × String × String × String × String => Cond.fieldLinkNest q.1 q.2.1 q.2.2.1 q.2.2.2.1 q.2.2.2.2.1 q.2.2.2.2.2) (List.mem_of_getElem? (l := nbF) (i := 41) rfl))
theorem nf_42 : (.fieldLinkNest "EdgeCampaign" 171 "EdgeCampaign$Finding" "shortest" "LEdgeCampaign$Input;" "EdgeCampaign" : Cond) ∈ nb := List.mem_append_left _ (List.mem_map_of_mem (f := fun q : String × Nat × String × String × String × String => Cond.fieldLinkNest q.1 q.2.1 q.2.2.1 q.2.2.2.1 q.2.2.2.2.1 q.2.2.2.2.2) (List.mem_of_getElem? (l := nbF) (i := 42) rfl))
theorem nf_43 : (.fieldLinkNest "EdgeCampaign" 174 "EdgeCampaign$Trials" "taken" "I" "EdgeCampaign" : Cond) ∈ nb := List.mem_append_left _ (List.mem_map_of_mem (f := fun q : String × Nat × String × String × String × String => Cond.fieldLinkNest q.1 q.2.1 q.2.2.1 q.2.2.2.1 q.2.2.2.2.1 q.2.2.2.2.2) (List.mem_of_getElem? (l := nbF) (i := 43) rfl))
theorem nf_44 : (.fieldLinkNest "EdgeCampaign" 177 "EdgeCampaign$Trials" "number" "I" "EdgeCampaign" : Cond) ∈ nb := List.mem_append_left _ (List.mem_map_of_mem (f := fun q : String × Nat × String × String × String × String => Cond.fieldLinkNest q.1 q.2.1 q.2.2.1 q.2.2.2.1 q.2.2.2.2.1 q.2.2.2.2.2) (List.mem_of_getElem? (l := nbF) (i := 44) rfl))
theorem nf_45 : (.fieldLinkNest "EdgeCampaign" 180 "EdgeCampaign$Trials" "energy" "I" "EdgeCampaign" : Cond) ∈ nb := List.mem_append_left _ (List.mem_map_of_mem (f := fun q : String × Nat × String × String × String × String => Cond.fieldLinkNest q.1 q.2.1 q.2.2.1 q.2.2.2.1 q.2.2.2.2.1 q.2.2.2.2.2) (List.mem_of_getElem? (l := nbF) (i := 45) rfl))
theorem nf_46 : (.fieldLinkNest "EdgeCampaign" 183 "EdgeCampaign$Generator" "x" "I" "EdgeCampaign" : Cond) ∈ nb := List.mem_append_left _ (List.mem_map_of_mem (f := fun q : String × Nat × String × String × String × String => Cond.fieldLinkNest q.1 q.2.1 q.2.2.1 q.2.2.2.1 q.2.2.2.2.1 q.2.2.2.2.2) (List.mem_of_getElem? (l := nbF) (i := 46) rfl))
theorem in_EN : ∀ w ∈ u_ws R_EN T_EN 4, w ∈ tb := by
  intro w hw
  have e : u_ws R_EN T_EN 4 = [.laysFinal R_EN "EdgeCampaign$Entry" "input" "LEdgeCampaign$Input;", .lays R_EN "EdgeCampaign$Entry" "steps" "I", .lays R_EN "EdgeCampaign$Entry" "edgeCount" "I", .lays R_EN "EdgeCampaign$Entry" "finished" "I"] := rfl
  rw [e] at hw
  simp only [List.mem_cons, List.not_mem_nil, or_false] at hw
  rcases hw with rfl | rfl | rfl | rfl
  · exact q_493
  · exact q_494
  · exact q_495
  · exact q_496
theorem in_FI : ∀ w ∈ u_ws R_FI T_FI 7, w ∈ tb := by
  intro w hw
  have e : u_ws R_FI T_FI 7 = [.laysFinal R_FI "EdgeCampaign$Finding" "input" "LEdgeCampaign$Input;", .laysFinal R_FI "EdgeCampaign$Finding" "shortest" "LEdgeCampaign$Input;", .laysFinal R_FI "EdgeCampaign$Finding" "latestFirst" "[I", .lays R_FI "EdgeCampaign$Finding" "trap" "I", .lays R_FI "EdgeCampaign$Finding" "here" "I", .lays R_FI "EdgeCampaign$Finding" "depth" "I", .lays R_FI "EdgeCampaign$Finding" "hits" "I"] := rfl
  rw [e] at hw
  simp only [List.mem_cons, List.not_mem_nil, or_false] at hw
  rcases hw with rfl | rfl | rfl | rfl | rfl | rfl | rfl
  · exact q_497
  · exact q_498
  · exact q_499
  · exact q_500
  · exact q_501
  · exact q_502
  · exact q_503
theorem in_FS : ∀ w ∈ u_ws R_FS T_FS 2, w ∈ tb := by
  intro w hw
  have e : u_ws R_FS T_FS 2 = [.laysFinal R_FS "EdgeCampaign$Findings" "made" "[LEdgeCampaign$Finding;", .lays R_FS "EdgeCampaign$Findings" "size" "I"] := rfl
  rw [e] at hw
  simp only [List.mem_cons, List.not_mem_nil, or_false] at hw
  rcases hw with rfl | rfl
  · exact q_504
  · exact q_505
theorem in_GE : ∀ w ∈ u_ws R_GE T_GE 1, w ∈ tb := by
  intro w hw
  have e : u_ws R_GE T_GE 1 = [.lays R_GE "EdgeCampaign$Generator" "x" "I"] := rfl
  rw [e] at hw
  simp only [List.mem_cons, List.not_mem_nil, or_false] at hw
  subst hw
  · exact q_506
theorem in_IN : ∀ w ∈ u_ws R_IN T_IN 2, w ∈ tb := by
  intro w hw
  have e : u_ws R_IN T_IN 2 = [.laysFinal R_IN "EdgeCampaign$Input" "bytes" "[I", .lays R_IN "EdgeCampaign$Input" "size" "I"] := rfl
  rw [e] at hw
  simp only [List.mem_cons, List.not_mem_nil, or_false] at hw
  rcases hw with rfl | rfl
  · exact q_507
  · exact q_508
theorem in_PR : ∀ w ∈ u_ws R_PR T_PR 4, w ∈ tb := by
  intro w hw
  have e : u_ws R_PR T_PR 4 = [.laysFinal R_PR "EdgeCampaign$Program" "ops" "[I", .laysFinal R_PR "EdgeCampaign$Program" "as" "[I", .laysFinal R_PR "EdgeCampaign$Program" "bs" "[I", .lays R_PR "EdgeCampaign$Program" "size" "I"] := rfl
  rw [e] at hw
  simp only [List.mem_cons, List.not_mem_nil, or_false] at hw
  rcases hw with rfl | rfl | rfl | rfl
  · exact q_509
  · exact q_510
  · exact q_511
  · exact q_512
theorem in_RU : ∀ w ∈ u_ws R_RU T_RU 11, w ∈ tb := by
  intro w hw
  have e : u_ws R_RU T_RU 11 = [.laysFinal R_RU "EdgeCampaign$Run" "registers" "[I", .laysFinal R_RU "EdgeCampaign$Run" "memory" "[I", .laysFinal R_RU "EdgeCampaign$Run" "stack" "[I", .laysFinal R_RU "EdgeCampaign$Run" "times" "[I", .laysFinal R_RU "EdgeCampaign$Run" "edges" "[I", .lays R_RU "EdgeCampaign$Run" "edgeCount" "I", .lays R_RU "EdgeCampaign$Run" "depth" "I", .lays R_RU "EdgeCampaign$Run" "pc" "I", .lays R_RU "EdgeCampaign$Run" "here" "I", .lays R_RU "EdgeCampaign$Run" "steps" "I", .lays R_RU "EdgeCampaign$Run" "outcome" "I"] := rfl
  rw [e] at hw
  simp only [List.mem_cons, List.not_mem_nil, or_false] at hw
  rcases hw with rfl | rfl | rfl | rfl | rfl | rfl | rfl | rfl | rfl | rfl | rfl
  · exact q_513
  · exact q_514
  · exact q_515
  · exact q_516
  · exact q_517
  · exact q_518
  · exact q_519
  · exact q_520
  · exact q_521
  · exact q_522
  · exact q_523
theorem in_SH : ∀ w ∈ u_ws R_SH T_SH 2, w ∈ tb := by
  intro w hw
  have e : u_ws R_SH T_SH 2 = [.laysFinal R_SH "EdgeCampaign$Shortener" "run" "LEdgeCampaign$Run;", .laysFinal R_SH "EdgeCampaign$Shortener" "candidate" "LEdgeCampaign$Input;"] := rfl
  rw [e] at hw
  simp only [List.mem_cons, List.not_mem_nil, or_false] at hw
  rcases hw with rfl | rfl
  · exact q_524
  · exact q_525
theorem in_ST : ∀ w ∈ u_ws R_ST T_ST 7, w ∈ tb := by
  intro w hw
  have e : u_ws R_ST T_ST 7 = [.laysFinal R_ST "EdgeCampaign$Store" "entries" "[LEdgeCampaign$Entry;", .laysFinal R_ST "EdgeCampaign$Store" "buckets" "[I", .laysFinal R_ST "EdgeCampaign$Store" "goers" "[I", .lays R_ST "EdgeCampaign$Store" "size" "I", .lays R_ST "EdgeCampaign$Store" "favoured" "I", .lays R_ST "EdgeCampaign$Store" "seenEdges" "I", .lays R_ST "EdgeCampaign$Store" "seenPairs" "I"] := rfl
  rw [e] at hw
  simp only [List.mem_cons, List.not_mem_nil, or_false] at hw
  rcases hw with rfl | rfl | rfl | rfl | rfl | rfl | rfl
  · exact q_526
  · exact q_527
  · exact q_528
  · exact q_529
  · exact q_530
  · exact q_531
  · exact q_532
theorem in_TR : ∀ w ∈ u_ws R_TR T_TR 3, w ∈ tb := by
  intro w hw
  have e : u_ws R_TR T_TR 3 = [.lays R_TR "EdgeCampaign$Trials" "taken" "I", .lays R_TR "EdgeCampaign$Trials" "number" "I", .lays R_TR "EdgeCampaign$Trials" "energy" "I"] := rfl
  rw [e] at hw
  simp only [List.mem_cons, List.not_mem_nil, or_false] at hw
  rcases hw with rfl | rfl | rfl
  · exact q_533
  · exact q_534
  · exact q_535
theorem in_EC : ∀ w ∈ u_ws R_EC T_EC 12, w ∈ tb := by
  intro w hw
  have e : u_ws R_EC T_EC 12 = [.laysFinal R_EC "EdgeCampaign" "program" "LEdgeCampaign$Program;", .laysFinal R_EC "EdgeCampaign" "draft" "LEdgeCampaign$Input;", .laysFinal R_EC "EdgeCampaign" "changed" "LEdgeCampaign$Input;", .laysFinal R_EC "EdgeCampaign" "run" "LEdgeCampaign$Run;", .laysFinal R_EC "EdgeCampaign" "store" "LEdgeCampaign$Store;", .laysFinal R_EC "EdgeCampaign" "findings" "LEdgeCampaign$Findings;", .laysFinal R_EC "EdgeCampaign" "shortener" "LEdgeCampaign$Shortener;", .laysFinal R_EC "EdgeCampaign" "generator" "LEdgeCampaign$Generator;", .laysFinal R_EC "EdgeCampaign" "trials" "LEdgeCampaign$Trials;", .lays R_EC "EdgeCampaign" "executions" "I", .lays R_EC "EdgeCampaign" "hangs" "I", .lays R_EC "EdgeCampaign" "lost" "I"] := rfl
  rw [e] at hw
  simp only [List.mem_cons, List.not_mem_nil, or_false] at hw
  rcases hw with rfl | rfl | rfl | rfl | rfl | rfl | rfl | rfl | rfl | rfl | rfl | rfl
  · exact q_536
  · exact q_537
  · exact q_538
  · exact q_539
  · exact q_540
  · exact q_541
  · exact q_542
  · exact q_543
  · exact q_544
  · exact q_545
  · exact q_546
  · exact q_547
theorem in_MO : ∀ w ∈ u_ws R_MO T_MO 45, w ∈ tb := by
  intro w hw
  have e : u_ws R_MO T_MO 45 = [.lays R_MO "EdgeCampaignModel" "size" "I", .laysFinal R_MO "EdgeCampaignModel" "ops" "[I", .laysFinal R_MO "EdgeCampaignModel" "as" "[I", .laysFinal R_MO "EdgeCampaignModel" "bs" "[I", .laysFinal R_MO "EdgeCampaignModel" "draft" "[I", .lays R_MO "EdgeCampaignModel" "drafted" "I", .lays R_MO "EdgeCampaignModel" "x" "I", .laysFinal R_MO "EdgeCampaignModel" "tape" "[I", .lays R_MO "EdgeCampaignModel" "tapeLength" "I", .laysFinal R_MO "EdgeCampaignModel" "\x72" "[I", .laysFinal R_MO "EdgeCampaignModel" "memory" "[I", .laysFinal R_MO "EdgeCampaignModel" "stack" "[I", .lays R_MO "EdgeCampaignModel" "depth" "I", .lays R_MO "EdgeCampaignModel" "pc" "I", .lays R_MO "EdgeCampaignModel" "here" "I", .lays R_MO "EdgeCampaignModel" "steps" "I", .lays R_MO "EdgeCampaignModel" "outcome" "I", .laysFinal R_MO "EdgeCampaignModel" "times" "[I", .lays R_MO "EdgeCampaignModel" "entries" "I", .laysFinal R_MO "EdgeCampaignModel" "inputs" "[I", .laysFinal R_MO "EdgeCampaignModel" "lengths" "[I", .laysFinal R_MO "EdgeCampaignModel" "finished" "[I", .lays R_MO "EdgeCampaignModel" "findings" "I", .laysFinal R_MO "EdgeCampaignModel" "traps" "[I", .laysFinal R_MO "EdgeCampaignModel" "places" "[I", .laysFinal R_MO "EdgeCampaignModel" "depths" "[I", .laysFinal R_MO "EdgeCampaignModel" "stacks" "[I", .laysFinal R_MO "EdgeCampaignModel" "hits" "[I", .laysFinal R_MO "EdgeCampaignModel" "found" "[I", .laysFinal R_MO "EdgeCampaignModel" "foundLength" "[I", .laysFinal R_MO "EdgeCampaignModel" "brief" "[I", .laysFinal R_MO "EdgeCampaignModel" "briefLength" "[I", .lays R_MO "EdgeCampaignModel" "executions" "I", .lays R_MO "EdgeCampaignModel" "hangs" "I", .lays R_MO "EdgeCampaignModel" "lost" "I", .lays R_MO "EdgeCampaignModel" "surveyed" "I", .laysFinal R_MO "EdgeCampaignModel" "buckets" "[I", .laysFinal R_MO "EdgeCampaignModel" "went" "[I", .laysFinal R_MO "EdgeCampaignModel" "stepsOf" "[I", .lays R_MO "EdgeCampaignModel" "favoured" "I", .lays R_MO "EdgeCampaignModel" "taken" "I", .lays R_MO "EdgeCampaignModel" "next" "I", .lays R_MO "EdgeCampaignModel" "energy" "I", .laysFinal R_MO "EdgeCampaignModel" "cur" "[I", .lays R_MO "EdgeCampaignModel" "curLength" "I"] := rfl
  rw [e] at hw
  simp only [List.mem_cons, List.not_mem_nil, or_false] at hw
  rcases hw with rfl | rfl | rfl | rfl | rfl | rfl | rfl | rfl | rfl | rfl | rfl | rfl | rfl | rfl | rfl | rfl | rfl | rfl | rfl | rfl | rfl | rfl | rfl | rfl | rfl | rfl | rfl | rfl | rfl | rfl | rfl | rfl | rfl | rfl | rfl | rfl | rfl | rfl | rfl | rfl | rfl | rfl | rfl | rfl | rfl
  · exact q_548
  · exact q_549
  · exact q_550
  · exact q_551
  · exact q_552
  · exact q_553
  · exact q_554
  · exact q_555
  · exact q_556
  · exact q_557
  · exact q_558
  · exact q_559
  · exact q_560
  · exact q_561
  · exact q_562
  · exact q_563
  · exact q_564
  · exact q_565
  · exact q_566
  · exact q_567
  · exact q_568
  · exact q_569
  · exact q_570
  · exact q_571
  · exact q_572
  · exact q_573
  · exact q_574
  · exact q_575
  · exact q_576
  · exact q_577
  · exact q_578
  · exact q_579
  · exact q_580
  · exact q_581
  · exact q_582
  · exact q_583
  · exact q_584
  · exact q_585
  · exact q_586
  · exact q_587
  · exact q_588
  · exact q_589
  · exact q_590
  · exact q_591
  · exact q_592
end
