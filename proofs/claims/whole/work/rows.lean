section
-- ===== PART A: goes FIRST, ahead of the names: the tables' words, and 'selects' of the private methods out of them =====
/-- a private method of a class that the tables say can be made, by its rows of tables_1 -/
def lw_okq (q : MethodName × Nat) : Prop := (q.1.cls ≠ "java/lang/invoke/MethodHandle" ∧ q.1.cls ≠ "java/lang/invoke/VarHandle") ∧ Cond.instantiable q.1.cls q.2 ∈ tables_1 ∧ Cond.privateMethod q.1 ∈ tables_1 ∧ Cond.instanceMethod q.1 ∈ tables_1
theorem lw_p0 : lw_okq (⟨"EdgeCampaign", "execute", "(LEdgeCampaign$Input;)I"⟩, 12) := ⟨⟨by decide +kernel, by decide +kernel⟩, List.mem_of_getElem? (i := 16) (by decide +kernel), List.mem_of_getElem? (i := 345) (by decide +kernel), List.mem_of_getElem? (i := 346) (by decide +kernel)⟩
theorem lw_p1 : lw_okq (⟨"EdgeCampaign$Run", "reset", "()V"⟩, 11) := ⟨⟨by decide +kernel, by decide +kernel⟩, List.mem_of_getElem? (i := 65) (by decide +kernel), List.mem_of_getElem? (i := 353) (by decide +kernel), List.mem_of_getElem? (i := 354) (by decide +kernel)⟩
theorem lw_p2 : lw_okq (⟨"EdgeCampaign$Run", "step", "(LEdgeCampaign$Program;LEdgeCampaign$Input;)V"⟩, 11) := ⟨⟨by decide +kernel, by decide +kernel⟩, List.mem_of_getElem? (i := 65) (by decide +kernel), List.mem_of_getElem? (i := 364) (by decide +kernel), List.mem_of_getElem? (i := 365) (by decide +kernel)⟩
theorem lw_p3 : lw_okq (⟨"EdgeCampaign$Run", "goInto", "(I)V"⟩, 11) := ⟨⟨by decide +kernel, by decide +kernel⟩, List.mem_of_getElem? (i := 65) (by decide +kernel), List.mem_of_getElem? (i := 372) (by decide +kernel), List.mem_of_getElem? (i := 373) (by decide +kernel)⟩
theorem lw_p4 : lw_okq (⟨"EdgeCampaign$Run", "goBack", "()V"⟩, 11) := ⟨⟨by decide +kernel, by decide +kernel⟩, List.mem_of_getElem? (i := 65) (by decide +kernel), List.mem_of_getElem? (i := 376) (by decide +kernel), List.mem_of_getElem? (i := 377) (by decide +kernel)⟩
theorem lw_p5 : lw_okq (⟨"EdgeCampaign$Run", "divide", "(II)V"⟩, 11) := ⟨⟨by decide +kernel, by decide +kernel⟩, List.mem_of_getElem? (i := 65) (by decide +kernel), List.mem_of_getElem? (i := 380) (by decide +kernel), List.mem_of_getElem? (i := 381) (by decide +kernel)⟩
theorem lw_p6 : lw_okq (⟨"EdgeCampaign$Run", "load", "(II)V"⟩, 11) := ⟨⟨by decide +kernel, by decide +kernel⟩, List.mem_of_getElem? (i := 65) (by decide +kernel), List.mem_of_getElem? (i := 384) (by decide +kernel), List.mem_of_getElem? (i := 385) (by decide +kernel)⟩
theorem lw_p7 : lw_okq (⟨"EdgeCampaign$Run", "save", "(II)V"⟩, 11) := ⟨⟨by decide +kernel, by decide +kernel⟩, List.mem_of_getElem? (i := 65) (by decide +kernel), List.mem_of_getElem? (i := 388) (by decide +kernel), List.mem_of_getElem? (i := 389) (by decide +kernel)⟩
theorem lw_p8 : lw_okq (⟨"EdgeCampaign$Run", "goAlong", "(I)V"⟩, 11) := ⟨⟨by decide +kernel, by decide +kernel⟩, List.mem_of_getElem? (i := 65) (by decide +kernel), List.mem_of_getElem? (i := 395) (by decide +kernel), List.mem_of_getElem? (i := 396) (by decide +kernel)⟩
theorem lw_p9 : lw_okq (⟨"EdgeCampaign$Store", "markSeen", "(II)V"⟩, 7) := ⟨⟨by decide +kernel, by decide +kernel⟩, List.mem_of_getElem? (i := 112) (by decide +kernel), List.mem_of_getElem? (i := 424) (by decide +kernel), List.mem_of_getElem? (i := 425) (by decide +kernel)⟩
theorem lw_p10 : lw_okq (⟨"EdgeCampaign$Store", "chooseFavoured", "()V"⟩, 7) := ⟨⟨by decide +kernel, by decide +kernel⟩, List.mem_of_getElem? (i := 112) (by decide +kernel), List.mem_of_getElem? (i := 428) (by decide +kernel), List.mem_of_getElem? (i := 429) (by decide +kernel)⟩
theorem lw_p11 : lw_okq (⟨"EdgeCampaign$Store", "top", "(I)I"⟩, 7) := ⟨⟨by decide +kernel, by decide +kernel⟩, List.mem_of_getElem? (i := 112) (by decide +kernel), List.mem_of_getElem? (i := 432) (by decide +kernel), List.mem_of_getElem? (i := 433) (by decide +kernel)⟩
theorem lw_p12 : lw_okq (⟨"EdgeCampaign$Shortener", "keepFirst", "(LEdgeCampaign$Finding;LEdgeCampaign$Program;IZ)Z"⟩, 2) := ⟨⟨by decide +kernel, by decide +kernel⟩, List.mem_of_getElem? (i := 232) (by decide +kernel), List.mem_of_getElem? (i := 470) (by decide +kernel), List.mem_of_getElem? (i := 471) (by decide +kernel)⟩
theorem lw_p13 : lw_okq (⟨"EdgeCampaign$Shortener", "makePart", "(LEdgeCampaign$Input;II)V"⟩, 2) := ⟨⟨by decide +kernel, by decide +kernel⟩, List.mem_of_getElem? (i := 232) (by decide +kernel), List.mem_of_getElem? (i := 474) (by decide +kernel), List.mem_of_getElem? (i := 475) (by decide +kernel)⟩
theorem lw_p14 : lw_okq (⟨"EdgeCampaign$Shortener", "makeRest", "(LEdgeCampaign$Input;II)V"⟩, 2) := ⟨⟨by decide +kernel, by decide +kernel⟩, List.mem_of_getElem? (i := 232) (by decide +kernel), List.mem_of_getElem? (i := 486) (by decide +kernel), List.mem_of_getElem? (i := 487) (by decide +kernel)⟩
theorem lw_p15 : lw_okq (⟨"EdgeCampaign$Trials", "takeUp", "(LEdgeCampaign$Store;I)V"⟩, 3) := ⟨⟨by decide +kernel, by decide +kernel⟩, List.mem_of_getElem? (i := 260) (by decide +kernel), List.mem_of_getElem? (i := 502) (by decide +kernel), List.mem_of_getElem? (i := 503) (by decide +kernel)⟩
def lw_privs_1 : List (MethodName × Nat) := [(⟨"EdgeCampaign", "execute", "(LEdgeCampaign$Input;)I"⟩, 12), (⟨"EdgeCampaign$Run", "reset", "()V"⟩, 11), (⟨"EdgeCampaign$Run", "step", "(LEdgeCampaign$Program;LEdgeCampaign$Input;)V"⟩, 11), (⟨"EdgeCampaign$Run", "goInto", "(I)V"⟩, 11), (⟨"EdgeCampaign$Run", "goBack", "()V"⟩, 11), (⟨"EdgeCampaign$Run", "divide", "(II)V"⟩, 11), (⟨"EdgeCampaign$Run", "load", "(II)V"⟩, 11), (⟨"EdgeCampaign$Run", "save", "(II)V"⟩, 11), (⟨"EdgeCampaign$Run", "goAlong", "(I)V"⟩, 11), (⟨"EdgeCampaign$Store", "markSeen", "(II)V"⟩, 7), (⟨"EdgeCampaign$Store", "chooseFavoured", "()V"⟩, 7), (⟨"EdgeCampaign$Store", "top", "(I)I"⟩, 7), (⟨"EdgeCampaign$Shortener", "keepFirst", "(LEdgeCampaign$Finding;LEdgeCampaign$Program;IZ)Z"⟩, 2), (⟨"EdgeCampaign$Shortener", "makePart", "(LEdgeCampaign$Input;II)V"⟩, 2), (⟨"EdgeCampaign$Shortener", "makeRest", "(LEdgeCampaign$Input;II)V"⟩, 2), (⟨"EdgeCampaign$Trials", "takeUp", "(LEdgeCampaign$Store;I)V"⟩, 3)]
theorem lw_r1 : ∀ q ∈ lw_privs_1, lw_okq q := List.forall_mem_cons.mpr ⟨lw_p0, List.forall_mem_cons.mpr ⟨lw_p1, List.forall_mem_cons.mpr ⟨lw_p2, List.forall_mem_cons.mpr ⟨lw_p3, List.forall_mem_cons.mpr ⟨lw_p4, List.forall_mem_cons.mpr ⟨lw_p5, List.forall_mem_cons.mpr ⟨lw_p6, List.forall_mem_cons.mpr ⟨lw_p7, List.forall_mem_cons.mpr ⟨lw_p8, List.forall_mem_cons.mpr ⟨lw_p9, List.forall_mem_cons.mpr ⟨lw_p10, List.forall_mem_cons.mpr ⟨lw_p11, List.forall_mem_cons.mpr ⟨lw_p12, List.forall_mem_cons.mpr ⟨lw_p13, List.forall_mem_cons.mpr ⟨lw_p14, List.forall_mem_cons.mpr ⟨lw_p15, fun _ h => absurd h List.not_mem_nil⟩⟩⟩⟩⟩⟩⟩⟩⟩⟩⟩⟩⟩⟩⟩⟩
theorem lw_p16 : lw_okq (⟨"EdgeCampaign$Trials", "joinPartner", "(LEdgeCampaign$Input;LEdgeCampaign$Store;LEdgeCampaign$Generator;)V"⟩, 3) := ⟨⟨by decide +kernel, by decide +kernel⟩, List.mem_of_getElem? (i := 260) (by decide +kernel), List.mem_of_getElem? (i := 563) (by decide +kernel), List.mem_of_getElem? (i := 564) (by decide +kernel)⟩
theorem lw_p17 : lw_okq (⟨"EdgeCampaign$Trials", "next", "(LEdgeCampaign$Store;)I"⟩, 3) := ⟨⟨by decide +kernel, by decide +kernel⟩, List.mem_of_getElem? (i := 260) (by decide +kernel), List.mem_of_getElem? (i := 573) (by decide +kernel), List.mem_of_getElem? (i := 574) (by decide +kernel)⟩
theorem lw_p18 : lw_okq (⟨"EdgeCampaignModel", "execute", "()I"⟩, 45) := ⟨⟨by decide +kernel, by decide +kernel⟩, List.mem_of_getElem? (i := 624) (by decide +kernel), List.mem_of_getElem? (i := 784) (by decide +kernel), List.mem_of_getElem? (i := 785) (by decide +kernel)⟩
theorem lw_p19 : lw_okq (⟨"EdgeCampaignModel", "survey", "()V"⟩, 45) := ⟨⟨by decide +kernel, by decide +kernel⟩, List.mem_of_getElem? (i := 624) (by decide +kernel), List.mem_of_getElem? (i := 788) (by decide +kernel), List.mem_of_getElem? (i := 789) (by decide +kernel)⟩
theorem lw_p20 : lw_okq (⟨"EdgeCampaignModel", "runEntry", "(I)V"⟩, 45) := ⟨⟨by decide +kernel, by decide +kernel⟩, List.mem_of_getElem? (i := 624) (by decide +kernel), List.mem_of_getElem? (i := 792) (by decide +kernel), List.mem_of_getElem? (i := 793) (by decide +kernel)⟩
theorem lw_p21 : lw_okq (⟨"EdgeCampaignModel", "run", "()V"⟩, 45) := ⟨⟨by decide +kernel, by decide +kernel⟩, List.mem_of_getElem? (i := 624) (by decide +kernel), List.mem_of_getElem? (i := 796) (by decide +kernel), List.mem_of_getElem? (i := 797) (by decide +kernel)⟩
theorem lw_p22 : lw_okq (⟨"EdgeCampaignModel", "step", "()V"⟩, 45) := ⟨⟨by decide +kernel, by decide +kernel⟩, List.mem_of_getElem? (i := 624) (by decide +kernel), List.mem_of_getElem? (i := 800) (by decide +kernel), List.mem_of_getElem? (i := 801) (by decide +kernel)⟩
theorem lw_p23 : lw_okq (⟨"EdgeCampaignModel", "jump", "(III)V"⟩, 45) := ⟨⟨by decide +kernel, by decide +kernel⟩, List.mem_of_getElem? (i := 624) (by decide +kernel), List.mem_of_getElem? (i := 804) (by decide +kernel), List.mem_of_getElem? (i := 805) (by decide +kernel)⟩
theorem lw_p24 : lw_okq (⟨"EdgeCampaignModel", "work", "(III)V"⟩, 45) := ⟨⟨by decide +kernel, by decide +kernel⟩, List.mem_of_getElem? (i := 624) (by decide +kernel), List.mem_of_getElem? (i := 808) (by decide +kernel), List.mem_of_getElem? (i := 809) (by decide +kernel)⟩
theorem lw_p25 : lw_okq (⟨"EdgeCampaignModel", "word", "(III)V"⟩, 45) := ⟨⟨by decide +kernel, by decide +kernel⟩, List.mem_of_getElem? (i := 624) (by decide +kernel), List.mem_of_getElem? (i := 812) (by decide +kernel), List.mem_of_getElem? (i := 813) (by decide +kernel)⟩
theorem lw_p26 : lw_okq (⟨"EdgeCampaignModel", "top", "(I)I"⟩, 45) := ⟨⟨by decide +kernel, by decide +kernel⟩, List.mem_of_getElem? (i := 624) (by decide +kernel), List.mem_of_getElem? (i := 819) (by decide +kernel), List.mem_of_getElem? (i := 820) (by decide +kernel)⟩
theorem lw_p27 : lw_okq (⟨"EdgeCampaignModel", "runCurrent", "()V"⟩, 45) := ⟨⟨by decide +kernel, by decide +kernel⟩, List.mem_of_getElem? (i := 624) (by decide +kernel), List.mem_of_getElem? (i := 823) (by decide +kernel), List.mem_of_getElem? (i := 824) (by decide +kernel)⟩
theorem lw_p28 : lw_okq (⟨"EdgeCampaignModel", "newPair", "()Z"⟩, 45) := ⟨⟨by decide +kernel, by decide +kernel⟩, List.mem_of_getElem? (i := 624) (by decide +kernel), List.mem_of_getElem? (i := 827) (by decide +kernel), List.mem_of_getElem? (i := 828) (by decide +kernel)⟩
theorem lw_p29 : lw_okq (⟨"EdgeCampaignModel", "trapped", "()V"⟩, 45) := ⟨⟨by decide +kernel, by decide +kernel⟩, List.mem_of_getElem? (i := 624) (by decide +kernel), List.mem_of_getElem? (i := 831) (by decide +kernel), List.mem_of_getElem? (i := 832) (by decide +kernel)⟩
theorem lw_p30 : lw_okq (⟨"EdgeCampaignModel", "signed", "(I)Z"⟩, 45) := ⟨⟨by decide +kernel, by decide +kernel⟩, List.mem_of_getElem? (i := 624) (by decide +kernel), List.mem_of_getElem? (i := 835) (by decide +kernel), List.mem_of_getElem? (i := 836) (by decide +kernel)⟩
theorem lw_p31 : lw_okq (⟨"EdgeCampaignModel", "shorten", "(I)V"⟩, 45) := ⟨⟨by decide +kernel, by decide +kernel⟩, List.mem_of_getElem? (i := 624) (by decide +kernel), List.mem_of_getElem? (i := 839) (by decide +kernel), List.mem_of_getElem? (i := 840) (by decide +kernel)⟩
def lw_privs_2 : List (MethodName × Nat) := [(⟨"EdgeCampaign$Trials", "joinPartner", "(LEdgeCampaign$Input;LEdgeCampaign$Store;LEdgeCampaign$Generator;)V"⟩, 3), (⟨"EdgeCampaign$Trials", "next", "(LEdgeCampaign$Store;)I"⟩, 3), (⟨"EdgeCampaignModel", "execute", "()I"⟩, 45), (⟨"EdgeCampaignModel", "survey", "()V"⟩, 45), (⟨"EdgeCampaignModel", "runEntry", "(I)V"⟩, 45), (⟨"EdgeCampaignModel", "run", "()V"⟩, 45), (⟨"EdgeCampaignModel", "step", "()V"⟩, 45), (⟨"EdgeCampaignModel", "jump", "(III)V"⟩, 45), (⟨"EdgeCampaignModel", "work", "(III)V"⟩, 45), (⟨"EdgeCampaignModel", "word", "(III)V"⟩, 45), (⟨"EdgeCampaignModel", "top", "(I)I"⟩, 45), (⟨"EdgeCampaignModel", "runCurrent", "()V"⟩, 45), (⟨"EdgeCampaignModel", "newPair", "()Z"⟩, 45), (⟨"EdgeCampaignModel", "trapped", "()V"⟩, 45), (⟨"EdgeCampaignModel", "signed", "(I)Z"⟩, 45), (⟨"EdgeCampaignModel", "shorten", "(I)V"⟩, 45)]
theorem lw_r2 : ∀ q ∈ lw_privs_2, lw_okq q := List.forall_mem_cons.mpr ⟨lw_p16, List.forall_mem_cons.mpr ⟨lw_p17, List.forall_mem_cons.mpr ⟨lw_p18, List.forall_mem_cons.mpr ⟨lw_p19, List.forall_mem_cons.mpr ⟨lw_p20, List.forall_mem_cons.mpr ⟨lw_p21, List.forall_mem_cons.mpr ⟨lw_p22, List.forall_mem_cons.mpr ⟨lw_p23, List.forall_mem_cons.mpr ⟨lw_p24, List.forall_mem_cons.mpr ⟨lw_p25, List.forall_mem_cons.mpr ⟨lw_p26, List.forall_mem_cons.mpr ⟨lw_p27, List.forall_mem_cons.mpr ⟨lw_p28, List.forall_mem_cons.mpr ⟨lw_p29, List.forall_mem_cons.mpr ⟨lw_p30, List.forall_mem_cons.mpr ⟨lw_p31, fun _ h => absurd h List.not_mem_nil⟩⟩⟩⟩⟩⟩⟩⟩⟩⟩⟩⟩⟩⟩⟩⟩
theorem lw_p32 : lw_okq (⟨"EdgeCampaignModel", "part", "(IIZ)Z"⟩, 45) := ⟨⟨by decide +kernel, by decide +kernel⟩, List.mem_of_getElem? (i := 624) (by decide +kernel), List.mem_of_getElem? (i := 843) (by decide +kernel), List.mem_of_getElem? (i := 844) (by decide +kernel)⟩
theorem lw_p33 : lw_okq (⟨"EdgeCampaignModel", "still", "(IIIZ)Z"⟩, 45) := ⟨⟨by decide +kernel, by decide +kernel⟩, List.mem_of_getElem? (i := 624) (by decide +kernel), List.mem_of_getElem? (i := 847) (by decide +kernel), List.mem_of_getElem? (i := 848) (by decide +kernel)⟩
theorem lw_p34 : lw_okq (⟨"EdgeCampaignModel", "adopt", "(I)V"⟩, 45) := ⟨⟨by decide +kernel, by decide +kernel⟩, List.mem_of_getElem? (i := 624) (by decide +kernel), List.mem_of_getElem? (i := 851) (by decide +kernel), List.mem_of_getElem? (i := 852) (by decide +kernel)⟩
theorem lw_p35 : lw_okq (⟨"EdgeCampaignModel", "takeUp", "(I)V"⟩, 45) := ⟨⟨by decide +kernel, by decide +kernel⟩, List.mem_of_getElem? (i := 624) (by decide +kernel), List.mem_of_getElem? (i := 855) (by decide +kernel), List.mem_of_getElem? (i := 856) (by decide +kernel)⟩
theorem lw_p36 : lw_okq (⟨"EdgeCampaignModel", "edgesOf", "(I)I"⟩, 45) := ⟨⟨by decide +kernel, by decide +kernel⟩, List.mem_of_getElem? (i := 624) (by decide +kernel), List.mem_of_getElem? (i := 859) (by decide +kernel), List.mem_of_getElem? (i := 860) (by decide +kernel)⟩
theorem lw_p37 : lw_okq (⟨"EdgeCampaignModel", "trial", "()V"⟩, 45) := ⟨⟨by decide +kernel, by decide +kernel⟩, List.mem_of_getElem? (i := 624) (by decide +kernel), List.mem_of_getElem? (i := 867) (by decide +kernel), List.mem_of_getElem? (i := 868) (by decide +kernel)⟩
theorem lw_p38 : lw_okq (⟨"EdgeCampaignModel", "plain", "(II)V"⟩, 45) := ⟨⟨by decide +kernel, by decide +kernel⟩, List.mem_of_getElem? (i := 624) (by decide +kernel), List.mem_of_getElem? (i := 871) (by decide +kernel), List.mem_of_getElem? (i := 872) (by decide +kernel)⟩
theorem lw_p39 : lw_okq (⟨"EdgeCampaignModel", "mixed", "()V"⟩, 45) := ⟨⟨by decide +kernel, by decide +kernel⟩, List.mem_of_getElem? (i := 624) (by decide +kernel), List.mem_of_getElem? (i := 875) (by decide +kernel), List.mem_of_getElem? (i := 876) (by decide +kernel)⟩
theorem lw_p40 : lw_okq (⟨"EdgeCampaignModel", "draw", "(I)I"⟩, 45) := ⟨⟨by decide +kernel, by decide +kernel⟩, List.mem_of_getElem? (i := 624) (by decide +kernel), List.mem_of_getElem? (i := 879) (by decide +kernel), List.mem_of_getElem? (i := 880) (by decide +kernel)⟩
theorem lw_p41 : lw_okq (⟨"EdgeCampaignModel", "putIn", "()V"⟩, 45) := ⟨⟨by decide +kernel, by decide +kernel⟩, List.mem_of_getElem? (i := 624) (by decide +kernel), List.mem_of_getElem? (i := 884) (by decide +kernel), List.mem_of_getElem? (i := 885) (by decide +kernel)⟩
theorem lw_p42 : lw_okq (⟨"EdgeCampaignModel", "change", "(I)V"⟩, 45) := ⟨⟨by decide +kernel, by decide +kernel⟩, List.mem_of_getElem? (i := 624) (by decide +kernel), List.mem_of_getElem? (i := 888) (by decide +kernel), List.mem_of_getElem? (i := 889) (by decide +kernel)⟩
theorem lw_p43 : lw_okq (⟨"EdgeCampaignModel", "crossed", "(I)V"⟩, 45) := ⟨⟨by decide +kernel, by decide +kernel⟩, List.mem_of_getElem? (i := 624) (by decide +kernel), List.mem_of_getElem? (i := 892) (by decide +kernel), List.mem_of_getElem? (i := 893) (by decide +kernel)⟩
theorem lw_p44 : lw_okq (⟨"EdgeCampaignModel", "takeNext", "()V"⟩, 45) := ⟨⟨by decide +kernel, by decide +kernel⟩, List.mem_of_getElem? (i := 624) (by decide +kernel), List.mem_of_getElem? (i := 896) (by decide +kernel), List.mem_of_getElem? (i := 897) (by decide +kernel)⟩
theorem lw_p45 : lw_okq (⟨"EdgeCampaignModel", "seenEdges", "()I"⟩, 45) := ⟨⟨by decide +kernel, by decide +kernel⟩, List.mem_of_getElem? (i := 624) (by decide +kernel), List.mem_of_getElem? (i := 904) (by decide +kernel), List.mem_of_getElem? (i := 905) (by decide +kernel)⟩
theorem lw_p46 : lw_okq (⟨"EdgeCampaignModel", "seenPairs", "()I"⟩, 45) := ⟨⟨by decide +kernel, by decide +kernel⟩, List.mem_of_getElem? (i := 624) (by decide +kernel), List.mem_of_getElem? (i := 908) (by decide +kernel), List.mem_of_getElem? (i := 909) (by decide +kernel)⟩
def lw_privs_3 : List (MethodName × Nat) := [(⟨"EdgeCampaignModel", "part", "(IIZ)Z"⟩, 45), (⟨"EdgeCampaignModel", "still", "(IIIZ)Z"⟩, 45), (⟨"EdgeCampaignModel", "adopt", "(I)V"⟩, 45), (⟨"EdgeCampaignModel", "takeUp", "(I)V"⟩, 45), (⟨"EdgeCampaignModel", "edgesOf", "(I)I"⟩, 45), (⟨"EdgeCampaignModel", "trial", "()V"⟩, 45), (⟨"EdgeCampaignModel", "plain", "(II)V"⟩, 45), (⟨"EdgeCampaignModel", "mixed", "()V"⟩, 45), (⟨"EdgeCampaignModel", "draw", "(I)I"⟩, 45), (⟨"EdgeCampaignModel", "putIn", "()V"⟩, 45), (⟨"EdgeCampaignModel", "change", "(I)V"⟩, 45), (⟨"EdgeCampaignModel", "crossed", "(I)V"⟩, 45), (⟨"EdgeCampaignModel", "takeNext", "()V"⟩, 45), (⟨"EdgeCampaignModel", "seenEdges", "()I"⟩, 45), (⟨"EdgeCampaignModel", "seenPairs", "()I"⟩, 45)]
theorem lw_r3 : ∀ q ∈ lw_privs_3, lw_okq q := List.forall_mem_cons.mpr ⟨lw_p32, List.forall_mem_cons.mpr ⟨lw_p33, List.forall_mem_cons.mpr ⟨lw_p34, List.forall_mem_cons.mpr ⟨lw_p35, List.forall_mem_cons.mpr ⟨lw_p36, List.forall_mem_cons.mpr ⟨lw_p37, List.forall_mem_cons.mpr ⟨lw_p38, List.forall_mem_cons.mpr ⟨lw_p39, List.forall_mem_cons.mpr ⟨lw_p40, List.forall_mem_cons.mpr ⟨lw_p41, List.forall_mem_cons.mpr ⟨lw_p42, List.forall_mem_cons.mpr ⟨lw_p43, List.forall_mem_cons.mpr ⟨lw_p44, List.forall_mem_cons.mpr ⟨lw_p45, List.forall_mem_cons.mpr ⟨lw_p46, fun _ h => absurd h List.not_mem_nil⟩⟩⟩⟩⟩⟩⟩⟩⟩⟩⟩⟩⟩⟩⟩
def lw_privs : List (MethodName × Nat) := lw_privs_1 ++ (lw_privs_2 ++ (lw_privs_3))
def lw_tbl : List Cond := k2_sels lw_privs ++ tables_1
theorem lw_privs_ok : ∀ q ∈ lw_privs, lw_okq q := by
  show ∀ q ∈ lw_privs_1 ++ (lw_privs_2 ++ (lw_privs_3)), lw_okq q
  exact List.forall_mem_append.mpr ⟨lw_r1, List.forall_mem_append.mpr ⟨lw_r2, lw_r3⟩⟩
end
section
def R_EC : String := "EdgeCampaign"
def T_EC : u_T := fun k => match k with
  | 0 => ("EdgeCampaign", "program", "LEdgeCampaign$Program;", true)
  | 1 => ("EdgeCampaign", "draft", "LEdgeCampaign$Input;", true)
  | 2 => ("EdgeCampaign", "changed", "LEdgeCampaign$Input;", true)
  | 3 => ("EdgeCampaign", "run", "LEdgeCampaign$Run;", true)
  | 4 => ("EdgeCampaign", "store", "LEdgeCampaign$Store;", true)
  | 5 => ("EdgeCampaign", "findings", "LEdgeCampaign$Findings;", true)
  | 6 => ("EdgeCampaign", "shortener", "LEdgeCampaign$Shortener;", true)
  | 7 => ("EdgeCampaign", "generator", "LEdgeCampaign$Generator;", true)
  | 8 => ("EdgeCampaign", "trials", "LEdgeCampaign$Trials;", true)
  | 9 => ("EdgeCampaign", "executions", "I", false)
  | 10 => ("EdgeCampaign", "hangs", "I", false)
  | _ => ("EdgeCampaign", "lost", "I", false)
def t_EC : Nat → FieldType := fun k => match k with
  | 0 => .object "EdgeCampaign$Program"
  | 1 => .object "EdgeCampaign$Input"
  | 2 => .object "EdgeCampaign$Input"
  | 3 => .object "EdgeCampaign$Run"
  | 4 => .object "EdgeCampaign$Store"
  | 5 => .object "EdgeCampaign$Findings"
  | 6 => .object "EdgeCampaign$Shortener"
  | 7 => .object "EdgeCampaign$Generator"
  | 8 => .object "EdgeCampaign$Trials"
  | 9 => .int
  | 10 => .int
  | _ => .int
theorem nm_EC : ∀ a, a < 12 → ∀ b, b < 12 → a ≠ b → (T_EC a).2.1 ≠ (T_EC b).2.1 := by decide +kernel
theorem ty_EC : ∀ k, k < 12 → parseFieldDescriptor (T_EC k).2.2.1 = some (t_EC k) := by decide +kernel
def R_MO : String := "EdgeCampaignModel"
def T_MO : u_T := fun k => match k with
  | 0 => ("EdgeCampaignModel", "size", "I", false)
  | 1 => ("EdgeCampaignModel", "ops", "[I", true)
  | 2 => ("EdgeCampaignModel", "as", "[I", true)
  | 3 => ("EdgeCampaignModel", "bs", "[I", true)
  | 4 => ("EdgeCampaignModel", "draft", "[I", true)
  | 5 => ("EdgeCampaignModel", "drafted", "I", false)
  | 6 => ("EdgeCampaignModel", "x", "I", false)
  | 7 => ("EdgeCampaignModel", "tape", "[I", true)
  | 8 => ("EdgeCampaignModel", "tapeLength", "I", false)
  | 9 => ("EdgeCampaignModel", "\x72", "[I", true)
  | 10 => ("EdgeCampaignModel", "memory", "[I", true)
  | 11 => ("EdgeCampaignModel", "stack", "[I", true)
  | 12 => ("EdgeCampaignModel", "depth", "I", false)
  | 13 => ("EdgeCampaignModel", "pc", "I", false)
  | 14 => ("EdgeCampaignModel", "here", "I", false)
  | 15 => ("EdgeCampaignModel", "steps", "I", false)
  | 16 => ("EdgeCampaignModel", "outcome", "I", false)
  | 17 => ("EdgeCampaignModel", "times", "[I", true)
  | 18 => ("EdgeCampaignModel", "entries", "I", false)
  | 19 => ("EdgeCampaignModel", "inputs", "[I", true)
  | 20 => ("EdgeCampaignModel", "lengths", "[I", true)
  | 21 => ("EdgeCampaignModel", "finished", "[I", true)
  | 22 => ("EdgeCampaignModel", "findings", "I", false)
  | 23 => ("EdgeCampaignModel", "traps", "[I", true)
  | 24 => ("EdgeCampaignModel", "places", "[I", true)
  | 25 => ("EdgeCampaignModel", "depths", "[I", true)
  | 26 => ("EdgeCampaignModel", "stacks", "[I", true)
  | 27 => ("EdgeCampaignModel", "hits", "[I", true)
  | 28 => ("EdgeCampaignModel", "found", "[I", true)
  | 29 => ("EdgeCampaignModel", "foundLength", "[I", true)
  | 30 => ("EdgeCampaignModel", "brief", "[I", true)
  | 31 => ("EdgeCampaignModel", "briefLength", "[I", true)
  | 32 => ("EdgeCampaignModel", "executions", "I", false)
  | 33 => ("EdgeCampaignModel", "hangs", "I", false)
  | 34 => ("EdgeCampaignModel", "lost", "I", false)
  | 35 => ("EdgeCampaignModel", "surveyed", "I", false)
  | 36 => ("EdgeCampaignModel", "buckets", "[I", true)
  | 37 => ("EdgeCampaignModel", "went", "[I", true)
  | 38 => ("EdgeCampaignModel", "stepsOf", "[I", true)
  | 39 => ("EdgeCampaignModel", "favoured", "I", false)
  | 40 => ("EdgeCampaignModel", "taken", "I", false)
  | 41 => ("EdgeCampaignModel", "next", "I", false)
  | 42 => ("EdgeCampaignModel", "energy", "I", false)
  | 43 => ("EdgeCampaignModel", "cur", "[I", true)
  | _ => ("EdgeCampaignModel", "curLength", "I", false)
def t_MO : Nat → FieldType := fun k => match k with
  | 0 => .int
  | 1 => .array (.int)
  | 2 => .array (.int)
  | 3 => .array (.int)
  | 4 => .array (.int)
  | 5 => .int
  | 6 => .int
  | 7 => .array (.int)
  | 8 => .int
  | 9 => .array (.int)
  | 10 => .array (.int)
  | 11 => .array (.int)
  | 12 => .int
  | 13 => .int
  | 14 => .int
  | 15 => .int
  | 16 => .int
  | 17 => .array (.int)
  | 18 => .int
  | 19 => .array (.int)
  | 20 => .array (.int)
  | 21 => .array (.int)
  | 22 => .int
  | 23 => .array (.int)
  | 24 => .array (.int)
  | 25 => .array (.int)
  | 26 => .array (.int)
  | 27 => .array (.int)
  | 28 => .array (.int)
  | 29 => .array (.int)
  | 30 => .array (.int)
  | 31 => .array (.int)
  | 32 => .int
  | 33 => .int
  | 34 => .int
  | 35 => .int
  | 36 => .array (.int)
  | 37 => .array (.int)
  | 38 => .array (.int)
  | 39 => .int
  | 40 => .int
  | 41 => .int
  | 42 => .int
  | 43 => .array (.int)
  | _ => .int
theorem nm_MO : ∀ a, a < 45 → ∀ b, b < 45 → a ≠ b → (T_MO a).2.1 ≠ (T_MO b).2.1 := by decide +kernel
theorem ty_MO : ∀ k, k < 45 → parseFieldDescriptor (T_MO k).2.2.1 = some (t_MO k) := by decide +kernel
def R_LAW : String := "EdgeCampaignLaw"
def R_JM : String := "java/lang/Math"
def R_JA : String := "java/util/Arrays"
def R_PR : String := "EdgeCampaign$Program"
def T_PR : u_T := fun k => match k with
  | 0 => ("EdgeCampaign$Program", "ops", "[I", true)
  | 1 => ("EdgeCampaign$Program", "as", "[I", true)
  | 2 => ("EdgeCampaign$Program", "bs", "[I", true)
  | _ => ("EdgeCampaign$Program", "size", "I", false)
def t_PR : Nat → FieldType := fun k => match k with
  | 0 => .array (.int)
  | 1 => .array (.int)
  | 2 => .array (.int)
  | _ => .int
theorem nm_PR : ∀ a, a < 4 → ∀ b, b < 4 → a ≠ b → (T_PR a).2.1 ≠ (T_PR b).2.1 := by decide +kernel
theorem ty_PR : ∀ k, k < 4 → parseFieldDescriptor (T_PR k).2.2.1 = some (t_PR k) := by decide +kernel
def R_IN : String := "EdgeCampaign$Input"
def T_IN : u_T := fun k => match k with
  | 0 => ("EdgeCampaign$Input", "bytes", "[I", true)
  | _ => ("EdgeCampaign$Input", "size", "I", false)
def t_IN : Nat → FieldType := fun k => match k with
  | 0 => .array (.int)
  | _ => .int
theorem nm_IN : ∀ a, a < 2 → ∀ b, b < 2 → a ≠ b → (T_IN a).2.1 ≠ (T_IN b).2.1 := by decide +kernel
theorem ty_IN : ∀ k, k < 2 → parseFieldDescriptor (T_IN k).2.2.1 = some (t_IN k) := by decide +kernel
def R_RU : String := "EdgeCampaign$Run"
def T_RU : u_T := fun k => match k with
  | 0 => ("EdgeCampaign$Run", "registers", "[I", true)
  | 1 => ("EdgeCampaign$Run", "memory", "[I", true)
  | 2 => ("EdgeCampaign$Run", "stack", "[I", true)
  | 3 => ("EdgeCampaign$Run", "times", "[I", true)
  | 4 => ("EdgeCampaign$Run", "edges", "[I", true)
  | 5 => ("EdgeCampaign$Run", "edgeCount", "I", false)
  | 6 => ("EdgeCampaign$Run", "depth", "I", false)
  | 7 => ("EdgeCampaign$Run", "pc", "I", false)
  | 8 => ("EdgeCampaign$Run", "here", "I", false)
  | 9 => ("EdgeCampaign$Run", "steps", "I", false)
  | _ => ("EdgeCampaign$Run", "outcome", "I", false)
def t_RU : Nat → FieldType := fun k => match k with
  | 0 => .array (.int)
  | 1 => .array (.int)
  | 2 => .array (.int)
  | 3 => .array (.int)
  | 4 => .array (.int)
  | 5 => .int
  | 6 => .int
  | 7 => .int
  | 8 => .int
  | 9 => .int
  | _ => .int
theorem nm_RU : ∀ a, a < 11 → ∀ b, b < 11 → a ≠ b → (T_RU a).2.1 ≠ (T_RU b).2.1 := by decide +kernel
theorem ty_RU : ∀ k, k < 11 → parseFieldDescriptor (T_RU k).2.2.1 = some (t_RU k) := by decide +kernel
def R_EN : String := "EdgeCampaign$Entry"
def T_EN : u_T := fun k => match k with
  | 0 => ("EdgeCampaign$Entry", "input", "LEdgeCampaign$Input;", true)
  | 1 => ("EdgeCampaign$Entry", "steps", "I", false)
  | 2 => ("EdgeCampaign$Entry", "edgeCount", "I", false)
  | _ => ("EdgeCampaign$Entry", "finished", "I", false)
def t_EN : Nat → FieldType := fun k => match k with
  | 0 => .object "EdgeCampaign$Input"
  | 1 => .int
  | 2 => .int
  | _ => .int
theorem nm_EN : ∀ a, a < 4 → ∀ b, b < 4 → a ≠ b → (T_EN a).2.1 ≠ (T_EN b).2.1 := by decide +kernel
theorem ty_EN : ∀ k, k < 4 → parseFieldDescriptor (T_EN k).2.2.1 = some (t_EN k) := by decide +kernel
def R_ST : String := "EdgeCampaign$Store"
def T_ST : u_T := fun k => match k with
  | 0 => ("EdgeCampaign$Store", "entries", "[LEdgeCampaign$Entry;", true)
  | 1 => ("EdgeCampaign$Store", "buckets", "[I", true)
  | 2 => ("EdgeCampaign$Store", "goers", "[I", true)
  | 3 => ("EdgeCampaign$Store", "size", "I", false)
  | 4 => ("EdgeCampaign$Store", "favoured", "I", false)
  | 5 => ("EdgeCampaign$Store", "seenEdges", "I", false)
  | _ => ("EdgeCampaign$Store", "seenPairs", "I", false)
def t_ST : Nat → FieldType := fun k => match k with
  | 0 => .array (.object "EdgeCampaign$Entry")
  | 1 => .array (.int)
  | 2 => .array (.int)
  | 3 => .int
  | 4 => .int
  | 5 => .int
  | _ => .int
theorem nm_ST : ∀ a, a < 7 → ∀ b, b < 7 → a ≠ b → (T_ST a).2.1 ≠ (T_ST b).2.1 := by decide +kernel
theorem ty_ST : ∀ k, k < 7 → parseFieldDescriptor (T_ST k).2.2.1 = some (t_ST k) := by decide +kernel
def R_FI : String := "EdgeCampaign$Finding"
def T_FI : u_T := fun k => match k with
  | 0 => ("EdgeCampaign$Finding", "input", "LEdgeCampaign$Input;", true)
  | 1 => ("EdgeCampaign$Finding", "shortest", "LEdgeCampaign$Input;", true)
  | 2 => ("EdgeCampaign$Finding", "latestFirst", "[I", true)
  | 3 => ("EdgeCampaign$Finding", "trap", "I", false)
  | 4 => ("EdgeCampaign$Finding", "here", "I", false)
  | 5 => ("EdgeCampaign$Finding", "depth", "I", false)
  | _ => ("EdgeCampaign$Finding", "hits", "I", false)
def t_FI : Nat → FieldType := fun k => match k with
  | 0 => .object "EdgeCampaign$Input"
  | 1 => .object "EdgeCampaign$Input"
  | 2 => .array (.int)
  | 3 => .int
  | 4 => .int
  | 5 => .int
  | _ => .int
theorem nm_FI : ∀ a, a < 7 → ∀ b, b < 7 → a ≠ b → (T_FI a).2.1 ≠ (T_FI b).2.1 := by decide +kernel
theorem ty_FI : ∀ k, k < 7 → parseFieldDescriptor (T_FI k).2.2.1 = some (t_FI k) := by decide +kernel
def R_FS : String := "EdgeCampaign$Findings"
def T_FS : u_T := fun k => match k with
  | 0 => ("EdgeCampaign$Findings", "made", "[LEdgeCampaign$Finding;", true)
  | _ => ("EdgeCampaign$Findings", "size", "I", false)
def t_FS : Nat → FieldType := fun k => match k with
  | 0 => .array (.object "EdgeCampaign$Finding")
  | _ => .int
theorem nm_FS : ∀ a, a < 2 → ∀ b, b < 2 → a ≠ b → (T_FS a).2.1 ≠ (T_FS b).2.1 := by decide +kernel
theorem ty_FS : ∀ k, k < 2 → parseFieldDescriptor (T_FS k).2.2.1 = some (t_FS k) := by decide +kernel
def R_SH : String := "EdgeCampaign$Shortener"
def T_SH : u_T := fun k => match k with
  | 0 => ("EdgeCampaign$Shortener", "run", "LEdgeCampaign$Run;", true)
  | _ => ("EdgeCampaign$Shortener", "candidate", "LEdgeCampaign$Input;", true)
def t_SH : Nat → FieldType := fun k => match k with
  | 0 => .object "EdgeCampaign$Run"
  | _ => .object "EdgeCampaign$Input"
theorem nm_SH : ∀ a, a < 2 → ∀ b, b < 2 → a ≠ b → (T_SH a).2.1 ≠ (T_SH b).2.1 := by decide +kernel
theorem ty_SH : ∀ k, k < 2 → parseFieldDescriptor (T_SH k).2.2.1 = some (t_SH k) := by decide +kernel
def R_GE : String := "EdgeCampaign$Generator"
def T_GE : u_T := fun k => match k with
  | _ => ("EdgeCampaign$Generator", "x", "I", false)
def t_GE : Nat → FieldType := fun k => match k with
  | _ => .int
theorem nm_GE : ∀ a, a < 1 → ∀ b, b < 1 → a ≠ b → (T_GE a).2.1 ≠ (T_GE b).2.1 := by decide +kernel
theorem ty_GE : ∀ k, k < 1 → parseFieldDescriptor (T_GE k).2.2.1 = some (t_GE k) := by decide +kernel
def R_TR : String := "EdgeCampaign$Trials"
def T_TR : u_T := fun k => match k with
  | 0 => ("EdgeCampaign$Trials", "taken", "I", false)
  | 1 => ("EdgeCampaign$Trials", "number", "I", false)
  | _ => ("EdgeCampaign$Trials", "energy", "I", false)
def t_TR : Nat → FieldType := fun k => match k with
  | 0 => .int
  | 1 => .int
  | _ => .int
theorem nm_TR : ∀ a, a < 3 → ∀ b, b < 3 → a ≠ b → (T_TR a).2.1 ≠ (T_TR b).2.1 := by decide +kernel
theorem ty_TR : ∀ k, k < 3 → parseFieldDescriptor (T_TR k).2.2.1 = some (t_TR k) := by decide +kernel
abbrev b_EC_init : ByteArray := prog_1_method_1_code
def y_EC_init : MethodName := ⟨R_EC, "<init>", "(I)V"⟩
def r_EC_init : Room := { frames := 4, cells := 0, slots := 0, locals := 101 }
abbrev b_EC_emit : ByteArray := prog_1_method_2_code
def y_EC_emit : MethodName := ⟨R_EC, "emit", "(III)Z"⟩
def r_EC_emit : Room := { frames := 3, cells := 0, slots := 0, locals := 64 }
abbrev b_EC_feed : ByteArray := prog_1_method_3_code
def y_EC_feed : MethodName := ⟨R_EC, "feed", "(I)Z"⟩
def r_EC_feed : Room := { frames := 1, cells := 0, slots := 0, locals := 21 }
abbrev b_EC_plant : ByteArray := prog_1_method_4_code
def y_EC_plant : MethodName := ⟨R_EC, "plant", "()I"⟩
def r_EC_plant : Room := { frames := 6, cells := 0, slots := 0, locals := 146 }
abbrev b_EC_fuzz : ByteArray := prog_1_method_5_code
def y_EC_fuzz : MethodName := ⟨R_EC, "fuzz", "(I)I"⟩
def r_EC_fuzz : Room := { frames := 6, cells := 0, slots := 0, locals := 146 }
abbrev b_EC_count : ByteArray := prog_1_method_6_code
def y_EC_count : MethodName := ⟨R_EC, "count", "(I)I"⟩
def r_EC_count : Room := { frames := 0, cells := 0, slots := 0, locals := 0 }
abbrev b_EC_entry : ByteArray := prog_1_method_7_code
def y_EC_entry : MethodName := ⟨R_EC, "entry", "(II)I"⟩
def r_EC_entry : Room := { frames := 1, cells := 0, slots := 0, locals := 21 }
abbrev b_EC_entryByte : ByteArray := prog_1_method_8_code
def y_EC_entryByte : MethodName := ⟨R_EC, "entryByte", "(II)I"⟩
def r_EC_entryByte : Room := { frames := 1, cells := 0, slots := 0, locals := 21 }
abbrev b_EC_seen : ByteArray := prog_1_method_9_code
def y_EC_seen : MethodName := ⟨R_EC, "seen", "(II)I"⟩
def r_EC_seen : Room := { frames := 1, cells := 0, slots := 0, locals := 20 }
abbrev b_EC_finding : ByteArray := prog_1_method_10_code
def y_EC_finding : MethodName := ⟨R_EC, "finding", "(II)I"⟩
def r_EC_finding : Room := { frames := 1, cells := 0, slots := 0, locals := 21 }
abbrev b_EC_findingByte : ByteArray := prog_1_method_11_code
def y_EC_findingByte : MethodName := ⟨R_EC, "findingByte", "(IZI)I"⟩
def r_EC_findingByte : Room := { frames := 1, cells := 0, slots := 0, locals := 21 }
abbrev b_EC_current : ByteArray := prog_1_method_12_code
def y_EC_current : MethodName := ⟨R_EC, "current", "(I)I"⟩
def r_EC_current : Room := { frames := 0, cells := 0, slots := 0, locals := 0 }
abbrev b_EC_state : ByteArray := prog_1_method_13_code
def y_EC_state : MethodName := ⟨R_EC, "state", "()I"⟩
def r_EC_state : Room := { frames := 0, cells := 0, slots := 0, locals := 0 }
abbrev b_EC_execute : ByteArray := prog_1_method_14_code
def y_EC_execute : MethodName := ⟨R_EC, "execute", "(LEdgeCampaign$Input;)I"⟩
def r_EC_execute : Room := { frames := 5, cells := 0, slots := 0, locals := 124 }
abbrev b_MO_init : ByteArray := prog_13_method_1_code
def y_MO_init : MethodName := ⟨R_MO, "<init>", "(I)V"⟩
def r_MO_init : Room := { frames := 1, cells := 0, slots := 0, locals := 40 }
abbrev b_MO_within : ByteArray := prog_13_method_2_code
def y_MO_within : MethodName := ⟨R_MO, "within", "(II)Z"⟩
def r_MO_within : Room := { frames := 0, cells := 0, slots := 0, locals := 0 }
abbrev b_MO_fits : ByteArray := prog_13_method_3_code
def y_MO_fits : MethodName := ⟨R_MO, "fits", "(II)Z"⟩
def r_MO_fits : Room := { frames := 1, cells := 0, slots := 0, locals := 21 }
abbrev b_MO_emit : ByteArray := prog_13_method_4_code
def y_MO_emit : MethodName := ⟨R_MO, "emit", "(III)Z"⟩
def r_MO_emit : Room := { frames := 2, cells := 0, slots := 0, locals := 42 }
abbrev b_MO_feed : ByteArray := prog_13_method_5_code
def y_MO_feed : MethodName := ⟨R_MO, "feed", "(I)Z"⟩
def r_MO_feed : Room := { frames := 1, cells := 0, slots := 0, locals := 21 }
abbrev b_MO_run : ByteArray := prog_13_method_6_code
def y_MO_run : MethodName := ⟨R_MO, "run", "()V"⟩
def r_MO_run : Room := { frames := 4, cells := 0, slots := 0, locals := 90 }
abbrev b_MO_step : ByteArray := prog_13_method_7_code
def y_MO_step : MethodName := ⟨R_MO, "step", "()V"⟩
def r_MO_step : Room := { frames := 3, cells := 0, slots := 0, locals := 67 }
abbrev b_MO_jump : ByteArray := prog_13_method_8_code
def y_MO_jump : MethodName := ⟨R_MO, "jump", "(III)V"⟩
def r_MO_jump : Room := { frames := 0, cells := 0, slots := 0, locals := 0 }
abbrev b_MO_work : ByteArray := prog_13_method_9_code
def y_MO_work : MethodName := ⟨R_MO, "work", "(III)V"⟩
def r_MO_work : Room := { frames := 2, cells := 0, slots := 0, locals := 44 }
abbrev b_MO_word : ByteArray := prog_13_method_10_code
def y_MO_word : MethodName := ⟨R_MO, "word", "(III)V"⟩
def r_MO_word : Room := { frames := 1, cells := 0, slots := 0, locals := 21 }
abbrev b_MO_bucket : ByteArray := prog_13_method_11_code
def y_MO_bucket : MethodName := ⟨R_MO, "bucket", "(I)I"⟩
def r_MO_bucket : Room := { frames := 0, cells := 0, slots := 0, locals := 0 }
abbrev b_MO_runEntry : ByteArray := prog_13_method_12_code
def y_MO_runEntry : MethodName := ⟨R_MO, "runEntry", "(I)V"⟩
def r_MO_runEntry : Room := { frames := 5, cells := 0, slots := 0, locals := 111 }
abbrev b_MO_runCurrent : ByteArray := prog_13_method_13_code
def y_MO_runCurrent : MethodName := ⟨R_MO, "runCurrent", "()V"⟩
def r_MO_runCurrent : Room := { frames := 5, cells := 0, slots := 0, locals := 111 }
abbrev b_MO_survey : ByteArray := prog_13_method_14_code
def y_MO_survey : MethodName := ⟨R_MO, "survey", "()V"⟩
def r_MO_survey : Room := { frames := 6, cells := 0, slots := 0, locals := 133 }
abbrev b_MO_top : ByteArray := prog_13_method_15_code
def y_MO_top : MethodName := ⟨R_MO, "top", "(I)I"⟩
def r_MO_top : Room := { frames := 0, cells := 0, slots := 0, locals := 0 }
abbrev b_MO_edgesOf : ByteArray := prog_13_method_16_code
def y_MO_edgesOf : MethodName := ⟨R_MO, "edgesOf", "(I)I"⟩
def r_MO_edgesOf : Room := { frames := 0, cells := 0, slots := 0, locals := 0 }
abbrev b_MO_newPair : ByteArray := prog_13_method_17_code
def y_MO_newPair : MethodName := ⟨R_MO, "newPair", "()Z"⟩
def r_MO_newPair : Room := { frames := 1, cells := 0, slots := 0, locals := 20 }
abbrev b_MO_execute : ByteArray := prog_13_method_18_code
def y_MO_execute : MethodName := ⟨R_MO, "execute", "()I"⟩
def r_MO_execute : Room := { frames := 9, cells := 0, slots := 0, locals := 209 }
abbrev b_MO_signed : ByteArray := prog_13_method_19_code
def y_MO_signed : MethodName := ⟨R_MO, "signed", "(I)Z"⟩
def r_MO_signed : Room := { frames := 0, cells := 0, slots := 0, locals := 0 }
abbrev b_MO_trapped : ByteArray := prog_13_method_20_code
def y_MO_trapped : MethodName := ⟨R_MO, "trapped", "()V"⟩
def r_MO_trapped : Room := { frames := 8, cells := 0, slots := 0, locals := 187 }
abbrev b_MO_still : ByteArray := prog_13_method_21_code
def y_MO_still : MethodName := ⟨R_MO, "still", "(IIIZ)Z"⟩
def r_MO_still : Room := { frames := 5, cells := 0, slots := 0, locals := 111 }
abbrev b_MO_adopt : ByteArray := prog_13_method_22_code
def y_MO_adopt : MethodName := ⟨R_MO, "adopt", "(I)V"⟩
def r_MO_adopt : Room := { frames := 0, cells := 0, slots := 0, locals := 0 }
abbrev b_MO_part : ByteArray := prog_13_method_23_code
def y_MO_part : MethodName := ⟨R_MO, "part", "(IIZ)Z"⟩
def r_MO_part : Room := { frames := 6, cells := 0, slots := 0, locals := 137 }
abbrev b_MO_shorten : ByteArray := prog_13_method_24_code
def y_MO_shorten : MethodName := ⟨R_MO, "shorten", "(I)V"⟩
def r_MO_shorten : Room := { frames := 7, cells := 0, slots := 0, locals := 162 }
abbrev b_MO_draw : ByteArray := prog_13_method_25_code
def y_MO_draw : MethodName := ⟨R_MO, "draw", "(I)I"⟩
def r_MO_draw : Room := { frames := 0, cells := 0, slots := 0, locals := 0 }
abbrev b_MO_takeUp : ByteArray := prog_13_method_26_code
def y_MO_takeUp : MethodName := ⟨R_MO, "takeUp", "(I)V"⟩
def r_MO_takeUp : Room := { frames := 7, cells := 0, slots := 0, locals := 155 }
abbrev b_MO_takeNext : ByteArray := prog_13_method_27_code
def y_MO_takeNext : MethodName := ⟨R_MO, "takeNext", "()V"⟩
def r_MO_takeNext : Room := { frames := 8, cells := 0, slots := 0, locals := 178 }
abbrev b_MO_trial : ByteArray := prog_13_method_28_code
def y_MO_trial : MethodName := ⟨R_MO, "trial", "()V"⟩
def r_MO_trial : Room := { frames := 10, cells := 0, slots := 0, locals := 232 }
abbrev b_MO_plain : ByteArray := prog_13_method_29_code
def y_MO_plain : MethodName := ⟨R_MO, "plain", "(II)V"⟩
def r_MO_plain : Room := { frames := 0, cells := 0, slots := 0, locals := 0 }
abbrev b_MO_mixed : ByteArray := prog_13_method_30_code
def y_MO_mixed : MethodName := ⟨R_MO, "mixed", "()V"⟩
def r_MO_mixed : Room := { frames := 2, cells := 0, slots := 0, locals := 44 }
abbrev b_MO_putIn : ByteArray := prog_13_method_31_code
def y_MO_putIn : MethodName := ⟨R_MO, "putIn", "()V"⟩
def r_MO_putIn : Room := { frames := 1, cells := 0, slots := 0, locals := 21 }
abbrev b_MO_change : ByteArray := prog_13_method_32_code
def y_MO_change : MethodName := ⟨R_MO, "change", "(I)V"⟩
def r_MO_change : Room := { frames := 1, cells := 0, slots := 0, locals := 21 }
abbrev b_MO_crossed : ByteArray := prog_13_method_33_code
def y_MO_crossed : MethodName := ⟨R_MO, "crossed", "(I)V"⟩
def r_MO_crossed : Room := { frames := 1, cells := 0, slots := 0, locals := 21 }
abbrev b_MO_plant : ByteArray := prog_13_method_34_code
def y_MO_plant : MethodName := ⟨R_MO, "plant", "()I"⟩
def r_MO_plant : Room := { frames := 10, cells := 0, slots := 0, locals := 232 }
abbrev b_MO_fuzz : ByteArray := prog_13_method_35_code
def y_MO_fuzz : MethodName := ⟨R_MO, "fuzz", "(I)I"⟩
def r_MO_fuzz : Room := { frames := 11, cells := 0, slots := 0, locals := 256 }
abbrev b_MO_seenEdges : ByteArray := prog_13_method_36_code
def y_MO_seenEdges : MethodName := ⟨R_MO, "seenEdges", "()I"⟩
def r_MO_seenEdges : Room := { frames := 0, cells := 0, slots := 0, locals := 0 }
abbrev b_MO_seenPairs : ByteArray := prog_13_method_37_code
def y_MO_seenPairs : MethodName := ⟨R_MO, "seenPairs", "()I"⟩
def r_MO_seenPairs : Room := { frames := 0, cells := 0, slots := 0, locals := 0 }
abbrev b_MO_count : ByteArray := prog_13_method_38_code
def y_MO_count : MethodName := ⟨R_MO, "count", "(I)I"⟩
def r_MO_count : Room := { frames := 7, cells := 0, slots := 0, locals := 155 }
abbrev b_MO_entry : ByteArray := prog_13_method_39_code
def y_MO_entry : MethodName := ⟨R_MO, "entry", "(II)I"⟩
def r_MO_entry : Room := { frames := 7, cells := 0, slots := 0, locals := 155 }
abbrev b_MO_entryByte : ByteArray := prog_13_method_40_code
def y_MO_entryByte : MethodName := ⟨R_MO, "entryByte", "(II)I"⟩
def r_MO_entryByte : Room := { frames := 1, cells := 0, slots := 0, locals := 21 }
abbrev b_MO_seen : ByteArray := prog_13_method_41_code
def y_MO_seen : MethodName := ⟨R_MO, "seen", "(II)I"⟩
def r_MO_seen : Room := { frames := 7, cells := 0, slots := 0, locals := 155 }
abbrev b_MO_finding : ByteArray := prog_13_method_42_code
def y_MO_finding : MethodName := ⟨R_MO, "finding", "(II)I"⟩
def r_MO_finding : Room := { frames := 1, cells := 0, slots := 0, locals := 21 }
abbrev b_MO_findingByte : ByteArray := prog_13_method_43_code
def y_MO_findingByte : MethodName := ⟨R_MO, "findingByte", "(IZI)I"⟩
def r_MO_findingByte : Room := { frames := 1, cells := 0, slots := 0, locals := 21 }
abbrev b_MO_current : ByteArray := prog_13_method_44_code
def y_MO_current : MethodName := ⟨R_MO, "current", "(I)I"⟩
def r_MO_current : Room := { frames := 1, cells := 0, slots := 0, locals := 21 }
abbrev b_MO_state : ByteArray := prog_13_method_45_code
def y_MO_state : MethodName := ⟨R_MO, "state", "()I"⟩
def r_MO_state : Room := { frames := 0, cells := 0, slots := 0, locals := 0 }
abbrev b_EN_init : ByteArray := prog_2_method_1_code
def y_EN_init : MethodName := ⟨R_EN, "<init>", "()V"⟩
def r_EN_init : Room := { frames := 2, cells := 0, slots := 0, locals := 60 }
abbrev b_EN_cost : ByteArray := prog_2_method_2_code
def y_EN_cost : MethodName := ⟨R_EN, "cost", "()I"⟩
def r_EN_cost : Room := { frames := 0, cells := 0, slots := 0, locals := 0 }
abbrev b_FI_init : ByteArray := prog_3_method_1_code
def y_FI_init : MethodName := ⟨R_FI, "<init>", "()V"⟩
def r_FI_init : Room := { frames := 2, cells := 0, slots := 0, locals := 60 }
abbrev b_FI_begin : ByteArray := prog_3_method_2_code
def y_FI_begin : MethodName := ⟨R_FI, "begin", "(LEdgeCampaign$Input;LEdgeCampaign$Run;)V"⟩
def r_FI_begin : Room := { frames := 3, cells := 0, slots := 0, locals := 67 }
abbrev b_FI_hasSignOf : ByteArray := prog_3_method_3_code
def y_FI_hasSignOf : MethodName := ⟨R_FI, "hasSignOf", "(LEdgeCampaign$Run;)Z"⟩
def r_FI_hasSignOf : Room := { frames := 1, cells := 0, slots := 0, locals := 22 }
abbrev b_FS_init : ByteArray := prog_4_method_1_code
def y_FS_init : MethodName := ⟨R_FS, "<init>", "()V"⟩
def r_FS_init : Room := { frames := 3, cells := 0, slots := 0, locals := 80 }
abbrev b_FS_has : ByteArray := prog_4_method_2_code
def y_FS_has : MethodName := ⟨R_FS, "has", "(I)Z"⟩
def r_FS_has : Room := { frames := 0, cells := 0, slots := 0, locals := 0 }
abbrev b_FS_countHit : ByteArray := prog_4_method_3_code
def y_FS_countHit : MethodName := ⟨R_FS, "countHit", "(LEdgeCampaign$Run;)Z"⟩
def r_FS_countHit : Room := { frames := 2, cells := 0, slots := 0, locals := 44 }
abbrev b_FS_begin : ByteArray := prog_4_method_4_code
def y_FS_begin : MethodName := ⟨R_FS, "begin", "(LEdgeCampaign$Input;LEdgeCampaign$Run;)LEdgeCampaign$Finding;"⟩
def r_FS_begin : Room := { frames := 4, cells := 0, slots := 0, locals := 90 }
abbrev b_GE_init : ByteArray := prog_5_method_1_code
def y_GE_init : MethodName := ⟨R_GE, "<init>", "(I)V"⟩
def r_GE_init : Room := { frames := 1, cells := 0, slots := 0, locals := 40 }
abbrev b_GE_draw : ByteArray := prog_5_method_2_code
def y_GE_draw : MethodName := ⟨R_GE, "draw", "(I)I"⟩
def r_GE_draw : Room := { frames := 0, cells := 0, slots := 0, locals := 0 }
abbrev b_IN_init : ByteArray := prog_6_method_1_code
def y_IN_init : MethodName := ⟨R_IN, "<init>", "()V"⟩
def r_IN_init : Room := { frames := 1, cells := 0, slots := 0, locals := 40 }
abbrev b_IN_at : ByteArray := prog_6_method_2_code
def y_IN_at : MethodName := ⟨R_IN, "at", "(I)I"⟩
def r_IN_at : Room := { frames := 0, cells := 0, slots := 0, locals := 0 }
abbrev b_IN_append : ByteArray := prog_6_method_3_code
def y_IN_append : MethodName := ⟨R_IN, "append", "(I)Z"⟩
def r_IN_append : Room := { frames := 0, cells := 0, slots := 0, locals := 0 }
abbrev b_IN_appendPart : ByteArray := prog_6_method_4_code
def y_IN_appendPart : MethodName := ⟨R_IN, "appendPart", "(LEdgeCampaign$Input;II)V"⟩
def r_IN_appendPart : Room := { frames := 1, cells := 0, slots := 0, locals := 21 }
abbrev b_IN_copy : ByteArray := prog_6_method_5_code
def y_IN_copy : MethodName := ⟨R_IN, "copy", "(LEdgeCampaign$Input;)V"⟩
def r_IN_copy : Room := { frames := 2, cells := 0, slots := 0, locals := 46 }
abbrev b_IN_cutTo : ByteArray := prog_6_method_6_code
def y_IN_cutTo : MethodName := ⟨R_IN, "cutTo", "(I)V"⟩
def r_IN_cutTo : Room := { frames := 1, cells := 0, slots := 0, locals := 21 }
abbrev b_IN_put : ByteArray := prog_6_method_7_code
def y_IN_put : MethodName := ⟨R_IN, "put", "(II)V"⟩
def r_IN_put : Room := { frames := 0, cells := 0, slots := 0, locals := 0 }
abbrev b_IN_addTo : ByteArray := prog_6_method_8_code
def y_IN_addTo : MethodName := ⟨R_IN, "addTo", "(II)V"⟩
def r_IN_addTo : Room := { frames := 1, cells := 0, slots := 0, locals := 22 }
abbrev b_IN_turnBit : ByteArray := prog_6_method_9_code
def y_IN_turnBit : MethodName := ⟨R_IN, "turnBit", "(II)V"⟩
def r_IN_turnBit : Room := { frames := 1, cells := 0, slots := 0, locals := 22 }
abbrev b_IN_insert : ByteArray := prog_6_method_10_code
def y_IN_insert : MethodName := ⟨R_IN, "insert", "(II)V"⟩
def r_IN_insert : Room := { frames := 1, cells := 0, slots := 0, locals := 21 }
abbrev b_IN_takeOut : ByteArray := prog_6_method_11_code
def y_IN_takeOut : MethodName := ⟨R_IN, "takeOut", "(I)V"⟩
def r_IN_takeOut : Room := { frames := 0, cells := 0, slots := 0, locals := 0 }
abbrev b_PR_init : ByteArray := prog_7_method_1_code
def y_PR_init : MethodName := ⟨R_PR, "<init>", "()V"⟩
def r_PR_init : Room := { frames := 1, cells := 0, slots := 0, locals := 40 }
abbrev b_PR_isPlace : ByteArray := prog_7_method_2_code
def y_PR_isPlace : MethodName := ⟨R_PR, "isPlace", "(I)Z"⟩
def r_PR_isPlace : Room := { frames := 0, cells := 0, slots := 0, locals := 0 }
abbrev b_PR_isJump : ByteArray := prog_7_method_3_code
def y_PR_isJump : MethodName := ⟨R_PR, "isJump", "(I)Z"⟩
def r_PR_isJump : Room := { frames := 0, cells := 0, slots := 0, locals := 0 }
abbrev b_PR_has : ByteArray := prog_7_method_4_code
def y_PR_has : MethodName := ⟨R_PR, "has", "(I)Z"⟩
def r_PR_has : Room := { frames := 0, cells := 0, slots := 0, locals := 0 }
abbrev b_PR_append : ByteArray := prog_7_method_5_code
def y_PR_append : MethodName := ⟨R_PR, "append", "(III)Z"⟩
def r_PR_append : Room := { frames := 2, cells := 0, slots := 0, locals := 41 }
abbrev b_PR_isRegister : ByteArray := prog_7_method_6_code
def y_PR_isRegister : MethodName := ⟨R_PR, "isRegister", "(I)Z"⟩
def r_PR_isRegister : Room := { frames := 0, cells := 0, slots := 0, locals := 0 }
abbrev b_PR_fits : ByteArray := prog_7_method_7_code
def y_PR_fits : MethodName := ⟨R_PR, "fits", "(II)Z"⟩
def r_PR_fits : Room := { frames := 1, cells := 0, slots := 0, locals := 20 }
abbrev b_RU_init : ByteArray := prog_8_method_1_code
def y_RU_init : MethodName := ⟨R_RU, "<init>", "()V"⟩
def r_RU_init : Room := { frames := 1, cells := 0, slots := 0, locals := 40 }
abbrev b_RU_perform : ByteArray := prog_8_method_2_code
def y_RU_perform : MethodName := ⟨R_RU, "perform", "(LEdgeCampaign$Program;LEdgeCampaign$Input;)V"⟩
def r_RU_perform : Room := { frames := 2, cells := 0, slots := 0, locals := 47 }
abbrev b_RU_hasTrapped : ByteArray := prog_8_method_3_code
def y_RU_hasTrapped : MethodName := ⟨R_RU, "hasTrapped", "()Z"⟩
def r_RU_hasTrapped : Room := { frames := 0, cells := 0, slots := 0, locals := 0 }
abbrev b_RU_onStack : ByteArray := prog_8_method_4_code
def y_RU_onStack : MethodName := ⟨R_RU, "onStack", "(I)I"⟩
def r_RU_onStack : Room := { frames := 0, cells := 0, slots := 0, locals := 0 }
abbrev b_RU_pairBit : ByteArray := prog_8_method_5_code
def y_RU_pairBit : MethodName := ⟨R_RU, "pairBit", "(I)I"⟩
def r_RU_pairBit : Room := { frames := 0, cells := 0, slots := 0, locals := 0 }
abbrev b_RU_reset : ByteArray := prog_8_method_6_code
def y_RU_reset : MethodName := ⟨R_RU, "reset", "()V"⟩
def r_RU_reset : Room := { frames := 1, cells := 0, slots := 0, locals := 23 }
abbrev b_RU_step : ByteArray := prog_8_method_7_code
def y_RU_step : MethodName := ⟨R_RU, "step", "(LEdgeCampaign$Program;LEdgeCampaign$Input;)V"⟩
def r_RU_step : Room := { frames := 1, cells := 0, slots := 0, locals := 22 }
abbrev b_RU_divide : ByteArray := prog_8_method_8_code
def y_RU_divide : MethodName := ⟨R_RU, "divide", "(II)V"⟩
def r_RU_divide : Room := { frames := 0, cells := 0, slots := 0, locals := 0 }
abbrev b_RU_load : ByteArray := prog_8_method_9_code
def y_RU_load : MethodName := ⟨R_RU, "load", "(II)V"⟩
def r_RU_load : Room := { frames := 0, cells := 0, slots := 0, locals := 0 }
abbrev b_RU_save : ByteArray := prog_8_method_10_code
def y_RU_save : MethodName := ⟨R_RU, "save", "(II)V"⟩
def r_RU_save : Room := { frames := 0, cells := 0, slots := 0, locals := 0 }
abbrev b_RU_goInto : ByteArray := prog_8_method_11_code
def y_RU_goInto : MethodName := ⟨R_RU, "goInto", "(I)V"⟩
def r_RU_goInto : Room := { frames := 0, cells := 0, slots := 0, locals := 0 }
abbrev b_RU_goBack : ByteArray := prog_8_method_12_code
def y_RU_goBack : MethodName := ⟨R_RU, "goBack", "()V"⟩
def r_RU_goBack : Room := { frames := 0, cells := 0, slots := 0, locals := 0 }
abbrev b_RU_goAlong : ByteArray := prog_8_method_13_code
def y_RU_goAlong : MethodName := ⟨R_RU, "goAlong", "(I)V"⟩
def r_RU_goAlong : Room := { frames := 0, cells := 0, slots := 0, locals := 0 }
abbrev b_SH_init : ByteArray := prog_9_method_1_code
def y_SH_init : MethodName := ⟨R_SH, "<init>", "()V"⟩
def r_SH_init : Room := { frames := 2, cells := 0, slots := 0, locals := 60 }
abbrev b_SH_shorten : ByteArray := prog_9_method_2_code
def y_SH_shorten : MethodName := ⟨R_SH, "shorten", "(LEdgeCampaign$Finding;LEdgeCampaign$Program;)V"⟩
def r_SH_shorten : Room := { frames := 4, cells := 0, slots := 0, locals := 98 }
abbrev b_SH_keepFirst : ByteArray := prog_9_method_3_code
def y_SH_keepFirst : MethodName := ⟨R_SH, "keepFirst", "(LEdgeCampaign$Finding;LEdgeCampaign$Program;IZ)Z"⟩
def r_SH_keepFirst : Room := { frames := 3, cells := 0, slots := 0, locals := 70 }
abbrev b_SH_makePart : ByteArray := prog_9_method_4_code
def y_SH_makePart : MethodName := ⟨R_SH, "makePart", "(LEdgeCampaign$Input;II)V"⟩
def r_SH_makePart : Room := { frames := 2, cells := 0, slots := 0, locals := 46 }
abbrev b_SH_makeRest : ByteArray := prog_9_method_5_code
def y_SH_makeRest : MethodName := ⟨R_SH, "makeRest", "(LEdgeCampaign$Input;II)V"⟩
def r_SH_makeRest : Room := { frames := 2, cells := 0, slots := 0, locals := 46 }
abbrev b_ST_init : ByteArray := prog_10_method_1_code
def y_ST_init : MethodName := ⟨R_ST, "<init>", "()V"⟩
def r_ST_init : Room := { frames := 3, cells := 0, slots := 0, locals := 80 }
abbrev b_ST_has : ByteArray := prog_10_method_2_code
def y_ST_has : MethodName := ⟨R_ST, "has", "(I)Z"⟩
def r_ST_has : Room := { frames := 0, cells := 0, slots := 0, locals := 0 }
abbrev b_ST_isFavoured : ByteArray := prog_10_method_3_code
def y_ST_isFavoured : MethodName := ⟨R_ST, "isFavoured", "(I)Z"⟩
def r_ST_isFavoured : Room := { frames := 0, cells := 0, slots := 0, locals := 0 }
abbrev b_ST_behind : ByteArray := prog_10_method_4_code
def y_ST_behind : MethodName := ⟨R_ST, "behind", "(I)I"⟩
def r_ST_behind : Room := { frames := 0, cells := 0, slots := 0, locals := 0 }
abbrev b_ST_hasNews : ByteArray := prog_10_method_5_code
def y_ST_hasNews : MethodName := ⟨R_ST, "hasNews", "(LEdgeCampaign$Run;)Z"⟩
def r_ST_hasNews : Room := { frames := 1, cells := 0, slots := 0, locals := 22 }
abbrev b_ST_keep : ByteArray := prog_10_method_6_code
def y_ST_keep : MethodName := ⟨R_ST, "keep", "(LEdgeCampaign$Input;LEdgeCampaign$Run;)Z"⟩
def r_ST_keep : Room := { frames := 3, cells := 0, slots := 0, locals := 67 }
abbrev b_ST_markSeen : ByteArray := prog_10_method_7_code
def y_ST_markSeen : MethodName := ⟨R_ST, "markSeen", "(II)V"⟩
def r_ST_markSeen : Room := { frames := 0, cells := 0, slots := 0, locals := 0 }
abbrev b_ST_chooseFavoured : ByteArray := prog_10_method_8_code
def y_ST_chooseFavoured : MethodName := ⟨R_ST, "chooseFavoured", "()V"⟩
def r_ST_chooseFavoured : Room := { frames := 2, cells := 0, slots := 0, locals := 44 }
abbrev b_ST_top : ByteArray := prog_10_method_9_code
def y_ST_top : MethodName := ⟨R_ST, "top", "(I)I"⟩
def r_ST_top : Room := { frames := 1, cells := 0, slots := 0, locals := 20 }
abbrev b_TR_init : ByteArray := prog_11_method_1_code
def y_TR_init : MethodName := ⟨R_TR, "<init>", "()V"⟩
def r_TR_init : Room := { frames := 1, cells := 0, slots := 0, locals := 40 }
abbrev b_TR_beginWithFirst : ByteArray := prog_11_method_2_code
def y_TR_beginWithFirst : MethodName := ⟨R_TR, "beginWithFirst", "(LEdgeCampaign$Store;)V"⟩
def r_TR_beginWithFirst : Room := { frames := 2, cells := 0, slots := 0, locals := 44 }
abbrev b_TR_change : ByteArray := prog_11_method_3_code
def y_TR_change : MethodName := ⟨R_TR, "change", "(LEdgeCampaign$Input;LEdgeCampaign$Store;LEdgeCampaign$Generator;)V"⟩
def r_TR_change : Room := { frames := 4, cells := 0, slots := 0, locals := 92 }
abbrev b_TR_advance : ByteArray := prog_11_method_4_code
def y_TR_advance : MethodName := ⟨R_TR, "advance", "(LEdgeCampaign$Store;)V"⟩
def r_TR_advance : Room := { frames := 2, cells := 0, slots := 0, locals := 44 }
abbrev b_TR_firstDrawing : ByteArray := prog_11_method_5_code
def y_TR_firstDrawing : MethodName := ⟨R_TR, "firstDrawing", "(LEdgeCampaign$Input;)I"⟩
def r_TR_firstDrawing : Room := { frames := 0, cells := 0, slots := 0, locals := 0 }
abbrev b_TR_takeUp : ByteArray := prog_11_method_6_code
def y_TR_takeUp : MethodName := ⟨R_TR, "takeUp", "(LEdgeCampaign$Store;I)V"⟩
def r_TR_takeUp : Room := { frames := 1, cells := 0, slots := 0, locals := 21 }
abbrev b_TR_next : ByteArray := prog_11_method_7_code
def y_TR_next : MethodName := ⟨R_TR, "next", "(LEdgeCampaign$Store;)I"⟩
def r_TR_next : Room := { frames := 1, cells := 0, slots := 0, locals := 21 }
abbrev b_TR_changeByDraws : ByteArray := prog_11_method_8_code
def y_TR_changeByDraws : MethodName := ⟨R_TR, "changeByDraws", "(LEdgeCampaign$Input;LEdgeCampaign$Generator;)V"⟩
def r_TR_changeByDraws : Room := { frames := 3, cells := 0, slots := 0, locals := 68 }
abbrev b_TR_insertDrawn : ByteArray := prog_11_method_9_code
def y_TR_insertDrawn : MethodName := ⟨R_TR, "insertDrawn", "(LEdgeCampaign$Input;LEdgeCampaign$Generator;)V"⟩
def r_TR_insertDrawn : Room := { frames := 2, cells := 0, slots := 0, locals := 44 }
abbrev b_TR_changeDrawn : ByteArray := prog_11_method_10_code
def y_TR_changeDrawn : MethodName := ⟨R_TR, "changeDrawn", "(ILEdgeCampaign$Input;LEdgeCampaign$Generator;)V"⟩
def r_TR_changeDrawn : Room := { frames := 2, cells := 0, slots := 0, locals := 44 }
abbrev b_TR_joinPartner : ByteArray := prog_11_method_11_code
def y_TR_joinPartner : MethodName := ⟨R_TR, "joinPartner", "(LEdgeCampaign$Input;LEdgeCampaign$Store;LEdgeCampaign$Generator;)V"⟩
def r_TR_joinPartner : Room := { frames := 2, cells := 0, slots := 0, locals := 46 }
abbrev b_LAW_cell : ByteArray := method_2_code
def y_LAW_cell : MethodName := ⟨R_LAW, "cell", "([II)I"⟩
def r_LAW_cell : Room := { frames := 0, cells := 0, slots := 0, locals := 0 }
abbrev b_LAW_law : ByteArray := code
def y_LAW_law : MethodName := ⟨R_LAW, "law", "([I)Z"⟩
def r_LAW_law : Room := { frames := 12, cells := 0, slots := 0, locals := 278 }
abbrev b_JM_max : ByteArray := prog_14_method_65_code
def y_JM_max : MethodName := ⟨R_JM, "max", "(II)I"⟩
def r_JM_max : Room := { frames := 0, cells := 0, slots := 0, locals := 0 }
abbrev b_JM_min : ByteArray := prog_14_method_69_code
def y_JM_min : MethodName := ⟨R_JM, "min", "(II)I"⟩
def r_JM_min : Room := { frames := 0, cells := 0, slots := 0, locals := 0 }
abbrev b_JA_fill : ByteArray := prog_15_method_103_code
def y_JA_fill : MethodName := ⟨R_JA, "fill", "([II)V"⟩
def r_JA_fill : Room := { frames := 0, cells := 0, slots := 0, locals := 0 }
abbrev vwCl : List vw_C := [(R_EN, T_EN, 4), (R_FI, T_FI, 7), (R_FS, T_FS, 2), (R_GE, T_GE, 1), (R_IN, T_IN, 2), (R_PR, T_PR, 4), (R_RU, T_RU, 11), (R_SH, T_SH, 2), (R_ST, T_ST, 7), (R_TR, T_TR, 3), (R_EC, T_EC, 12), (R_MO, T_MO, 45)]
end
section
/-! Own words: a memory of cells and slots, loops over Option, the elimination rows of the semantic words. Nothing here speaks of the machine. -/
abbrev Mem : Type := Nat → Nat → Int32
def st (M : Mem) (j k : Nat) (v : Int32) : Mem := fun a => if a = j then upd (M j) k v else M a
theorem st_same (M : Mem) (j k : Nat) (v : Int32) : st M j k v j = upd (M j) k v := by unfold st; rw [if_pos rfl]
theorem st_other {M : Mem} {j k a : Nat} {v : Int32} (h : a ≠ j) : st M j k v a = M a := by unfold st; rw [if_neg h]
-- loops: the body says 'go on with this state' (inl) or 'the loop has ended with this' (inr)
def lpn {S E : Type} (b : S → Option (S ⊕ E)) : Nat → S → Option E
  | 0, _ => none
  | n + 1, s => match b s with
    | none => none
    | some (.inl s1) => lpn b n s1
    | some (.inr e) => some e
theorem lpn_mono {S E : Type} {b : S → Option (S ⊕ E)} : ∀ (n : Nat) (s : S) (e : E), lpn b n s = some e → ∀ k, n ≤ k → lpn b k s = some e := by
  intro n
  induction n with
  | zero => intro s e h; cases h
  | succ n ih =>
    intro s e h k hk
    obtain ⟨k', rfl⟩ : ∃ k', k = k' + 1 := ⟨k - 1, by omega⟩
    cases hb : b s with
    | none => simp only [lpn, hb] at h; cases h
    | some r =>
      cases r with
      | inl s1 =>
        simp only [lpn, hb] at h ⊢
        exact ih s1 e h k' (by omega)
      | inr e1 =>
        simp only [lpn, hb] at h ⊢
        exact h
noncomputable def lp {S E : Type} (b : S → Option (S ⊕ E)) (s : S) : Option E := @dite _ (∃ e n, lpn b n s = some e) (Classical.propDecidable _) (fun h => some (Classical.choose h)) (fun _ => none)
theorem lp_iff {S E : Type} {b : S → Option (S ⊕ E)} {s : S} {e : E} : lp b s = some e ↔ ∃ n, lpn b n s = some e := by
  unfold lp
  constructor
  · intro h
    by_cases hh : ∃ e n, lpn b n s = some e
    · rw [dif_pos hh] at h
      obtain ⟨n, hn⟩ := Classical.choose_spec hh
      exact ⟨n, hn.trans h⟩
    · rw [dif_neg hh] at h; cases h
  · rintro ⟨n, hn⟩
    have hh : ∃ e n, lpn b n s = some e := ⟨e, n, hn⟩
    rw [dif_pos hh]
    obtain ⟨k, hk⟩ := Classical.choose_spec hh
    have h1 := lpn_mono n s e hn (n + k) (by omega)
    have h2 := lpn_mono k s _ hk (n + k) (by omega)
    exact h2.symm.trans h1
theorem lp_none {S E : Type} {b : S → Option (S ⊕ E)} {s : S} (h : b s = none) : lp b s = none := by
  cases hl : lp b s with
  | none => rfl
  | some e =>
    obtain ⟨n, hn⟩ := lp_iff.mp hl
    cases n with
    | zero => cases hn
    | succ n => simp only [lpn, h] at hn; cases hn
theorem lp_inl {S E : Type} {b : S → Option (S ⊕ E)} {s s1 : S} (h : b s = some (.inl s1)) : lp b s = lp b s1 := by
  apply Option.ext
  intro e
  constructor
  · intro hl
    obtain ⟨n, hn⟩ := lp_iff.mp hl
    cases n with
    | zero => cases hn
    | succ n => simp only [lpn, h] at hn; exact lp_iff.mpr ⟨n, hn⟩
  · intro hl
    obtain ⟨n, hn⟩ := lp_iff.mp hl
    exact lp_iff.mpr ⟨n + 1, by simp only [lpn, h]; exact hn⟩
theorem lp_inr {S E : Type} {b : S → Option (S ⊕ E)} {s : S} {e : E} (h : b s = some (.inr e)) : lp b s = some e := lp_iff.mpr ⟨1, by simp only [lpn, h]⟩
def lpG {S E : Type} (P : S → Prop) (G : E → Prop) : S ⊕ E → Prop
  | .inl s => P s
  | .inr e => G e
theorem lp_walk {S E : Type} {b : S → Option (S ⊕ E)} {P : S → Prop} {G : E → Prop} (step : ∀ (s : S) (res : S ⊕ E), b s = some res → lpG P G res → P s) {s : S} {e : E} (h : lp b s = some e) (g : G e) : P s := by
  obtain ⟨n, hn⟩ := lp_iff.mp h
  clear h
  induction n generalizing s with
  | zero => cases hn
  | succ n ih =>
    cases hb : b s with
    | none => simp only [lpn, hb] at hn; cases hn
    | some r =>
      cases r with
      | inl s1 =>
        simp only [lpn, hb] at hn
        exact step s _ hb (ih hn)
      | inr e1 =>
        simp only [lpn, hb] at hn
        obtain rfl := Option.some.inj hn
        exact step s _ hb g
-- words of the semantics, and their eliminations
def nx {α β : Type} (a : α) (f : α → β) : β := f a
theorem nx_e {α β : Type} {a : α} {f : α → β} {r : β} (h : nx a f = r) : ∃ v, v = a ∧ f v = r := ⟨a, rfl, h⟩
def ck {α : Type} (i : Int32) (n : Nat) (k : Option α) : Option α := if i < 0 ∨ n ≤ i.toNatClampNeg then none else k
theorem ck_e {α : Type} {i : Int32} {n : Nat} {k : Option α} {r : α} (h : ck i n k = some r) : vp_in i n ∧ k = some r := by
  unfold ck at h
  by_cases hc : i < 0 ∨ n ≤ i.toNatClampNeg
  · rw [if_pos hc] at h; cases h
  · rw [if_neg hc] at h; exact ⟨hc, h⟩
theorem ck_i {α : Type} {i : Int32} {n : Nat} {k : Option α} (h : vp_in i n) : ck i n k = k := by unfold ck; exact if_neg h
def cz {α : Type} (y : Int32) (k : Option α) : Option α := if y = 0 then none else k
theorem cz_e {α : Type} {y : Int32} {k : Option α} {r : α} (h : cz y k = some r) : ¬ y = 0 ∧ k = some r := by
  unfold cz at h
  by_cases hc : y = 0
  · rw [if_pos hc] at h; cases h
  · rw [if_neg hc] at h; exact ⟨hc, h⟩
def cb {α : Type} (v : Int32) (k : Option α) : Option α := if v = 0 ∨ v = 1 then k else none
theorem cb_e {α : Type} {v : Int32} {k : Option α} {r : α} (h : cb v k = some r) : (v = 0 ∨ v = 1) ∧ k = some r := by
  unfold cb at h
  by_cases hc : v = 0 ∨ v = 1
  · rw [if_pos hc] at h; exact ⟨hc, h⟩
  · rw [if_neg hc] at h; cases h
def cp {α : Type} (P : Prop) [Decidable P] (k : Option α) : Option α := if P then k else none
theorem cp_e {α : Type} {P : Prop} [Decidable P] {k : Option α} {r : α} (h : cp P k = some r) : P ∧ k = some r := by
  unfold cp at h
  by_cases hc : P
  · rw [if_pos hc] at h; exact ⟨hc, h⟩
  · rw [if_neg hc] at h; cases h
def bi {α β : Type} (o : Option (α × Mem)) (f : α → Mem → Option β) : Option β := match o with
  | none => none
  | some q => f q.1 q.2
theorem bi_e {α β : Type} {o : Option (α × Mem)} {f : α → Mem → Option β} {r : β} (h : bi o f = some r) : ∃ v M, o = some (v, M) ∧ f v M = some r := by
  cases o with
  | none => cases h
  | some q => exact ⟨q.1, q.2, rfl, h⟩
def bv {β : Type} (o : Option Mem) (f : Mem → Option β) : Option β := match o with
  | none => none
  | some M => f M
theorem bv_e {β : Type} {o : Option Mem} {f : Mem → Option β} {r : β} (h : bv o f = some r) : ∃ M, o = some M ∧ f M = some r := by
  cases o with
  | none => cases h
  | some M => exact ⟨M, rfl, h⟩
theorem if_p {α : Type} {c : Prop} [Decidable c] {a b r : α} (hc : c) (h : (if c then a else b) = r) : a = r := by rw [if_pos hc] at h; exact h
theorem if_m {α : Type} {c : Prop} [Decidable c] {a b r : α} (hc : ¬ c) (h : (if c then a else b) = r) : b = r := by rw [if_neg hc] at h; exact h
def mo {α β : Type} (o : Option α) (a : β) (f : α → β) : β := match o with
  | none => a
  | some j => f j
theorem sw_ne {x k : Int32} {z : Int} (hk : k.toInt = z) (h : ¬ x = k) : ¬ x.toInt = z := by
  intro e
  exact h (Int32.toInt_inj.mp (e.trans hk.symm))
def jw1 {S E : Type} (o : Option E) : Option (S ⊕ E) := match o with
  | none => none
  | some r => some (.inr r)
theorem jw1_e {S E : Type} {o : Option E} {res : S ⊕ E} (h : jw1 o = some res) : ∃ r, res = .inr r ∧ o = some r := by
  cases o with
  | none => cases h
  | some r => exact ⟨r, (Option.some.inj h).symm, rfl⟩
def jw2 {S T E : Type} (o : Option E) : Option (S ⊕ (T ⊕ E)) := jw1 (jw1 o)
theorem jw2_e {S T E : Type} {o : Option E} {res : S ⊕ (T ⊕ E)} (h : jw2 o = some res) : ∃ r, res = .inr (.inr r) ∧ o = some r := by
  obtain ⟨r, h1, h2⟩ := jw1_e h
  obtain ⟨r2, h3, h4⟩ := jw1_e h2
  subst h1; subst h3
  exact ⟨r2, rfl, h4⟩
end
section
def nbF : List (String × Nat × String × String × String × String) := [("EdgeCampaign$Run", 65, "EdgeCampaign$Program", "ops", "[I", "EdgeCampaign"), ("EdgeCampaign$Run", 68, "EdgeCampaign$Program", "as", "[I", "EdgeCampaign"), ("EdgeCampaign$Run", 71, "EdgeCampaign$Program", "bs", "[I", "EdgeCampaign"), ("EdgeCampaign$Run", 97, "EdgeCampaign$Input", "size", "I", "EdgeCampaign"), ("EdgeCampaign$Store", 34, "EdgeCampaign$Run", "edgeCount", "I", "EdgeCampaign"), ("EdgeCampaign$Store", 39, "EdgeCampaign$Run", "edges", "[I", "EdgeCampaign"), ("EdgeCampaign$Entry", 20, "EdgeCampaign$Input", "size", "I", "EdgeCampaign"), ("EdgeCampaign$Store", 46, "EdgeCampaign$Entry", "input", "LEdgeCampaign$Input;", "EdgeCampaign"), ("EdgeCampaign$Store", 56, "EdgeCampaign$Run", "steps", "I", "EdgeCampaign"), ("EdgeCampaign$Store", 59, "EdgeCampaign$Entry", "steps", "I", "EdgeCampaign"), ("EdgeCampaign$Store", 60, "EdgeCampaign$Entry", "edgeCount", "I", "EdgeCampaign"), ("EdgeCampaign$Finding", 29, "EdgeCampaign$Run", "outcome", "I", "EdgeCampaign"), ("EdgeCampaign$Finding", 36, "EdgeCampaign$Run", "here", "I", "EdgeCampaign"), ("EdgeCampaign$Finding", 40, "EdgeCampaign$Run", "depth", "I", "EdgeCampaign"), ("EdgeCampaign$Findings", 24, "EdgeCampaign$Finding", "hits", "I", "EdgeCampaign"), ("EdgeCampaign$Shortener", 28, "EdgeCampaign$Input", "size", "I", "EdgeCampaign"), ("EdgeCampaign$Shortener", 23, "EdgeCampaign$Finding", "shortest", "LEdgeCampaign$Input;", "EdgeCampaign"), ("EdgeCampaign$Trials", 41, "EdgeCampaign$Input", "size", "I", "EdgeCampaign"), ("EdgeCampaign$Trials", 87, "EdgeCampaign$Entry", "edgeCount", "I", "EdgeCampaign"), ("EdgeCampaign$Trials", 25, "EdgeCampaign$Store", "entries", "[LEdgeCampaign$Entry;", "EdgeCampaign"), ("EdgeCampaign$Trials", 80, "EdgeCampaign$Entry", "finished", "I", "EdgeCampaign"), ("EdgeCampaign$Trials", 29, "EdgeCampaign$Entry", "input", "LEdgeCampaign$Input;", "EdgeCampaign"), ("EdgeCampaign", 190, "EdgeCampaign$Run", "outcome", "I", "EdgeCampaign"), ("EdgeCampaign$Trials", 79, "EdgeCampaign$Store", "size", "I", "EdgeCampaign"), ("EdgeCampaign", 94, "EdgeCampaign$Store", "size", "I", "EdgeCampaign"), ("EdgeCampaign", 105, "EdgeCampaign$Findings", "size", "I", "EdgeCampaign"), ("EdgeCampaign", 106, "EdgeCampaign$Store", "seenEdges", "I", "EdgeCampaign"), ("EdgeCampaign", 109, "EdgeCampaign$Store", "seenPairs", "I", "EdgeCampaign"), ("EdgeCampaign", 115, "EdgeCampaign$Store", "entries", "[LEdgeCampaign$Entry;", "EdgeCampaign"), ("EdgeCampaign", 119, "EdgeCampaign$Entry", "input", "LEdgeCampaign$Input;", "EdgeCampaign"), ("EdgeCampaign", 124, "EdgeCampaign$Input", "size", "I", "EdgeCampaign"), ("EdgeCampaign", 125, "EdgeCampaign$Entry", "steps", "I", "EdgeCampaign"), ("EdgeCampaign", 128, "EdgeCampaign$Entry", "edgeCount", "I", "EdgeCampaign"), ("EdgeCampaign", 131, "EdgeCampaign$Entry", "finished", "I", "EdgeCampaign"), ("EdgeCampaign", 144, "EdgeCampaign$Store", "buckets", "[I", "EdgeCampaign"), ("EdgeCampaign", 164, "EdgeCampaign$Finding", "latestFirst", "[I", "EdgeCampaign"), ("EdgeCampaign", 149, "EdgeCampaign$Findings", "made", "[LEdgeCampaign$Finding;", "EdgeCampaign"), ("EdgeCampaign", 153, "EdgeCampaign$Finding", "trap", "I", "EdgeCampaign"), ("EdgeCampaign", 158, "EdgeCampaign$Finding", "here", "I", "EdgeCampaign"), ("EdgeCampaign", 161, "EdgeCampaign$Finding", "depth", "I", "EdgeCampaign"), ("EdgeCampaign", 167, "EdgeCampaign$Finding", "hits", "I", "EdgeCampaign"), ("EdgeCampaign", 170, "EdgeCampaign$Finding", "input", "LEdgeCampaign$Input;", "EdgeCampaign"), ("EdgeCampaign", 171, "EdgeCampaign$Finding", "shortest", "LEdgeCampaign$Input;", "EdgeCampaign"), ("EdgeCampaign", 174, "EdgeCampaign$Trials", "taken", "I", "EdgeCampaign"), ("EdgeCampaign", 177, "EdgeCampaign$Trials", "number", "I", "EdgeCampaign"), ("EdgeCampaign", 180, "EdgeCampaign$Trials", "energy", "I", "EdgeCampaign"), ("EdgeCampaign", 183, "EdgeCampaign$Generator", "x", "I", "EdgeCampaign")]
def nbM : List (String × Nat × MethodName × String) := []
/-! The machine's side of the memory: one world of 154 cells for every method that makes nothing; contracts Ci, Cv, Cq over it; rows for fields, arrays, calls. -/
abbrev Cx : Type := va_G × (Nat → Nat) × (ClassId × ClassId × ClassId) × (Nat × Nat)
def mw (ad : Nat → Nat) (ly : Nat → (Nat → Int32) → va_E) (N : Nat) (M : Mem) : va_W := (List.range N).map (fun j => (ad j, ly j (M j)))
theorem mw_at {ad : Nat → Nat} {ly : Nat → (Nat → Int32) → va_E} {N : Nat} {M : Mem} {j : Nat} (h : j < N) : (mw ad ly N M)[j]? = some (ad j, ly j (M j)) := by
  unfold mw
  rw [List.getElem?_map, List.getElem?_range h]
  rfl
theorem mw_inv {ad : Nat → Nat} {ly : Nat → (Nat → Int32) → va_E} {N : Nat} {M : Mem} {k : Nat} {q : Nat × va_E} (h : (mw ad ly N M)[k]? = some q) : k < N ∧ q = (ad k, ly k (M k)) := by
  by_cases hk : k < N
  · rw [mw_at hk] at h
    exact ⟨hk, (Option.some.inj h).symm⟩
  · rw [List.getElem?_eq_none (by unfold mw; rw [List.length_map, List.length_range]; omega)] at h
    cases h
theorem mw_set {ad : Nat → Nat} {ly : Nat → (Nat → Int32) → va_E} {N : Nat} {M : Mem} {j k : Nat} {v : Int32} {e : va_E} (h : j < N) (he : e = ly j (upd (M j) k v)) : (mw ad ly N M).set j (ad j, e) = mw ad ly N (st M j k v) := by
  subst he
  apply List.ext_getElem?
  intro i
  have hlen : (mw ad ly N M).length = N := by unfold mw; rw [List.length_map, List.length_range]
  have hlen2 : (mw ad ly N (st M j k v)).length = N := by unfold mw; rw [List.length_map, List.length_range]
  by_cases hi : i < N
  · rw [mw_at hi]
    by_cases hij : i = j
    · subst hij
      rw [List.getElem?_set_self (by rw [hlen]; exact hi), st_same]
    · rw [List.getElem?_set_ne (Ne.symm hij), mw_at hi, st_other hij]
  · rw [List.getElem?_eq_none (by rw [List.length_set, hlen]; omega), List.getElem?_eq_none (by rw [hlen2]; omega)]
def lay0 (x : Cx) (j : Nat) (r : Nat → Int32) : va_E := match j with
  | 0 => .inr (10, [.ref (x.2.1 1), .ref (x.2.1 52), .ref (x.2.1 54), .ref (x.2.1 14), .ref (x.2.1 5), .ref (x.2.1 9), .ref (x.2.1 11), .ref (x.2.1 12), .ref (x.2.1 13), .int (r 9), .int (r 10), .int (r 11)])
  | 1 => .inr (5, [.ref (x.2.1 2), .ref (x.2.1 3), .ref (x.2.1 4), .int (r 3)])
  | 2 => .inl (x.2.2.1.1, 24, .inl r)
  | 3 => .inl (x.2.2.1.1, 24, .inl r)
  | 4 => .inl (x.2.2.1.1, 24, .inl r)
  | 5 => .inr (8, [.ref (x.2.1 6), .ref (x.2.1 7), .ref (x.2.1 8), .int (r 3), .int (r 4), .int (r 5), .int (r 6)])
  | 6 => .inl (x.2.2.1.2.1, 16, .inr (.inr (.inr (.inr (fun k => some (x.2.1 (122 + k)))))))
  | 7 => .inl (x.2.2.1.1, 576, .inl r)
  | 8 => .inl (x.2.2.1.1, 576, .inl r)
  | 9 => .inr (2, [.ref (x.2.1 10), .int (r 1)])
  | 10 => .inl (x.2.2.1.2.2, 8, .inr (.inr (.inr (.inr (fun k => some (x.2.1 (138 + 2 * k)))))))
  | 11 => .inr (7, [.ref (x.2.1 20), .ref (x.2.1 56)])
  | 12 => .inr (3, [.int (r 0)])
  | 13 => .inr (9, [.int (r 0), .int (r 1), .int (r 2)])
  | 14 => .inr (6, [.ref (x.2.1 15), .ref (x.2.1 16), .ref (x.2.1 17), .ref (x.2.1 18), .ref (x.2.1 19), .int (r 5), .int (r 6), .int (r 7), .int (r 8), .int (r 9), .int (r 10)])
  | 15 => .inl (x.2.2.1.1, 4, .inl r)
  | 16 => .inl (x.2.2.1.1, 4, .inl r)
  | 17 => .inl (x.2.2.1.1, 3, .inl r)
  | 18 => .inl (x.2.2.1.1, 576, .inl r)
  | 19 => .inl (x.2.2.1.1, 64, .inl r)
  | 20 => .inr (6, [.ref (x.2.1 21), .ref (x.2.1 22), .ref (x.2.1 23), .ref (x.2.1 24), .ref (x.2.1 25), .int (r 5), .int (r 6), .int (r 7), .int (r 8), .int (r 9), .int (r 10)])
  | 21 => .inl (x.2.2.1.1, 4, .inl r)
  | 22 => .inl (x.2.2.1.1, 4, .inl r)
  | 23 => .inl (x.2.2.1.1, 3, .inl r)
  | 24 => .inl (x.2.2.1.1, 576, .inl r)
  | 25 => .inl (x.2.2.1.1, 64, .inl r)
  | 26 => .inr (11, [.int (r 0), .ref (x.2.1 27), .ref (x.2.1 28), .ref (x.2.1 29), .ref (x.2.1 30), .int (r 5), .int (r 6), .ref (x.2.1 31), .int (r 8), .ref (x.2.1 32), .ref (x.2.1 33), .ref (x.2.1 34), .int (r 12), .int (r 13), .int (r 14), .int (r 15), .int (r 16), .ref (x.2.1 35), .int (r 18), .ref (x.2.1 36), .ref (x.2.1 37), .ref (x.2.1 38), .int (r 22), .ref (x.2.1 39), .ref (x.2.1 40), .ref (x.2.1 41), .ref (x.2.1 42), .ref (x.2.1 43), .ref (x.2.1 44), .ref (x.2.1 45), .ref (x.2.1 46), .ref (x.2.1 47), .int (r 32), .int (r 33), .int (r 34), .int (r 35), .ref (x.2.1 48), .ref (x.2.1 49), .ref (x.2.1 50), .int (r 39), .int (r 40), .int (r 41), .int (r 42), .ref (x.2.1 51), .int (r 44)])
  | 27 => .inl (x.2.2.1.1, 24, .inl r)
  | 28 => .inl (x.2.2.1.1, 24, .inl r)
  | 29 => .inl (x.2.2.1.1, 24, .inl r)
  | 30 => .inl (x.2.2.1.1, 6, .inl r)
  | 31 => .inl (x.2.2.1.1, 6, .inl r)
  | 32 => .inl (x.2.2.1.1, 4, .inl r)
  | 33 => .inl (x.2.2.1.1, 4, .inl r)
  | 34 => .inl (x.2.2.1.1, 3, .inl r)
  | 35 => .inl (x.2.2.1.1, 576, .inl r)
  | 36 => .inl (x.2.2.1.1, 96, .inl r)
  | 37 => .inl (x.2.2.1.1, 16, .inl r)
  | 38 => .inl (x.2.2.1.1, 16, .inl r)
  | 39 => .inl (x.2.2.1.1, 8, .inl r)
  | 40 => .inl (x.2.2.1.1, 8, .inl r)
  | 41 => .inl (x.2.2.1.1, 8, .inl r)
  | 42 => .inl (x.2.2.1.1, 24, .inl r)
  | 43 => .inl (x.2.2.1.1, 8, .inl r)
  | 44 => .inl (x.2.2.1.1, 48, .inl r)
  | 45 => .inl (x.2.2.1.1, 8, .inl r)
  | 46 => .inl (x.2.2.1.1, 48, .inl r)
  | 47 => .inl (x.2.2.1.1, 8, .inl r)
  | 48 => .inl (x.2.2.1.1, 576, .inl r)
  | 49 => .inl (x.2.2.1.1, 576, .inl r)
  | 50 => .inl (x.2.2.1.1, 16, .inl r)
  | _ => .inl (x.2.2.1.1, 6, .inl r)
def lay (x : Cx) (j : Nat) (r : Nat → Int32) : va_E := if j < 52 then lay0 x j r else if j < 122 then (if j % 2 = 0 then .inr (4, [.ref (x.2.1 (j + 1)), .int (r 1)]) else .inl (x.2.2.1.1, 6, .inl r)) else if j < 138 then .inr (0, [.ref (x.2.1 (2 * j - 186)), .int (r 1), .int (r 2), .int (r 3)]) else (if j % 2 = 0 then .inr (1, [.ref (x.2.1 (2 * j - 186)), .ref (x.2.1 (2 * j - 184)), .ref (x.2.1 (j + 1)), .int (r 3), .int (r 4), .int (r 5), .int (r 6)]) else .inl (x.2.2.1.1, 3, .inl r))
abbrev kd_in (j : Nat) : Prop := 52 ≤ j ∧ j < 122 ∧ j % 2 = 0
abbrev kd_en (j : Nat) : Prop := 122 ≤ j ∧ j < 138
abbrev kd_fi (j : Nat) : Prop := 138 ≤ j ∧ j < 154 ∧ j % 2 = 0
abbrev kd_run (j : Nat) : Prop := j = 14 ∨ j = 20
def AR (x : Cx) (j n : Nat) : Prop := j < 154 ∧ ∀ r : Nat → Int32, lay x j r = .inl (x.2.2.1.1, n, .inl r)
theorem ly_IN {x : Cx} {j : Nat} {r : Nat → Int32} (k : kd_in j) : lay x j r = .inr (4, [.ref (x.2.1 (j + 1)), .int (r 1)]) := by
  obtain ⟨h1, h2, h3⟩ := k
  unfold lay
  rw [if_neg (by omega), if_pos h2, if_pos h3]
theorem ly_EN {x : Cx} {j : Nat} {r : Nat → Int32} (k : kd_en j) : lay x j r = .inr (0, [.ref (x.2.1 (2 * j - 186)), .int (r 1), .int (r 2), .int (r 3)]) := by
  obtain ⟨h1, h2⟩ := k
  unfold lay
  rw [if_neg (by omega), if_neg (by omega), if_pos h2]
theorem ly_FI {x : Cx} {j : Nat} {r : Nat → Int32} (k : kd_fi j) : lay x j r = .inr (1, [.ref (x.2.1 (2 * j - 186)), .ref (x.2.1 (2 * j - 184)), .ref (x.2.1 (j + 1)), .int (r 3), .int (r 4), .int (r 5), .int (r 6)]) := by
  obtain ⟨h1, h2, h3⟩ := k
  unfold lay
  rw [if_neg (by omega), if_neg (by omega), if_neg (by omega), if_pos h3]
theorem ly_RU {x : Cx} {j : Nat} {r : Nat → Int32} (k : kd_run j) : lay x j r = .inr (6, [.ref (x.2.1 (j + 1)), .ref (x.2.1 (j + 2)), .ref (x.2.1 (j + 3)), .ref (x.2.1 (j + 4)), .ref (x.2.1 (j + 5)), .int (r 5), .int (r 6), .int (r 7), .int (r 8), .int (r 9), .int (r 10)]) := by
  rcases k with rfl | rfl <;> rfl
theorem lt_IN {j : Nat} (k : kd_in j) : j < 154 := by
  unfold kd_in at k; omega
theorem lt_EN {j : Nat} (k : kd_en j) : j < 154 := by
  unfold kd_en at k; omega
theorem lt_FI {j : Nat} (k : kd_fi j) : j < 154 := by
  unfold kd_fi at k; omega
theorem lt_RU {j : Nat} (k : kd_run j) : j < 154 := by
  rcases k with rfl | rfl <;> decide
theorem kd_EC_draft : kd_in 52 := by unfold kd_in; omega
theorem kd_EC_changed : kd_in 54 := by unfold kd_in; omega
theorem kd_EC_run : kd_run 14 := by unfold kd_run; omega
theorem ar_PR_ops {x : Cx} : AR x 2 24 := ⟨by decide, fun _ => rfl⟩
theorem ar_PR_as {x : Cx} : AR x 3 24 := ⟨by decide, fun _ => rfl⟩
theorem ar_PR_bs {x : Cx} : AR x 4 24 := ⟨by decide, fun _ => rfl⟩
theorem ar_IN_bytes {x : Cx} {j : Nat} (k : kd_in j) : AR x (j + 1) 6 := by
  obtain ⟨h1, h2, h3⟩ := k
  refine ⟨by omega, fun r => ?_⟩
  unfold lay
  rw [if_neg (by omega), if_pos (by omega), if_neg (by omega)]
theorem ar_RU_registers {x : Cx} {j : Nat} (k : kd_run j) : AR x (j + 1) 4 := by
  rcases k with rfl | rfl <;> exact ⟨by decide, fun _ => rfl⟩
theorem ar_RU_memory {x : Cx} {j : Nat} (k : kd_run j) : AR x (j + 2) 4 := by
  rcases k with rfl | rfl <;> exact ⟨by decide, fun _ => rfl⟩
theorem ar_RU_stack {x : Cx} {j : Nat} (k : kd_run j) : AR x (j + 3) 3 := by
  rcases k with rfl | rfl <;> exact ⟨by decide, fun _ => rfl⟩
theorem ar_RU_times {x : Cx} {j : Nat} (k : kd_run j) : AR x (j + 4) 576 := by
  rcases k with rfl | rfl <;> exact ⟨by decide, fun _ => rfl⟩
theorem ar_RU_edges {x : Cx} {j : Nat} (k : kd_run j) : AR x (j + 5) 64 := by
  rcases k with rfl | rfl <;> exact ⟨by decide, fun _ => rfl⟩
theorem kd_EN_input {j : Nat} (k : kd_en j) : kd_in (2 * j - 186) := by
  unfold kd_en at k; unfold kd_in; omega
theorem ar_ST_buckets {x : Cx} : AR x 7 576 := ⟨by decide, fun _ => rfl⟩
theorem ar_ST_goers {x : Cx} : AR x 8 576 := ⟨by decide, fun _ => rfl⟩
theorem kd_FI_input {j : Nat} (k : kd_fi j) : kd_in (2 * j - 186) := by
  unfold kd_fi at k; unfold kd_in; omega
theorem kd_FI_shortest {j : Nat} (k : kd_fi j) : kd_in (2 * j - 184) := by
  unfold kd_fi at k; unfold kd_in; omega
theorem ar_FI_latestFirst {x : Cx} {j : Nat} (k : kd_fi j) : AR x (j + 1) 3 := by
  obtain ⟨h1, h2, h3⟩ := k
  refine ⟨by omega, fun r => ?_⟩
  unfold lay
  rw [if_neg (by omega), if_neg (by omega), if_neg (by omega), if_neg (by omega)]
theorem kd_SH_run : kd_run 20 := by unfold kd_run; omega
theorem kd_SH_candidate : kd_in 56 := by unfold kd_in; omega
theorem ar_MO_ops {x : Cx} : AR x 27 24 := ⟨by decide, fun _ => rfl⟩
theorem ar_MO_as {x : Cx} : AR x 28 24 := ⟨by decide, fun _ => rfl⟩
theorem ar_MO_bs {x : Cx} : AR x 29 24 := ⟨by decide, fun _ => rfl⟩
theorem ar_MO_draft {x : Cx} : AR x 30 6 := ⟨by decide, fun _ => rfl⟩
theorem ar_MO_tape {x : Cx} : AR x 31 6 := ⟨by decide, fun _ => rfl⟩
theorem ar_MO_r {x : Cx} : AR x 32 4 := ⟨by decide, fun _ => rfl⟩
theorem ar_MO_memory {x : Cx} : AR x 33 4 := ⟨by decide, fun _ => rfl⟩
theorem ar_MO_stack {x : Cx} : AR x 34 3 := ⟨by decide, fun _ => rfl⟩
theorem ar_MO_times {x : Cx} : AR x 35 576 := ⟨by decide, fun _ => rfl⟩
theorem ar_MO_inputs {x : Cx} : AR x 36 96 := ⟨by decide, fun _ => rfl⟩
theorem ar_MO_lengths {x : Cx} : AR x 37 16 := ⟨by decide, fun _ => rfl⟩
theorem ar_MO_finished {x : Cx} : AR x 38 16 := ⟨by decide, fun _ => rfl⟩
theorem ar_MO_traps {x : Cx} : AR x 39 8 := ⟨by decide, fun _ => rfl⟩
theorem ar_MO_places {x : Cx} : AR x 40 8 := ⟨by decide, fun _ => rfl⟩
theorem ar_MO_depths {x : Cx} : AR x 41 8 := ⟨by decide, fun _ => rfl⟩
theorem ar_MO_stacks {x : Cx} : AR x 42 24 := ⟨by decide, fun _ => rfl⟩
theorem ar_MO_hits {x : Cx} : AR x 43 8 := ⟨by decide, fun _ => rfl⟩
theorem ar_MO_found {x : Cx} : AR x 44 48 := ⟨by decide, fun _ => rfl⟩
theorem ar_MO_foundLength {x : Cx} : AR x 45 8 := ⟨by decide, fun _ => rfl⟩
theorem ar_MO_brief {x : Cx} : AR x 46 48 := ⟨by decide, fun _ => rfl⟩
theorem ar_MO_briefLength {x : Cx} : AR x 47 8 := ⟨by decide, fun _ => rfl⟩
theorem ar_MO_buckets {x : Cx} : AR x 48 576 := ⟨by decide, fun _ => rfl⟩
theorem ar_MO_went {x : Cx} : AR x 49 576 := ⟨by decide, fun _ => rfl⟩
theorem ar_MO_stepsOf {x : Cx} : AR x 50 16 := ⟨by decide, fun _ => rfl⟩
theorem ar_MO_cur {x : Cx} : AR x 51 6 := ⟨by decide, fun _ => rfl⟩
theorem kd_en_at {i : Int32} (h : vp_in i 16) : kd_en (122 + i.toNatClampNeg) := by
  have h2 : ¬ 16 ≤ i.toNatClampNeg := fun z => h (Or.inr z)
  unfold kd_en; omega
theorem kd_fi_at {i : Int32} (h : vp_in i 8) : kd_fi (138 + 2 * i.toNatClampNeg) := by
  have h2 : ¬ 8 ≤ i.toNatClampNeg := fun z => h (Or.inr z)
  unfold kd_fi; omega
def A0 (x : Cx) : Nat → Prop := fun q => ∃ j, j < 154 ∧ q = x.2.1 j
def Inj (x : Cx) : Prop := ∀ i j, i < 154 → j < 154 → x.2.1 i = x.2.1 j → i = j
def wld (x : Cx) (M : Mem) : va_W := mw x.2.1 (lay x) 154 M
theorem wld_D {x : Cx} {M : Mem} (hJ : Inj x) : va_D (A0 x) (wld x M) := by
  refine ⟨fun i j p q hi hj h => ?_, fun k q hk => ?_⟩
  · obtain ⟨a, rfl⟩ := mw_inv hi
    obtain ⟨b, rfl⟩ := mw_inv hj
    exact hJ i j a b h
  · obtain ⟨a, rfl⟩ := mw_inv hk
    exact ⟨k, a, rfl⟩
theorem wld_at {x : Cx} {M : Mem} {j : Nat} {e : va_E} (h : j < 154) (he : lay x j (M j) = e) : (wld x M)[j]? = some (x.2.1 j, e) := by
  unfold wld
  rw [mw_at h, he]
def tysx (x : Cx) : List (ClassId × FieldType) := [(x.2.2.1.1, .int), (x.2.2.1.2.1, .object "EdgeCampaign$Entry"), (x.2.2.1.2.2, .object "EdgeCampaign$Finding")]
def sADD (k : Nat) : Int32 := match k with
  | 0 => 1
  | 1 => -1
  | 2 => 16
  | _ => -16
def sPUT (k : Nat) : Int32 := match k with
  | 0 => 0
  | 1 => 127
  | 2 => 128
  | _ => 255
def Stc (x : Cx) (U : State) (H : Heap) : Prop := (va_Z "EdgeCampaign$Trials" "ADDED" "[I" (.ref x.2.2.2.1) (A0 x) U H ∧ va_T .int x.2.2.2.1 4 (fun k => .int (sADD k)) (A0 x) U H) ∧ (va_Z "EdgeCampaign$Trials" "PUT" "[I" (.ref x.2.2.2.2) (A0 x) U H ∧ va_T .int x.2.2.2.2 4 (fun k => .int (sPUT k)) (A0 x) U H)
theorem Stc.moved {x : Cx} {u U : State} {H : Heap} (hvm : u.vm.Alike U.vm) (h : Stc x u H) : Stc x U H := ⟨⟨h.1.1.moved hvm, h.1.2.moved hvm⟩, h.2.1.moved hvm, h.2.2.moved hvm⟩
theorem Stc.kept {x : Cx} {U : State} {H H1 : Heap} (h : Stc x U H) (hq : ∀ a : Nat, a < H.size → ¬ A0 x a → H1[a]? = H[a]?) : Stc x U H1 := ⟨⟨h.1.1.kept hq, h.1.2.kept hq⟩, h.2.1.kept hq, h.2.2.kept hq⟩
def tb : List Cond := lw_tbl.filter goodWord
theorem tb_in {w : Cond} (h : w ∈ lw_tbl) (hg : goodWord w = true) : w ∈ tb := List.mem_filter.mpr ⟨h, hg⟩
theorem tb_good {b : Cond} (hb : b ∈ tb) : GoodIn tb (b :: tb) := fun w hw => by
  have h : w ∈ tb := by
    rcases List.mem_cons.mp hw with rfl | h
    · exact hb
    · exact h
  exact ⟨h, good_of_word (List.mem_filter.mp h).2⟩
def nb : List Cond := nbF.map (fun q => .fieldLinkNest q.1 q.2.1 q.2.2.1 q.2.2.2.1 q.2.2.2.2.1 q.2.2.2.2.2) ++ nbM.map (fun q => .methodLinkNest q.1 q.2.1 q.2.2.1 q.2.2.2)
def Nst (U : State) : Prop := ∀ w ∈ nb, va_Nw w U
theorem Nst.moved {s U : State} (hW : s.WarmedH U.vm) (h : Nst s) : Nst U := by
  intro w hw
  have h1 := h w hw
  rcases List.mem_append.mp hw with h2 | h2
  · obtain ⟨q, -, rfl⟩ := List.mem_map.mp h2
    exact h1.warmF hW
  · obtain ⟨q, -, rfl⟩ := List.mem_map.mp h2
    exact h1.warmM hW
theorem Nst.same {s U : State} (hv : s.vm = U.vm) (h : Nst s) : Nst U := by
  intro w hw
  have h1 := h w hw
  rcases List.mem_append.mp hw with h2 | h2
  · obtain ⟨q, -, rfl⟩ := List.mem_map.mp h2
    exact h1.same rfl hv
  · obtain ⟨q, -, rfl⟩ := List.mem_map.mp h2
    exact h1.same rfl hv
def Tb (args : Array Value) (s : State) : Prop := (∀ w ∈ tb, w.before args s = true) ∧ Nst s
def Ok (x : Cx) (M : Mem) (U : State) : Prop := va_P x.1 vwCl (wld x M) U.heap ∧ va_K x.1 vwCl (tysx x) U ∧ Stc x U U.heap ∧ Nst U
def Ci (l : Launch) (x : Cx) (y : MethodName) (w : List Cond) (rm : Room) (av : List Value) (M : Mem) (out : Int32 × Mem) : Prop := Met l y w rm (va_Pc av (Ok x M)) (va_Qi (fun r u => (r, u) = out) (fun u t => va_P x.1 vwCl (wld x u) t.heap) (A0 x)) 0 0 (A0 x)
def Cv (l : Launch) (x : Cx) (y : MethodName) (w : List Cond) (rm : Room) (av : List Value) (M : Mem) (out : Mem) : Prop := Met l y w rm (va_Pc av (Ok x M)) (va_Qv (fun u => u = out) (fun u t => va_P x.1 vwCl (wld x u) t.heap) (A0 x)) 0 0 (A0 x)
def Cq (l : Launch) (x : Cx) (y : MethodName) (w : List Cond) (rm : Room) (av : List Value) (M : Mem) (out : Option Nat × Mem) : Prop := Met l y w rm (va_Pc av (Ok x M)) (va_Qq (fun r u => r = out.1.map x.2.1 ∧ u = out.2) (fun u t => va_P x.1 vwCl (wld x u) t.heap) (A0 x)) 0 0 (A0 x)
theorem blind {x : Cx} {M : Mem} {av : List Value} : FrameBlind (va_Pc av (Ok x M)) := fun a U g mk q => by
  obtain ⟨q0, q1, q2, q3, q4⟩ := q
  exact ⟨q0, q1, va_K.moved (u := U) (U := U.calling g mk a) (Vm.Alike.refl U.vm) q2, Stc.moved (u := U) (U := U.calling g mk a) (Vm.Alike.refl U.vm) q3, Nst.same (s := U) (U := U.calling g mk a) rfl q4⟩
theorem iinc_v {z v k : Int32} {n : Int} (hk : Int32.ofInt n = k) (e : v = z + k) : z + Int32.ofInt n = v := by rw [hk, e]
section OF
variable {l : Launch} {x : Cx} {y : MethodName} {rm : Room} {av : List Value} {M : Mem} {cc : ByteArray} {maxL : Nat} {ret : Option FieldType} {ws' : List Cond}
theorem ofCi {out : Int32 × Mem} (hy : plainName y.cls = true) (hw : (Cond.code y cc maxL ret :: tb) = Cond.code y cc maxL ret :: ws') (hret0 : ret = some .int) (hn : (lg_sl av).length ≤ maxL)
    (body : ∀ (p : Program) (e : Env) (s : State) (m : MethodId) (args : Array Value) (below : List Frame) (meth : Method) (c : Code) (Q : State → Prop) (G0 : Int32 × Mem → Prop) (ls : Array Slot), G0 out → p.tables.exec = Jvm.exec → c.code = cc → c.maxLocals = maxL → s.vm.findClass y.cls = some m.cls → Tb args s → va_K x.1 vwCl (tysx x) s → Stc x s s.heap → va_P x.1 vwCl (wld x M) s.heap → va_S (A0 x) s.heap s.heap [] → lv_has ls maxL (lv_args 0 av) →
      (∀ {v : Int32} {M1 : Mem} {H : Heap} {locs : List Loc} {ls : Array Slot} {pc : Nat}, decode cc pc = .ok (.ireturn, 1) → G0 (v, M1) → va_P x.1 vwCl (wld x M1) H → va_S (A0 x) s.heap H locs → W p l e rm s m args below meth c H locs 0 0 Q (F0 m pc ls [.int v])) →
      W p l e rm s m args below meth c s.heap [] 0 0 Q (F0 m 0 ls [])) : Ci l x y (Cond.code y cc maxL ret :: tb) rm av M out := by
  subst hret0
  refine Met.ofW (cc := cc) (maxL := maxL) (ret := some .int) hy hw ?_
  intro p e s m args below meth c s₁ B hml hv
  obtain ⟨rfl, hP, hK, hZ, hN⟩ := hv
  have hts := atoms_spec (ws := Cond.code y cc maxL (some .int) :: tb) B.pre
  have hlocks := B.notSynchronized
  have hr := B.returns
  rw [lg_entry_eq]
  refine body p e s m _ below meth c _ (fun o => o = out) _ rfl B.exec B.bytes hml (findClass_of_methodNamed B.named) ⟨fun w hw => hts w (List.mem_cons_of_mem _ hw), hN⟩ hK hZ hP va_S.rf (lv_entry av hn) ?_
  intro v M1 H locs ls pc hd hg hP1 hS1
  exact W.iret B.exec B.bytes hr (fun t ht _ => ⟨⟨v, M1, rfl, hg, by show va_P x.1 vwCl (wld x M1) t.heap; rw [ht]; exact hP1⟩, hS1.F ht⟩) hS1.2.2 hd
theorem ofCz {out : Int32 × Mem} (hy : plainName y.cls = true) (hw : (Cond.code y cc maxL ret :: tb) = Cond.code y cc maxL ret :: ws') (hret0 : ret = some .boolean) (hn : (lg_sl av).length ≤ maxL)
    (body : ∀ (p : Program) (e : Env) (s : State) (m : MethodId) (args : Array Value) (below : List Frame) (meth : Method) (c : Code) (Q : State → Prop) (G0 : Int32 × Mem → Prop) (ls : Array Slot), G0 out → p.tables.exec = Jvm.exec → c.code = cc → c.maxLocals = maxL → s.vm.findClass y.cls = some m.cls → Tb args s → va_K x.1 vwCl (tysx x) s → Stc x s s.heap → va_P x.1 vwCl (wld x M) s.heap → va_S (A0 x) s.heap s.heap [] → lv_has ls maxL (lv_args 0 av) →
      (∀ {v : Int32} {M1 : Mem} {H : Heap} {locs : List Loc} {ls : Array Slot} {pc : Nat}, (v = 0 ∨ v = 1) → decode cc pc = .ok (.ireturn, 1) → G0 (v, M1) → va_P x.1 vwCl (wld x M1) H → va_S (A0 x) s.heap H locs → W p l e rm s m args below meth c H locs 0 0 Q (F0 m pc ls [.int v])) →
      W p l e rm s m args below meth c s.heap [] 0 0 Q (F0 m 0 ls [])) : Ci l x y (Cond.code y cc maxL ret :: tb) rm av M out := by
  subst hret0
  refine Met.ofW (cc := cc) (maxL := maxL) (ret := some .boolean) hy hw ?_
  intro p e s m args below meth c s₁ B hml hv
  obtain ⟨rfl, hP, hK, hZ, hN⟩ := hv
  have hts := atoms_spec (ws := Cond.code y cc maxL (some .boolean) :: tb) B.pre
  have hlocks := B.notSynchronized
  have hr := B.returns
  rw [lg_entry_eq]
  refine body p e s m _ below meth c _ (fun o => o = out) _ rfl B.exec B.bytes hml (findClass_of_methodNamed B.named) ⟨fun w hw => hts w (List.mem_cons_of_mem _ hw), hN⟩ hK hZ hP va_S.rf (lv_entry av hn) ?_
  intro v M1 H locs ls pc hv hd hg hP1 hS1
  exact W.zret (ty := .boolean) B.exec B.bytes hr (by rcases hv with rfl | rfl <;> rfl) (fun t ht _ => ⟨⟨v, M1, rfl, hg, by show va_P x.1 vwCl (wld x M1) t.heap; rw [ht]; exact hP1⟩, hS1.F ht⟩) hS1.2.2 hd
theorem ofCv {out : Mem} (hy : plainName y.cls = true) (hw : (Cond.code y cc maxL ret :: tb) = Cond.code y cc maxL ret :: ws') (hret0 : ret = none) (hn : (lg_sl av).length ≤ maxL)
    (body : ∀ (p : Program) (e : Env) (s : State) (m : MethodId) (args : Array Value) (below : List Frame) (meth : Method) (c : Code) (Q : State → Prop) (G0 : Mem → Prop) (ls : Array Slot), G0 out → p.tables.exec = Jvm.exec → c.code = cc → c.maxLocals = maxL → s.vm.findClass y.cls = some m.cls → Tb args s → va_K x.1 vwCl (tysx x) s → Stc x s s.heap → va_P x.1 vwCl (wld x M) s.heap → va_S (A0 x) s.heap s.heap [] → lv_has ls maxL (lv_args 0 av) →
      (∀ {M1 : Mem} {H : Heap} {locs : List Loc} {ls : Array Slot} {pc : Nat}, decode cc pc = .ok (.return_, 1) → G0 M1 → va_P x.1 vwCl (wld x M1) H → va_S (A0 x) s.heap H locs → W p l e rm s m args below meth c H locs 0 0 Q (F0 m pc ls [])) →
      W p l e rm s m args below meth c s.heap [] 0 0 Q (F0 m 0 ls [])) : Cv l x y (Cond.code y cc maxL ret :: tb) rm av M out := by
  subst hret0
  refine Met.ofW (cc := cc) (maxL := maxL) (ret := none) hy hw ?_
  intro p e s m args below meth c s₁ B hml hv
  obtain ⟨rfl, hP, hK, hZ, hN⟩ := hv
  have hts := atoms_spec (ws := Cond.code y cc maxL none :: tb) B.pre
  have hlocks := B.notSynchronized
  have hr := B.returns
  rw [lg_entry_eq]
  refine body p e s m _ below meth c _ (fun o => o = out) _ rfl B.exec B.bytes hml (findClass_of_methodNamed B.named) ⟨fun w hw => hts w (List.mem_cons_of_mem _ hw), hN⟩ hK hZ hP va_S.rf (lv_entry av hn) ?_
  intro M1 H locs ls pc hd hg hP1 hS1
  exact W.vret B.exec B.bytes hr (fun t ht _ => ⟨⟨M1, rfl, hg, by show va_P x.1 vwCl (wld x M1) t.heap; rw [ht]; exact hP1⟩, hS1.F ht⟩) hS1.2.2 hd
theorem ofCq {out : Option Nat × Mem} {cn : String} (hy : plainName y.cls = true) (hw : (Cond.code y cc maxL ret :: tb) = Cond.code y cc maxL ret :: ws') (hret0 : ret = some (.object cn)) (hn : (lg_sl av).length ≤ maxL)
    (body : ∀ (p : Program) (e : Env) (s : State) (m : MethodId) (args : Array Value) (below : List Frame) (meth : Method) (c : Code) (Q : State → Prop) (G0 : Option Nat × Mem → Prop) (ls : Array Slot), G0 out → p.tables.exec = Jvm.exec → c.code = cc → c.maxLocals = maxL → s.vm.findClass y.cls = some m.cls → Tb args s → va_K x.1 vwCl (tysx x) s → Stc x s s.heap → va_P x.1 vwCl (wld x M) s.heap → va_S (A0 x) s.heap s.heap [] → lv_has ls maxL (lv_args 0 av) →
      (∀ {r : Option Nat} {M1 : Mem} {H : Heap} {locs : List Loc} {ls : Array Slot} {pc : Nat}, decode cc pc = .ok (.areturn, 1) → G0 (r, M1) → va_P x.1 vwCl (wld x M1) H → va_S (A0 x) s.heap H locs → W p l e rm s m args below meth c H locs 0 0 Q (F0 m pc ls [va_rf (r.map x.2.1)])) →
      W p l e rm s m args below meth c s.heap [] 0 0 Q (F0 m 0 ls [])) : Cq l x y (Cond.code y cc maxL ret :: tb) rm av M out := by
  subst hret0
  refine Met.ofW (cc := cc) (maxL := maxL) (ret := some (.object cn)) hy hw ?_
  intro p e s m args below meth c s₁ B hml hv
  obtain ⟨rfl, hP, hK, hZ, hN⟩ := hv
  have hts := atoms_spec (ws := Cond.code y cc maxL (some (.object cn)) :: tb) B.pre
  have hlocks := B.notSynchronized
  have hr := B.returns
  rw [lg_entry_eq]
  refine body p e s m _ below meth c _ (fun o => o = out) _ rfl B.exec B.bytes hml (findClass_of_methodNamed B.named) ⟨fun w hw => hts w (List.mem_cons_of_mem _ hw), hN⟩ hK hZ hP va_S.rf (lv_entry av hn) ?_
  intro r M1 H locs ls pc hd hg hP1 hS1
  exact W.aret B.exec B.bytes hr (Or.inl ⟨cn, rfl⟩) (va_rf_or _) (fun t ht _ => ⟨⟨r.map x.2.1, M1, rfl, ⟨by rw [← hg], by rw [← hg]⟩, by show va_P x.1 vwCl (wld x M1) t.heap; rw [ht]; exact hP1⟩, hS1.F ht⟩) hS1.2.2 hd
end OF
section ROWS
variable {p : Program} {l : Launch} {e : Env} {R : Room} {s : State} {m : MethodId} {args : Array Value} {below : List Frame} {meth : Method} {c : Code} {H H0 : Heap} {locs : List Loc} {cells slots : Nat} {Q : State → Prop}
variable {cc : ByteArray} {pc : Nat} {ls : Array Slot} {rest : List Value} {x : Cx} {M M1 : Mem} {j : Nat}
theorem tp_i {v w : Int32} (h : w = v) (k : W p l e R s m args below meth c H locs cells slots Q (F0 m pc ls (.int w :: rest))) : W p l e R s m args below meth c H locs cells slots Q (F0 m pc ls (.int v :: rest)) := h ▸ k
theorem tp_r {v w : Nat} (h : w = v) (k : W p l e R s m args below meth c H locs cells slots Q (F0 m pc ls (.ref (x.2.1 w) :: rest))) : W p l e R s m args below meth c H locs cells slots Q (F0 m pc ls (.ref (x.2.1 v) :: rest)) := h ▸ k
theorem sw_in (hexec : p.tables.exec = Jvm.exec) (hb : c.code = cc) {dflt lo hi : Int} {offs : Array Int} {len : Nat} {z k : Int32} {off : Int} {tgt : Nat} (hz : z = k) (hdg : decode cc pc = .ok (.tableswitch dflt lo hi offs, len)) (h1 : ¬ k.toInt < lo) (h2 : ¬ hi < k.toInt) (ho : offs[(k.toInt - lo).toNat]? = some off) (ht : (pc : Int) + off = (tgt : Int))
    (kk : W p l e R s m args below meth c H locs cells slots Q (F0 m tgt ls rest)) : W p l e R s m args below meth c H locs cells slots Q (F0 m pc ls (.int z :: rest)) := by
  subst hz
  exact lv_tableIn hexec hb hdg h1 h2 ho ht kk
theorem m_get (hexec : p.tables.exec = Jvm.exec) (hb : c.code = cc) {own ref C : String} {T : u_T} {N ci index : Nat} (hts : Tb args s) (hin : ∀ w ∈ u_ws C T N, w ∈ tb) (hown : s.vm.findClass own = some m.cls) (hK : va_K x.1 vwCl (tysx x) s) (hP : va_P x.1 vwCl (wld x M) H) (hj : j < 154) {fs : List Value} (he : lay x j (M j) = .inr (ci, fs)) (hc : vwCl[ci]? = some (C, T, N)) (k : Nat) (hk : k < N) (hlink : Cond.fieldLink own index ref (T k).2.1 (T k).2.2.1 ∈ tb) (href : ref = (T k).1) {v : Value} (hv : fs[k]? = some v) (hdg : decode cc pc = .ok (.getfield index, 3))
    (kk : W p l e R s m args below meth c H locs cells slots Q (F0 m (pc + 3) ls (v :: rest))) : W p l e R s m args below meth c H locs cells slots Q (F0 m pc ls (.ref (x.2.1 j) :: rest)) :=
  va_get (D := x.1) hexec hb hts.1 hin hown hK hP j (wld_at hj he) hc k hk (hts.1 _ hlink) (fun z h => by rw [href]; exact h) hv hdg kk
theorem m_getN (hexec : p.tables.exec = Jvm.exec) (hb : c.code = cc) {own ref C host : String} {T : u_T} {N ci index : Nat} (hts : Tb args s) (hin : ∀ w ∈ u_ws C T N, w ∈ tb) (hown : s.vm.findClass own = some m.cls) (hK : va_K x.1 vwCl (tysx x) s) (hP : va_P x.1 vwCl (wld x M) H) (hj : j < 154) {fs : List Value} (he : lay x j (M j) = .inr (ci, fs)) (hc : vwCl[ci]? = some (C, T, N)) (k : Nat) (hk : k < N) (hlink : Cond.fieldLinkNest own index ref (T k).2.1 (T k).2.2.1 host ∈ nb) (href : ref = (T k).1) {v : Value} (hv : fs[k]? = some v) (hdg : decode cc pc = .ok (.getfield index, 3))
    (kk : W p l e R s m args below meth c H locs cells slots Q (F0 m (pc + 3) ls (v :: rest))) : W p l e R s m args below meth c H locs cells slots Q (F0 m pc ls (.ref (x.2.1 j) :: rest)) :=
  va_getN (D := x.1) hexec hb hts.1 hin hown hK hP j (wld_at hj he) hc k hk ((hts.2 _ hlink).use rfl) (fun z h => by rw [href]; exact h) hv hdg kk
theorem m_back {k : Nat} {v : Int32} {e0 : va_E} {H1 : Heap} (hj : j < 154) (hset : e0 = lay x j (upd (M j) k v)) (hM : M1 = st M j k v) (h : va_P x.1 vwCl ((wld x M).set j (x.2.1 j, e0)) H1) : va_P x.1 vwCl (wld x M1) H1 := by
  subst hM
  unfold wld at h ⊢
  rw [mw_set hj hset] at h
  exact h
theorem m_put (hexec : p.tables.exec = Jvm.exec) (hb : c.code = cc) {own ref C : String} {T : u_T} {N ci index : Nat} (hts : Tb args s) (hin : ∀ w ∈ u_ws C T N, w ∈ tb) (ty0 : Nat → FieldType) (hty : ∀ k, k < N → parseFieldDescriptor (T k).2.2.1 = some (ty0 k)) (hnm : ∀ a, a < N → ∀ b, b < N → a ≠ b → (T a).2.1 ≠ (T b).2.1) (hown : s.vm.findClass own = some m.cls) (hK : va_K x.1 vwCl (tysx x) s) (hJ : Inj x) (hP : va_P x.1 vwCl (wld x M) H) (hS : va_S (A0 x) H0 H locs) (hj : j < 154) {fs : List Value} (he : lay x j (M j) = .inr (ci, fs)) (hc : vwCl[ci]? = some (C, T, N)) (k : Nat) (hk : k < N) (hlink : Cond.fieldLink own index ref (T k).2.1 (T k).2.2.1 ∈ tb) (href : ref = (T k).1) (hfin : (T k).2.2.2 = false) {v : Int32} (hd : parseFieldDescriptor (T k).2.2.1 = some .int) (hl : k < fs.length) (hset : .inr (ci, fs.set k (.int v)) = lay x j (upd (M j) k v)) (hM : M1 = st M j k v) (hdg : decode cc pc = .ok (.putfield index, 3))
    (kk : ∀ (H1 : Heap) (locs1 : List Loc), va_P x.1 vwCl (wld x M1) H1 → va_S (A0 x) H0 H1 locs1 → W p l e R s m args below meth c H1 locs1 cells slots Q (F0 m (pc + 3) ls rest)) : W p l e R s m args below meth c H locs cells slots Q (F0 m pc ls (.int v :: .ref (x.2.1 j) :: rest)) :=
  va_put (D := x.1) hexec hb hts.1 hin ty0 hty hnm hown hK hP (wld_D hJ) hS j (wld_at hj he) hc k hk (hts.1 _ hlink) (fun z h => by rw [href]; exact h) hfin hd (vp_nar_int v) rfl hl hdg (fun H1 locs1 h1 _ h3 => kk H1 locs1 (m_back hj hset hM h1) h3)
theorem m_putN (hexec : p.tables.exec = Jvm.exec) (hb : c.code = cc) {own ref C host : String} {T : u_T} {N ci index : Nat} (hts : Tb args s) (hin : ∀ w ∈ u_ws C T N, w ∈ tb) (ty0 : Nat → FieldType) (hty : ∀ k, k < N → parseFieldDescriptor (T k).2.2.1 = some (ty0 k)) (hnm : ∀ a, a < N → ∀ b, b < N → a ≠ b → (T a).2.1 ≠ (T b).2.1) (hown : s.vm.findClass own = some m.cls) (hK : va_K x.1 vwCl (tysx x) s) (hJ : Inj x) (hP : va_P x.1 vwCl (wld x M) H) (hS : va_S (A0 x) H0 H locs) (hj : j < 154) {fs : List Value} (he : lay x j (M j) = .inr (ci, fs)) (hc : vwCl[ci]? = some (C, T, N)) (k : Nat) (hk : k < N) (hlink : Cond.fieldLinkNest own index ref (T k).2.1 (T k).2.2.1 host ∈ nb) (href : ref = (T k).1) (hfin : (T k).2.2.2 = false) {v : Int32} (hd : parseFieldDescriptor (T k).2.2.1 = some .int) (hl : k < fs.length) (hset : .inr (ci, fs.set k (.int v)) = lay x j (upd (M j) k v)) (hM : M1 = st M j k v) (hdg : decode cc pc = .ok (.putfield index, 3))
    (kk : ∀ (H1 : Heap) (locs1 : List Loc), va_P x.1 vwCl (wld x M1) H1 → va_S (A0 x) H0 H1 locs1 → W p l e R s m args below meth c H1 locs1 cells slots Q (F0 m (pc + 3) ls rest)) : W p l e R s m args below meth c H locs cells slots Q (F0 m pc ls (.int v :: .ref (x.2.1 j) :: rest)) :=
  va_putN (D := x.1) hexec hb hts.1 hin ty0 hty hnm hown hK hP (wld_D hJ) hS j (wld_at hj he) hc k hk ((hts.2 _ hlink).use rfl) (fun z h => by rw [href]; exact h) hfin hd (vp_nar_int v) rfl hl hdg (fun H1 locs1 h1 _ h3 => kk H1 locs1 (m_back hj hset hM h1) h3)
theorem m_ald (hexec : p.tables.exec = Jvm.exec) (hb : c.code = cc) (hK : va_K x.1 vwCl (tysx x) s) (hP : va_P x.1 vwCl (wld x M) H) {n : Nat} (ha : AR x j n) {i : Int32} (hin : vp_in i n) (hdg : decode cc pc = .ok (.iaload, 1))
    (kk : W p l e R s m args below meth c H locs cells slots Q (F0 m (pc + 1) ls (.int (M j i.toNatClampNeg) :: rest))) : W p l e R s m args below meth c H locs cells slots Q (F0 m pc ls (.int i :: .ref (x.2.1 j) :: rest)) :=
  va_iald (D := x.1) hexec hb hK hP j 0 (wld_at ha.1 (ha.2 _)) rfl hin hdg kk
theorem m_ast (hexec : p.tables.exec = Jvm.exec) (hb : c.code = cc) (hK : va_K x.1 vwCl (tysx x) s) (hJ : Inj x) (hP : va_P x.1 vwCl (wld x M) H) (hS : va_S (A0 x) H0 H locs) {n : Nat} (ha : AR x j n) {i v : Int32} (hin : vp_in i n) (hM : M1 = st M j i.toNatClampNeg v) (hdg : decode cc pc = .ok (.iastore, 1))
    (kk : ∀ (H1 : Heap) (locs1 : List Loc), va_P x.1 vwCl (wld x M1) H1 → va_S (A0 x) H0 H1 locs1 → W p l e R s m args below meth c H1 locs1 cells slots Q (F0 m (pc + 1) ls rest)) : W p l e R s m args below meth c H locs cells slots Q (F0 m pc ls (.int v :: .int i :: .ref (x.2.1 j) :: rest)) :=
  va_iast (D := x.1) hexec hb hK hP (wld_D hJ) hS j 0 (wld_at ha.1 (ha.2 _)) rfl hin hdg (fun H1 locs1 h1 _ h3 => kk H1 locs1 (m_back ha.1 (ha.2 _).symm hM h1) h3)
theorem m_alen (hexec : p.tables.exec = Jvm.exec) (hb : c.code = cc) (hK : va_K x.1 vwCl (tysx x) s) (hP : va_P x.1 vwCl (wld x M) H) {n : Nat} (ha : AR x j n) {v : Int32} (hv : Int32.ofNat n = v) (hdg : decode cc pc = .ok (.arraylength, 1))
    (kk : W p l e R s m args below meth c H locs cells slots Q (F0 m (pc + 1) ls (.int v :: rest))) : W p l e R s m args below meth c H locs cells slots Q (F0 m pc ls (.ref (x.2.1 j) :: rest)) :=
  va_alen (D := x.1) hexec hb hK hP j 0 (wld_at ha.1 (ha.2 _)) (ty := .int) rfl hv hdg kk
theorem m_aaE (hexec : p.tables.exec = Jvm.exec) (hb : c.code = cc) (hK : va_K x.1 vwCl (tysx x) s) (hP : va_P x.1 vwCl (wld x M) H) {i : Int32} (hin : vp_in i 16) (hdg : decode cc pc = .ok (.aaload, 1))
    (kk : W p l e R s m args below meth c H locs cells slots Q (F0 m (pc + 1) ls (.ref (x.2.1 (122 + i.toNatClampNeg)) :: rest))) : W p l e R s m args below meth c H locs cells slots Q (F0 m pc ls (.int i :: .ref (x.2.1 6) :: rest)) :=
  va_aldq (D := x.1) (C := "EdgeCampaign$Entry") hexec hb hK hP 6 1 (wld_at (by decide) rfl) rfl hin hdg kk
theorem m_aaF (hexec : p.tables.exec = Jvm.exec) (hb : c.code = cc) (hK : va_K x.1 vwCl (tysx x) s) (hP : va_P x.1 vwCl (wld x M) H) {i : Int32} (hin : vp_in i 8) (hdg : decode cc pc = .ok (.aaload, 1))
    (kk : W p l e R s m args below meth c H locs cells slots Q (F0 m (pc + 1) ls (.ref (x.2.1 (138 + 2 * i.toNatClampNeg)) :: rest))) : W p l e R s m args below meth c H locs cells slots Q (F0 m pc ls (.int i :: .ref (x.2.1 10) :: rest)) :=
  va_aldq (D := x.1) (C := "EdgeCampaign$Finding") hexec hb hK hP 10 2 (wld_at (by decide) rfl) rfl hin hdg kk
theorem m_pre {av : List Value} (hts : Tb args s) (hK : va_K x.1 vwCl (tysx x) s) (hZ : Stc x s s.heap) (hP : va_P x.1 vwCl (wld x M) H) (hS : va_S (A0 x) s.heap H locs) : ∀ U : State, U.heap = H → s.WarmedH U.vm → va_Pc av (Ok x M) av.toArray U := fun U hU hW => ⟨rfl, by rw [hU]; exact hP, va_K.moved hW.alike hK, by rw [hU]; exact (Stc.moved hW.alike hZ).kept hS.2.1, hts.2.moved hW⟩
variable {st0 : List Value} {a : Array Value}
theorem m_ci {out : Int32 × Mem} (hr : va_Run p l e R s m args below meth c H locs cells slots 0 0 (F0 m pc ls st0) rest (va_Qi (fun r u => (r, u) = out) (fun u t => va_P x.1 vwCl (wld x u) t.heap) (A0 x) a) (A0 x)) (hS : va_S (A0 x) H0 H locs)
    (kk : ∀ (H1 : Heap) (locs1 : List Loc), va_P x.1 vwCl (wld x out.2) H1 → va_S (A0 x) H0 H1 locs1 → W p l e R s m args below meth c H1 locs1 cells slots Q (F0 m (pc + 3) ls (.int out.1 :: rest))) : W p l e R s m args below meth c H locs cells slots Q (F0 m pc ls st0) :=
  va_calli hr hS (fun _ _ h => h) (fun _ h => h) (fun r u t H1 locs1 ht _ hp hB _ _ hS1 => by subst hp; rw [ht] at hB; exact kk H1 locs1 hB hS1)
theorem m_cv {out : Mem} (hr : va_Run p l e R s m args below meth c H locs cells slots 0 0 (F0 m pc ls st0) rest (va_Qv (fun u => u = out) (fun u t => va_P x.1 vwCl (wld x u) t.heap) (A0 x) a) (A0 x)) (hS : va_S (A0 x) H0 H locs)
    (kk : ∀ (H1 : Heap) (locs1 : List Loc), va_P x.1 vwCl (wld x out) H1 → va_S (A0 x) H0 H1 locs1 → W p l e R s m args below meth c H1 locs1 cells slots Q (F0 m (pc + 3) ls rest)) : W p l e R s m args below meth c H locs cells slots Q (F0 m pc ls st0) :=
  va_callv hr hS (fun _ _ h => h) (fun _ h => h) (fun u t H1 locs1 ht _ hp hB _ _ hS1 => by subst hp; rw [ht] at hB; exact kk H1 locs1 hB hS1)
theorem m_cq {out : Option Nat × Mem} (hr : va_Run p l e R s m args below meth c H locs cells slots 0 0 (F0 m pc ls st0) rest (va_Qq (fun r u => r = out.1.map x.2.1 ∧ u = out.2) (fun u t => va_P x.1 vwCl (wld x u) t.heap) (A0 x) a) (A0 x)) (hS : va_S (A0 x) H0 H locs)
    (kk : ∀ (H1 : Heap) (locs1 : List Loc), va_P x.1 vwCl (wld x out.2) H1 → va_S (A0 x) H0 H1 locs1 → W p l e R s m args below meth c H1 locs1 cells slots Q (F0 m (pc + 3) ls (va_rf (out.1.map x.2.1) :: rest))) : W p l e R s m args below meth c H locs cells slots Q (F0 m pc ls st0) :=
  va_callq hr hS (fun _ _ h => h) (fun _ h => h) (fun r u t H1 locs1 ht _ hp hB _ _ hS1 => by obtain ⟨h1, h2⟩ := hp; subst h1; subst h2; rw [ht] at hB; exact kk H1 locs1 hB hS1)
end ROWS
end
section
theorem q_0 : ((.code y_PR_isPlace b_PR_isPlace 1 (some .boolean)) : Cond) ∈ tb := tb_in (List.mem_of_getElem? (i := 378) (by decide +kernel)) (by decide +kernel)
theorem q_1 : ((.methodLink "EdgeCampaign$Program" 31 ⟨"EdgeCampaign$Program", "isPlace", "(I)Z"⟩) : Cond) ∈ tb := tb_in (List.mem_of_getElem? (i := 376) (by decide +kernel)) (by decide +kernel)
theorem q_2 : ((.initialized "EdgeCampaign$Program") : Cond) ∈ tb := tb_in (List.mem_of_getElem? (i := 49) (by decide +kernel)) (by decide +kernel)
theorem q_3 : ((.static ⟨"EdgeCampaign$Program", "isPlace", "(I)Z"⟩) : Cond) ∈ tb := tb_in (List.mem_of_getElem? (i := 377) (by decide +kernel)) (by decide +kernel)
theorem q_4 : ((.code y_PR_isRegister b_PR_isRegister 1 (some .boolean)) : Cond) ∈ tb := tb_in (List.mem_of_getElem? (i := 372) (by decide +kernel)) (by decide +kernel)
theorem q_5 : ((.methodLink "EdgeCampaign$Program" 23 ⟨"EdgeCampaign$Program", "isRegister", "(I)Z"⟩) : Cond) ∈ tb := tb_in (List.mem_of_getElem? (i := 370) (by decide +kernel)) (by decide +kernel)
theorem q_6 : ((.static ⟨"EdgeCampaign$Program", "isRegister", "(I)Z"⟩) : Cond) ∈ tb := tb_in (List.mem_of_getElem? (i := 371) (by decide +kernel)) (by decide +kernel)
theorem q_7 : ((.fieldLink "EdgeCampaign$Program" 19 "EdgeCampaign$Program" "size" "I") : Cond) ∈ tb := tb_in (List.mem_of_getElem? (i := 82) (by decide +kernel)) (by decide +kernel)
theorem q_8 : ((.code y_PR_fits b_PR_fits 2 (some .boolean)) : Cond) ∈ tb := tb_in (List.mem_of_getElem? (i := 375) (by decide +kernel)) (by decide +kernel)
theorem q_9 : ((.methodLink "EdgeCampaign$Program" 27 ⟨"EdgeCampaign$Program", "fits", "(II)Z"⟩) : Cond) ∈ tb := tb_in (List.mem_of_getElem? (i := 373) (by decide +kernel)) (by decide +kernel)
theorem q_10 : ((.static ⟨"EdgeCampaign$Program", "fits", "(II)Z"⟩) : Cond) ∈ tb := tb_in (List.mem_of_getElem? (i := 374) (by decide +kernel)) (by decide +kernel)
theorem q_11 : ((.fieldLink "EdgeCampaign$Program" 9 "EdgeCampaign$Program" "ops" "[I") : Cond) ∈ tb := tb_in (List.mem_of_getElem? (i := 76) (by decide +kernel)) (by decide +kernel)
theorem q_12 : ((.fieldLink "EdgeCampaign$Program" 13 "EdgeCampaign$Program" "as" "[I") : Cond) ∈ tb := tb_in (List.mem_of_getElem? (i := 78) (by decide +kernel)) (by decide +kernel)
theorem q_13 : ((.fieldLink "EdgeCampaign$Program" 16 "EdgeCampaign$Program" "bs" "[I") : Cond) ∈ tb := tb_in (List.mem_of_getElem? (i := 80) (by decide +kernel)) (by decide +kernel)
theorem q_14 : ((.fieldLink "EdgeCampaign" 70 "EdgeCampaign" "executions" "I") : Cond) ∈ tb := tb_in (List.mem_of_getElem? (i := 334) (by decide +kernel)) (by decide +kernel)
theorem q_15 : ((.fieldLink "EdgeCampaign" 10 "EdgeCampaign" "program" "LEdgeCampaign$Program;") : Cond) ∈ tb := tb_in (List.mem_of_getElem? (i := 325) (by decide +kernel)) (by decide +kernel)
theorem q_16 : ((.code y_PR_append b_PR_append 4 (some .boolean)) : Cond) ∈ tb := tb_in (List.mem_of_getElem? (i := 369) (by decide +kernel)) (by decide +kernel)
theorem q_17 : ((.methodLink "EdgeCampaign" 80 ⟨"EdgeCampaign$Program", "append", "(III)Z"⟩) : Cond) ∈ tb := tb_in (List.mem_of_getElem? (i := 366) (by decide +kernel)) (by decide +kernel)
theorem q_18 : ((.instanceMethod ⟨"EdgeCampaign$Program", "append", "(III)Z"⟩) : Cond) ∈ tb := tb_in (List.mem_of_getElem? (i := 367) (by decide +kernel)) (by decide +kernel)
theorem q_19 : ((.selects "EdgeCampaign$Program" ⟨"EdgeCampaign$Program", "append", "(III)Z"⟩ ⟨"EdgeCampaign$Program", "append", "(III)Z"⟩) : Cond) ∈ tb := tb_in (List.mem_of_getElem? (i := 368) (by decide +kernel)) (by decide +kernel)
theorem q_20 : ((.fieldLink "EdgeCampaign$Input" 15 "EdgeCampaign$Input" "size" "I") : Cond) ∈ tb := tb_in (List.mem_of_getElem? (i := 100) (by decide +kernel)) (by decide +kernel)
theorem q_21 : ((.fieldLink "EdgeCampaign$Input" 11 "EdgeCampaign$Input" "bytes" "[I") : Cond) ∈ tb := tb_in (List.mem_of_getElem? (i := 99) (by decide +kernel)) (by decide +kernel)
theorem q_22 : ((.fieldLink "EdgeCampaign" 19 "EdgeCampaign" "draft" "LEdgeCampaign$Input;") : Cond) ∈ tb := tb_in (List.mem_of_getElem? (i := 326) (by decide +kernel)) (by decide +kernel)
theorem q_23 : ((.code y_IN_append b_IN_append 2 (some .boolean)) : Cond) ∈ tb := tb_in (List.mem_of_getElem? (i := 386) (by decide +kernel)) (by decide +kernel)
theorem q_24 : ((.methodLink "EdgeCampaign" 84 ⟨"EdgeCampaign$Input", "append", "(I)Z"⟩) : Cond) ∈ tb := tb_in (List.mem_of_getElem? (i := 383) (by decide +kernel)) (by decide +kernel)
theorem q_25 : ((.initialized "EdgeCampaign$Input") : Cond) ∈ tb := tb_in (List.mem_of_getElem? (i := 50) (by decide +kernel)) (by decide +kernel)
theorem q_26 : ((.instanceMethod ⟨"EdgeCampaign$Input", "append", "(I)Z"⟩) : Cond) ∈ tb := tb_in (List.mem_of_getElem? (i := 384) (by decide +kernel)) (by decide +kernel)
theorem q_27 : ((.selects "EdgeCampaign$Input" ⟨"EdgeCampaign$Input", "append", "(I)Z"⟩ ⟨"EdgeCampaign$Input", "append", "(I)Z"⟩) : Cond) ∈ tb := tb_in (List.mem_of_getElem? (i := 385) (by decide +kernel)) (by decide +kernel)
theorem q_28 : ((.fieldLink "EdgeCampaign$Run" 11 "EdgeCampaign$Run" "registers" "[I") : Cond) ∈ tb := tb_in (List.mem_of_getElem? (i := 117) (by decide +kernel)) (by decide +kernel)
theorem q_29 : ((.code y_JA_fill b_JA_fill 4 none) : Cond) ∈ tb := tb_in (List.mem_of_getElem? (i := 405) (by decide +kernel)) (by decide +kernel)
theorem q_30 : ((.methodLink "EdgeCampaign$Run" 53 ⟨"java/util/Arrays", "fill", "([II)V"⟩) : Cond) ∈ tb := tb_in (List.mem_of_getElem? (i := 403) (by decide +kernel)) (by decide +kernel)
theorem q_31 : ((.initialized "java/util/Arrays") : Cond) ∈ tb := tb_in (List.mem_of_getElem? (i := 60) (by decide +kernel)) (by decide +kernel)
theorem q_32 : ((.static ⟨"java/util/Arrays", "fill", "([II)V"⟩) : Cond) ∈ tb := tb_in (List.mem_of_getElem? (i := 404) (by decide +kernel)) (by decide +kernel)
theorem q_33 : ((.fieldLink "EdgeCampaign$Run" 17 "EdgeCampaign$Run" "memory" "[I") : Cond) ∈ tb := tb_in (List.mem_of_getElem? (i := 118) (by decide +kernel)) (by decide +kernel)
theorem q_34 : ((.fieldLink "EdgeCampaign$Run" 50 "EdgeCampaign$Run" "edgeCount" "I") : Cond) ∈ tb := tb_in (List.mem_of_getElem? (i := 124) (by decide +kernel)) (by decide +kernel)
theorem q_35 : ((.fieldLink "EdgeCampaign$Run" 47 "EdgeCampaign$Run" "depth" "I") : Cond) ∈ tb := tb_in (List.mem_of_getElem? (i := 126) (by decide +kernel)) (by decide +kernel)
theorem q_36 : ((.fieldLink "EdgeCampaign$Run" 36 "EdgeCampaign$Run" "pc" "I") : Cond) ∈ tb := tb_in (List.mem_of_getElem? (i := 127) (by decide +kernel)) (by decide +kernel)
theorem q_37 : ((.fieldLink "EdgeCampaign$Run" 59 "EdgeCampaign$Run" "here" "I") : Cond) ∈ tb := tb_in (List.mem_of_getElem? (i := 129) (by decide +kernel)) (by decide +kernel)
theorem q_38 : ((.fieldLink "EdgeCampaign$Run" 62 "EdgeCampaign$Run" "steps" "I") : Cond) ∈ tb := tb_in (List.mem_of_getElem? (i := 131) (by decide +kernel)) (by decide +kernel)
theorem q_39 : ((.fieldLink "EdgeCampaign$Run" 32 "EdgeCampaign$Run" "outcome" "I") : Cond) ∈ tb := tb_in (List.mem_of_getElem? (i := 132) (by decide +kernel)) (by decide +kernel)
theorem q_40 : ((.fieldLink "EdgeCampaign$Run" 23 "EdgeCampaign$Run" "times" "[I") : Cond) ∈ tb := tb_in (List.mem_of_getElem? (i := 120) (by decide +kernel)) (by decide +kernel)
theorem q_41 : ((.fieldLink "EdgeCampaign$Run" 26 "EdgeCampaign$Run" "edges" "[I") : Cond) ∈ tb := tb_in (List.mem_of_getElem? (i := 121) (by decide +kernel)) (by decide +kernel)
theorem q_42 : ((.fieldLink "EdgeCampaign$Run" 20 "EdgeCampaign$Run" "stack" "[I") : Cond) ∈ tb := tb_in (List.mem_of_getElem? (i := 119) (by decide +kernel)) (by decide +kernel)
theorem q_43 : ((.code y_PR_isJump b_PR_isJump 1 (some .boolean)) : Cond) ∈ tb := tb_in (List.mem_of_getElem? (i := 440) (by decide +kernel)) (by decide +kernel)
theorem q_44 : ((.methodLink "EdgeCampaign$Run" 100 ⟨"EdgeCampaign$Program", "isJump", "(I)Z"⟩) : Cond) ∈ tb := tb_in (List.mem_of_getElem? (i := 438) (by decide +kernel)) (by decide +kernel)
theorem q_45 : ((.static ⟨"EdgeCampaign$Program", "isJump", "(I)Z"⟩) : Cond) ∈ tb := tb_in (List.mem_of_getElem? (i := 439) (by decide +kernel)) (by decide +kernel)
theorem q_46 : ((.code y_PR_has b_PR_has 2 (some .boolean)) : Cond) ∈ tb := tb_in (List.mem_of_getElem? (i := 409) (by decide +kernel)) (by decide +kernel)
theorem q_47 : ((.methodLink "EdgeCampaign$Run" 39 ⟨"EdgeCampaign$Program", "has", "(I)Z"⟩) : Cond) ∈ tb := tb_in (List.mem_of_getElem? (i := 406) (by decide +kernel)) (by decide +kernel)
theorem q_48 : ((.instanceMethod ⟨"EdgeCampaign$Program", "has", "(I)Z"⟩) : Cond) ∈ tb := tb_in (List.mem_of_getElem? (i := 407) (by decide +kernel)) (by decide +kernel)
theorem q_49 : ((.selects "EdgeCampaign$Program" ⟨"EdgeCampaign$Program", "has", "(I)Z"⟩ ⟨"EdgeCampaign$Program", "has", "(I)Z"⟩) : Cond) ∈ tb := tb_in (List.mem_of_getElem? (i := 408) (by decide +kernel)) (by decide +kernel)
theorem q_50 : ((.code y_RU_goAlong b_RU_goAlong 2 none) : Cond) ∈ tb := tb_in (List.mem_of_getElem? (i := 444) (by decide +kernel)) (by decide +kernel)
theorem q_51 : ((.methodLink "EdgeCampaign$Run" 103 ⟨"EdgeCampaign$Run", "goAlong", "(I)V"⟩) : Cond) ∈ tb := tb_in (List.mem_of_getElem? (i := 441) (by decide +kernel)) (by decide +kernel)
theorem q_52 : ((.initialized "EdgeCampaign$Run") : Cond) ∈ tb := tb_in (List.mem_of_getElem? (i := 51) (by decide +kernel)) (by decide +kernel)
theorem q_53 : ((.instanceMethod ⟨"EdgeCampaign$Run", "goAlong", "(I)V"⟩) : Cond) ∈ tb := tb_in (List.mem_of_getElem? (i := 443) (by decide +kernel)) (by decide +kernel)
theorem q_54 : ((.selects "EdgeCampaign$Run" ⟨"EdgeCampaign$Run", "goAlong", "(I)V"⟩ ⟨"EdgeCampaign$Run", "goAlong", "(I)V"⟩) : Cond) ∈ tb := tb_in (List.mem_of_getElem? (i := 8) (by decide +kernel)) (by decide +kernel)
theorem q_55 : ((.code y_IN_at b_IN_at 2 (some .int)) : Cond) ∈ tb := tb_in (List.mem_of_getElem? (i := 417) (by decide +kernel)) (by decide +kernel)
theorem q_56 : ((.methodLink "EdgeCampaign$Run" 74 ⟨"EdgeCampaign$Input", "at", "(I)I"⟩) : Cond) ∈ tb := tb_in (List.mem_of_getElem? (i := 414) (by decide +kernel)) (by decide +kernel)
theorem q_57 : ((.instanceMethod ⟨"EdgeCampaign$Input", "at", "(I)I"⟩) : Cond) ∈ tb := tb_in (List.mem_of_getElem? (i := 415) (by decide +kernel)) (by decide +kernel)
theorem q_58 : ((.selects "EdgeCampaign$Input" ⟨"EdgeCampaign$Input", "at", "(I)I"⟩ ⟨"EdgeCampaign$Input", "at", "(I)I"⟩) : Cond) ∈ tb := tb_in (List.mem_of_getElem? (i := 416) (by decide +kernel)) (by decide +kernel)
theorem q_59 : ((.code y_RU_goInto b_RU_goInto 2 none) : Cond) ∈ tb := tb_in (List.mem_of_getElem? (i := 421) (by decide +kernel)) (by decide +kernel)
theorem q_60 : ((.methodLink "EdgeCampaign$Run" 80 ⟨"EdgeCampaign$Run", "goInto", "(I)V"⟩) : Cond) ∈ tb := tb_in (List.mem_of_getElem? (i := 418) (by decide +kernel)) (by decide +kernel)
theorem q_61 : ((.instanceMethod ⟨"EdgeCampaign$Run", "goInto", "(I)V"⟩) : Cond) ∈ tb := tb_in (List.mem_of_getElem? (i := 420) (by decide +kernel)) (by decide +kernel)
theorem q_62 : ((.selects "EdgeCampaign$Run" ⟨"EdgeCampaign$Run", "goInto", "(I)V"⟩ ⟨"EdgeCampaign$Run", "goInto", "(I)V"⟩) : Cond) ∈ tb := tb_in (List.mem_of_getElem? (i := 3) (by decide +kernel)) (by decide +kernel)
theorem q_63 : ((.code y_RU_goBack b_RU_goBack 1 none) : Cond) ∈ tb := tb_in (List.mem_of_getElem? (i := 425) (by decide +kernel)) (by decide +kernel)
theorem q_64 : ((.methodLink "EdgeCampaign$Run" 84 ⟨"EdgeCampaign$Run", "goBack", "()V"⟩) : Cond) ∈ tb := tb_in (List.mem_of_getElem? (i := 422) (by decide +kernel)) (by decide +kernel)
theorem q_65 : ((.instanceMethod ⟨"EdgeCampaign$Run", "goBack", "()V"⟩) : Cond) ∈ tb := tb_in (List.mem_of_getElem? (i := 424) (by decide +kernel)) (by decide +kernel)
theorem q_66 : ((.selects "EdgeCampaign$Run" ⟨"EdgeCampaign$Run", "goBack", "()V"⟩ ⟨"EdgeCampaign$Run", "goBack", "()V"⟩) : Cond) ∈ tb := tb_in (List.mem_of_getElem? (i := 4) (by decide +kernel)) (by decide +kernel)
theorem q_67 : ((.code y_RU_divide b_RU_divide 3 none) : Cond) ∈ tb := tb_in (List.mem_of_getElem? (i := 429) (by decide +kernel)) (by decide +kernel)
theorem q_68 : ((.methodLink "EdgeCampaign$Run" 87 ⟨"EdgeCampaign$Run", "divide", "(II)V"⟩) : Cond) ∈ tb := tb_in (List.mem_of_getElem? (i := 426) (by decide +kernel)) (by decide +kernel)
theorem q_69 : ((.instanceMethod ⟨"EdgeCampaign$Run", "divide", "(II)V"⟩) : Cond) ∈ tb := tb_in (List.mem_of_getElem? (i := 428) (by decide +kernel)) (by decide +kernel)
theorem q_70 : ((.selects "EdgeCampaign$Run" ⟨"EdgeCampaign$Run", "divide", "(II)V"⟩ ⟨"EdgeCampaign$Run", "divide", "(II)V"⟩) : Cond) ∈ tb := tb_in (List.mem_of_getElem? (i := 5) (by decide +kernel)) (by decide +kernel)
theorem q_71 : ((.code y_RU_load b_RU_load 3 none) : Cond) ∈ tb := tb_in (List.mem_of_getElem? (i := 433) (by decide +kernel)) (by decide +kernel)
theorem q_72 : ((.methodLink "EdgeCampaign$Run" 91 ⟨"EdgeCampaign$Run", "load", "(II)V"⟩) : Cond) ∈ tb := tb_in (List.mem_of_getElem? (i := 430) (by decide +kernel)) (by decide +kernel)
theorem q_73 : ((.instanceMethod ⟨"EdgeCampaign$Run", "load", "(II)V"⟩) : Cond) ∈ tb := tb_in (List.mem_of_getElem? (i := 432) (by decide +kernel)) (by decide +kernel)
theorem q_74 : ((.selects "EdgeCampaign$Run" ⟨"EdgeCampaign$Run", "load", "(II)V"⟩ ⟨"EdgeCampaign$Run", "load", "(II)V"⟩) : Cond) ∈ tb := tb_in (List.mem_of_getElem? (i := 6) (by decide +kernel)) (by decide +kernel)
theorem q_75 : ((.code y_RU_save b_RU_save 3 none) : Cond) ∈ tb := tb_in (List.mem_of_getElem? (i := 437) (by decide +kernel)) (by decide +kernel)
theorem q_76 : ((.methodLink "EdgeCampaign$Run" 94 ⟨"EdgeCampaign$Run", "save", "(II)V"⟩) : Cond) ∈ tb := tb_in (List.mem_of_getElem? (i := 434) (by decide +kernel)) (by decide +kernel)
theorem q_77 : ((.instanceMethod ⟨"EdgeCampaign$Run", "save", "(II)V"⟩) : Cond) ∈ tb := tb_in (List.mem_of_getElem? (i := 436) (by decide +kernel)) (by decide +kernel)
theorem q_78 : ((.selects "EdgeCampaign$Run" ⟨"EdgeCampaign$Run", "save", "(II)V"⟩ ⟨"EdgeCampaign$Run", "save", "(II)V"⟩) : Cond) ∈ tb := tb_in (List.mem_of_getElem? (i := 7) (by decide +kernel)) (by decide +kernel)
theorem q_79 : ((.code y_RU_reset b_RU_reset 2 none) : Cond) ∈ tb := tb_in (List.mem_of_getElem? (i := 402) (by decide +kernel)) (by decide +kernel)
theorem q_80 : ((.methodLink "EdgeCampaign$Run" 29 ⟨"EdgeCampaign$Run", "reset", "()V"⟩) : Cond) ∈ tb := tb_in (List.mem_of_getElem? (i := 399) (by decide +kernel)) (by decide +kernel)
theorem q_81 : ((.instanceMethod ⟨"EdgeCampaign$Run", "reset", "()V"⟩) : Cond) ∈ tb := tb_in (List.mem_of_getElem? (i := 401) (by decide +kernel)) (by decide +kernel)
theorem q_82 : ((.selects "EdgeCampaign$Run" ⟨"EdgeCampaign$Run", "reset", "()V"⟩ ⟨"EdgeCampaign$Run", "reset", "()V"⟩) : Cond) ∈ tb := tb_in (List.mem_of_getElem? (i := 1) (by decide +kernel)) (by decide +kernel)
theorem q_83 : ((.code y_RU_step b_RU_step 6 none) : Cond) ∈ tb := tb_in (List.mem_of_getElem? (i := 413) (by decide +kernel)) (by decide +kernel)
theorem q_84 : ((.methodLink "EdgeCampaign$Run" 43 ⟨"EdgeCampaign$Run", "step", "(LEdgeCampaign$Program;LEdgeCampaign$Input;)V"⟩) : Cond) ∈ tb := tb_in (List.mem_of_getElem? (i := 410) (by decide +kernel)) (by decide +kernel)
theorem q_85 : ((.instanceMethod ⟨"EdgeCampaign$Run", "step", "(LEdgeCampaign$Program;LEdgeCampaign$Input;)V"⟩) : Cond) ∈ tb := tb_in (List.mem_of_getElem? (i := 412) (by decide +kernel)) (by decide +kernel)
theorem q_86 : ((.selects "EdgeCampaign$Run" ⟨"EdgeCampaign$Run", "step", "(LEdgeCampaign$Program;LEdgeCampaign$Input;)V"⟩ ⟨"EdgeCampaign$Run", "step", "(LEdgeCampaign$Program;LEdgeCampaign$Input;)V"⟩) : Cond) ∈ tb := tb_in (List.mem_of_getElem? (i := 2) (by decide +kernel)) (by decide +kernel)
theorem q_87 : ((.fieldLink "EdgeCampaign$Store" 19 "EdgeCampaign$Store" "buckets" "[I") : Cond) ∈ tb := tb_in (List.mem_of_getElem? (i := 197) (by decide +kernel)) (by decide +kernel)
theorem q_88 : ((.code y_RU_pairBit b_RU_pairBit 3 (some .int)) : Cond) ∈ tb := tb_in (List.mem_of_getElem? (i := 452) (by decide +kernel)) (by decide +kernel)
theorem q_89 : ((.methodLink "EdgeCampaign$Store" 42 ⟨"EdgeCampaign$Run", "pairBit", "(I)I"⟩) : Cond) ∈ tb := tb_in (List.mem_of_getElem? (i := 449) (by decide +kernel)) (by decide +kernel)
theorem q_90 : ((.instanceMethod ⟨"EdgeCampaign$Run", "pairBit", "(I)I"⟩) : Cond) ∈ tb := tb_in (List.mem_of_getElem? (i := 450) (by decide +kernel)) (by decide +kernel)
theorem q_91 : ((.selects "EdgeCampaign$Run" ⟨"EdgeCampaign$Run", "pairBit", "(I)I"⟩ ⟨"EdgeCampaign$Run", "pairBit", "(I)I"⟩) : Cond) ∈ tb := tb_in (List.mem_of_getElem? (i := 451) (by decide +kernel)) (by decide +kernel)
theorem q_92 : ((.methodLink "EdgeCampaign$Input" 19 ⟨"java/lang/Math", "min", "(II)I"⟩) : Cond) ∈ tb := tb_in (List.mem_of_getElem? (i := 465) (by decide +kernel)) (by decide +kernel)
theorem q_93 : ((.static ⟨"java/lang/Math", "min", "(II)I"⟩) : Cond) ∈ tb := tb_in (List.mem_of_getElem? (i := 466) (by decide +kernel)) (by decide +kernel)
theorem q_94 : ((.initialized "java/lang/Math") : Cond) ∈ tb := tb_in (List.mem_of_getElem? (i := 61) (by decide +kernel)) (by decide +kernel)
theorem q_95 : ((.code Lib.Math.min.name Lib.Math.min.code 2 (some .int)) : Cond) ∈ tb := tb_in (List.mem_of_getElem? (i := 467) (by decide +kernel)) (by decide +kernel)
theorem q_96 : ((.methodLink "EdgeCampaign$Input" 25 ⟨"EdgeCampaign$Input", "at", "(I)I"⟩) : Cond) ∈ tb := tb_in (List.mem_of_getElem? (i := 468) (by decide +kernel)) (by decide +kernel)
theorem q_97 : ((.methodLink "EdgeCampaign$Input" 29 ⟨"EdgeCampaign$Input", "append", "(I)Z"⟩) : Cond) ∈ tb := tb_in (List.mem_of_getElem? (i := 469) (by decide +kernel)) (by decide +kernel)
theorem q_98 : ((.code y_IN_appendPart b_IN_appendPart 6 none) : Cond) ∈ tb := tb_in (List.mem_of_getElem? (i := 464) (by decide +kernel)) (by decide +kernel)
theorem q_99 : ((.methodLink "EdgeCampaign$Input" 33 ⟨"EdgeCampaign$Input", "appendPart", "(LEdgeCampaign$Input;II)V"⟩) : Cond) ∈ tb := tb_in (List.mem_of_getElem? (i := 461) (by decide +kernel)) (by decide +kernel)
theorem q_100 : ((.instanceMethod ⟨"EdgeCampaign$Input", "appendPart", "(LEdgeCampaign$Input;II)V"⟩) : Cond) ∈ tb := tb_in (List.mem_of_getElem? (i := 462) (by decide +kernel)) (by decide +kernel)
theorem q_101 : ((.selects "EdgeCampaign$Input" ⟨"EdgeCampaign$Input", "appendPart", "(LEdgeCampaign$Input;II)V"⟩ ⟨"EdgeCampaign$Input", "appendPart", "(LEdgeCampaign$Input;II)V"⟩) : Cond) ∈ tb := tb_in (List.mem_of_getElem? (i := 463) (by decide +kernel)) (by decide +kernel)
theorem q_102 : ((.fieldLink "EdgeCampaign$Store" 23 "EdgeCampaign$Store" "goers" "[I") : Cond) ∈ tb := tb_in (List.mem_of_getElem? (i := 199) (by decide +kernel)) (by decide +kernel)
theorem q_103 : ((.fieldLink "EdgeCampaign$Store" 27 "EdgeCampaign$Store" "size" "I") : Cond) ∈ tb := tb_in (List.mem_of_getElem? (i := 200) (by decide +kernel)) (by decide +kernel)
theorem q_104 : ((.fieldLink "EdgeCampaign$Store" 71 "EdgeCampaign$Store" "seenPairs" "I") : Cond) ∈ tb := tb_in (List.mem_of_getElem? (i := 207) (by decide +kernel)) (by decide +kernel)
theorem q_105 : ((.fieldLink "EdgeCampaign$Store" 68 "EdgeCampaign$Store" "seenEdges" "I") : Cond) ∈ tb := tb_in (List.mem_of_getElem? (i := 205) (by decide +kernel)) (by decide +kernel)
theorem q_106 : ((.fieldLink "EdgeCampaign$Entry" 16 "EdgeCampaign$Entry" "steps" "I") : Cond) ∈ tb := tb_in (List.mem_of_getElem? (i := 177) (by decide +kernel)) (by decide +kernel)
theorem q_107 : ((.fieldLink "EdgeCampaign$Entry" 10 "EdgeCampaign$Entry" "input" "LEdgeCampaign$Input;") : Cond) ∈ tb := tb_in (List.mem_of_getElem? (i := 173) (by decide +kernel)) (by decide +kernel)
theorem q_108 : ((.fieldLink "EdgeCampaign$Store" 13 "EdgeCampaign$Store" "entries" "[LEdgeCampaign$Entry;") : Cond) ∈ tb := tb_in (List.mem_of_getElem? (i := 194) (by decide +kernel)) (by decide +kernel)
theorem q_109 : ((.code y_EN_cost b_EN_cost 1 (some .int)) : Cond) ∈ tb := tb_in (List.mem_of_getElem? (i := 485) (by decide +kernel)) (by decide +kernel)
theorem q_110 : ((.methodLink "EdgeCampaign$Store" 77 ⟨"EdgeCampaign$Entry", "cost", "()I"⟩) : Cond) ∈ tb := tb_in (List.mem_of_getElem? (i := 482) (by decide +kernel)) (by decide +kernel)
theorem q_111 : ((.initialized "EdgeCampaign$Entry") : Cond) ∈ tb := tb_in (List.mem_of_getElem? (i := 53) (by decide +kernel)) (by decide +kernel)
theorem q_112 : ((.instanceMethod ⟨"EdgeCampaign$Entry", "cost", "()I"⟩) : Cond) ∈ tb := tb_in (List.mem_of_getElem? (i := 483) (by decide +kernel)) (by decide +kernel)
theorem q_113 : ((.selects "EdgeCampaign$Entry" ⟨"EdgeCampaign$Entry", "cost", "()I"⟩ ⟨"EdgeCampaign$Entry", "cost", "()I"⟩) : Cond) ∈ tb := tb_in (List.mem_of_getElem? (i := 484) (by decide +kernel)) (by decide +kernel)
theorem q_114 : ((.fieldLink "EdgeCampaign$Store" 31 "EdgeCampaign$Store" "favoured" "I") : Cond) ∈ tb := tb_in (List.mem_of_getElem? (i := 203) (by decide +kernel)) (by decide +kernel)
theorem q_115 : ((.code y_ST_top b_ST_top 5 (some .int)) : Cond) ∈ tb := tb_in (List.mem_of_getElem? (i := 481) (by decide +kernel)) (by decide +kernel)
theorem q_116 : ((.methodLink "EdgeCampaign$Store" 74 ⟨"EdgeCampaign$Store", "top", "(I)I"⟩) : Cond) ∈ tb := tb_in (List.mem_of_getElem? (i := 478) (by decide +kernel)) (by decide +kernel)
theorem q_117 : ((.initialized "EdgeCampaign$Store") : Cond) ∈ tb := tb_in (List.mem_of_getElem? (i := 52) (by decide +kernel)) (by decide +kernel)
theorem q_118 : ((.instanceMethod ⟨"EdgeCampaign$Store", "top", "(I)I"⟩) : Cond) ∈ tb := tb_in (List.mem_of_getElem? (i := 480) (by decide +kernel)) (by decide +kernel)
theorem q_119 : ((.selects "EdgeCampaign$Store" ⟨"EdgeCampaign$Store", "top", "(I)I"⟩ ⟨"EdgeCampaign$Store", "top", "(I)I"⟩) : Cond) ∈ tb := tb_in (List.mem_of_getElem? (i := 11) (by decide +kernel)) (by decide +kernel)
theorem q_120 : ((.code y_ST_chooseFavoured b_ST_chooseFavoured 2 none) : Cond) ∈ tb := tb_in (List.mem_of_getElem? (i := 477) (by decide +kernel)) (by decide +kernel)
theorem q_121 : ((.methodLink "EdgeCampaign$Store" 65 ⟨"EdgeCampaign$Store", "chooseFavoured", "()V"⟩) : Cond) ∈ tb := tb_in (List.mem_of_getElem? (i := 474) (by decide +kernel)) (by decide +kernel)
theorem q_122 : ((.instanceMethod ⟨"EdgeCampaign$Store", "chooseFavoured", "()V"⟩) : Cond) ∈ tb := tb_in (List.mem_of_getElem? (i := 476) (by decide +kernel)) (by decide +kernel)
theorem q_123 : ((.selects "EdgeCampaign$Store" ⟨"EdgeCampaign$Store", "chooseFavoured", "()V"⟩ ⟨"EdgeCampaign$Store", "chooseFavoured", "()V"⟩) : Cond) ∈ tb := tb_in (List.mem_of_getElem? (i := 10) (by decide +kernel)) (by decide +kernel)
theorem q_124 : ((.code y_IN_copy b_IN_copy 2 none) : Cond) ∈ tb := tb_in (List.mem_of_getElem? (i := 460) (by decide +kernel)) (by decide +kernel)
theorem q_125 : ((.methodLink "EdgeCampaign$Store" 50 ⟨"EdgeCampaign$Input", "copy", "(LEdgeCampaign$Input;)V"⟩) : Cond) ∈ tb := tb_in (List.mem_of_getElem? (i := 457) (by decide +kernel)) (by decide +kernel)
theorem q_126 : ((.instanceMethod ⟨"EdgeCampaign$Input", "copy", "(LEdgeCampaign$Input;)V"⟩) : Cond) ∈ tb := tb_in (List.mem_of_getElem? (i := 458) (by decide +kernel)) (by decide +kernel)
theorem q_127 : ((.selects "EdgeCampaign$Input" ⟨"EdgeCampaign$Input", "copy", "(LEdgeCampaign$Input;)V"⟩ ⟨"EdgeCampaign$Input", "copy", "(LEdgeCampaign$Input;)V"⟩) : Cond) ∈ tb := tb_in (List.mem_of_getElem? (i := 459) (by decide +kernel)) (by decide +kernel)
theorem q_128 : ((.code y_ST_markSeen b_ST_markSeen 3 none) : Cond) ∈ tb := tb_in (List.mem_of_getElem? (i := 473) (by decide +kernel)) (by decide +kernel)
theorem q_129 : ((.methodLink "EdgeCampaign$Store" 61 ⟨"EdgeCampaign$Store", "markSeen", "(II)V"⟩) : Cond) ∈ tb := tb_in (List.mem_of_getElem? (i := 470) (by decide +kernel)) (by decide +kernel)
theorem q_130 : ((.instanceMethod ⟨"EdgeCampaign$Store", "markSeen", "(II)V"⟩) : Cond) ∈ tb := tb_in (List.mem_of_getElem? (i := 472) (by decide +kernel)) (by decide +kernel)
theorem q_131 : ((.selects "EdgeCampaign$Store" ⟨"EdgeCampaign$Store", "markSeen", "(II)V"⟩ ⟨"EdgeCampaign$Store", "markSeen", "(II)V"⟩) : Cond) ∈ tb := tb_in (List.mem_of_getElem? (i := 9) (by decide +kernel)) (by decide +kernel)
theorem q_132 : ((.fieldLink "EdgeCampaign$Finding" 33 "EdgeCampaign$Finding" "trap" "I") : Cond) ∈ tb := tb_in (List.mem_of_getElem? (i := 245) (by decide +kernel)) (by decide +kernel)
theorem q_133 : ((.fieldLink "EdgeCampaign$Finding" 39 "EdgeCampaign$Finding" "here" "I") : Cond) ∈ tb := tb_in (List.mem_of_getElem? (i := 247) (by decide +kernel)) (by decide +kernel)
theorem q_134 : ((.fieldLink "EdgeCampaign$Finding" 43 "EdgeCampaign$Finding" "depth" "I") : Cond) ∈ tb := tb_in (List.mem_of_getElem? (i := 249) (by decide +kernel)) (by decide +kernel)
theorem q_135 : ((.fieldLink "EdgeCampaign$Finding" 21 "EdgeCampaign$Finding" "latestFirst" "[I") : Cond) ∈ tb := tb_in (List.mem_of_getElem? (i := 243) (by decide +kernel)) (by decide +kernel)
theorem q_136 : ((.code y_RU_onStack b_RU_onStack 3 (some .int)) : Cond) ∈ tb := tb_in (List.mem_of_getElem? (i := 501) (by decide +kernel)) (by decide +kernel)
theorem q_137 : ((.methodLink "EdgeCampaign$Finding" 44 ⟨"EdgeCampaign$Run", "onStack", "(I)I"⟩) : Cond) ∈ tb := tb_in (List.mem_of_getElem? (i := 498) (by decide +kernel)) (by decide +kernel)
theorem q_138 : ((.instanceMethod ⟨"EdgeCampaign$Run", "onStack", "(I)I"⟩) : Cond) ∈ tb := tb_in (List.mem_of_getElem? (i := 499) (by decide +kernel)) (by decide +kernel)
theorem q_139 : ((.selects "EdgeCampaign$Run" ⟨"EdgeCampaign$Run", "onStack", "(I)I"⟩ ⟨"EdgeCampaign$Run", "onStack", "(I)I"⟩) : Cond) ∈ tb := tb_in (List.mem_of_getElem? (i := 500) (by decide +kernel)) (by decide +kernel)
theorem q_140 : ((.fieldLink "EdgeCampaign$Findings" 11 "EdgeCampaign$Findings" "made" "[LEdgeCampaign$Finding;") : Cond) ∈ tb := tb_in (List.mem_of_getElem? (i := 269) (by decide +kernel)) (by decide +kernel)
theorem q_141 : ((.fieldLink "EdgeCampaign$Findings" 16 "EdgeCampaign$Findings" "size" "I") : Cond) ∈ tb := tb_in (List.mem_of_getElem? (i := 271) (by decide +kernel)) (by decide +kernel)
theorem q_142 : ((.code y_FI_hasSignOf b_FI_hasSignOf 3 (some .boolean)) : Cond) ∈ tb := tb_in (List.mem_of_getElem? (i := 497) (by decide +kernel)) (by decide +kernel)
theorem q_143 : ((.methodLink "EdgeCampaign$Findings" 20 ⟨"EdgeCampaign$Finding", "hasSignOf", "(LEdgeCampaign$Run;)Z"⟩) : Cond) ∈ tb := tb_in (List.mem_of_getElem? (i := 494) (by decide +kernel)) (by decide +kernel)
theorem q_144 : ((.initialized "EdgeCampaign$Finding") : Cond) ∈ tb := tb_in (List.mem_of_getElem? (i := 55) (by decide +kernel)) (by decide +kernel)
theorem q_145 : ((.instanceMethod ⟨"EdgeCampaign$Finding", "hasSignOf", "(LEdgeCampaign$Run;)Z"⟩) : Cond) ∈ tb := tb_in (List.mem_of_getElem? (i := 495) (by decide +kernel)) (by decide +kernel)
theorem q_146 : ((.selects "EdgeCampaign$Finding" ⟨"EdgeCampaign$Finding", "hasSignOf", "(LEdgeCampaign$Run;)Z"⟩ ⟨"EdgeCampaign$Finding", "hasSignOf", "(LEdgeCampaign$Run;)Z"⟩) : Cond) ∈ tb := tb_in (List.mem_of_getElem? (i := 496) (by decide +kernel)) (by decide +kernel)
theorem q_147 : ((.fieldLink "EdgeCampaign$Finding" 10 "EdgeCampaign$Finding" "input" "LEdgeCampaign$Input;") : Cond) ∈ tb := tb_in (List.mem_of_getElem? (i := 238) (by decide +kernel)) (by decide +kernel)
theorem q_148 : ((.methodLink "EdgeCampaign$Finding" 25 ⟨"EdgeCampaign$Input", "copy", "(LEdgeCampaign$Input;)V"⟩) : Cond) ∈ tb := tb_in (List.mem_of_getElem? (i := 510) (by decide +kernel)) (by decide +kernel)
theorem q_149 : ((.fieldLink "EdgeCampaign$Finding" 16 "EdgeCampaign$Finding" "shortest" "LEdgeCampaign$Input;") : Cond) ∈ tb := tb_in (List.mem_of_getElem? (i := 240) (by decide +kernel)) (by decide +kernel)
theorem q_150 : ((.fieldLink "EdgeCampaign$Finding" 48 "EdgeCampaign$Finding" "hits" "I") : Cond) ∈ tb := tb_in (List.mem_of_getElem? (i := 251) (by decide +kernel)) (by decide +kernel)
theorem q_151 : ((.code y_FI_begin b_FI_begin 4 none) : Cond) ∈ tb := tb_in (List.mem_of_getElem? (i := 509) (by decide +kernel)) (by decide +kernel)
theorem q_152 : ((.methodLink "EdgeCampaign$Findings" 27 ⟨"EdgeCampaign$Finding", "begin", "(LEdgeCampaign$Input;LEdgeCampaign$Run;)V"⟩) : Cond) ∈ tb := tb_in (List.mem_of_getElem? (i := 506) (by decide +kernel)) (by decide +kernel)
theorem q_153 : ((.instanceMethod ⟨"EdgeCampaign$Finding", "begin", "(LEdgeCampaign$Input;LEdgeCampaign$Run;)V"⟩) : Cond) ∈ tb := tb_in (List.mem_of_getElem? (i := 507) (by decide +kernel)) (by decide +kernel)
theorem q_154 : ((.selects "EdgeCampaign$Finding" ⟨"EdgeCampaign$Finding", "begin", "(LEdgeCampaign$Input;LEdgeCampaign$Run;)V"⟩ ⟨"EdgeCampaign$Finding", "begin", "(LEdgeCampaign$Input;LEdgeCampaign$Run;)V"⟩) : Cond) ∈ tb := tb_in (List.mem_of_getElem? (i := 508) (by decide +kernel)) (by decide +kernel)
theorem q_155 : ((.methodLink "EdgeCampaign$Input" 37 ⟨"java/lang/Math", "max", "(II)I"⟩) : Cond) ∈ tb := tb_in (List.mem_of_getElem? (i := 528) (by decide +kernel)) (by decide +kernel)
theorem q_156 : ((.static ⟨"java/lang/Math", "max", "(II)I"⟩) : Cond) ∈ tb := tb_in (List.mem_of_getElem? (i := 529) (by decide +kernel)) (by decide +kernel)
theorem q_157 : ((.code Lib.Math.max.name Lib.Math.max.code 2 (some .int)) : Cond) ∈ tb := tb_in (List.mem_of_getElem? (i := 530) (by decide +kernel)) (by decide +kernel)
theorem q_158 : ((.fieldLink "EdgeCampaign$Shortener" 19 "EdgeCampaign$Shortener" "candidate" "LEdgeCampaign$Input;") : Cond) ∈ tb := tb_in (List.mem_of_getElem? (i := 289) (by decide +kernel)) (by decide +kernel)
theorem q_159 : ((.code y_IN_cutTo b_IN_cutTo 2 none) : Cond) ∈ tb := tb_in (List.mem_of_getElem? (i := 527) (by decide +kernel)) (by decide +kernel)
theorem q_160 : ((.methodLink "EdgeCampaign$Shortener" 64 ⟨"EdgeCampaign$Input", "cutTo", "(I)V"⟩) : Cond) ∈ tb := tb_in (List.mem_of_getElem? (i := 524) (by decide +kernel)) (by decide +kernel)
theorem q_161 : ((.instanceMethod ⟨"EdgeCampaign$Input", "cutTo", "(I)V"⟩) : Cond) ∈ tb := tb_in (List.mem_of_getElem? (i := 525) (by decide +kernel)) (by decide +kernel)
theorem q_162 : ((.selects "EdgeCampaign$Input" ⟨"EdgeCampaign$Input", "cutTo", "(I)V"⟩ ⟨"EdgeCampaign$Input", "cutTo", "(I)V"⟩) : Cond) ∈ tb := tb_in (List.mem_of_getElem? (i := 526) (by decide +kernel)) (by decide +kernel)
theorem q_163 : ((.methodLink "EdgeCampaign$Shortener" 68 ⟨"EdgeCampaign$Input", "appendPart", "(LEdgeCampaign$Input;II)V"⟩) : Cond) ∈ tb := tb_in (List.mem_of_getElem? (i := 531) (by decide +kernel)) (by decide +kernel)
theorem q_164 : ((.methodLink "EdgeCampaign$Shortener" 60 ⟨"EdgeCampaign$Input", "copy", "(LEdgeCampaign$Input;)V"⟩) : Cond) ∈ tb := tb_in (List.mem_of_getElem? (i := 538) (by decide +kernel)) (by decide +kernel)
theorem q_165 : ((.fieldLink "EdgeCampaign$Shortener" 10 "EdgeCampaign$Shortener" "run" "LEdgeCampaign$Run;") : Cond) ∈ tb := tb_in (List.mem_of_getElem? (i := 288) (by decide +kernel)) (by decide +kernel)
theorem q_166 : ((.code y_RU_perform b_RU_perform 4 none) : Cond) ∈ tb := tb_in (List.mem_of_getElem? (i := 398) (by decide +kernel)) (by decide +kernel)
theorem q_167 : ((.methodLink "EdgeCampaign$Shortener" 52 ⟨"EdgeCampaign$Run", "perform", "(LEdgeCampaign$Program;LEdgeCampaign$Input;)V"⟩) : Cond) ∈ tb := tb_in (List.mem_of_getElem? (i := 536) (by decide +kernel)) (by decide +kernel)
theorem q_168 : ((.instanceMethod ⟨"EdgeCampaign$Run", "perform", "(LEdgeCampaign$Program;LEdgeCampaign$Input;)V"⟩) : Cond) ∈ tb := tb_in (List.mem_of_getElem? (i := 396) (by decide +kernel)) (by decide +kernel)
theorem q_169 : ((.selects "EdgeCampaign$Run" ⟨"EdgeCampaign$Run", "perform", "(LEdgeCampaign$Program;LEdgeCampaign$Input;)V"⟩ ⟨"EdgeCampaign$Run", "perform", "(LEdgeCampaign$Program;LEdgeCampaign$Input;)V"⟩) : Cond) ∈ tb := tb_in (List.mem_of_getElem? (i := 397) (by decide +kernel)) (by decide +kernel)
theorem q_170 : ((.methodLink "EdgeCampaign$Shortener" 56 ⟨"EdgeCampaign$Finding", "hasSignOf", "(LEdgeCampaign$Run;)Z"⟩) : Cond) ∈ tb := tb_in (List.mem_of_getElem? (i := 537) (by decide +kernel)) (by decide +kernel)
theorem q_171 : ((.code y_SH_makeRest b_SH_makeRest 4 none) : Cond) ∈ tb := tb_in (List.mem_of_getElem? (i := 535) (by decide +kernel)) (by decide +kernel)
theorem q_172 : ((.methodLink "EdgeCampaign$Shortener" 49 ⟨"EdgeCampaign$Shortener", "makeRest", "(LEdgeCampaign$Input;II)V"⟩) : Cond) ∈ tb := tb_in (List.mem_of_getElem? (i := 532) (by decide +kernel)) (by decide +kernel)
theorem q_173 : ((.initialized "EdgeCampaign$Shortener") : Cond) ∈ tb := tb_in (List.mem_of_getElem? (i := 56) (by decide +kernel)) (by decide +kernel)
theorem q_174 : ((.instanceMethod ⟨"EdgeCampaign$Shortener", "makeRest", "(LEdgeCampaign$Input;II)V"⟩) : Cond) ∈ tb := tb_in (List.mem_of_getElem? (i := 534) (by decide +kernel)) (by decide +kernel)
theorem q_175 : ((.selects "EdgeCampaign$Shortener" ⟨"EdgeCampaign$Shortener", "makeRest", "(LEdgeCampaign$Input;II)V"⟩ ⟨"EdgeCampaign$Shortener", "makeRest", "(LEdgeCampaign$Input;II)V"⟩) : Cond) ∈ tb := tb_in (List.mem_of_getElem? (i := 14) (by decide +kernel)) (by decide +kernel)
theorem q_176 : ((.code y_SH_makePart b_SH_makePart 4 none) : Cond) ∈ tb := tb_in (List.mem_of_getElem? (i := 523) (by decide +kernel)) (by decide +kernel)
theorem q_177 : ((.methodLink "EdgeCampaign$Shortener" 45 ⟨"EdgeCampaign$Shortener", "makePart", "(LEdgeCampaign$Input;II)V"⟩) : Cond) ∈ tb := tb_in (List.mem_of_getElem? (i := 520) (by decide +kernel)) (by decide +kernel)
theorem q_178 : ((.instanceMethod ⟨"EdgeCampaign$Shortener", "makePart", "(LEdgeCampaign$Input;II)V"⟩) : Cond) ∈ tb := tb_in (List.mem_of_getElem? (i := 522) (by decide +kernel)) (by decide +kernel)
theorem q_179 : ((.selects "EdgeCampaign$Shortener" ⟨"EdgeCampaign$Shortener", "makePart", "(LEdgeCampaign$Input;II)V"⟩ ⟨"EdgeCampaign$Shortener", "makePart", "(LEdgeCampaign$Input;II)V"⟩) : Cond) ∈ tb := tb_in (List.mem_of_getElem? (i := 13) (by decide +kernel)) (by decide +kernel)
theorem q_180 : ((.code y_SH_keepFirst b_SH_keepFirst 9 (some .boolean)) : Cond) ∈ tb := tb_in (List.mem_of_getElem? (i := 519) (by decide +kernel)) (by decide +kernel)
theorem q_181 : ((.methodLink "EdgeCampaign$Shortener" 38 ⟨"EdgeCampaign$Shortener", "keepFirst", "(LEdgeCampaign$Finding;LEdgeCampaign$Program;IZ)Z"⟩) : Cond) ∈ tb := tb_in (List.mem_of_getElem? (i := 516) (by decide +kernel)) (by decide +kernel)
theorem q_182 : ((.instanceMethod ⟨"EdgeCampaign$Shortener", "keepFirst", "(LEdgeCampaign$Finding;LEdgeCampaign$Program;IZ)Z"⟩) : Cond) ∈ tb := tb_in (List.mem_of_getElem? (i := 518) (by decide +kernel)) (by decide +kernel)
theorem q_183 : ((.selects "EdgeCampaign$Shortener" ⟨"EdgeCampaign$Shortener", "keepFirst", "(LEdgeCampaign$Finding;LEdgeCampaign$Program;IZ)Z"⟩ ⟨"EdgeCampaign$Shortener", "keepFirst", "(LEdgeCampaign$Finding;LEdgeCampaign$Program;IZ)Z"⟩) : Cond) ∈ tb := tb_in (List.mem_of_getElem? (i := 12) (by decide +kernel)) (by decide +kernel)
theorem q_184 : ((.methodLink "EdgeCampaign$Shortener" 32 ⟨"java/lang/Math", "min", "(II)I"⟩) : Cond) ∈ tb := tb_in (List.mem_of_getElem? (i := 515) (by decide +kernel)) (by decide +kernel)
theorem q_185 : ((.methodLink "EdgeCampaign$Shortener" 42 ⟨"java/lang/Math", "max", "(II)I"⟩) : Cond) ∈ tb := tb_in (List.mem_of_getElem? (i := 539) (by decide +kernel)) (by decide +kernel)
theorem q_186 : ((.fieldLink "EdgeCampaign$Trials" 48 "EdgeCampaign$Trials" "number" "I") : Cond) ∈ tb := tb_in (List.mem_of_getElem? (i := 314) (by decide +kernel)) (by decide +kernel)
theorem q_187 : ((.methodLink "EdgeCampaign$Trials" 90 ⟨"java/lang/Math", "min", "(II)I"⟩) : Cond) ∈ tb := tb_in (List.mem_of_getElem? (i := 555) (by decide +kernel)) (by decide +kernel)
theorem q_188 : ((.code y_ST_isFavoured b_ST_isFavoured 2 (some .boolean)) : Cond) ∈ tb := tb_in (List.mem_of_getElem? (i := 559) (by decide +kernel)) (by decide +kernel)
theorem q_189 : ((.methodLink "EdgeCampaign$Trials" 96 ⟨"EdgeCampaign$Store", "isFavoured", "(I)Z"⟩) : Cond) ∈ tb := tb_in (List.mem_of_getElem? (i := 556) (by decide +kernel)) (by decide +kernel)
theorem q_190 : ((.instanceMethod ⟨"EdgeCampaign$Store", "isFavoured", "(I)Z"⟩) : Cond) ∈ tb := tb_in (List.mem_of_getElem? (i := 557) (by decide +kernel)) (by decide +kernel)
theorem q_191 : ((.selects "EdgeCampaign$Store" ⟨"EdgeCampaign$Store", "isFavoured", "(I)Z"⟩ ⟨"EdgeCampaign$Store", "isFavoured", "(I)Z"⟩) : Cond) ∈ tb := tb_in (List.mem_of_getElem? (i := 558) (by decide +kernel)) (by decide +kernel)
theorem q_192 : ((.fieldLink "EdgeCampaign$Trials" 68 "EdgeCampaign$Trials" "energy" "I") : Cond) ∈ tb := tb_in (List.mem_of_getElem? (i := 316) (by decide +kernel)) (by decide +kernel)
theorem q_193 : ((.fieldLink "EdgeCampaign$Trials" 9 "EdgeCampaign$Trials" "taken" "I") : Cond) ∈ tb := tb_in (List.mem_of_getElem? (i := 312) (by decide +kernel)) (by decide +kernel)
theorem q_194 : ((.code y_TR_firstDrawing b_TR_firstDrawing 1 (some .int)) : Cond) ∈ tb := tb_in (List.mem_of_getElem? (i := 554) (by decide +kernel)) (by decide +kernel)
theorem q_195 : ((.methodLink "EdgeCampaign$Trials" 44 ⟨"EdgeCampaign$Trials", "firstDrawing", "(LEdgeCampaign$Input;)I"⟩) : Cond) ∈ tb := tb_in (List.mem_of_getElem? (i := 552) (by decide +kernel)) (by decide +kernel)
theorem q_196 : ((.initialized "EdgeCampaign$Trials") : Cond) ∈ tb := tb_in (List.mem_of_getElem? (i := 58) (by decide +kernel)) (by decide +kernel)
theorem q_197 : ((.static ⟨"EdgeCampaign$Trials", "firstDrawing", "(LEdgeCampaign$Input;)I"⟩) : Cond) ∈ tb := tb_in (List.mem_of_getElem? (i := 553) (by decide +kernel)) (by decide +kernel)
theorem q_198 : ((.code y_ST_has b_ST_has 2 (some .boolean)) : Cond) ∈ tb := tb_in (List.mem_of_getElem? (i := 547) (by decide +kernel)) (by decide +kernel)
theorem q_199 : ((.methodLink "EdgeCampaign$Trials" 15 ⟨"EdgeCampaign$Store", "has", "(I)Z"⟩) : Cond) ∈ tb := tb_in (List.mem_of_getElem? (i := 544) (by decide +kernel)) (by decide +kernel)
theorem q_200 : ((.instanceMethod ⟨"EdgeCampaign$Store", "has", "(I)Z"⟩) : Cond) ∈ tb := tb_in (List.mem_of_getElem? (i := 545) (by decide +kernel)) (by decide +kernel)
theorem q_201 : ((.selects "EdgeCampaign$Store" ⟨"EdgeCampaign$Store", "has", "(I)Z"⟩ ⟨"EdgeCampaign$Store", "has", "(I)Z"⟩) : Cond) ∈ tb := tb_in (List.mem_of_getElem? (i := 546) (by decide +kernel)) (by decide +kernel)
theorem q_202 : ((.code y_TR_takeUp b_TR_takeUp 4 none) : Cond) ∈ tb := tb_in (List.mem_of_getElem? (i := 551) (by decide +kernel)) (by decide +kernel)
theorem q_203 : ((.methodLink "EdgeCampaign$Trials" 21 ⟨"EdgeCampaign$Trials", "takeUp", "(LEdgeCampaign$Store;I)V"⟩) : Cond) ∈ tb := tb_in (List.mem_of_getElem? (i := 548) (by decide +kernel)) (by decide +kernel)
theorem q_204 : ((.instanceMethod ⟨"EdgeCampaign$Trials", "takeUp", "(LEdgeCampaign$Store;I)V"⟩) : Cond) ∈ tb := tb_in (List.mem_of_getElem? (i := 550) (by decide +kernel)) (by decide +kernel)
theorem q_205 : ((.selects "EdgeCampaign$Trials" ⟨"EdgeCampaign$Trials", "takeUp", "(LEdgeCampaign$Store;I)V"⟩ ⟨"EdgeCampaign$Trials", "takeUp", "(LEdgeCampaign$Store;I)V"⟩) : Cond) ∈ tb := tb_in (List.mem_of_getElem? (i := 15) (by decide +kernel)) (by decide +kernel)
theorem q_206 : ((.fieldLink "EdgeCampaign" 66 "EdgeCampaign" "trials" "LEdgeCampaign$Trials;") : Cond) ∈ tb := tb_in (List.mem_of_getElem? (i := 333) (by decide +kernel)) (by decide +kernel)
theorem q_207 : ((.fieldLink "EdgeCampaign" 36 "EdgeCampaign" "store" "LEdgeCampaign$Store;") : Cond) ∈ tb := tb_in (List.mem_of_getElem? (i := 329) (by decide +kernel)) (by decide +kernel)
theorem q_208 : ((.code y_TR_beginWithFirst b_TR_beginWithFirst 2 none) : Cond) ∈ tb := tb_in (List.mem_of_getElem? (i := 543) (by decide +kernel)) (by decide +kernel)
theorem q_209 : ((.methodLink "EdgeCampaign" 216 ⟨"EdgeCampaign$Trials", "beginWithFirst", "(LEdgeCampaign$Store;)V"⟩) : Cond) ∈ tb := tb_in (List.mem_of_getElem? (i := 540) (by decide +kernel)) (by decide +kernel)
theorem q_210 : ((.instanceMethod ⟨"EdgeCampaign$Trials", "beginWithFirst", "(LEdgeCampaign$Store;)V"⟩) : Cond) ∈ tb := tb_in (List.mem_of_getElem? (i := 541) (by decide +kernel)) (by decide +kernel)
theorem q_211 : ((.selects "EdgeCampaign$Trials" ⟨"EdgeCampaign$Trials", "beginWithFirst", "(LEdgeCampaign$Store;)V"⟩ ⟨"EdgeCampaign$Trials", "beginWithFirst", "(LEdgeCampaign$Store;)V"⟩) : Cond) ∈ tb := tb_in (List.mem_of_getElem? (i := 542) (by decide +kernel)) (by decide +kernel)
theorem q_212 : ((.fieldLink "EdgeCampaign" 29 "EdgeCampaign" "run" "LEdgeCampaign$Run;") : Cond) ∈ tb := tb_in (List.mem_of_getElem? (i := 328) (by decide +kernel)) (by decide +kernel)
theorem q_213 : ((.code y_RU_hasTrapped b_RU_hasTrapped 1 (some .boolean)) : Cond) ∈ tb := tb_in (List.mem_of_getElem? (i := 489) (by decide +kernel)) (by decide +kernel)
theorem q_214 : ((.methodLink "EdgeCampaign" 201 ⟨"EdgeCampaign$Run", "hasTrapped", "()Z"⟩) : Cond) ∈ tb := tb_in (List.mem_of_getElem? (i := 486) (by decide +kernel)) (by decide +kernel)
theorem q_215 : ((.instanceMethod ⟨"EdgeCampaign$Run", "hasTrapped", "()Z"⟩) : Cond) ∈ tb := tb_in (List.mem_of_getElem? (i := 487) (by decide +kernel)) (by decide +kernel)
theorem q_216 : ((.selects "EdgeCampaign$Run" ⟨"EdgeCampaign$Run", "hasTrapped", "()Z"⟩ ⟨"EdgeCampaign$Run", "hasTrapped", "()Z"⟩) : Cond) ∈ tb := tb_in (List.mem_of_getElem? (i := 488) (by decide +kernel)) (by decide +kernel)
theorem q_217 : ((.fieldLink "EdgeCampaign" 43 "EdgeCampaign" "findings" "LEdgeCampaign$Findings;") : Cond) ∈ tb := tb_in (List.mem_of_getElem? (i := 330) (by decide +kernel)) (by decide +kernel)
theorem q_218 : ((.code y_FS_countHit b_FS_countHit 3 (some .boolean)) : Cond) ∈ tb := tb_in (List.mem_of_getElem? (i := 493) (by decide +kernel)) (by decide +kernel)
theorem q_219 : ((.methodLink "EdgeCampaign" 205 ⟨"EdgeCampaign$Findings", "countHit", "(LEdgeCampaign$Run;)Z"⟩) : Cond) ∈ tb := tb_in (List.mem_of_getElem? (i := 490) (by decide +kernel)) (by decide +kernel)
theorem q_220 : ((.initialized "EdgeCampaign$Findings") : Cond) ∈ tb := tb_in (List.mem_of_getElem? (i := 54) (by decide +kernel)) (by decide +kernel)
theorem q_221 : ((.instanceMethod ⟨"EdgeCampaign$Findings", "countHit", "(LEdgeCampaign$Run;)Z"⟩) : Cond) ∈ tb := tb_in (List.mem_of_getElem? (i := 491) (by decide +kernel)) (by decide +kernel)
theorem q_222 : ((.selects "EdgeCampaign$Findings" ⟨"EdgeCampaign$Findings", "countHit", "(LEdgeCampaign$Run;)Z"⟩ ⟨"EdgeCampaign$Findings", "countHit", "(LEdgeCampaign$Run;)Z"⟩) : Cond) ∈ tb := tb_in (List.mem_of_getElem? (i := 492) (by decide +kernel)) (by decide +kernel)
theorem q_223 : ((.code y_FS_begin b_FS_begin 4 (some (.object "EdgeCampaign$Finding"))) : Cond) ∈ tb := tb_in (List.mem_of_getElem? (i := 505) (by decide +kernel)) (by decide +kernel)
theorem q_224 : ((.methodLink "EdgeCampaign" 208 ⟨"EdgeCampaign$Findings", "begin", "(LEdgeCampaign$Input;LEdgeCampaign$Run;)LEdgeCampaign$Finding;"⟩) : Cond) ∈ tb := tb_in (List.mem_of_getElem? (i := 502) (by decide +kernel)) (by decide +kernel)
theorem q_225 : ((.instanceMethod ⟨"EdgeCampaign$Findings", "begin", "(LEdgeCampaign$Input;LEdgeCampaign$Run;)LEdgeCampaign$Finding;"⟩) : Cond) ∈ tb := tb_in (List.mem_of_getElem? (i := 503) (by decide +kernel)) (by decide +kernel)
theorem q_226 : ((.selects "EdgeCampaign$Findings" ⟨"EdgeCampaign$Findings", "begin", "(LEdgeCampaign$Input;LEdgeCampaign$Run;)LEdgeCampaign$Finding;"⟩ ⟨"EdgeCampaign$Findings", "begin", "(LEdgeCampaign$Input;LEdgeCampaign$Run;)LEdgeCampaign$Finding;"⟩) : Cond) ∈ tb := tb_in (List.mem_of_getElem? (i := 504) (by decide +kernel)) (by decide +kernel)
theorem q_227 : ((.fieldLink "EdgeCampaign" 77 "EdgeCampaign" "lost" "I") : Cond) ∈ tb := tb_in (List.mem_of_getElem? (i := 336) (by decide +kernel)) (by decide +kernel)
theorem q_228 : ((.fieldLink "EdgeCampaign" 50 "EdgeCampaign" "shortener" "LEdgeCampaign$Shortener;") : Cond) ∈ tb := tb_in (List.mem_of_getElem? (i := 331) (by decide +kernel)) (by decide +kernel)
theorem q_229 : ((.code y_SH_shorten b_SH_shorten 7 none) : Cond) ∈ tb := tb_in (List.mem_of_getElem? (i := 514) (by decide +kernel)) (by decide +kernel)
theorem q_230 : ((.methodLink "EdgeCampaign" 212 ⟨"EdgeCampaign$Shortener", "shorten", "(LEdgeCampaign$Finding;LEdgeCampaign$Program;)V"⟩) : Cond) ∈ tb := tb_in (List.mem_of_getElem? (i := 511) (by decide +kernel)) (by decide +kernel)
theorem q_231 : ((.instanceMethod ⟨"EdgeCampaign$Shortener", "shorten", "(LEdgeCampaign$Finding;LEdgeCampaign$Program;)V"⟩) : Cond) ∈ tb := tb_in (List.mem_of_getElem? (i := 512) (by decide +kernel)) (by decide +kernel)
theorem q_232 : ((.selects "EdgeCampaign$Shortener" ⟨"EdgeCampaign$Shortener", "shorten", "(LEdgeCampaign$Finding;LEdgeCampaign$Program;)V"⟩ ⟨"EdgeCampaign$Shortener", "shorten", "(LEdgeCampaign$Finding;LEdgeCampaign$Program;)V"⟩) : Cond) ∈ tb := tb_in (List.mem_of_getElem? (i := 513) (by decide +kernel)) (by decide +kernel)
theorem q_233 : ((.code y_ST_hasNews b_ST_hasNews 4 (some .boolean)) : Cond) ∈ tb := tb_in (List.mem_of_getElem? (i := 448) (by decide +kernel)) (by decide +kernel)
theorem q_234 : ((.methodLink "EdgeCampaign" 193 ⟨"EdgeCampaign$Store", "hasNews", "(LEdgeCampaign$Run;)Z"⟩) : Cond) ∈ tb := tb_in (List.mem_of_getElem? (i := 445) (by decide +kernel)) (by decide +kernel)
theorem q_235 : ((.instanceMethod ⟨"EdgeCampaign$Store", "hasNews", "(LEdgeCampaign$Run;)Z"⟩) : Cond) ∈ tb := tb_in (List.mem_of_getElem? (i := 446) (by decide +kernel)) (by decide +kernel)
theorem q_236 : ((.selects "EdgeCampaign$Store" ⟨"EdgeCampaign$Store", "hasNews", "(LEdgeCampaign$Run;)Z"⟩ ⟨"EdgeCampaign$Store", "hasNews", "(LEdgeCampaign$Run;)Z"⟩) : Cond) ∈ tb := tb_in (List.mem_of_getElem? (i := 447) (by decide +kernel)) (by decide +kernel)
theorem q_237 : ((.code y_ST_keep b_ST_keep 5 (some .boolean)) : Cond) ∈ tb := tb_in (List.mem_of_getElem? (i := 456) (by decide +kernel)) (by decide +kernel)
theorem q_238 : ((.methodLink "EdgeCampaign" 197 ⟨"EdgeCampaign$Store", "keep", "(LEdgeCampaign$Input;LEdgeCampaign$Run;)Z"⟩) : Cond) ∈ tb := tb_in (List.mem_of_getElem? (i := 453) (by decide +kernel)) (by decide +kernel)
theorem q_239 : ((.instanceMethod ⟨"EdgeCampaign$Store", "keep", "(LEdgeCampaign$Input;LEdgeCampaign$Run;)Z"⟩) : Cond) ∈ tb := tb_in (List.mem_of_getElem? (i := 454) (by decide +kernel)) (by decide +kernel)
theorem q_240 : ((.selects "EdgeCampaign$Store" ⟨"EdgeCampaign$Store", "keep", "(LEdgeCampaign$Input;LEdgeCampaign$Run;)Z"⟩ ⟨"EdgeCampaign$Store", "keep", "(LEdgeCampaign$Input;LEdgeCampaign$Run;)Z"⟩) : Cond) ∈ tb := tb_in (List.mem_of_getElem? (i := 455) (by decide +kernel)) (by decide +kernel)
theorem q_241 : ((.methodLink "EdgeCampaign" 186 ⟨"EdgeCampaign$Run", "perform", "(LEdgeCampaign$Program;LEdgeCampaign$Input;)V"⟩) : Cond) ∈ tb := tb_in (List.mem_of_getElem? (i := 395) (by decide +kernel)) (by decide +kernel)
theorem q_242 : ((.fieldLink "EdgeCampaign" 74 "EdgeCampaign" "hangs" "I") : Cond) ∈ tb := tb_in (List.mem_of_getElem? (i := 335) (by decide +kernel)) (by decide +kernel)
theorem q_243 : ((.code y_EC_execute b_EC_execute 3 (some .int)) : Cond) ∈ tb := tb_in (List.mem_of_getElem? (i := 394) (by decide +kernel)) (by decide +kernel)
theorem q_244 : ((.methodLink "EdgeCampaign" 87 ⟨"EdgeCampaign", "execute", "(LEdgeCampaign$Input;)I"⟩) : Cond) ∈ tb := tb_in (List.mem_of_getElem? (i := 391) (by decide +kernel)) (by decide +kernel)
theorem q_245 : ((.initialized "EdgeCampaign") : Cond) ∈ tb := tb_in (List.mem_of_getElem? (i := 48) (by decide +kernel)) (by decide +kernel)
theorem q_246 : ((.instanceMethod ⟨"EdgeCampaign", "execute", "(LEdgeCampaign$Input;)I"⟩) : Cond) ∈ tb := tb_in (List.mem_of_getElem? (i := 393) (by decide +kernel)) (by decide +kernel)
theorem q_247 : ((.selects "EdgeCampaign" ⟨"EdgeCampaign", "execute", "(LEdgeCampaign$Input;)I"⟩ ⟨"EdgeCampaign", "execute", "(LEdgeCampaign$Input;)I"⟩) : Cond) ∈ tb := tb_in (List.mem_of_getElem? (i := 0) (by decide +kernel)) (by decide +kernel)
theorem q_248 : ((.methodLink "EdgeCampaign" 91 ⟨"EdgeCampaign$Input", "cutTo", "(I)V"⟩) : Cond) ∈ tb := tb_in (List.mem_of_getElem? (i := 560) (by decide +kernel)) (by decide +kernel)
theorem q_249 : ((.code y_IN_put b_IN_put 3 none) : Cond) ∈ tb := tb_in (List.mem_of_getElem? (i := 577) (by decide +kernel)) (by decide +kernel)
theorem q_250 : ((.methodLink "EdgeCampaign$Input" 40 ⟨"EdgeCampaign$Input", "put", "(II)V"⟩) : Cond) ∈ tb := tb_in (List.mem_of_getElem? (i := 574) (by decide +kernel)) (by decide +kernel)
theorem q_251 : ((.instanceMethod ⟨"EdgeCampaign$Input", "put", "(II)V"⟩) : Cond) ∈ tb := tb_in (List.mem_of_getElem? (i := 575) (by decide +kernel)) (by decide +kernel)
theorem q_252 : ((.selects "EdgeCampaign$Input" ⟨"EdgeCampaign$Input", "put", "(II)V"⟩ ⟨"EdgeCampaign$Input", "put", "(II)V"⟩) : Cond) ∈ tb := tb_in (List.mem_of_getElem? (i := 576) (by decide +kernel)) (by decide +kernel)
theorem q_253 : ((.fieldLink "EdgeCampaign$Generator" 7 "EdgeCampaign$Generator" "x" "I") : Cond) ∈ tb := tb_in (List.mem_of_getElem? (i := 301) (by decide +kernel)) (by decide +kernel)
theorem q_254 : ((.constant "EdgeCampaign$Generator" 13 2147483647) : Cond) ∈ tb := tb_in (List.mem_of_getElem? (i := 594) (by decide +kernel)) (by decide +kernel)
theorem q_255 : ((.code y_GE_draw b_GE_draw 2 (some .int)) : Cond) ∈ tb := tb_in (List.mem_of_getElem? (i := 593) (by decide +kernel)) (by decide +kernel)
theorem q_256 : ((.methodLink "EdgeCampaign$Trials" 103 ⟨"EdgeCampaign$Generator", "draw", "(I)I"⟩) : Cond) ∈ tb := tb_in (List.mem_of_getElem? (i := 590) (by decide +kernel)) (by decide +kernel)
theorem q_257 : ((.initialized "EdgeCampaign$Generator") : Cond) ∈ tb := tb_in (List.mem_of_getElem? (i := 57) (by decide +kernel)) (by decide +kernel)
theorem q_258 : ((.instanceMethod ⟨"EdgeCampaign$Generator", "draw", "(I)I"⟩) : Cond) ∈ tb := tb_in (List.mem_of_getElem? (i := 591) (by decide +kernel)) (by decide +kernel)
theorem q_259 : ((.selects "EdgeCampaign$Generator" ⟨"EdgeCampaign$Generator", "draw", "(I)I"⟩ ⟨"EdgeCampaign$Generator", "draw", "(I)I"⟩) : Cond) ∈ tb := tb_in (List.mem_of_getElem? (i := 592) (by decide +kernel)) (by decide +kernel)
theorem q_260 : ((.code y_IN_insert b_IN_insert 4 none) : Cond) ∈ tb := tb_in (List.mem_of_getElem? (i := 601) (by decide +kernel)) (by decide +kernel)
theorem q_261 : ((.methodLink "EdgeCampaign$Trials" 115 ⟨"EdgeCampaign$Input", "insert", "(II)V"⟩) : Cond) ∈ tb := tb_in (List.mem_of_getElem? (i := 598) (by decide +kernel)) (by decide +kernel)
theorem q_262 : ((.instanceMethod ⟨"EdgeCampaign$Input", "insert", "(II)V"⟩) : Cond) ∈ tb := tb_in (List.mem_of_getElem? (i := 599) (by decide +kernel)) (by decide +kernel)
theorem q_263 : ((.selects "EdgeCampaign$Input" ⟨"EdgeCampaign$Input", "insert", "(II)V"⟩ ⟨"EdgeCampaign$Input", "insert", "(II)V"⟩) : Cond) ∈ tb := tb_in (List.mem_of_getElem? (i := 600) (by decide +kernel)) (by decide +kernel)
theorem q_264 : ((.code y_IN_addTo b_IN_addTo 3 none) : Cond) ∈ tb := tb_in (List.mem_of_getElem? (i := 583) (by decide +kernel)) (by decide +kernel)
theorem q_265 : ((.methodLink "EdgeCampaign$Trials" 59 ⟨"EdgeCampaign$Input", "addTo", "(II)V"⟩) : Cond) ∈ tb := tb_in (List.mem_of_getElem? (i := 580) (by decide +kernel)) (by decide +kernel)
theorem q_266 : ((.instanceMethod ⟨"EdgeCampaign$Input", "addTo", "(II)V"⟩) : Cond) ∈ tb := tb_in (List.mem_of_getElem? (i := 581) (by decide +kernel)) (by decide +kernel)
theorem q_267 : ((.selects "EdgeCampaign$Input" ⟨"EdgeCampaign$Input", "addTo", "(II)V"⟩ ⟨"EdgeCampaign$Input", "addTo", "(II)V"⟩) : Cond) ∈ tb := tb_in (List.mem_of_getElem? (i := 582) (by decide +kernel)) (by decide +kernel)
theorem q_268 : ((.code y_IN_turnBit b_IN_turnBit 3 none) : Cond) ∈ tb := tb_in (List.mem_of_getElem? (i := 573) (by decide +kernel)) (by decide +kernel)
theorem q_269 : ((.methodLink "EdgeCampaign$Trials" 51 ⟨"EdgeCampaign$Input", "turnBit", "(II)V"⟩) : Cond) ∈ tb := tb_in (List.mem_of_getElem? (i := 570) (by decide +kernel)) (by decide +kernel)
theorem q_270 : ((.instanceMethod ⟨"EdgeCampaign$Input", "turnBit", "(II)V"⟩) : Cond) ∈ tb := tb_in (List.mem_of_getElem? (i := 571) (by decide +kernel)) (by decide +kernel)
theorem q_271 : ((.selects "EdgeCampaign$Input" ⟨"EdgeCampaign$Input", "turnBit", "(II)V"⟩ ⟨"EdgeCampaign$Input", "turnBit", "(II)V"⟩) : Cond) ∈ tb := tb_in (List.mem_of_getElem? (i := 572) (by decide +kernel)) (by decide +kernel)
theorem q_272 : ((.methodLink "EdgeCampaign$Trials" 65 ⟨"EdgeCampaign$Input", "put", "(II)V"⟩) : Cond) ∈ tb := tb_in (List.mem_of_getElem? (i := 586) (by decide +kernel)) (by decide +kernel)
theorem q_273 : ((.code y_IN_takeOut b_IN_takeOut 3 none) : Cond) ∈ tb := tb_in (List.mem_of_getElem? (i := 608) (by decide +kernel)) (by decide +kernel)
theorem q_274 : ((.methodLink "EdgeCampaign$Trials" 118 ⟨"EdgeCampaign$Input", "takeOut", "(I)V"⟩) : Cond) ∈ tb := tb_in (List.mem_of_getElem? (i := 605) (by decide +kernel)) (by decide +kernel)
theorem q_275 : ((.instanceMethod ⟨"EdgeCampaign$Input", "takeOut", "(I)V"⟩) : Cond) ∈ tb := tb_in (List.mem_of_getElem? (i := 606) (by decide +kernel)) (by decide +kernel)
theorem q_276 : ((.selects "EdgeCampaign$Input" ⟨"EdgeCampaign$Input", "takeOut", "(I)V"⟩ ⟨"EdgeCampaign$Input", "takeOut", "(I)V"⟩) : Cond) ∈ tb := tb_in (List.mem_of_getElem? (i := 607) (by decide +kernel)) (by decide +kernel)
theorem q_277 : ((.code y_TR_changeDrawn b_TR_changeDrawn 5 none) : Cond) ∈ tb := tb_in (List.mem_of_getElem? (i := 604) (by decide +kernel)) (by decide +kernel)
theorem q_278 : ((.methodLink "EdgeCampaign$Trials" 111 ⟨"EdgeCampaign$Trials", "changeDrawn", "(ILEdgeCampaign$Input;LEdgeCampaign$Generator;)V"⟩) : Cond) ∈ tb := tb_in (List.mem_of_getElem? (i := 602) (by decide +kernel)) (by decide +kernel)
theorem q_279 : ((.static ⟨"EdgeCampaign$Trials", "changeDrawn", "(ILEdgeCampaign$Input;LEdgeCampaign$Generator;)V"⟩) : Cond) ∈ tb := tb_in (List.mem_of_getElem? (i := 603) (by decide +kernel)) (by decide +kernel)
theorem q_280 : ((.code y_TR_insertDrawn b_TR_insertDrawn 3 none) : Cond) ∈ tb := tb_in (List.mem_of_getElem? (i := 597) (by decide +kernel)) (by decide +kernel)
theorem q_281 : ((.methodLink "EdgeCampaign$Trials" 108 ⟨"EdgeCampaign$Trials", "insertDrawn", "(LEdgeCampaign$Input;LEdgeCampaign$Generator;)V"⟩) : Cond) ∈ tb := tb_in (List.mem_of_getElem? (i := 595) (by decide +kernel)) (by decide +kernel)
theorem q_282 : ((.static ⟨"EdgeCampaign$Trials", "insertDrawn", "(LEdgeCampaign$Input;LEdgeCampaign$Generator;)V"⟩) : Cond) ∈ tb := tb_in (List.mem_of_getElem? (i := 596) (by decide +kernel)) (by decide +kernel)
theorem q_283 : ((.methodLink "EdgeCampaign$Trials" 122 ⟨"EdgeCampaign$Input", "cutTo", "(I)V"⟩) : Cond) ∈ tb := tb_in (List.mem_of_getElem? (i := 613) (by decide +kernel)) (by decide +kernel)
theorem q_284 : ((.methodLink "EdgeCampaign$Trials" 125 ⟨"EdgeCampaign$Input", "appendPart", "(LEdgeCampaign$Input;II)V"⟩) : Cond) ∈ tb := tb_in (List.mem_of_getElem? (i := 614) (by decide +kernel)) (by decide +kernel)
theorem q_285 : ((.methodLink "EdgeCampaign$Trials" 35 ⟨"EdgeCampaign$Input", "copy", "(LEdgeCampaign$Input;)V"⟩) : Cond) ∈ tb := tb_in (List.mem_of_getElem? (i := 569) (by decide +kernel)) (by decide +kernel)
theorem q_286 : ((.code y_TR_joinPartner b_TR_joinPartner 8 none) : Cond) ∈ tb := tb_in (List.mem_of_getElem? (i := 612) (by decide +kernel)) (by decide +kernel)
theorem q_287 : ((.methodLink "EdgeCampaign$Trials" 75 ⟨"EdgeCampaign$Trials", "joinPartner", "(LEdgeCampaign$Input;LEdgeCampaign$Store;LEdgeCampaign$Generator;)V"⟩) : Cond) ∈ tb := tb_in (List.mem_of_getElem? (i := 609) (by decide +kernel)) (by decide +kernel)
theorem q_288 : ((.instanceMethod ⟨"EdgeCampaign$Trials", "joinPartner", "(LEdgeCampaign$Input;LEdgeCampaign$Store;LEdgeCampaign$Generator;)V"⟩) : Cond) ∈ tb := tb_in (List.mem_of_getElem? (i := 611) (by decide +kernel)) (by decide +kernel)
theorem q_289 : ((.selects "EdgeCampaign$Trials" ⟨"EdgeCampaign$Trials", "joinPartner", "(LEdgeCampaign$Input;LEdgeCampaign$Store;LEdgeCampaign$Generator;)V"⟩ ⟨"EdgeCampaign$Trials", "joinPartner", "(LEdgeCampaign$Input;LEdgeCampaign$Store;LEdgeCampaign$Generator;)V"⟩) : Cond) ∈ tb := tb_in (List.mem_of_getElem? (i := 16) (by decide +kernel)) (by decide +kernel)
theorem q_290 : ((.code y_TR_changeByDraws b_TR_changeByDraws 5 none) : Cond) ∈ tb := tb_in (List.mem_of_getElem? (i := 589) (by decide +kernel)) (by decide +kernel)
theorem q_291 : ((.methodLink "EdgeCampaign$Trials" 71 ⟨"EdgeCampaign$Trials", "changeByDraws", "(LEdgeCampaign$Input;LEdgeCampaign$Generator;)V"⟩) : Cond) ∈ tb := tb_in (List.mem_of_getElem? (i := 587) (by decide +kernel)) (by decide +kernel)
theorem q_292 : ((.static ⟨"EdgeCampaign$Trials", "changeByDraws", "(LEdgeCampaign$Input;LEdgeCampaign$Generator;)V"⟩) : Cond) ∈ tb := tb_in (List.mem_of_getElem? (i := 588) (by decide +kernel)) (by decide +kernel)
theorem q_293 : ((.fieldLink "EdgeCampaign$Trials" 62 "EdgeCampaign$Trials" "PUT" "[I") : Cond) ∈ tb := tb_in (List.mem_of_getElem? (i := 584) (by decide +kernel)) (by decide +kernel)
theorem q_294 : ((.fieldLink "EdgeCampaign$Trials" 55 "EdgeCampaign$Trials" "ADDED" "[I") : Cond) ∈ tb := tb_in (List.mem_of_getElem? (i := 578) (by decide +kernel)) (by decide +kernel)
theorem q_295 : ((.code y_ST_behind b_ST_behind 2 (some .int)) : Cond) ∈ tb := tb_in (List.mem_of_getElem? (i := 626) (by decide +kernel)) (by decide +kernel)
theorem q_296 : ((.methodLink "EdgeCampaign$Trials" 99 ⟨"EdgeCampaign$Store", "behind", "(I)I"⟩) : Cond) ∈ tb := tb_in (List.mem_of_getElem? (i := 623) (by decide +kernel)) (by decide +kernel)
theorem q_297 : ((.instanceMethod ⟨"EdgeCampaign$Store", "behind", "(I)I"⟩) : Cond) ∈ tb := tb_in (List.mem_of_getElem? (i := 624) (by decide +kernel)) (by decide +kernel)
theorem q_298 : ((.selects "EdgeCampaign$Store" ⟨"EdgeCampaign$Store", "behind", "(I)I"⟩ ⟨"EdgeCampaign$Store", "behind", "(I)I"⟩) : Cond) ∈ tb := tb_in (List.mem_of_getElem? (i := 625) (by decide +kernel)) (by decide +kernel)
theorem q_299 : ((.code y_TR_next b_TR_next 4 (some .int)) : Cond) ∈ tb := tb_in (List.mem_of_getElem? (i := 622) (by decide +kernel)) (by decide +kernel)
theorem q_300 : ((.methodLink "EdgeCampaign$Trials" 83 ⟨"EdgeCampaign$Trials", "next", "(LEdgeCampaign$Store;)I"⟩) : Cond) ∈ tb := tb_in (List.mem_of_getElem? (i := 619) (by decide +kernel)) (by decide +kernel)
theorem q_301 : ((.instanceMethod ⟨"EdgeCampaign$Trials", "next", "(LEdgeCampaign$Store;)I"⟩) : Cond) ∈ tb := tb_in (List.mem_of_getElem? (i := 621) (by decide +kernel)) (by decide +kernel)
theorem q_302 : ((.selects "EdgeCampaign$Trials" ⟨"EdgeCampaign$Trials", "next", "(LEdgeCampaign$Store;)I"⟩ ⟨"EdgeCampaign$Trials", "next", "(LEdgeCampaign$Store;)I"⟩) : Cond) ∈ tb := tb_in (List.mem_of_getElem? (i := 17) (by decide +kernel)) (by decide +kernel)
theorem q_303 : ((.fieldLink "EdgeCampaign" 23 "EdgeCampaign" "changed" "LEdgeCampaign$Input;") : Cond) ∈ tb := tb_in (List.mem_of_getElem? (i := 327) (by decide +kernel)) (by decide +kernel)
theorem q_304 : ((.fieldLink "EdgeCampaign" 59 "EdgeCampaign" "generator" "LEdgeCampaign$Generator;") : Cond) ∈ tb := tb_in (List.mem_of_getElem? (i := 332) (by decide +kernel)) (by decide +kernel)
theorem q_305 : ((.code y_TR_change b_TR_change 8 none) : Cond) ∈ tb := tb_in (List.mem_of_getElem? (i := 568) (by decide +kernel)) (by decide +kernel)
theorem q_306 : ((.methodLink "EdgeCampaign" 97 ⟨"EdgeCampaign$Trials", "change", "(LEdgeCampaign$Input;LEdgeCampaign$Store;LEdgeCampaign$Generator;)V"⟩) : Cond) ∈ tb := tb_in (List.mem_of_getElem? (i := 565) (by decide +kernel)) (by decide +kernel)
theorem q_307 : ((.instanceMethod ⟨"EdgeCampaign$Trials", "change", "(LEdgeCampaign$Input;LEdgeCampaign$Store;LEdgeCampaign$Generator;)V"⟩) : Cond) ∈ tb := tb_in (List.mem_of_getElem? (i := 566) (by decide +kernel)) (by decide +kernel)
theorem q_308 : ((.selects "EdgeCampaign$Trials" ⟨"EdgeCampaign$Trials", "change", "(LEdgeCampaign$Input;LEdgeCampaign$Store;LEdgeCampaign$Generator;)V"⟩ ⟨"EdgeCampaign$Trials", "change", "(LEdgeCampaign$Input;LEdgeCampaign$Store;LEdgeCampaign$Generator;)V"⟩) : Cond) ∈ tb := tb_in (List.mem_of_getElem? (i := 567) (by decide +kernel)) (by decide +kernel)
theorem q_309 : ((.code y_TR_advance b_TR_advance 3 none) : Cond) ∈ tb := tb_in (List.mem_of_getElem? (i := 618) (by decide +kernel)) (by decide +kernel)
theorem q_310 : ((.methodLink "EdgeCampaign" 101 ⟨"EdgeCampaign$Trials", "advance", "(LEdgeCampaign$Store;)V"⟩) : Cond) ∈ tb := tb_in (List.mem_of_getElem? (i := 615) (by decide +kernel)) (by decide +kernel)
theorem q_311 : ((.instanceMethod ⟨"EdgeCampaign$Trials", "advance", "(LEdgeCampaign$Store;)V"⟩) : Cond) ∈ tb := tb_in (List.mem_of_getElem? (i := 616) (by decide +kernel)) (by decide +kernel)
theorem q_312 : ((.selects "EdgeCampaign$Trials" ⟨"EdgeCampaign$Trials", "advance", "(LEdgeCampaign$Store;)V"⟩ ⟨"EdgeCampaign$Trials", "advance", "(LEdgeCampaign$Store;)V"⟩) : Cond) ∈ tb := tb_in (List.mem_of_getElem? (i := 617) (by decide +kernel)) (by decide +kernel)
theorem q_313 : ((.methodLink "EdgeCampaign" 112 ⟨"EdgeCampaign$Store", "has", "(I)Z"⟩) : Cond) ∈ tb := tb_in (List.mem_of_getElem? (i := 635) (by decide +kernel)) (by decide +kernel)
theorem q_314 : ((.methodLink "EdgeCampaign" 134 ⟨"EdgeCampaign$Store", "isFavoured", "(I)Z"⟩) : Cond) ∈ tb := tb_in (List.mem_of_getElem? (i := 636) (by decide +kernel)) (by decide +kernel)
theorem q_315 : ((.methodLink "EdgeCampaign" 137 ⟨"EdgeCampaign$Input", "at", "(I)I"⟩) : Cond) ∈ tb := tb_in (List.mem_of_getElem? (i := 641) (by decide +kernel)) (by decide +kernel)
theorem q_316 : ((.methodLink "EdgeCampaign" 141 ⟨"EdgeCampaign$Program", "isPlace", "(I)Z"⟩) : Cond) ∈ tb := tb_in (List.mem_of_getElem? (i := 646) (by decide +kernel)) (by decide +kernel)
theorem q_317 : ((.code y_FS_has b_FS_has 2 (some .boolean)) : Cond) ∈ tb := tb_in (List.mem_of_getElem? (i := 654) (by decide +kernel)) (by decide +kernel)
theorem q_318 : ((.methodLink "EdgeCampaign" 148 ⟨"EdgeCampaign$Findings", "has", "(I)Z"⟩) : Cond) ∈ tb := tb_in (List.mem_of_getElem? (i := 651) (by decide +kernel)) (by decide +kernel)
theorem q_319 : ((.instanceMethod ⟨"EdgeCampaign$Findings", "has", "(I)Z"⟩) : Cond) ∈ tb := tb_in (List.mem_of_getElem? (i := 652) (by decide +kernel)) (by decide +kernel)
theorem q_320 : ((.selects "EdgeCampaign$Findings" ⟨"EdgeCampaign$Findings", "has", "(I)Z"⟩ ⟨"EdgeCampaign$Findings", "has", "(I)Z"⟩) : Cond) ∈ tb := tb_in (List.mem_of_getElem? (i := 653) (by decide +kernel)) (by decide +kernel)
theorem q_321 : ((.code y_MO_within b_MO_within 2 (some .boolean)) : Cond) ∈ tb := tb_in (List.mem_of_getElem? (i := 818) (by decide +kernel)) (by decide +kernel)
theorem q_322 : ((.methodLink "EdgeCampaignModel" 89 ⟨"EdgeCampaignModel", "within", "(II)Z"⟩) : Cond) ∈ tb := tb_in (List.mem_of_getElem? (i := 816) (by decide +kernel)) (by decide +kernel)
theorem q_323 : ((.initialized "EdgeCampaignModel") : Cond) ∈ tb := tb_in (List.mem_of_getElem? (i := 59) (by decide +kernel)) (by decide +kernel)
theorem q_324 : ((.static ⟨"EdgeCampaignModel", "within", "(II)Z"⟩) : Cond) ∈ tb := tb_in (List.mem_of_getElem? (i := 817) (by decide +kernel)) (by decide +kernel)
theorem q_325 : ((.code y_MO_fits b_MO_fits 2 (some .boolean)) : Cond) ∈ tb := tb_in (List.mem_of_getElem? (i := 821) (by decide +kernel)) (by decide +kernel)
theorem q_326 : ((.methodLink "EdgeCampaignModel" 93 ⟨"EdgeCampaignModel", "fits", "(II)Z"⟩) : Cond) ∈ tb := tb_in (List.mem_of_getElem? (i := 819) (by decide +kernel)) (by decide +kernel)
theorem q_327 : ((.static ⟨"EdgeCampaignModel", "fits", "(II)Z"⟩) : Cond) ∈ tb := tb_in (List.mem_of_getElem? (i := 820) (by decide +kernel)) (by decide +kernel)
theorem q_328 : ((.fieldLink "EdgeCampaignModel" 96 "EdgeCampaignModel" "size" "I") : Cond) ∈ tb := tb_in (List.mem_of_getElem? (i := 676) (by decide +kernel)) (by decide +kernel)
theorem q_329 : ((.fieldLink "EdgeCampaignModel" 99 "EdgeCampaignModel" "executions" "I") : Cond) ∈ tb := tb_in (List.mem_of_getElem? (i := 708) (by decide +kernel)) (by decide +kernel)
theorem q_330 : ((.fieldLink "EdgeCampaignModel" 7 "EdgeCampaignModel" "ops" "[I") : Cond) ∈ tb := tb_in (List.mem_of_getElem? (i := 677) (by decide +kernel)) (by decide +kernel)
theorem q_331 : ((.fieldLink "EdgeCampaignModel" 13 "EdgeCampaignModel" "as" "[I") : Cond) ∈ tb := tb_in (List.mem_of_getElem? (i := 678) (by decide +kernel)) (by decide +kernel)
theorem q_332 : ((.fieldLink "EdgeCampaignModel" 16 "EdgeCampaignModel" "bs" "[I") : Cond) ∈ tb := tb_in (List.mem_of_getElem? (i := 679) (by decide +kernel)) (by decide +kernel)
theorem q_333 : ((.fieldLink "EdgeCampaignModel" 102 "EdgeCampaignModel" "drafted" "I") : Cond) ∈ tb := tb_in (List.mem_of_getElem? (i := 681) (by decide +kernel)) (by decide +kernel)
theorem q_334 : ((.fieldLink "EdgeCampaignModel" 19 "EdgeCampaignModel" "draft" "[I") : Cond) ∈ tb := tb_in (List.mem_of_getElem? (i := 680) (by decide +kernel)) (by decide +kernel)
theorem q_335 : ((.fieldLink "EdgeCampaignModel" 105 "EdgeCampaignModel" "depth" "I") : Cond) ∈ tb := tb_in (List.mem_of_getElem? (i := 688) (by decide +kernel)) (by decide +kernel)
theorem q_336 : ((.fieldLink "EdgeCampaignModel" 31 "EdgeCampaignModel" "stack" "[I") : Cond) ∈ tb := tb_in (List.mem_of_getElem? (i := 687) (by decide +kernel)) (by decide +kernel)
theorem q_337 : ((.fieldLink "EdgeCampaignModel" 108 "EdgeCampaignModel" "pc" "I") : Cond) ∈ tb := tb_in (List.mem_of_getElem? (i := 689) (by decide +kernel)) (by decide +kernel)
theorem q_338 : ((.fieldLink "EdgeCampaignModel" 114 "EdgeCampaignModel" "outcome" "I") : Cond) ∈ tb := tb_in (List.mem_of_getElem? (i := 692) (by decide +kernel)) (by decide +kernel)
theorem q_339 : ((.fieldLink "EdgeCampaignModel" 120 "EdgeCampaignModel" "here" "I") : Cond) ∈ tb := tb_in (List.mem_of_getElem? (i := 690) (by decide +kernel)) (by decide +kernel)
theorem q_340 : ((.fieldLink "EdgeCampaignModel" 25 "EdgeCampaignModel" "\x72" "[I") : Cond) ∈ tb := tb_in (List.mem_of_getElem? (i := 685) (by decide +kernel)) (by decide +kernel)
theorem q_341 : ((.fieldLink "EdgeCampaignModel" 28 "EdgeCampaignModel" "memory" "[I") : Cond) ∈ tb := tb_in (List.mem_of_getElem? (i := 686) (by decide +kernel)) (by decide +kernel)
theorem q_342 : ((.code y_MO_word b_MO_word 4 none) : Cond) ∈ tb := tb_in (List.mem_of_getElem? (i := 861) (by decide +kernel)) (by decide +kernel)
theorem q_343 : ((.methodLink "EdgeCampaignModel" 133 ⟨"EdgeCampaignModel", "word", "(III)V"⟩) : Cond) ∈ tb := tb_in (List.mem_of_getElem? (i := 858) (by decide +kernel)) (by decide +kernel)
theorem q_344 : ((.instanceMethod ⟨"EdgeCampaignModel", "word", "(III)V"⟩) : Cond) ∈ tb := tb_in (List.mem_of_getElem? (i := 860) (by decide +kernel)) (by decide +kernel)
theorem q_345 : ((.selects "EdgeCampaignModel" ⟨"EdgeCampaignModel", "word", "(III)V"⟩ ⟨"EdgeCampaignModel", "word", "(III)V"⟩) : Cond) ∈ tb := tb_in (List.mem_of_getElem? (i := 25) (by decide +kernel)) (by decide +kernel)
theorem q_346 : ((.fieldLink "EdgeCampaignModel" 130 "EdgeCampaignModel" "tapeLength" "I") : Cond) ∈ tb := tb_in (List.mem_of_getElem? (i := 684) (by decide +kernel)) (by decide +kernel)
theorem q_347 : ((.fieldLink "EdgeCampaignModel" 22 "EdgeCampaignModel" "tape" "[I") : Cond) ∈ tb := tb_in (List.mem_of_getElem? (i := 683) (by decide +kernel)) (by decide +kernel)
theorem q_348 : ((.code y_MO_work b_MO_work 4 none) : Cond) ∈ tb := tb_in (List.mem_of_getElem? (i := 857) (by decide +kernel)) (by decide +kernel)
theorem q_349 : ((.methodLink "EdgeCampaignModel" 127 ⟨"EdgeCampaignModel", "work", "(III)V"⟩) : Cond) ∈ tb := tb_in (List.mem_of_getElem? (i := 854) (by decide +kernel)) (by decide +kernel)
theorem q_350 : ((.instanceMethod ⟨"EdgeCampaignModel", "work", "(III)V"⟩) : Cond) ∈ tb := tb_in (List.mem_of_getElem? (i := 856) (by decide +kernel)) (by decide +kernel)
theorem q_351 : ((.selects "EdgeCampaignModel" ⟨"EdgeCampaignModel", "work", "(III)V"⟩ ⟨"EdgeCampaignModel", "work", "(III)V"⟩) : Cond) ∈ tb := tb_in (List.mem_of_getElem? (i := 24) (by decide +kernel)) (by decide +kernel)
theorem q_352 : ((.fieldLink "EdgeCampaignModel" 111 "EdgeCampaignModel" "steps" "I") : Cond) ∈ tb := tb_in (List.mem_of_getElem? (i := 691) (by decide +kernel)) (by decide +kernel)
theorem q_353 : ((.code y_MO_jump b_MO_jump 4 none) : Cond) ∈ tb := tb_in (List.mem_of_getElem? (i := 853) (by decide +kernel)) (by decide +kernel)
theorem q_354 : ((.methodLink "EdgeCampaignModel" 123 ⟨"EdgeCampaignModel", "jump", "(III)V"⟩) : Cond) ∈ tb := tb_in (List.mem_of_getElem? (i := 850) (by decide +kernel)) (by decide +kernel)
theorem q_355 : ((.instanceMethod ⟨"EdgeCampaignModel", "jump", "(III)V"⟩) : Cond) ∈ tb := tb_in (List.mem_of_getElem? (i := 852) (by decide +kernel)) (by decide +kernel)
theorem q_356 : ((.selects "EdgeCampaignModel" ⟨"EdgeCampaignModel", "jump", "(III)V"⟩ ⟨"EdgeCampaignModel", "jump", "(III)V"⟩) : Cond) ∈ tb := tb_in (List.mem_of_getElem? (i := 23) (by decide +kernel)) (by decide +kernel)
theorem q_357 : ((.fieldLink "EdgeCampaignModel" 34 "EdgeCampaignModel" "times" "[I") : Cond) ∈ tb := tb_in (List.mem_of_getElem? (i := 693) (by decide +kernel)) (by decide +kernel)
theorem q_358 : ((.code y_MO_step b_MO_step 4 none) : Cond) ∈ tb := tb_in (List.mem_of_getElem? (i := 849) (by decide +kernel)) (by decide +kernel)
theorem q_359 : ((.methodLink "EdgeCampaignModel" 117 ⟨"EdgeCampaignModel", "step", "()V"⟩) : Cond) ∈ tb := tb_in (List.mem_of_getElem? (i := 846) (by decide +kernel)) (by decide +kernel)
theorem q_360 : ((.instanceMethod ⟨"EdgeCampaignModel", "step", "()V"⟩) : Cond) ∈ tb := tb_in (List.mem_of_getElem? (i := 848) (by decide +kernel)) (by decide +kernel)
theorem q_361 : ((.selects "EdgeCampaignModel" ⟨"EdgeCampaignModel", "step", "()V"⟩ ⟨"EdgeCampaignModel", "step", "()V"⟩) : Cond) ∈ tb := tb_in (List.mem_of_getElem? (i := 22) (by decide +kernel)) (by decide +kernel)
theorem q_362 : ((.code y_MO_run b_MO_run 2 none) : Cond) ∈ tb := tb_in (List.mem_of_getElem? (i := 845) (by decide +kernel)) (by decide +kernel)
theorem q_363 : ((.methodLink "EdgeCampaignModel" 136 ⟨"EdgeCampaignModel", "run", "()V"⟩) : Cond) ∈ tb := tb_in (List.mem_of_getElem? (i := 842) (by decide +kernel)) (by decide +kernel)
theorem q_364 : ((.instanceMethod ⟨"EdgeCampaignModel", "run", "()V"⟩) : Cond) ∈ tb := tb_in (List.mem_of_getElem? (i := 844) (by decide +kernel)) (by decide +kernel)
theorem q_365 : ((.selects "EdgeCampaignModel" ⟨"EdgeCampaignModel", "run", "()V"⟩ ⟨"EdgeCampaignModel", "run", "()V"⟩) : Cond) ∈ tb := tb_in (List.mem_of_getElem? (i := 21) (by decide +kernel)) (by decide +kernel)
theorem q_366 : ((.fieldLink "EdgeCampaignModel" 40 "EdgeCampaignModel" "lengths" "[I") : Cond) ∈ tb := tb_in (List.mem_of_getElem? (i := 696) (by decide +kernel)) (by decide +kernel)
theorem q_367 : ((.fieldLink "EdgeCampaignModel" 37 "EdgeCampaignModel" "inputs" "[I") : Cond) ∈ tb := tb_in (List.mem_of_getElem? (i := 695) (by decide +kernel)) (by decide +kernel)
theorem q_368 : ((.fieldLink "EdgeCampaignModel" 139 "EdgeCampaignModel" "curLength" "I") : Cond) ∈ tb := tb_in (List.mem_of_getElem? (i := 720) (by decide +kernel)) (by decide +kernel)
theorem q_369 : ((.fieldLink "EdgeCampaignModel" 82 "EdgeCampaignModel" "cur" "[I") : Cond) ∈ tb := tb_in (List.mem_of_getElem? (i := 719) (by decide +kernel)) (by decide +kernel)
theorem q_370 : ((.fieldLink "EdgeCampaignModel" 145 "EdgeCampaignModel" "entries" "I") : Cond) ∈ tb := tb_in (List.mem_of_getElem? (i := 694) (by decide +kernel)) (by decide +kernel)
theorem q_371 : ((.fieldLink "EdgeCampaignModel" 79 "EdgeCampaignModel" "stepsOf" "[I") : Cond) ∈ tb := tb_in (List.mem_of_getElem? (i := 714) (by decide +kernel)) (by decide +kernel)
theorem q_372 : ((.fieldLink "EdgeCampaignModel" 156 "EdgeCampaignModel" "favoured" "I") : Cond) ∈ tb := tb_in (List.mem_of_getElem? (i := 715) (by decide +kernel)) (by decide +kernel)
theorem q_373 : ((.fieldLink "EdgeCampaignModel" 76 "EdgeCampaignModel" "went" "[I") : Cond) ∈ tb := tb_in (List.mem_of_getElem? (i := 713) (by decide +kernel)) (by decide +kernel)
theorem q_374 : ((.code y_MO_top b_MO_top 6 (some .int)) : Cond) ∈ tb := tb_in (List.mem_of_getElem? (i := 868) (by decide +kernel)) (by decide +kernel)
theorem q_375 : ((.methodLink "EdgeCampaignModel" 159 ⟨"EdgeCampaignModel", "top", "(I)I"⟩) : Cond) ∈ tb := tb_in (List.mem_of_getElem? (i := 865) (by decide +kernel)) (by decide +kernel)
theorem q_376 : ((.instanceMethod ⟨"EdgeCampaignModel", "top", "(I)I"⟩) : Cond) ∈ tb := tb_in (List.mem_of_getElem? (i := 867) (by decide +kernel)) (by decide +kernel)
theorem q_377 : ((.selects "EdgeCampaignModel" ⟨"EdgeCampaignModel", "top", "(I)I"⟩ ⟨"EdgeCampaignModel", "top", "(I)I"⟩) : Cond) ∈ tb := tb_in (List.mem_of_getElem? (i := 26) (by decide +kernel)) (by decide +kernel)
theorem q_378 : ((.code y_MO_runEntry b_MO_runEntry 3 none) : Cond) ∈ tb := tb_in (List.mem_of_getElem? (i := 841) (by decide +kernel)) (by decide +kernel)
theorem q_379 : ((.methodLink "EdgeCampaignModel" 148 ⟨"EdgeCampaignModel", "runEntry", "(I)V"⟩) : Cond) ∈ tb := tb_in (List.mem_of_getElem? (i := 838) (by decide +kernel)) (by decide +kernel)
theorem q_380 : ((.instanceMethod ⟨"EdgeCampaignModel", "runEntry", "(I)V"⟩) : Cond) ∈ tb := tb_in (List.mem_of_getElem? (i := 840) (by decide +kernel)) (by decide +kernel)
theorem q_381 : ((.selects "EdgeCampaignModel" ⟨"EdgeCampaignModel", "runEntry", "(I)V"⟩ ⟨"EdgeCampaignModel", "runEntry", "(I)V"⟩) : Cond) ∈ tb := tb_in (List.mem_of_getElem? (i := 20) (by decide +kernel)) (by decide +kernel)
theorem q_382 : ((.fieldLink "EdgeCampaignModel" 73 "EdgeCampaignModel" "buckets" "[I") : Cond) ∈ tb := tb_in (List.mem_of_getElem? (i := 712) (by decide +kernel)) (by decide +kernel)
theorem q_383 : ((.code y_MO_bucket b_MO_bucket 1 (some .int)) : Cond) ∈ tb := tb_in (List.mem_of_getElem? (i := 864) (by decide +kernel)) (by decide +kernel)
theorem q_384 : ((.methodLink "EdgeCampaignModel" 152 ⟨"EdgeCampaignModel", "bucket", "(I)I"⟩) : Cond) ∈ tb := tb_in (List.mem_of_getElem? (i := 862) (by decide +kernel)) (by decide +kernel)
theorem q_385 : ((.static ⟨"EdgeCampaignModel", "bucket", "(I)I"⟩) : Cond) ∈ tb := tb_in (List.mem_of_getElem? (i := 863) (by decide +kernel)) (by decide +kernel)
theorem q_386 : ((.fieldLink "EdgeCampaignModel" 142 "EdgeCampaignModel" "surveyed" "I") : Cond) ∈ tb := tb_in (List.mem_of_getElem? (i := 711) (by decide +kernel)) (by decide +kernel)
theorem q_387 : ((.fieldLink "EdgeCampaignModel" 52 "EdgeCampaignModel" "depths" "[I") : Cond) ∈ tb := tb_in (List.mem_of_getElem? (i := 701) (by decide +kernel)) (by decide +kernel)
theorem q_388 : ((.fieldLink "EdgeCampaignModel" 55 "EdgeCampaignModel" "stacks" "[I") : Cond) ∈ tb := tb_in (List.mem_of_getElem? (i := 702) (by decide +kernel)) (by decide +kernel)
theorem q_389 : ((.fieldLink "EdgeCampaignModel" 46 "EdgeCampaignModel" "traps" "[I") : Cond) ∈ tb := tb_in (List.mem_of_getElem? (i := 699) (by decide +kernel)) (by decide +kernel)
theorem q_390 : ((.fieldLink "EdgeCampaignModel" 49 "EdgeCampaignModel" "places" "[I") : Cond) ∈ tb := tb_in (List.mem_of_getElem? (i := 700) (by decide +kernel)) (by decide +kernel)
theorem q_391 : ((.code y_MO_signed b_MO_signed 4 (some .boolean)) : Cond) ∈ tb := tb_in (List.mem_of_getElem? (i := 884) (by decide +kernel)) (by decide +kernel)
theorem q_392 : ((.methodLink "EdgeCampaignModel" 187 ⟨"EdgeCampaignModel", "signed", "(I)Z"⟩) : Cond) ∈ tb := tb_in (List.mem_of_getElem? (i := 881) (by decide +kernel)) (by decide +kernel)
theorem q_393 : ((.instanceMethod ⟨"EdgeCampaignModel", "signed", "(I)Z"⟩) : Cond) ∈ tb := tb_in (List.mem_of_getElem? (i := 883) (by decide +kernel)) (by decide +kernel)
theorem q_394 : ((.selects "EdgeCampaignModel" ⟨"EdgeCampaignModel", "signed", "(I)Z"⟩ ⟨"EdgeCampaignModel", "signed", "(I)Z"⟩) : Cond) ∈ tb := tb_in (List.mem_of_getElem? (i := 30) (by decide +kernel)) (by decide +kernel)
theorem q_395 : ((.fieldLink "EdgeCampaignModel" 67 "EdgeCampaignModel" "brief" "[I") : Cond) ∈ tb := tb_in (List.mem_of_getElem? (i := 706) (by decide +kernel)) (by decide +kernel)
theorem q_396 : ((.fieldLink "EdgeCampaignModel" 70 "EdgeCampaignModel" "briefLength" "[I") : Cond) ∈ tb := tb_in (List.mem_of_getElem? (i := 707) (by decide +kernel)) (by decide +kernel)
theorem q_397 : ((.code y_MO_adopt b_MO_adopt 3 none) : Cond) ∈ tb := tb_in (List.mem_of_getElem? (i := 900) (by decide +kernel)) (by decide +kernel)
theorem q_398 : ((.methodLink "EdgeCampaignModel" 198 ⟨"EdgeCampaignModel", "adopt", "(I)V"⟩) : Cond) ∈ tb := tb_in (List.mem_of_getElem? (i := 897) (by decide +kernel)) (by decide +kernel)
theorem q_399 : ((.instanceMethod ⟨"EdgeCampaignModel", "adopt", "(I)V"⟩) : Cond) ∈ tb := tb_in (List.mem_of_getElem? (i := 899) (by decide +kernel)) (by decide +kernel)
theorem q_400 : ((.selects "EdgeCampaignModel" ⟨"EdgeCampaignModel", "adopt", "(I)V"⟩ ⟨"EdgeCampaignModel", "adopt", "(I)V"⟩) : Cond) ∈ tb := tb_in (List.mem_of_getElem? (i := 34) (by decide +kernel)) (by decide +kernel)
theorem q_401 : ((.code y_MO_still b_MO_still 7 (some .boolean)) : Cond) ∈ tb := tb_in (List.mem_of_getElem? (i := 896) (by decide +kernel)) (by decide +kernel)
theorem q_402 : ((.methodLink "EdgeCampaignModel" 194 ⟨"EdgeCampaignModel", "still", "(IIIZ)Z"⟩) : Cond) ∈ tb := tb_in (List.mem_of_getElem? (i := 893) (by decide +kernel)) (by decide +kernel)
theorem q_403 : ((.instanceMethod ⟨"EdgeCampaignModel", "still", "(IIIZ)Z"⟩) : Cond) ∈ tb := tb_in (List.mem_of_getElem? (i := 895) (by decide +kernel)) (by decide +kernel)
theorem q_404 : ((.selects "EdgeCampaignModel" ⟨"EdgeCampaignModel", "still", "(IIIZ)Z"⟩ ⟨"EdgeCampaignModel", "still", "(IIIZ)Z"⟩) : Cond) ∈ tb := tb_in (List.mem_of_getElem? (i := 33) (by decide +kernel)) (by decide +kernel)
theorem q_405 : ((.code y_MO_part b_MO_part 6 (some .boolean)) : Cond) ∈ tb := tb_in (List.mem_of_getElem? (i := 892) (by decide +kernel)) (by decide +kernel)
theorem q_406 : ((.methodLink "EdgeCampaignModel" 201 ⟨"EdgeCampaignModel", "part", "(IIZ)Z"⟩) : Cond) ∈ tb := tb_in (List.mem_of_getElem? (i := 889) (by decide +kernel)) (by decide +kernel)
theorem q_407 : ((.instanceMethod ⟨"EdgeCampaignModel", "part", "(IIZ)Z"⟩) : Cond) ∈ tb := tb_in (List.mem_of_getElem? (i := 891) (by decide +kernel)) (by decide +kernel)
theorem q_408 : ((.selects "EdgeCampaignModel" ⟨"EdgeCampaignModel", "part", "(IIZ)Z"⟩ ⟨"EdgeCampaignModel", "part", "(IIZ)Z"⟩) : Cond) ∈ tb := tb_in (List.mem_of_getElem? (i := 32) (by decide +kernel)) (by decide +kernel)
theorem q_409 : ((.code y_MO_shorten b_MO_shorten 6 none) : Cond) ∈ tb := tb_in (List.mem_of_getElem? (i := 888) (by decide +kernel)) (by decide +kernel)
theorem q_410 : ((.methodLink "EdgeCampaignModel" 191 ⟨"EdgeCampaignModel", "shorten", "(I)V"⟩) : Cond) ∈ tb := tb_in (List.mem_of_getElem? (i := 885) (by decide +kernel)) (by decide +kernel)
theorem q_411 : ((.instanceMethod ⟨"EdgeCampaignModel", "shorten", "(I)V"⟩) : Cond) ∈ tb := tb_in (List.mem_of_getElem? (i := 887) (by decide +kernel)) (by decide +kernel)
theorem q_412 : ((.selects "EdgeCampaignModel" ⟨"EdgeCampaignModel", "shorten", "(I)V"⟩ ⟨"EdgeCampaignModel", "shorten", "(I)V"⟩) : Cond) ∈ tb := tb_in (List.mem_of_getElem? (i := 31) (by decide +kernel)) (by decide +kernel)
theorem q_413 : ((.fieldLink "EdgeCampaignModel" 184 "EdgeCampaignModel" "findings" "I") : Cond) ∈ tb := tb_in (List.mem_of_getElem? (i := 698) (by decide +kernel)) (by decide +kernel)
theorem q_414 : ((.fieldLink "EdgeCampaignModel" 58 "EdgeCampaignModel" "hits" "[I") : Cond) ∈ tb := tb_in (List.mem_of_getElem? (i := 703) (by decide +kernel)) (by decide +kernel)
theorem q_415 : ((.fieldLink "EdgeCampaignModel" 64 "EdgeCampaignModel" "foundLength" "[I") : Cond) ∈ tb := tb_in (List.mem_of_getElem? (i := 705) (by decide +kernel)) (by decide +kernel)
theorem q_416 : ((.fieldLink "EdgeCampaignModel" 61 "EdgeCampaignModel" "found" "[I") : Cond) ∈ tb := tb_in (List.mem_of_getElem? (i := 704) (by decide +kernel)) (by decide +kernel)
theorem q_417 : ((.fieldLink "EdgeCampaignModel" 178 "EdgeCampaignModel" "lost" "I") : Cond) ∈ tb := tb_in (List.mem_of_getElem? (i := 710) (by decide +kernel)) (by decide +kernel)
theorem q_418 : ((.fieldLink "EdgeCampaignModel" 212 "EdgeCampaignModel" "energy" "I") : Cond) ∈ tb := tb_in (List.mem_of_getElem? (i := 718) (by decide +kernel)) (by decide +kernel)
theorem q_419 : ((.fieldLink "EdgeCampaignModel" 43 "EdgeCampaignModel" "finished" "[I") : Cond) ∈ tb := tb_in (List.mem_of_getElem? (i := 697) (by decide +kernel)) (by decide +kernel)
theorem q_420 : ((.fieldLink "EdgeCampaignModel" 215 "EdgeCampaignModel" "next" "I") : Cond) ∈ tb := tb_in (List.mem_of_getElem? (i := 717) (by decide +kernel)) (by decide +kernel)
theorem q_421 : ((.fieldLink "EdgeCampaignModel" 209 "EdgeCampaignModel" "taken" "I") : Cond) ∈ tb := tb_in (List.mem_of_getElem? (i := 716) (by decide +kernel)) (by decide +kernel)
theorem q_422 : ((.code y_MO_survey b_MO_survey 3 none) : Cond) ∈ tb := tb_in (List.mem_of_getElem? (i := 837) (by decide +kernel)) (by decide +kernel)
theorem q_423 : ((.methodLink "EdgeCampaignModel" 162 ⟨"EdgeCampaignModel", "survey", "()V"⟩) : Cond) ∈ tb := tb_in (List.mem_of_getElem? (i := 834) (by decide +kernel)) (by decide +kernel)
theorem q_424 : ((.instanceMethod ⟨"EdgeCampaignModel", "survey", "()V"⟩) : Cond) ∈ tb := tb_in (List.mem_of_getElem? (i := 836) (by decide +kernel)) (by decide +kernel)
theorem q_425 : ((.selects "EdgeCampaignModel" ⟨"EdgeCampaignModel", "survey", "()V"⟩ ⟨"EdgeCampaignModel", "survey", "()V"⟩) : Cond) ∈ tb := tb_in (List.mem_of_getElem? (i := 19) (by decide +kernel)) (by decide +kernel)
theorem q_426 : ((.code y_MO_edgesOf b_MO_edgesOf 4 (some .int)) : Cond) ∈ tb := tb_in (List.mem_of_getElem? (i := 908) (by decide +kernel)) (by decide +kernel)
theorem q_427 : ((.methodLink "EdgeCampaignModel" 206 ⟨"EdgeCampaignModel", "edgesOf", "(I)I"⟩) : Cond) ∈ tb := tb_in (List.mem_of_getElem? (i := 905) (by decide +kernel)) (by decide +kernel)
theorem q_428 : ((.instanceMethod ⟨"EdgeCampaignModel", "edgesOf", "(I)I"⟩) : Cond) ∈ tb := tb_in (List.mem_of_getElem? (i := 907) (by decide +kernel)) (by decide +kernel)
theorem q_429 : ((.selects "EdgeCampaignModel" ⟨"EdgeCampaignModel", "edgesOf", "(I)I"⟩ ⟨"EdgeCampaignModel", "edgesOf", "(I)I"⟩) : Cond) ∈ tb := tb_in (List.mem_of_getElem? (i := 36) (by decide +kernel)) (by decide +kernel)
theorem q_430 : ((.code y_MO_takeUp b_MO_takeUp 4 none) : Cond) ∈ tb := tb_in (List.mem_of_getElem? (i := 904) (by decide +kernel)) (by decide +kernel)
theorem q_431 : ((.methodLink "EdgeCampaignModel" 181 ⟨"EdgeCampaignModel", "takeUp", "(I)V"⟩) : Cond) ∈ tb := tb_in (List.mem_of_getElem? (i := 901) (by decide +kernel)) (by decide +kernel)
theorem q_432 : ((.instanceMethod ⟨"EdgeCampaignModel", "takeUp", "(I)V"⟩) : Cond) ∈ tb := tb_in (List.mem_of_getElem? (i := 903) (by decide +kernel)) (by decide +kernel)
theorem q_433 : ((.selects "EdgeCampaignModel" ⟨"EdgeCampaignModel", "takeUp", "(I)V"⟩ ⟨"EdgeCampaignModel", "takeUp", "(I)V"⟩) : Cond) ∈ tb := tb_in (List.mem_of_getElem? (i := 35) (by decide +kernel)) (by decide +kernel)
theorem q_434 : ((.fieldLink "EdgeCampaignModel" 168 "EdgeCampaignModel" "hangs" "I") : Cond) ∈ tb := tb_in (List.mem_of_getElem? (i := 709) (by decide +kernel)) (by decide +kernel)
theorem q_435 : ((.code y_MO_newPair b_MO_newPair 3 (some .boolean)) : Cond) ∈ tb := tb_in (List.mem_of_getElem? (i := 876) (by decide +kernel)) (by decide +kernel)
theorem q_436 : ((.methodLink "EdgeCampaignModel" 171 ⟨"EdgeCampaignModel", "newPair", "()Z"⟩) : Cond) ∈ tb := tb_in (List.mem_of_getElem? (i := 873) (by decide +kernel)) (by decide +kernel)
theorem q_437 : ((.instanceMethod ⟨"EdgeCampaignModel", "newPair", "()Z"⟩) : Cond) ∈ tb := tb_in (List.mem_of_getElem? (i := 875) (by decide +kernel)) (by decide +kernel)
theorem q_438 : ((.selects "EdgeCampaignModel" ⟨"EdgeCampaignModel", "newPair", "()Z"⟩ ⟨"EdgeCampaignModel", "newPair", "()Z"⟩) : Cond) ∈ tb := tb_in (List.mem_of_getElem? (i := 28) (by decide +kernel)) (by decide +kernel)
theorem q_439 : ((.code y_MO_trapped b_MO_trapped 3 none) : Cond) ∈ tb := tb_in (List.mem_of_getElem? (i := 880) (by decide +kernel)) (by decide +kernel)
theorem q_440 : ((.methodLink "EdgeCampaignModel" 175 ⟨"EdgeCampaignModel", "trapped", "()V"⟩) : Cond) ∈ tb := tb_in (List.mem_of_getElem? (i := 877) (by decide +kernel)) (by decide +kernel)
theorem q_441 : ((.instanceMethod ⟨"EdgeCampaignModel", "trapped", "()V"⟩) : Cond) ∈ tb := tb_in (List.mem_of_getElem? (i := 879) (by decide +kernel)) (by decide +kernel)
theorem q_442 : ((.selects "EdgeCampaignModel" ⟨"EdgeCampaignModel", "trapped", "()V"⟩ ⟨"EdgeCampaignModel", "trapped", "()V"⟩) : Cond) ∈ tb := tb_in (List.mem_of_getElem? (i := 29) (by decide +kernel)) (by decide +kernel)
theorem q_443 : ((.code y_MO_runCurrent b_MO_runCurrent 2 none) : Cond) ∈ tb := tb_in (List.mem_of_getElem? (i := 872) (by decide +kernel)) (by decide +kernel)
theorem q_444 : ((.methodLink "EdgeCampaignModel" 165 ⟨"EdgeCampaignModel", "runCurrent", "()V"⟩) : Cond) ∈ tb := tb_in (List.mem_of_getElem? (i := 869) (by decide +kernel)) (by decide +kernel)
theorem q_445 : ((.instanceMethod ⟨"EdgeCampaignModel", "runCurrent", "()V"⟩) : Cond) ∈ tb := tb_in (List.mem_of_getElem? (i := 871) (by decide +kernel)) (by decide +kernel)
theorem q_446 : ((.selects "EdgeCampaignModel" ⟨"EdgeCampaignModel", "runCurrent", "()V"⟩ ⟨"EdgeCampaignModel", "runCurrent", "()V"⟩) : Cond) ∈ tb := tb_in (List.mem_of_getElem? (i := 27) (by decide +kernel)) (by decide +kernel)
theorem q_447 : ((.fieldLink "EdgeCampaignModel" 85 "EdgeCampaignModel" "x" "I") : Cond) ∈ tb := tb_in (List.mem_of_getElem? (i := 682) (by decide +kernel)) (by decide +kernel)
theorem q_448 : ((.constant "EdgeCampaignModel" 205 2147483647) : Cond) ∈ tb := tb_in (List.mem_of_getElem? (i := 929) (by decide +kernel)) (by decide +kernel)
theorem q_449 : ((.code y_MO_draw b_MO_draw 2 (some .int)) : Cond) ∈ tb := tb_in (List.mem_of_getElem? (i := 928) (by decide +kernel)) (by decide +kernel)
theorem q_450 : ((.methodLink "EdgeCampaignModel" 235 ⟨"EdgeCampaignModel", "draw", "(I)I"⟩) : Cond) ∈ tb := tb_in (List.mem_of_getElem? (i := 925) (by decide +kernel)) (by decide +kernel)
theorem q_451 : ((.instanceMethod ⟨"EdgeCampaignModel", "draw", "(I)I"⟩) : Cond) ∈ tb := tb_in (List.mem_of_getElem? (i := 927) (by decide +kernel)) (by decide +kernel)
theorem q_452 : ((.selects "EdgeCampaignModel" ⟨"EdgeCampaignModel", "draw", "(I)I"⟩ ⟨"EdgeCampaignModel", "draw", "(I)I"⟩) : Cond) ∈ tb := tb_in (List.mem_of_getElem? (i := 40) (by decide +kernel)) (by decide +kernel)
theorem q_453 : ((.code y_MO_change b_MO_change 4 none) : Cond) ∈ tb := tb_in (List.mem_of_getElem? (i := 937) (by decide +kernel)) (by decide +kernel)
theorem q_454 : ((.methodLink "EdgeCampaignModel" 241 ⟨"EdgeCampaignModel", "change", "(I)V"⟩) : Cond) ∈ tb := tb_in (List.mem_of_getElem? (i := 934) (by decide +kernel)) (by decide +kernel)
theorem q_455 : ((.instanceMethod ⟨"EdgeCampaignModel", "change", "(I)V"⟩) : Cond) ∈ tb := tb_in (List.mem_of_getElem? (i := 936) (by decide +kernel)) (by decide +kernel)
theorem q_456 : ((.selects "EdgeCampaignModel" ⟨"EdgeCampaignModel", "change", "(I)V"⟩ ⟨"EdgeCampaignModel", "change", "(I)V"⟩) : Cond) ∈ tb := tb_in (List.mem_of_getElem? (i := 42) (by decide +kernel)) (by decide +kernel)
theorem q_457 : ((.code y_MO_putIn b_MO_putIn 4 none) : Cond) ∈ tb := tb_in (List.mem_of_getElem? (i := 933) (by decide +kernel)) (by decide +kernel)
theorem q_458 : ((.methodLink "EdgeCampaignModel" 238 ⟨"EdgeCampaignModel", "putIn", "()V"⟩) : Cond) ∈ tb := tb_in (List.mem_of_getElem? (i := 930) (by decide +kernel)) (by decide +kernel)
theorem q_459 : ((.instanceMethod ⟨"EdgeCampaignModel", "putIn", "()V"⟩) : Cond) ∈ tb := tb_in (List.mem_of_getElem? (i := 932) (by decide +kernel)) (by decide +kernel)
theorem q_460 : ((.selects "EdgeCampaignModel" ⟨"EdgeCampaignModel", "putIn", "()V"⟩ ⟨"EdgeCampaignModel", "putIn", "()V"⟩) : Cond) ∈ tb := tb_in (List.mem_of_getElem? (i := 41) (by decide +kernel)) (by decide +kernel)
theorem q_461 : ((.code y_MO_takeNext b_MO_takeNext 6 none) : Cond) ∈ tb := tb_in (List.mem_of_getElem? (i := 945) (by decide +kernel)) (by decide +kernel)
theorem q_462 : ((.methodLink "EdgeCampaignModel" 232 ⟨"EdgeCampaignModel", "takeNext", "()V"⟩) : Cond) ∈ tb := tb_in (List.mem_of_getElem? (i := 942) (by decide +kernel)) (by decide +kernel)
theorem q_463 : ((.instanceMethod ⟨"EdgeCampaignModel", "takeNext", "()V"⟩) : Cond) ∈ tb := tb_in (List.mem_of_getElem? (i := 944) (by decide +kernel)) (by decide +kernel)
theorem q_464 : ((.selects "EdgeCampaignModel" ⟨"EdgeCampaignModel", "takeNext", "()V"⟩ ⟨"EdgeCampaignModel", "takeNext", "()V"⟩) : Cond) ∈ tb := tb_in (List.mem_of_getElem? (i := 44) (by decide +kernel)) (by decide +kernel)
theorem q_465 : ((.code y_MO_execute b_MO_execute 4 (some .int)) : Cond) ∈ tb := tb_in (List.mem_of_getElem? (i := 833) (by decide +kernel)) (by decide +kernel)
theorem q_466 : ((.methodLink "EdgeCampaignModel" 228 ⟨"EdgeCampaignModel", "execute", "()I"⟩) : Cond) ∈ tb := tb_in (List.mem_of_getElem? (i := 830) (by decide +kernel)) (by decide +kernel)
theorem q_467 : ((.instanceMethod ⟨"EdgeCampaignModel", "execute", "()I"⟩) : Cond) ∈ tb := tb_in (List.mem_of_getElem? (i := 832) (by decide +kernel)) (by decide +kernel)
theorem q_468 : ((.selects "EdgeCampaignModel" ⟨"EdgeCampaignModel", "execute", "()I"⟩ ⟨"EdgeCampaignModel", "execute", "()I"⟩) : Cond) ∈ tb := tb_in (List.mem_of_getElem? (i := 18) (by decide +kernel)) (by decide +kernel)
theorem q_469 : ((.code y_MO_crossed b_MO_crossed 6 none) : Cond) ∈ tb := tb_in (List.mem_of_getElem? (i := 941) (by decide +kernel)) (by decide +kernel)
theorem q_470 : ((.methodLink "EdgeCampaignModel" 225 ⟨"EdgeCampaignModel", "crossed", "(I)V"⟩) : Cond) ∈ tb := tb_in (List.mem_of_getElem? (i := 938) (by decide +kernel)) (by decide +kernel)
theorem q_471 : ((.instanceMethod ⟨"EdgeCampaignModel", "crossed", "(I)V"⟩) : Cond) ∈ tb := tb_in (List.mem_of_getElem? (i := 940) (by decide +kernel)) (by decide +kernel)
theorem q_472 : ((.selects "EdgeCampaignModel" ⟨"EdgeCampaignModel", "crossed", "(I)V"⟩ ⟨"EdgeCampaignModel", "crossed", "(I)V"⟩) : Cond) ∈ tb := tb_in (List.mem_of_getElem? (i := 43) (by decide +kernel)) (by decide +kernel)
theorem q_473 : ((.code y_MO_mixed b_MO_mixed 4 none) : Cond) ∈ tb := tb_in (List.mem_of_getElem? (i := 924) (by decide +kernel)) (by decide +kernel)
theorem q_474 : ((.methodLink "EdgeCampaignModel" 222 ⟨"EdgeCampaignModel", "mixed", "()V"⟩) : Cond) ∈ tb := tb_in (List.mem_of_getElem? (i := 921) (by decide +kernel)) (by decide +kernel)
theorem q_475 : ((.instanceMethod ⟨"EdgeCampaignModel", "mixed", "()V"⟩) : Cond) ∈ tb := tb_in (List.mem_of_getElem? (i := 923) (by decide +kernel)) (by decide +kernel)
theorem q_476 : ((.selects "EdgeCampaignModel" ⟨"EdgeCampaignModel", "mixed", "()V"⟩ ⟨"EdgeCampaignModel", "mixed", "()V"⟩) : Cond) ∈ tb := tb_in (List.mem_of_getElem? (i := 39) (by decide +kernel)) (by decide +kernel)
theorem q_477 : ((.code y_MO_plain b_MO_plain 5 none) : Cond) ∈ tb := tb_in (List.mem_of_getElem? (i := 920) (by decide +kernel)) (by decide +kernel)
theorem q_478 : ((.methodLink "EdgeCampaignModel" 218 ⟨"EdgeCampaignModel", "plain", "(II)V"⟩) : Cond) ∈ tb := tb_in (List.mem_of_getElem? (i := 917) (by decide +kernel)) (by decide +kernel)
theorem q_479 : ((.instanceMethod ⟨"EdgeCampaignModel", "plain", "(II)V"⟩) : Cond) ∈ tb := tb_in (List.mem_of_getElem? (i := 919) (by decide +kernel)) (by decide +kernel)
theorem q_480 : ((.selects "EdgeCampaignModel" ⟨"EdgeCampaignModel", "plain", "(II)V"⟩ ⟨"EdgeCampaignModel", "plain", "(II)V"⟩) : Cond) ∈ tb := tb_in (List.mem_of_getElem? (i := 38) (by decide +kernel)) (by decide +kernel)
theorem q_481 : ((.code y_MO_trial b_MO_trial 5 none) : Cond) ∈ tb := tb_in (List.mem_of_getElem? (i := 916) (by decide +kernel)) (by decide +kernel)
theorem q_482 : ((.methodLink "EdgeCampaignModel" 244 ⟨"EdgeCampaignModel", "trial", "()V"⟩) : Cond) ∈ tb := tb_in (List.mem_of_getElem? (i := 913) (by decide +kernel)) (by decide +kernel)
theorem q_483 : ((.instanceMethod ⟨"EdgeCampaignModel", "trial", "()V"⟩) : Cond) ∈ tb := tb_in (List.mem_of_getElem? (i := 915) (by decide +kernel)) (by decide +kernel)
theorem q_484 : ((.selects "EdgeCampaignModel" ⟨"EdgeCampaignModel", "trial", "()V"⟩ ⟨"EdgeCampaignModel", "trial", "()V"⟩) : Cond) ∈ tb := tb_in (List.mem_of_getElem? (i := 37) (by decide +kernel)) (by decide +kernel)
theorem q_485 : ((.code y_MO_seenEdges b_MO_seenEdges 3 (some .int)) : Cond) ∈ tb := tb_in (List.mem_of_getElem? (i := 953) (by decide +kernel)) (by decide +kernel)
theorem q_486 : ((.methodLink "EdgeCampaignModel" 247 ⟨"EdgeCampaignModel", "seenEdges", "()I"⟩) : Cond) ∈ tb := tb_in (List.mem_of_getElem? (i := 950) (by decide +kernel)) (by decide +kernel)
theorem q_487 : ((.instanceMethod ⟨"EdgeCampaignModel", "seenEdges", "()I"⟩) : Cond) ∈ tb := tb_in (List.mem_of_getElem? (i := 952) (by decide +kernel)) (by decide +kernel)
theorem q_488 : ((.selects "EdgeCampaignModel" ⟨"EdgeCampaignModel", "seenEdges", "()I"⟩ ⟨"EdgeCampaignModel", "seenEdges", "()I"⟩) : Cond) ∈ tb := tb_in (List.mem_of_getElem? (i := 45) (by decide +kernel)) (by decide +kernel)
theorem q_489 : ((.code y_MO_seenPairs b_MO_seenPairs 4 (some .int)) : Cond) ∈ tb := tb_in (List.mem_of_getElem? (i := 957) (by decide +kernel)) (by decide +kernel)
theorem q_490 : ((.methodLink "EdgeCampaignModel" 250 ⟨"EdgeCampaignModel", "seenPairs", "()I"⟩) : Cond) ∈ tb := tb_in (List.mem_of_getElem? (i := 954) (by decide +kernel)) (by decide +kernel)
theorem q_491 : ((.instanceMethod ⟨"EdgeCampaignModel", "seenPairs", "()I"⟩) : Cond) ∈ tb := tb_in (List.mem_of_getElem? (i := 956) (by decide +kernel)) (by decide +kernel)
theorem q_492 : ((.selects "EdgeCampaignModel" ⟨"EdgeCampaignModel", "seenPairs", "()I"⟩ ⟨"EdgeCampaignModel", "seenPairs", "()I"⟩) : Cond) ∈ tb := tb_in (List.mem_of_getElem? (i := 46) (by decide +kernel)) (by decide +kernel)
theorem q_493 : ((.laysFinal "EdgeCampaign$Entry" "EdgeCampaign$Entry" "input" "LEdgeCampaign$Input;") : Cond) ∈ tb := tb_in (List.mem_of_getElem? (i := 185) (by decide +kernel)) (by decide +kernel)
theorem q_494 : ((.lays "EdgeCampaign$Entry" "EdgeCampaign$Entry" "steps" "I") : Cond) ∈ tb := tb_in (List.mem_of_getElem? (i := 187) (by decide +kernel)) (by decide +kernel)
theorem q_495 : ((.lays "EdgeCampaign$Entry" "EdgeCampaign$Entry" "edgeCount" "I") : Cond) ∈ tb := tb_in (List.mem_of_getElem? (i := 189) (by decide +kernel)) (by decide +kernel)
theorem q_496 : ((.lays "EdgeCampaign$Entry" "EdgeCampaign$Entry" "finished" "I") : Cond) ∈ tb := tb_in (List.mem_of_getElem? (i := 191) (by decide +kernel)) (by decide +kernel)
theorem q_497 : ((.laysFinal "EdgeCampaign$Finding" "EdgeCampaign$Finding" "input" "LEdgeCampaign$Input;") : Cond) ∈ tb := tb_in (List.mem_of_getElem? (i := 254) (by decide +kernel)) (by decide +kernel)
theorem q_498 : ((.laysFinal "EdgeCampaign$Finding" "EdgeCampaign$Finding" "shortest" "LEdgeCampaign$Input;") : Cond) ∈ tb := tb_in (List.mem_of_getElem? (i := 256) (by decide +kernel)) (by decide +kernel)
theorem q_499 : ((.laysFinal "EdgeCampaign$Finding" "EdgeCampaign$Finding" "latestFirst" "[I") : Cond) ∈ tb := tb_in (List.mem_of_getElem? (i := 258) (by decide +kernel)) (by decide +kernel)
theorem q_500 : ((.lays "EdgeCampaign$Finding" "EdgeCampaign$Finding" "trap" "I") : Cond) ∈ tb := tb_in (List.mem_of_getElem? (i := 260) (by decide +kernel)) (by decide +kernel)
theorem q_501 : ((.lays "EdgeCampaign$Finding" "EdgeCampaign$Finding" "here" "I") : Cond) ∈ tb := tb_in (List.mem_of_getElem? (i := 262) (by decide +kernel)) (by decide +kernel)
theorem q_502 : ((.lays "EdgeCampaign$Finding" "EdgeCampaign$Finding" "depth" "I") : Cond) ∈ tb := tb_in (List.mem_of_getElem? (i := 264) (by decide +kernel)) (by decide +kernel)
theorem q_503 : ((.lays "EdgeCampaign$Finding" "EdgeCampaign$Finding" "hits" "I") : Cond) ∈ tb := tb_in (List.mem_of_getElem? (i := 266) (by decide +kernel)) (by decide +kernel)
theorem q_504 : ((.laysFinal "EdgeCampaign$Findings" "EdgeCampaign$Findings" "made" "[LEdgeCampaign$Finding;") : Cond) ∈ tb := tb_in (List.mem_of_getElem? (i := 273) (by decide +kernel)) (by decide +kernel)
theorem q_505 : ((.lays "EdgeCampaign$Findings" "EdgeCampaign$Findings" "size" "I") : Cond) ∈ tb := tb_in (List.mem_of_getElem? (i := 275) (by decide +kernel)) (by decide +kernel)
theorem q_506 : ((.lays "EdgeCampaign$Generator" "EdgeCampaign$Generator" "x" "I") : Cond) ∈ tb := tb_in (List.mem_of_getElem? (i := 303) (by decide +kernel)) (by decide +kernel)
theorem q_507 : ((.laysFinal "EdgeCampaign$Input" "EdgeCampaign$Input" "bytes" "[I") : Cond) ∈ tb := tb_in (List.mem_of_getElem? (i := 106) (by decide +kernel)) (by decide +kernel)
theorem q_508 : ((.lays "EdgeCampaign$Input" "EdgeCampaign$Input" "size" "I") : Cond) ∈ tb := tb_in (List.mem_of_getElem? (i := 108) (by decide +kernel)) (by decide +kernel)
theorem q_509 : ((.laysFinal "EdgeCampaign$Program" "EdgeCampaign$Program" "ops" "[I") : Cond) ∈ tb := tb_in (List.mem_of_getElem? (i := 83) (by decide +kernel)) (by decide +kernel)
theorem q_510 : ((.laysFinal "EdgeCampaign$Program" "EdgeCampaign$Program" "as" "[I") : Cond) ∈ tb := tb_in (List.mem_of_getElem? (i := 85) (by decide +kernel)) (by decide +kernel)
theorem q_511 : ((.laysFinal "EdgeCampaign$Program" "EdgeCampaign$Program" "bs" "[I") : Cond) ∈ tb := tb_in (List.mem_of_getElem? (i := 87) (by decide +kernel)) (by decide +kernel)
theorem q_512 : ((.lays "EdgeCampaign$Program" "EdgeCampaign$Program" "size" "I") : Cond) ∈ tb := tb_in (List.mem_of_getElem? (i := 89) (by decide +kernel)) (by decide +kernel)
theorem q_513 : ((.laysFinal "EdgeCampaign$Run" "EdgeCampaign$Run" "registers" "[I") : Cond) ∈ tb := tb_in (List.mem_of_getElem? (i := 135) (by decide +kernel)) (by decide +kernel)
theorem q_514 : ((.laysFinal "EdgeCampaign$Run" "EdgeCampaign$Run" "memory" "[I") : Cond) ∈ tb := tb_in (List.mem_of_getElem? (i := 137) (by decide +kernel)) (by decide +kernel)
theorem q_515 : ((.laysFinal "EdgeCampaign$Run" "EdgeCampaign$Run" "stack" "[I") : Cond) ∈ tb := tb_in (List.mem_of_getElem? (i := 139) (by decide +kernel)) (by decide +kernel)
theorem q_516 : ((.laysFinal "EdgeCampaign$Run" "EdgeCampaign$Run" "times" "[I") : Cond) ∈ tb := tb_in (List.mem_of_getElem? (i := 141) (by decide +kernel)) (by decide +kernel)
theorem q_517 : ((.laysFinal "EdgeCampaign$Run" "EdgeCampaign$Run" "edges" "[I") : Cond) ∈ tb := tb_in (List.mem_of_getElem? (i := 143) (by decide +kernel)) (by decide +kernel)
theorem q_518 : ((.lays "EdgeCampaign$Run" "EdgeCampaign$Run" "edgeCount" "I") : Cond) ∈ tb := tb_in (List.mem_of_getElem? (i := 145) (by decide +kernel)) (by decide +kernel)
theorem q_519 : ((.lays "EdgeCampaign$Run" "EdgeCampaign$Run" "depth" "I") : Cond) ∈ tb := tb_in (List.mem_of_getElem? (i := 147) (by decide +kernel)) (by decide +kernel)
theorem q_520 : ((.lays "EdgeCampaign$Run" "EdgeCampaign$Run" "pc" "I") : Cond) ∈ tb := tb_in (List.mem_of_getElem? (i := 149) (by decide +kernel)) (by decide +kernel)
theorem q_521 : ((.lays "EdgeCampaign$Run" "EdgeCampaign$Run" "here" "I") : Cond) ∈ tb := tb_in (List.mem_of_getElem? (i := 151) (by decide +kernel)) (by decide +kernel)
theorem q_522 : ((.lays "EdgeCampaign$Run" "EdgeCampaign$Run" "steps" "I") : Cond) ∈ tb := tb_in (List.mem_of_getElem? (i := 153) (by decide +kernel)) (by decide +kernel)
theorem q_523 : ((.lays "EdgeCampaign$Run" "EdgeCampaign$Run" "outcome" "I") : Cond) ∈ tb := tb_in (List.mem_of_getElem? (i := 155) (by decide +kernel)) (by decide +kernel)
theorem q_524 : ((.laysFinal "EdgeCampaign$Shortener" "EdgeCampaign$Shortener" "run" "LEdgeCampaign$Run;") : Cond) ∈ tb := tb_in (List.mem_of_getElem? (i := 290) (by decide +kernel)) (by decide +kernel)
theorem q_525 : ((.laysFinal "EdgeCampaign$Shortener" "EdgeCampaign$Shortener" "candidate" "LEdgeCampaign$Input;") : Cond) ∈ tb := tb_in (List.mem_of_getElem? (i := 292) (by decide +kernel)) (by decide +kernel)
theorem q_526 : ((.laysFinal "EdgeCampaign$Store" "EdgeCampaign$Store" "entries" "[LEdgeCampaign$Entry;") : Cond) ∈ tb := tb_in (List.mem_of_getElem? (i := 208) (by decide +kernel)) (by decide +kernel)
theorem q_527 : ((.laysFinal "EdgeCampaign$Store" "EdgeCampaign$Store" "buckets" "[I") : Cond) ∈ tb := tb_in (List.mem_of_getElem? (i := 210) (by decide +kernel)) (by decide +kernel)
theorem q_528 : ((.laysFinal "EdgeCampaign$Store" "EdgeCampaign$Store" "goers" "[I") : Cond) ∈ tb := tb_in (List.mem_of_getElem? (i := 212) (by decide +kernel)) (by decide +kernel)
theorem q_529 : ((.lays "EdgeCampaign$Store" "EdgeCampaign$Store" "size" "I") : Cond) ∈ tb := tb_in (List.mem_of_getElem? (i := 214) (by decide +kernel)) (by decide +kernel)
theorem q_530 : ((.lays "EdgeCampaign$Store" "EdgeCampaign$Store" "favoured" "I") : Cond) ∈ tb := tb_in (List.mem_of_getElem? (i := 216) (by decide +kernel)) (by decide +kernel)
theorem q_531 : ((.lays "EdgeCampaign$Store" "EdgeCampaign$Store" "seenEdges" "I") : Cond) ∈ tb := tb_in (List.mem_of_getElem? (i := 218) (by decide +kernel)) (by decide +kernel)
theorem q_532 : ((.lays "EdgeCampaign$Store" "EdgeCampaign$Store" "seenPairs" "I") : Cond) ∈ tb := tb_in (List.mem_of_getElem? (i := 220) (by decide +kernel)) (by decide +kernel)
theorem q_533 : ((.lays "EdgeCampaign$Trials" "EdgeCampaign$Trials" "taken" "I") : Cond) ∈ tb := tb_in (List.mem_of_getElem? (i := 318) (by decide +kernel)) (by decide +kernel)
theorem q_534 : ((.lays "EdgeCampaign$Trials" "EdgeCampaign$Trials" "number" "I") : Cond) ∈ tb := tb_in (List.mem_of_getElem? (i := 320) (by decide +kernel)) (by decide +kernel)
theorem q_535 : ((.lays "EdgeCampaign$Trials" "EdgeCampaign$Trials" "energy" "I") : Cond) ∈ tb := tb_in (List.mem_of_getElem? (i := 322) (by decide +kernel)) (by decide +kernel)
theorem q_536 : ((.laysFinal "EdgeCampaign" "EdgeCampaign" "program" "LEdgeCampaign$Program;") : Cond) ∈ tb := tb_in (List.mem_of_getElem? (i := 337) (by decide +kernel)) (by decide +kernel)
theorem q_537 : ((.laysFinal "EdgeCampaign" "EdgeCampaign" "draft" "LEdgeCampaign$Input;") : Cond) ∈ tb := tb_in (List.mem_of_getElem? (i := 339) (by decide +kernel)) (by decide +kernel)
theorem q_538 : ((.laysFinal "EdgeCampaign" "EdgeCampaign" "changed" "LEdgeCampaign$Input;") : Cond) ∈ tb := tb_in (List.mem_of_getElem? (i := 341) (by decide +kernel)) (by decide +kernel)
theorem q_539 : ((.laysFinal "EdgeCampaign" "EdgeCampaign" "run" "LEdgeCampaign$Run;") : Cond) ∈ tb := tb_in (List.mem_of_getElem? (i := 343) (by decide +kernel)) (by decide +kernel)
theorem q_540 : ((.laysFinal "EdgeCampaign" "EdgeCampaign" "store" "LEdgeCampaign$Store;") : Cond) ∈ tb := tb_in (List.mem_of_getElem? (i := 345) (by decide +kernel)) (by decide +kernel)
theorem q_541 : ((.laysFinal "EdgeCampaign" "EdgeCampaign" "findings" "LEdgeCampaign$Findings;") : Cond) ∈ tb := tb_in (List.mem_of_getElem? (i := 347) (by decide +kernel)) (by decide +kernel)
theorem q_542 : ((.laysFinal "EdgeCampaign" "EdgeCampaign" "shortener" "LEdgeCampaign$Shortener;") : Cond) ∈ tb := tb_in (List.mem_of_getElem? (i := 349) (by decide +kernel)) (by decide +kernel)
theorem q_543 : ((.laysFinal "EdgeCampaign" "EdgeCampaign" "generator" "LEdgeCampaign$Generator;") : Cond) ∈ tb := tb_in (List.mem_of_getElem? (i := 351) (by decide +kernel)) (by decide +kernel)
theorem q_544 : ((.laysFinal "EdgeCampaign" "EdgeCampaign" "trials" "LEdgeCampaign$Trials;") : Cond) ∈ tb := tb_in (List.mem_of_getElem? (i := 353) (by decide +kernel)) (by decide +kernel)
theorem q_545 : ((.lays "EdgeCampaign" "EdgeCampaign" "executions" "I") : Cond) ∈ tb := tb_in (List.mem_of_getElem? (i := 355) (by decide +kernel)) (by decide +kernel)
theorem q_546 : ((.lays "EdgeCampaign" "EdgeCampaign" "hangs" "I") : Cond) ∈ tb := tb_in (List.mem_of_getElem? (i := 357) (by decide +kernel)) (by decide +kernel)
theorem q_547 : ((.lays "EdgeCampaign" "EdgeCampaign" "lost" "I") : Cond) ∈ tb := tb_in (List.mem_of_getElem? (i := 359) (by decide +kernel)) (by decide +kernel)
theorem q_548 : ((.lays "EdgeCampaignModel" "EdgeCampaignModel" "size" "I") : Cond) ∈ tb := tb_in (List.mem_of_getElem? (i := 721) (by decide +kernel)) (by decide +kernel)
theorem q_549 : ((.laysFinal "EdgeCampaignModel" "EdgeCampaignModel" "ops" "[I") : Cond) ∈ tb := tb_in (List.mem_of_getElem? (i := 723) (by decide +kernel)) (by decide +kernel)
theorem q_550 : ((.laysFinal "EdgeCampaignModel" "EdgeCampaignModel" "as" "[I") : Cond) ∈ tb := tb_in (List.mem_of_getElem? (i := 725) (by decide +kernel)) (by decide +kernel)
theorem q_551 : ((.laysFinal "EdgeCampaignModel" "EdgeCampaignModel" "bs" "[I") : Cond) ∈ tb := tb_in (List.mem_of_getElem? (i := 727) (by decide +kernel)) (by decide +kernel)
theorem q_552 : ((.laysFinal "EdgeCampaignModel" "EdgeCampaignModel" "draft" "[I") : Cond) ∈ tb := tb_in (List.mem_of_getElem? (i := 729) (by decide +kernel)) (by decide +kernel)
theorem q_553 : ((.lays "EdgeCampaignModel" "EdgeCampaignModel" "drafted" "I") : Cond) ∈ tb := tb_in (List.mem_of_getElem? (i := 731) (by decide +kernel)) (by decide +kernel)
theorem q_554 : ((.lays "EdgeCampaignModel" "EdgeCampaignModel" "x" "I") : Cond) ∈ tb := tb_in (List.mem_of_getElem? (i := 733) (by decide +kernel)) (by decide +kernel)
theorem q_555 : ((.laysFinal "EdgeCampaignModel" "EdgeCampaignModel" "tape" "[I") : Cond) ∈ tb := tb_in (List.mem_of_getElem? (i := 735) (by decide +kernel)) (by decide +kernel)
theorem q_556 : ((.lays "EdgeCampaignModel" "EdgeCampaignModel" "tapeLength" "I") : Cond) ∈ tb := tb_in (List.mem_of_getElem? (i := 737) (by decide +kernel)) (by decide +kernel)
theorem q_557 : ((.laysFinal "EdgeCampaignModel" "EdgeCampaignModel" "\x72" "[I") : Cond) ∈ tb := tb_in (List.mem_of_getElem? (i := 739) (by decide +kernel)) (by decide +kernel)
theorem q_558 : ((.laysFinal "EdgeCampaignModel" "EdgeCampaignModel" "memory" "[I") : Cond) ∈ tb := tb_in (List.mem_of_getElem? (i := 741) (by decide +kernel)) (by decide +kernel)
theorem q_559 : ((.laysFinal "EdgeCampaignModel" "EdgeCampaignModel" "stack" "[I") : Cond) ∈ tb := tb_in (List.mem_of_getElem? (i := 743) (by decide +kernel)) (by decide +kernel)
theorem q_560 : ((.lays "EdgeCampaignModel" "EdgeCampaignModel" "depth" "I") : Cond) ∈ tb := tb_in (List.mem_of_getElem? (i := 745) (by decide +kernel)) (by decide +kernel)
theorem q_561 : ((.lays "EdgeCampaignModel" "EdgeCampaignModel" "pc" "I") : Cond) ∈ tb := tb_in (List.mem_of_getElem? (i := 747) (by decide +kernel)) (by decide +kernel)
theorem q_562 : ((.lays "EdgeCampaignModel" "EdgeCampaignModel" "here" "I") : Cond) ∈ tb := tb_in (List.mem_of_getElem? (i := 749) (by decide +kernel)) (by decide +kernel)
theorem q_563 : ((.lays "EdgeCampaignModel" "EdgeCampaignModel" "steps" "I") : Cond) ∈ tb := tb_in (List.mem_of_getElem? (i := 751) (by decide +kernel)) (by decide +kernel)
theorem q_564 : ((.lays "EdgeCampaignModel" "EdgeCampaignModel" "outcome" "I") : Cond) ∈ tb := tb_in (List.mem_of_getElem? (i := 753) (by decide +kernel)) (by decide +kernel)
theorem q_565 : ((.laysFinal "EdgeCampaignModel" "EdgeCampaignModel" "times" "[I") : Cond) ∈ tb := tb_in (List.mem_of_getElem? (i := 755) (by decide +kernel)) (by decide +kernel)
theorem q_566 : ((.lays "EdgeCampaignModel" "EdgeCampaignModel" "entries" "I") : Cond) ∈ tb := tb_in (List.mem_of_getElem? (i := 757) (by decide +kernel)) (by decide +kernel)
theorem q_567 : ((.laysFinal "EdgeCampaignModel" "EdgeCampaignModel" "inputs" "[I") : Cond) ∈ tb := tb_in (List.mem_of_getElem? (i := 759) (by decide +kernel)) (by decide +kernel)
theorem q_568 : ((.laysFinal "EdgeCampaignModel" "EdgeCampaignModel" "lengths" "[I") : Cond) ∈ tb := tb_in (List.mem_of_getElem? (i := 761) (by decide +kernel)) (by decide +kernel)
theorem q_569 : ((.laysFinal "EdgeCampaignModel" "EdgeCampaignModel" "finished" "[I") : Cond) ∈ tb := tb_in (List.mem_of_getElem? (i := 763) (by decide +kernel)) (by decide +kernel)
theorem q_570 : ((.lays "EdgeCampaignModel" "EdgeCampaignModel" "findings" "I") : Cond) ∈ tb := tb_in (List.mem_of_getElem? (i := 765) (by decide +kernel)) (by decide +kernel)
theorem q_571 : ((.laysFinal "EdgeCampaignModel" "EdgeCampaignModel" "traps" "[I") : Cond) ∈ tb := tb_in (List.mem_of_getElem? (i := 767) (by decide +kernel)) (by decide +kernel)
theorem q_572 : ((.laysFinal "EdgeCampaignModel" "EdgeCampaignModel" "places" "[I") : Cond) ∈ tb := tb_in (List.mem_of_getElem? (i := 769) (by decide +kernel)) (by decide +kernel)
theorem q_573 : ((.laysFinal "EdgeCampaignModel" "EdgeCampaignModel" "depths" "[I") : Cond) ∈ tb := tb_in (List.mem_of_getElem? (i := 771) (by decide +kernel)) (by decide +kernel)
theorem q_574 : ((.laysFinal "EdgeCampaignModel" "EdgeCampaignModel" "stacks" "[I") : Cond) ∈ tb := tb_in (List.mem_of_getElem? (i := 773) (by decide +kernel)) (by decide +kernel)
theorem q_575 : ((.laysFinal "EdgeCampaignModel" "EdgeCampaignModel" "hits" "[I") : Cond) ∈ tb := tb_in (List.mem_of_getElem? (i := 775) (by decide +kernel)) (by decide +kernel)
theorem q_576 : ((.laysFinal "EdgeCampaignModel" "EdgeCampaignModel" "found" "[I") : Cond) ∈ tb := tb_in (List.mem_of_getElem? (i := 777) (by decide +kernel)) (by decide +kernel)
theorem q_577 : ((.laysFinal "EdgeCampaignModel" "EdgeCampaignModel" "foundLength" "[I") : Cond) ∈ tb := tb_in (List.mem_of_getElem? (i := 779) (by decide +kernel)) (by decide +kernel)
theorem q_578 : ((.laysFinal "EdgeCampaignModel" "EdgeCampaignModel" "brief" "[I") : Cond) ∈ tb := tb_in (List.mem_of_getElem? (i := 781) (by decide +kernel)) (by decide +kernel)
theorem q_579 : ((.laysFinal "EdgeCampaignModel" "EdgeCampaignModel" "briefLength" "[I") : Cond) ∈ tb := tb_in (List.mem_of_getElem? (i := 783) (by decide +kernel)) (by decide +kernel)
theorem q_580 : ((.lays "EdgeCampaignModel" "EdgeCampaignModel" "executions" "I") : Cond) ∈ tb := tb_in (List.mem_of_getElem? (i := 785) (by decide +kernel)) (by decide +kernel)
theorem q_581 : ((.lays "EdgeCampaignModel" "EdgeCampaignModel" "hangs" "I") : Cond) ∈ tb := tb_in (List.mem_of_getElem? (i := 787) (by decide +kernel)) (by decide +kernel)
theorem q_582 : ((.lays "EdgeCampaignModel" "EdgeCampaignModel" "lost" "I") : Cond) ∈ tb := tb_in (List.mem_of_getElem? (i := 789) (by decide +kernel)) (by decide +kernel)
theorem q_583 : ((.lays "EdgeCampaignModel" "EdgeCampaignModel" "surveyed" "I") : Cond) ∈ tb := tb_in (List.mem_of_getElem? (i := 791) (by decide +kernel)) (by decide +kernel)
theorem q_584 : ((.laysFinal "EdgeCampaignModel" "EdgeCampaignModel" "buckets" "[I") : Cond) ∈ tb := tb_in (List.mem_of_getElem? (i := 793) (by decide +kernel)) (by decide +kernel)
theorem q_585 : ((.laysFinal "EdgeCampaignModel" "EdgeCampaignModel" "went" "[I") : Cond) ∈ tb := tb_in (List.mem_of_getElem? (i := 795) (by decide +kernel)) (by decide +kernel)
theorem q_586 : ((.laysFinal "EdgeCampaignModel" "EdgeCampaignModel" "stepsOf" "[I") : Cond) ∈ tb := tb_in (List.mem_of_getElem? (i := 797) (by decide +kernel)) (by decide +kernel)
theorem q_587 : ((.lays "EdgeCampaignModel" "EdgeCampaignModel" "favoured" "I") : Cond) ∈ tb := tb_in (List.mem_of_getElem? (i := 799) (by decide +kernel)) (by decide +kernel)
theorem q_588 : ((.lays "EdgeCampaignModel" "EdgeCampaignModel" "taken" "I") : Cond) ∈ tb := tb_in (List.mem_of_getElem? (i := 801) (by decide +kernel)) (by decide +kernel)
theorem q_589 : ((.lays "EdgeCampaignModel" "EdgeCampaignModel" "next" "I") : Cond) ∈ tb := tb_in (List.mem_of_getElem? (i := 803) (by decide +kernel)) (by decide +kernel)
theorem q_590 : ((.lays "EdgeCampaignModel" "EdgeCampaignModel" "energy" "I") : Cond) ∈ tb := tb_in (List.mem_of_getElem? (i := 805) (by decide +kernel)) (by decide +kernel)
theorem q_591 : ((.laysFinal "EdgeCampaignModel" "EdgeCampaignModel" "cur" "[I") : Cond) ∈ tb := tb_in (List.mem_of_getElem? (i := 807) (by decide +kernel)) (by decide +kernel)
theorem q_592 : ((.lays "EdgeCampaignModel" "EdgeCampaignModel" "curLength" "I") : Cond) ∈ tb := tb_in (List.mem_of_getElem? (i := 809) (by decide +kernel)) (by decide +kernel)
theorem nf_0 : (.fieldLinkNest "EdgeCampaign$Run" 65 "EdgeCampaign$Program" "ops" "[I" "EdgeCampaign" : Cond) ∈ nb := List.mem_append_left _ (List.mem_map_of_mem (f := fun q : String × Nat × String × String × String × String => Cond.fieldLinkNest q.1 q.2.1 q.2.2.1 q.2.2.2.1 q.2.2.2.2.1 q.2.2.2.2.2) (List.mem_of_getElem? (l := nbF) (i := 0) rfl))
theorem nf_1 : (.fieldLinkNest "EdgeCampaign$Run" 68 "EdgeCampaign$Program" "as" "[I" "EdgeCampaign" : Cond) ∈ nb := List.mem_append_left _ (List.mem_map_of_mem (f := fun q : String × Nat × String × String × String × String => Cond.fieldLinkNest q.1 q.2.1 q.2.2.1 q.2.2.2.1 q.2.2.2.2.1 q.2.2.2.2.2) (List.mem_of_getElem? (l := nbF) (i := 1) rfl))
theorem nf_2 : (.fieldLinkNest "EdgeCampaign$Run" 71 "EdgeCampaign$Program" "bs" "[I" "EdgeCampaign" : Cond) ∈ nb := List.mem_append_left _ (List.mem_map_of_mem (f := fun q : String × Nat × String × String × String × String => Cond.fieldLinkNest q.1 q.2.1 q.2.2.1 q.2.2.2.1 q.2.2.2.2.1 q.2.2.2.2.2) (List.mem_of_getElem? (l := nbF) (i := 2) rfl))
theorem nf_3 : (.fieldLinkNest "EdgeCampaign$Run" 97 "EdgeCampaign$Input" "size" "I" "EdgeCampaign" : Cond) ∈ nb := List.mem_append_left _ (List.mem_map_of_mem (f := fun q : String × Nat × String × String × String × String => Cond.fieldLinkNest q.1 q.2.1 q.2.2.1 q.2.2.2.1 q.2.2.2.2.1 q.2.2.2.2.2) (List.mem_of_getElem? (l := nbF) (i := 3) rfl))
theorem nf_4 : (.fieldLinkNest "EdgeCampaign$Store" 34 "EdgeCampaign$Run" "edgeCount" "I" "EdgeCampaign" : Cond) ∈ nb := List.mem_append_left _ (List.mem_map_of_mem (f := fun q : String × Nat × String × String × String × String => Cond.fieldLinkNest q.1 q.2.1 q.2.2.1 q.2.2.2.1 q.2.2.2.2.1 q.2.2.2.2.2) (List.mem_of_getElem? (l := nbF) (i := 4) rfl))
theorem nf_5 : (.fieldLinkNest "EdgeCampaign$Store" 39 "EdgeCampaign$Run" "edges" "[I" "EdgeCampaign" : Cond) ∈ nb := List.mem_append_left _ (List.mem_map_of_mem (f := fun q : String × Nat × String × String × String × String => Cond.fieldLinkNest q.1 q.2.1 q.2.2.1 q.2.2.2.1 q.2.2.2.2.1 q.2.2.2.2.2) (List.mem_of_getElem? (l := nbF) (i := 5) rfl))
theorem nf_6 : (.fieldLinkNest "EdgeCampaign$Entry" 20 "EdgeCampaign$Input" "size" "I" "EdgeCampaign" : Cond) ∈ nb := List.mem_append_left _ (List.mem_map_of_mem (f := fun q : String × Nat × String × String × String × String => Cond.fieldLinkNest q.1 q.2.1 q.2.2.1 q.2.2.2.1 q.2.2.2.2.1 q.2.2.2.2.2) (List.mem_of_getElem? (l := nbF) (i := 6) rfl))
theorem nf_7 : (.fieldLinkNest "EdgeCampaign$Store" 46 "EdgeCampaign$Entry" "input" "LEdgeCampaign$Input;" "EdgeCampaign" : Cond) ∈ nb := List.mem_append_left _ (List.mem_map_of_mem (f := fun q : String × Nat × String × String × String × String => Cond.fieldLinkNest q.1 q.2.1 q.2.2.1 q.2.2.2.1 q.2.2.2.2.1 q.2.2.2.2.2) (List.mem_of_getElem? (l := nbF) (i := 7) rfl))
theorem nf_8 : (.fieldLinkNest "EdgeCampaign$Store" 56 "EdgeCampaign$Run" "steps" "I" "EdgeCampaign" : Cond) ∈ nb := List.mem_append_left _ (List.mem_map_of_mem (f := fun q : String × Nat × String × String × String × String => Cond.fieldLinkNest q.1 q.2.1 q.2.2.1 q.2.2.2.1 q.2.2.2.2.1 q.2.2.2.2.2) (List.mem_of_getElem? (l := nbF) (i := 8) rfl))
theorem nf_9 : (.fieldLinkNest "EdgeCampaign$Store" 59 "EdgeCampaign$Entry" "steps" "I" "EdgeCampaign" : Cond) ∈ nb := List.mem_append_left _ (List.mem_map_of_mem (f := fun q : String × Nat × String × String × String × String => Cond.fieldLinkNest q.1 q.2.1 q.2.2.1 q.2.2.2.1 q.2.2.2.2.1 q.2.2.2.2.2) (List.mem_of_getElem? (l := nbF) (i := 9) rfl))
theorem nf_10 : (.fieldLinkNest "EdgeCampaign$Store" 60 "EdgeCampaign$Entry" "edgeCount" "I" "EdgeCampaign" : Cond) ∈ nb := List.mem_append_left _ (List.mem_map_of_mem (f := fun q : String × Nat × String × String × String × String => Cond.fieldLinkNest q.1 q.2.1 q.2.2.1 q.2.2.2.1 q.2.2.2.2.1 q.2.2.2.2.2) (List.mem_of_getElem? (l := nbF) (i := 10) rfl))
theorem nf_11 : (.fieldLinkNest "EdgeCampaign$Finding" 29 "EdgeCampaign$Run" "outcome" "I" "EdgeCampaign" : Cond) ∈ nb := List.mem_append_left _ (List.mem_map_of_mem (f := fun q : String × Nat × String × String × String × String => Cond.fieldLinkNest q.1 q.2.1 q.2.2.1 q.2.2.2.1 q.2.2.2.2.1 q.2.2.2.2.2) (List.mem_of_getElem? (l := nbF) (i := 11) rfl))
theorem nf_12 : (.fieldLinkNest "EdgeCampaign$Finding" 36 "EdgeCampaign$Run" "here" "I" "EdgeCampaign" : Cond) ∈ nb := List.mem_append_left _ (List.mem_map_of_mem (f := fun q : String × Nat × String × String × String × String => Cond.fieldLinkNest q.1 q.2.1 q.2.2.1 q.2.2.2.1 q.2.2.2.2.1 q.2.2.2.2.2) (List.mem_of_getElem? (l := nbF) (i := 12) rfl))
theorem nf_13 : (.fieldLinkNest "EdgeCampaign$Finding" 40 "EdgeCampaign$Run" "depth" "I" "EdgeCampaign" : Cond) ∈ nb := List.mem_append_left _ (List.mem_map_of_mem (f := fun q : String × Nat × String × String × String × String => Cond.fieldLinkNest q.1 q.2.1 q.2.2.1 q.2.2.2.1 q.2.2.2.2.1 q.2.2.2.2.2) (List.mem_of_getElem? (l := nbF) (i := 13) rfl))
theorem nf_14 : (.fieldLinkNest "EdgeCampaign$Findings" 24 "EdgeCampaign$Finding" "hits" "I" "EdgeCampaign" : Cond) ∈ nb := List.mem_append_left _ (List.mem_map_of_mem (f := fun q : String × Nat × String × String × String × String => Cond.fieldLinkNest q.1 q.2.1 q.2.2.1 q.2.2.2.1 q.2.2.2.2.1 q.2.2.2.2.2) (List.mem_of_getElem? (l := nbF) (i := 14) rfl))
theorem nf_15 : (.fieldLinkNest "EdgeCampaign$Shortener" 28 "EdgeCampaign$Input" "size" "I" "EdgeCampaign" : Cond) ∈ nb := List.mem_append_left _ (List.mem_map_of_mem (f := fun q : String × Nat × String × String × String × String => Cond.fieldLinkNest q.1 q.2.1 q.2.2.1 q.2.2.2.1 q.2.2.2.2.1 q.2.2.2.2.2) (List.mem_of_getElem? (l := nbF) (i := 15) rfl))
theorem nf_16 : (.fieldLinkNest "EdgeCampaign$Shortener" 23 "EdgeCampaign$Finding" "shortest" "LEdgeCampaign$Input;" "EdgeCampaign" : Cond) ∈ nb := List.mem_append_left _ (List.mem_map_of_mem (f := fun q : String × Nat × String × String × String × String => Cond.fieldLinkNest q.1 q.2.1 q.2.2.1 q.2.2.2.1 q.2.2.2.2.1 q.2.2.2.2.2) (List.mem_of_getElem? (l := nbF) (i := 16) rfl))
theorem nf_17 : (.fieldLinkNest "EdgeCampaign$Trials" 41 "EdgeCampaign$Input" "size" "I" "EdgeCampaign" : Cond) ∈ nb := List.mem_append_left _ (List.mem_map_of_mem (f := fun q : String × Nat × String × String × String × String => Cond.fieldLinkNest q.1 q.2.1 q.2.2.1 q.2.2.2.1 q.2.2.2.2.1 q.2.2.2.2.2) (List.mem_of_getElem? (l := nbF) (i := 17) rfl))
theorem nf_18 : (.fieldLinkNest "EdgeCampaign$Trials" 87 "EdgeCampaign$Entry" "edgeCount" "I" "EdgeCampaign" : Cond) ∈ nb := List.mem_append_left _ (List.mem_map_of_mem (f := fun q : String × Nat × String × String × String × String => Cond.fieldLinkNest q.1 q.2.1 q.2.2.1 q.2.2.2.1 q.2.2.2.2.1 q.2.2.2.2.2) (List.mem_of_getElem? (l := nbF) (i := 18) rfl))
theorem nf_19 : (.fieldLinkNest "EdgeCampaign$Trials" 25 "EdgeCampaign$Store" "entries" "[LEdgeCampaign$Entry;" "EdgeCampaign" : Cond) ∈ nb := List.mem_append_left _ (List.mem_map_of_mem (f := fun q : String × Nat × String × String × String × String => Cond.fieldLinkNest q.1 q.2.1 q.2.2.1 q.2.2.2.1 q.2.2.2.2.1 q.2.2.2.2.2) (List.mem_of_getElem? (l := nbF) (i := 19) rfl))
theorem nf_20 : (.fieldLinkNest "EdgeCampaign$Trials" 80 "EdgeCampaign$Entry" "finished" "I" "EdgeCampaign" : Cond) ∈ nb := List.mem_append_left _ (List.mem_map_of_mem (f := fun q : String × Nat × String × String × String × String => Cond.fieldLinkNest q.1 q.2.1 q.2.2.1 q.2.2.2.1 q.2.2.2.2.1 q.2.2.2.2.2) (List.mem_of_getElem? (l := nbF) (i := 20) rfl))
theorem nf_21 : (.fieldLinkNest "EdgeCampaign$Trials" 29 "EdgeCampaign$Entry" "input" "LEdgeCampaign$Input;" "EdgeCampaign" : Cond) ∈ nb := List.mem_append_left _ (List.mem_map_of_mem (f := fun q : String × Nat × String × String × String × String => Cond.fieldLinkNest q.1 q.2.1 q.2.2.1 q.2.2.2.1 q.2.2.2.2.1 q.2.2.2.2.2) (List.mem_of_getElem? (l := nbF) (i := 21) rfl))
theorem nf_22 : (.fieldLinkNest "EdgeCampaign" 190 "EdgeCampaign$Run" "outcome" "I" "EdgeCampaign" : Cond) ∈ nb := List.mem_append_left _ (List.mem_map_of_mem (f := fun q : String × Nat × String × String × String × String => Cond.fieldLinkNest q.1 q.2.1 q.2.2.1 q.2.2.2.1 q.2.2.2.2.1 q.2.2.2.2.2) (List.mem_of_getElem? (l := nbF) (i := 22) rfl))
theorem nf_23 : (.fieldLinkNest "EdgeCampaign$Trials" 79 "EdgeCampaign$Store" "size" "I" "EdgeCampaign" : Cond) ∈ nb := List.mem_append_left _ (List.mem_map_of_mem (f := fun q : String × Nat × String × String × String × String => Cond.fieldLinkNest q.1 q.2.1 q.2.2.1 q.2.2.2.1 q.2.2.2.2.1 q.2.2.2.2.2) (List.mem_of_getElem? (l := nbF) (i := 23) rfl))
theorem nf_24 : (.fieldLinkNest "EdgeCampaign" 94 "EdgeCampaign$Store" "size" "I" "EdgeCampaign" : Cond) ∈ nb := List.mem_append_left _ (List.mem_map_of_mem (f := fun q : String × Nat × String × String × String × String => Cond.fieldLinkNest q.1 q.2.1 q.2.2.1 q.2.2.2.1 q.2.2.2.2.1 q.2.2.2.2.2) (List.mem_of_getElem? (l := nbF) (i := 24) rfl))
theorem nf_25 : (.fieldLinkNest "EdgeCampaign" 105 "EdgeCampaign$Findings" "size" "I" "EdgeCampaign" : Cond) ∈ nb := List.mem_append_left _ (List.mem_map_of_mem (f := fun q : String × Nat × String × String × String × String => Cond.fieldLinkNest q.1 q.2.1 q.2.2.1 q.2.2.2.1 q.2.2.2.2.1 q.2.2.2.2.2) (List.mem_of_getElem? (l := nbF) (i := 25) rfl))
theorem nf_26 : (.fieldLinkNest "EdgeCampaign" 106 "EdgeCampaign$Store" "seenEdges" "I" "EdgeCampaign" : Cond) ∈ nb := List.mem_append_left _ (List.mem_map_of_mem (f := fun q : String × Nat × String × String × String × String => Cond.fieldLinkNest q.1 q.2.1 q.2.2.1 q.2.2.2.1 q.2.2.2.2.1 q.2.2.2.2.2) (List.mem_of_getElem? (l := nbF) (i := 26) rfl))
theorem nf_27 : (.fieldLinkNest "EdgeCampaign" 109 "EdgeCampaign$Store" "seenPairs" "I" "EdgeCampaign" : Cond) ∈ nb := List.mem_append_left _ (List.mem_map_of_mem (f := fun q : String × Nat × String × String × String × String => Cond.fieldLinkNest q.1 q.2.1 q.2.2.1 q.2.2.2.1 q.2.2.2.2.1 q.2.2.2.2.2) (List.mem_of_getElem? (l := nbF) (i := 27) rfl))
theorem nf_28 : (.fieldLinkNest "EdgeCampaign" 115 "EdgeCampaign$Store" "entries" "[LEdgeCampaign$Entry;" "EdgeCampaign" : Cond) ∈ nb := List.mem_append_left _ (List.mem_map_of_mem (f := fun q : String × Nat × String × String × String × String => Cond.fieldLinkNest q.1 q.2.1 q.2.2.1 q.2.2.2.1 q.2.2.2.2.1 q.2.2.2.2.2) (List.mem_of_getElem? (l := nbF) (i := 28) rfl))
theorem nf_29 : (.fieldLinkNest "EdgeCampaign" 119 "EdgeCampaign$Entry" "input" "LEdgeCampaign$Input;" "EdgeCampaign" : Cond) ∈ nb := List.mem_append_left _ (List.mem_map_of_mem (f := fun q : String × Nat × String × String × String × String => Cond.fieldLinkNest q.1 q.2.1 q.2.2.1 q.2.2.2.1 q.2.2.2.2.1 q.2.2.2.2.2) (List.mem_of_getElem? (l := nbF) (i := 29) rfl))
theorem nf_30 : (.fieldLinkNest "EdgeCampaign" 124 "EdgeCampaign$Input" "size" "I" "EdgeCampaign" : Cond) ∈ nb := List.mem_append_left _ (List.mem_map_of_mem (f := fun q : String × Nat × String × String × String × String => Cond.fieldLinkNest q.1 q.2.1 q.2.2.1 q.2.2.2.1 q.2.2.2.2.1 q.2.2.2.2.2) (List.mem_of_getElem? (l := nbF) (i := 30) rfl))
theorem nf_31 : (.fieldLinkNest "EdgeCampaign" 125 "EdgeCampaign$Entry" "steps" "I" "EdgeCampaign" : Cond) ∈ nb := List.mem_append_left _ (List.mem_map_of_mem (f := fun q : String × Nat × String × String × String × String => Cond.fieldLinkNest q.1 q.2.1 q.2.2.1 q.2.2.2.1 q.2.2.2.2.1 q.2.2.2.2.2) (List.mem_of_getElem? (l := nbF) (i := 31) rfl))
theorem nf_32 : (.fieldLinkNest "EdgeCampaign" 128 "EdgeCampaign$Entry" "edgeCount" "I" "EdgeCampaign" : Cond) ∈ nb := List.mem_append_left _ (List.mem_map_of_mem (f := fun q : String × Nat × String × String × String × String => Cond.fieldLinkNest q.1 q.2.1 q.2.2.1 q.2.2.2.1 q.2.2.2.2.1 q.2.2.2.2.2) (List.mem_of_getElem? (l := nbF) (i := 32) rfl))
theorem nf_33 : (.fieldLinkNest "EdgeCampaign" 131 "EdgeCampaign$Entry" "finished" "I" "EdgeCampaign" : Cond) ∈ nb := List.mem_append_left _ (List.mem_map_of_mem (f := fun q : String × Nat × String × String × String × String => Cond.fieldLinkNest q.1 q.2.1 q.2.2.1 q.2.2.2.1 q.2.2.2.2.1 q.2.2.2.2.2) (List.mem_of_getElem? (l := nbF) (i := 33) rfl))
theorem nf_34 : (.fieldLinkNest "EdgeCampaign" 144 "EdgeCampaign$Store" "buckets" "[I" "EdgeCampaign" : Cond) ∈ nb := List.mem_append_left _ (List.mem_map_of_mem (f := fun q : String × Nat × String × String × String × String => Cond.fieldLinkNest q.1 q.2.1 q.2.2.1 q.2.2.2.1 q.2.2.2.2.1 q.2.2.2.2.2) (List.mem_of_getElem? (l := nbF) (i := 34) rfl))
theorem nf_35 : (.fieldLinkNest "EdgeCampaign" 164 "EdgeCampaign$Finding" "latestFirst" "[I" "EdgeCampaign" : Cond) ∈ nb := List.mem_append_left _ (List.mem_map_of_mem (f := fun q : String × Nat × String × String × String × String => Cond.fieldLinkNest q.1 q.2.1 q.2.2.1 q.2.2.2.1 q.2.2.2.2.1 q.2.2.2.2.2) (List.mem_of_getElem? (l := nbF) (i := 35) rfl))
theorem nf_36 : (.fieldLinkNest "EdgeCampaign" 149 "EdgeCampaign$Findings" "made" "[LEdgeCampaign$Finding;" "EdgeCampaign" : Cond) ∈ nb := List.mem_append_left _ (List.mem_map_of_mem (f := fun q : String × Nat × String × String × String × String => Cond.fieldLinkNest q.1 q.2.1 q.2.2.1 q.2.2.2.1 q.2.2.2.2.1 q.2.2.2.2.2) (List.mem_of_getElem? (l := nbF) (i := 36) rfl))
theorem nf_37 : (.fieldLinkNest "EdgeCampaign" 153 "EdgeCampaign$Finding" "trap" "I" "EdgeCampaign" : Cond) ∈ nb := List.mem_append_left _ (List.mem_map_of_mem (f := fun q : String × Nat × String × String × String × String => Cond.fieldLinkNest q.1 q.2.1 q.2.2.1 q.2.2.2.1 q.2.2.2.2.1 q.2.2.2.2.2) (List.mem_of_getElem? (l := nbF) (i := 37) rfl))
theorem nf_38 : (.fieldLinkNest "EdgeCampaign" 158 "EdgeCampaign$Finding" "here" "I" "EdgeCampaign" : Cond) ∈ nb := List.mem_append_left _ (List.mem_map_of_mem (f := fun q : String × Nat × String × String × String × String => Cond.fieldLinkNest q.1 q.2.1 q.2.2.1 q.2.2.2.1 q.2.2.2.2.1 q.2.2.2.2.2) (List.mem_of_getElem? (l := nbF) (i := 38) rfl))
theorem nf_39 : (.fieldLinkNest "EdgeCampaign" 161 "EdgeCampaign$Finding" "depth" "I" "EdgeCampaign" : Cond) ∈ nb := List.mem_append_left _ (List.mem_map_of_mem (f := fun q : String × Nat × String × String × String × String => Cond.fieldLinkNest q.1 q.2.1 q.2.2.1 q.2.2.2.1 q.2.2.2.2.1 q.2.2.2.2.2) (List.mem_of_getElem? (l := nbF) (i := 39) rfl))
theorem nf_40 : (.fieldLinkNest "EdgeCampaign" 167 "EdgeCampaign$Finding" "hits" "I" "EdgeCampaign" : Cond) ∈ nb := List.mem_append_left _ (List.mem_map_of_mem (f := fun q : String × Nat × String × String × String × String => Cond.fieldLinkNest q.1 q.2.1 q.2.2.1 q.2.2.2.1 q.2.2.2.2.1 q.2.2.2.2.2) (List.mem_of_getElem? (l := nbF) (i := 40) rfl))
theorem nf_41 : (.fieldLinkNest "EdgeCampaign" 170 "EdgeCampaign$Finding" "input" "LEdgeCampaign$Input;" "EdgeCampaign" : Cond) ∈ nb := List.mem_append_left _ (List.mem_map_of_mem (f := fun q : String × Nat × String × String × String × String => Cond.fieldLinkNest q.1 q.2.1 q.2.2.1 q.2.2.2.1 q.2.2.2.2.1 q.2.2.2.2.2) (List.mem_of_getElem? (l := nbF) (i := 41) rfl))
theorem nf_42 : (.fieldLinkNest "EdgeCampaign" 171 "EdgeCampaign$Finding" "shortest" "LEdgeCampaign$Input;" "EdgeCampaign" : Cond) ∈ nb := List.mem_append_left _ (List.mem_map_of_mem (f := fun q : String × Nat × String × String × String × String => Cond.fieldLinkNest q.1 q.2.1 q.2.2.1 q.2.2.2.1 q.2.2.2.2.1 q.2.2.2.2.2) (List.mem_of_getElem? (l := nbF) (i := 42) rfl))
theorem nf_43 : (.fieldLinkNest "EdgeCampaign" 174 "EdgeCampaign$Trials" "taken" "I" "EdgeCampaign" : Cond) ∈ nb := List.mem_append_left _ (List.mem_map_of_mem (f := fun q : String × Nat × String × String × String × String => Cond.fieldLinkNest q.1 q.2.1 q.2.2.1 q.2.2.2.1 q.2.2.2.2.1 q.2.2.2.2.2) (List.mem_of_getElem? (l := nbF) (i := 43) rfl))
theorem nf_44 : (.fieldLinkNest "EdgeCampaign" 177 "EdgeCampaign$Trials" "number" "I" "EdgeCampaign" : Cond) ∈ nb := List.mem_append_left _ (List.mem_map_of_mem (f := fun q : String × Nat × String × String × String × String => Cond.fieldLinkNest q.1 q.2.1 q.2.2.1 q.2.2.2.1 q.2.2.2.2.1 q.2.2.2.2.2) (List.mem_of_getElem? (l := nbF) (i := 44) rfl))
theorem nf_45 : (.fieldLinkNest "EdgeCampaign" 180 "EdgeCampaign$Trials" "energy" "I" "EdgeCampaign" : Cond) ∈ nb := List.mem_append_left _ (List.mem_map_of_mem (f := fun q : String × Nat × String × String × String × String => Cond.fieldLinkNest q.1 q.2.1 q.2.2.1 q.2.2.2.1 q.2.2.2.2.1 q.2.2.2.2.2) (List.mem_of_getElem? (l := nbF) (i := 45) rfl))
theorem nf_46 : (.fieldLinkNest "EdgeCampaign" 183 "EdgeCampaign$Generator" "x" "I" "EdgeCampaign" : Cond) ∈ nb := List.mem_append_left _ (List.mem_map_of_mem (f := fun q : String × Nat × String × String × String × String => Cond.fieldLinkNest q.1 q.2.1 q.2.2.1 q.2.2.2.1 q.2.2.2.2.1 q.2.2.2.2.2) (List.mem_of_getElem? (l := nbF) (i := 46) rfl))
theorem in_EN : ∀ w ∈ u_ws R_EN T_EN 4, w ∈ tb := by
  intro w hw
  have e : u_ws R_EN T_EN 4 = [.laysFinal R_EN "EdgeCampaign$Entry" "input" "LEdgeCampaign$Input;", .lays R_EN "EdgeCampaign$Entry" "steps" "I", .lays R_EN "EdgeCampaign$Entry" "edgeCount" "I", .lays R_EN "EdgeCampaign$Entry" "finished" "I"] := rfl
  rw [e] at hw
  simp only [List.mem_cons, List.not_mem_nil, or_false] at hw
  rcases hw with rfl | rfl | rfl | rfl
  · exact q_493
  · exact q_494
  · exact q_495
  · exact q_496
theorem in_FI : ∀ w ∈ u_ws R_FI T_FI 7, w ∈ tb := by
  intro w hw
  have e : u_ws R_FI T_FI 7 = [.laysFinal R_FI "EdgeCampaign$Finding" "input" "LEdgeCampaign$Input;", .laysFinal R_FI "EdgeCampaign$Finding" "shortest" "LEdgeCampaign$Input;", .laysFinal R_FI "EdgeCampaign$Finding" "latestFirst" "[I", .lays R_FI "EdgeCampaign$Finding" "trap" "I", .lays R_FI "EdgeCampaign$Finding" "here" "I", .lays R_FI "EdgeCampaign$Finding" "depth" "I", .lays R_FI "EdgeCampaign$Finding" "hits" "I"] := rfl
  rw [e] at hw
  simp only [List.mem_cons, List.not_mem_nil, or_false] at hw
  rcases hw with rfl | rfl | rfl | rfl | rfl | rfl | rfl
  · exact q_497
  · exact q_498
  · exact q_499
  · exact q_500
  · exact q_501
  · exact q_502
  · exact q_503
theorem in_FS : ∀ w ∈ u_ws R_FS T_FS 2, w ∈ tb := by
  intro w hw
  have e : u_ws R_FS T_FS 2 = [.laysFinal R_FS "EdgeCampaign$Findings" "made" "[LEdgeCampaign$Finding;", .lays R_FS "EdgeCampaign$Findings" "size" "I"] := rfl
  rw [e] at hw
  simp only [List.mem_cons, List.not_mem_nil, or_false] at hw
  rcases hw with rfl | rfl
  · exact q_504
  · exact q_505
theorem in_GE : ∀ w ∈ u_ws R_GE T_GE 1, w ∈ tb := by
  intro w hw
  have e : u_ws R_GE T_GE 1 = [.lays R_GE "EdgeCampaign$Generator" "x" "I"] := rfl
  rw [e] at hw
  simp only [List.mem_cons, List.not_mem_nil, or_false] at hw
  subst hw
  · exact q_506
theorem in_IN : ∀ w ∈ u_ws R_IN T_IN 2, w ∈ tb := by
  intro w hw
  have e : u_ws R_IN T_IN 2 = [.laysFinal R_IN "EdgeCampaign$Input" "bytes" "[I", .lays R_IN "EdgeCampaign$Input" "size" "I"] := rfl
  rw [e] at hw
  simp only [List.mem_cons, List.not_mem_nil, or_false] at hw
  rcases hw with rfl | rfl
  · exact q_507
  · exact q_508
theorem in_PR : ∀ w ∈ u_ws R_PR T_PR 4, w ∈ tb := by
  intro w hw
  have e : u_ws R_PR T_PR 4 = [.laysFinal R_PR "EdgeCampaign$Program" "ops" "[I", .laysFinal R_PR "EdgeCampaign$Program" "as" "[I", .laysFinal R_PR "EdgeCampaign$Program" "bs" "[I", .lays R_PR "EdgeCampaign$Program" "size" "I"] := rfl
  rw [e] at hw
  simp only [List.mem_cons, List.not_mem_nil, or_false] at hw
  rcases hw with rfl | rfl | rfl | rfl
  · exact q_509
  · exact q_510
  · exact q_511
  · exact q_512
theorem in_RU : ∀ w ∈ u_ws R_RU T_RU 11, w ∈ tb := by
  intro w hw
  have e : u_ws R_RU T_RU 11 = [.laysFinal R_RU "EdgeCampaign$Run" "registers" "[I", .laysFinal R_RU "EdgeCampaign$Run" "memory" "[I", .laysFinal R_RU "EdgeCampaign$Run" "stack" "[I", .laysFinal R_RU "EdgeCampaign$Run" "times" "[I", .laysFinal R_RU "EdgeCampaign$Run" "edges" "[I", .lays R_RU "EdgeCampaign$Run" "edgeCount" "I", .lays R_RU "EdgeCampaign$Run" "depth" "I", .lays R_RU "EdgeCampaign$Run" "pc" "I", .lays R_RU "EdgeCampaign$Run" "here" "I", .lays R_RU "EdgeCampaign$Run" "steps" "I", .lays R_RU "EdgeCampaign$Run" "outcome" "I"] := rfl
  rw [e] at hw
  simp only [List.mem_cons, List.not_mem_nil, or_false] at hw
  rcases hw with rfl | rfl | rfl | rfl | rfl | rfl | rfl | rfl | rfl | rfl | rfl
  · exact q_513
  · exact q_514
  · exact q_515
  · exact q_516
  · exact q_517
  · exact q_518
  · exact q_519
  · exact q_520
  · exact q_521
  · exact q_522
  · exact q_523
theorem in_SH : ∀ w ∈ u_ws R_SH T_SH 2, w ∈ tb := by
  intro w hw
  have e : u_ws R_SH T_SH 2 = [.laysFinal R_SH "EdgeCampaign$Shortener" "run" "LEdgeCampaign$Run;", .laysFinal R_SH "EdgeCampaign$Shortener" "candidate" "LEdgeCampaign$Input;"] := rfl
  rw [e] at hw
  simp only [List.mem_cons, List.not_mem_nil, or_false] at hw
  rcases hw with rfl | rfl
  · exact q_524
  · exact q_525
theorem in_ST : ∀ w ∈ u_ws R_ST T_ST 7, w ∈ tb := by
  intro w hw
  have e : u_ws R_ST T_ST 7 = [.laysFinal R_ST "EdgeCampaign$Store" "entries" "[LEdgeCampaign$Entry;", .laysFinal R_ST "EdgeCampaign$Store" "buckets" "[I", .laysFinal R_ST "EdgeCampaign$Store" "goers" "[I", .lays R_ST "EdgeCampaign$Store" "size" "I", .lays R_ST "EdgeCampaign$Store" "favoured" "I", .lays R_ST "EdgeCampaign$Store" "seenEdges" "I", .lays R_ST "EdgeCampaign$Store" "seenPairs" "I"] := rfl
  rw [e] at hw
  simp only [List.mem_cons, List.not_mem_nil, or_false] at hw
  rcases hw with rfl | rfl | rfl | rfl | rfl | rfl | rfl
  · exact q_526
  · exact q_527
  · exact q_528
  · exact q_529
  · exact q_530
  · exact q_531
  · exact q_532
theorem in_TR : ∀ w ∈ u_ws R_TR T_TR 3, w ∈ tb := by
  intro w hw
  have e : u_ws R_TR T_TR 3 = [.lays R_TR "EdgeCampaign$Trials" "taken" "I", .lays R_TR "EdgeCampaign$Trials" "number" "I", .lays R_TR "EdgeCampaign$Trials" "energy" "I"] := rfl
  rw [e] at hw
  simp only [List.mem_cons, List.not_mem_nil, or_false] at hw
  rcases hw with rfl | rfl | rfl
  · exact q_533
  · exact q_534
  · exact q_535
theorem in_EC : ∀ w ∈ u_ws R_EC T_EC 12, w ∈ tb := by
  intro w hw
  have e : u_ws R_EC T_EC 12 = [.laysFinal R_EC "EdgeCampaign" "program" "LEdgeCampaign$Program;", .laysFinal R_EC "EdgeCampaign" "draft" "LEdgeCampaign$Input;", .laysFinal R_EC "EdgeCampaign" "changed" "LEdgeCampaign$Input;", .laysFinal R_EC "EdgeCampaign" "run" "LEdgeCampaign$Run;", .laysFinal R_EC "EdgeCampaign" "store" "LEdgeCampaign$Store;", .laysFinal R_EC "EdgeCampaign" "findings" "LEdgeCampaign$Findings;", .laysFinal R_EC "EdgeCampaign" "shortener" "LEdgeCampaign$Shortener;", .laysFinal R_EC "EdgeCampaign" "generator" "LEdgeCampaign$Generator;", .laysFinal R_EC "EdgeCampaign" "trials" "LEdgeCampaign$Trials;", .lays R_EC "EdgeCampaign" "executions" "I", .lays R_EC "EdgeCampaign" "hangs" "I", .lays R_EC "EdgeCampaign" "lost" "I"] := rfl
  rw [e] at hw
  simp only [List.mem_cons, List.not_mem_nil, or_false] at hw
  rcases hw with rfl | rfl | rfl | rfl | rfl | rfl | rfl | rfl | rfl | rfl | rfl | rfl
  · exact q_536
  · exact q_537
  · exact q_538
  · exact q_539
  · exact q_540
  · exact q_541
  · exact q_542
  · exact q_543
  · exact q_544
  · exact q_545
  · exact q_546
  · exact q_547
theorem in_MO : ∀ w ∈ u_ws R_MO T_MO 45, w ∈ tb := by
  intro w hw
  have e : u_ws R_MO T_MO 45 = [.lays R_MO "EdgeCampaignModel" "size" "I", .laysFinal R_MO "EdgeCampaignModel" "ops" "[I", .laysFinal R_MO "EdgeCampaignModel" "as" "[I", .laysFinal R_MO "EdgeCampaignModel" "bs" "[I", .laysFinal R_MO "EdgeCampaignModel" "draft" "[I", .lays R_MO "EdgeCampaignModel" "drafted" "I", .lays R_MO "EdgeCampaignModel" "x" "I", .laysFinal R_MO "EdgeCampaignModel" "tape" "[I", .lays R_MO "EdgeCampaignModel" "tapeLength" "I", .laysFinal R_MO "EdgeCampaignModel" "\x72" "[I", .laysFinal R_MO "EdgeCampaignModel" "memory" "[I", .laysFinal R_MO "EdgeCampaignModel" "stack" "[I", .lays R_MO "EdgeCampaignModel" "depth" "I", .lays R_MO "EdgeCampaignModel" "pc" "I", .lays R_MO "EdgeCampaignModel" "here" "I", .lays R_MO "EdgeCampaignModel" "steps" "I", .lays R_MO "EdgeCampaignModel" "outcome" "I", .laysFinal R_MO "EdgeCampaignModel" "times" "[I", .lays R_MO "EdgeCampaignModel" "entries" "I", .laysFinal R_MO "EdgeCampaignModel" "inputs" "[I", .laysFinal R_MO "EdgeCampaignModel" "lengths" "[I", .laysFinal R_MO "EdgeCampaignModel" "finished" "[I", .lays R_MO "EdgeCampaignModel" "findings" "I", .laysFinal R_MO "EdgeCampaignModel" "traps" "[I", .laysFinal R_MO "EdgeCampaignModel" "places" "[I", .laysFinal R_MO "EdgeCampaignModel" "depths" "[I", .laysFinal R_MO "EdgeCampaignModel" "stacks" "[I", .laysFinal R_MO "EdgeCampaignModel" "hits" "[I", .laysFinal R_MO "EdgeCampaignModel" "found" "[I", .laysFinal R_MO "EdgeCampaignModel" "foundLength" "[I", .laysFinal R_MO "EdgeCampaignModel" "brief" "[I", .laysFinal R_MO "EdgeCampaignModel" "briefLength" "[I", .lays R_MO "EdgeCampaignModel" "executions" "I", .lays R_MO "EdgeCampaignModel" "hangs" "I", .lays R_MO "EdgeCampaignModel" "lost" "I", .lays R_MO "EdgeCampaignModel" "surveyed" "I", .laysFinal R_MO "EdgeCampaignModel" "buckets" "[I", .laysFinal R_MO "EdgeCampaignModel" "went" "[I", .laysFinal R_MO "EdgeCampaignModel" "stepsOf" "[I", .lays R_MO "EdgeCampaignModel" "favoured" "I", .lays R_MO "EdgeCampaignModel" "taken" "I", .lays R_MO "EdgeCampaignModel" "next" "I", .lays R_MO "EdgeCampaignModel" "energy" "I", .laysFinal R_MO "EdgeCampaignModel" "cur" "[I", .lays R_MO "EdgeCampaignModel" "curLength" "I"] := rfl
  rw [e] at hw
  simp only [List.mem_cons, List.not_mem_nil, or_false] at hw
  rcases hw with rfl | rfl | rfl | rfl | rfl | rfl | rfl | rfl | rfl | rfl | rfl | rfl | rfl | rfl | rfl | rfl | rfl | rfl | rfl | rfl | rfl | rfl | rfl | rfl | rfl | rfl | rfl | rfl | rfl | rfl | rfl | rfl | rfl | rfl | rfl | rfl | rfl | rfl | rfl | rfl | rfl | rfl | rfl | rfl | rfl
  · exact q_548
  · exact q_549
  · exact q_550
  · exact q_551
  · exact q_552
  · exact q_553
  · exact q_554
  · exact q_555
  · exact q_556
  · exact q_557
  · exact q_558
  · exact q_559
  · exact q_560
  · exact q_561
  · exact q_562
  · exact q_563
  · exact q_564
  · exact q_565
  · exact q_566
  · exact q_567
  · exact q_568
  · exact q_569
  · exact q_570
  · exact q_571
  · exact q_572
  · exact q_573
  · exact q_574
  · exact q_575
  · exact q_576
  · exact q_577
  · exact q_578
  · exact q_579
  · exact q_580
  · exact q_581
  · exact q_582
  · exact q_583
  · exact q_584
  · exact q_585
  · exact q_586
  · exact q_587
  · exact q_588
  · exact q_589
  · exact q_590
  · exact q_591
  · exact q_592
end
section
theorem cl_PR_31 {p : Program} {l : Launch} {e : Env} {R : Room} {s : State} {m : MethodId} {args : Array Value} {below : List Frame} {meth : Method} {c : Code} {H : Heap} {locs : List Loc} {cells slots : Nat} {Q : State → Prop} {cc : ByteArray} {pc : Nat} {ls : Array Slot} {rest : List Value} {x : Cx} {M : Mem} {a1 : Int32} {nL : Nat} {rm : Room} {out : Int32 × Mem} (hM : Ci l x y_PR_isPlace (Cond.code y_PR_isPlace b_PR_isPlace 1 (some .boolean) :: tb) rm [.int a1] M out) (hx : p.tables.exec = Jvm.exec) (hb : c.code = cc) (hml : c.maxLocals = nL) (hts : Tb args s) (hown : s.vm.findClass R_PR = some m.cls) (hK : va_K x.1 vwCl (tysx x) s) (hZ : Stc x s s.heap) (hP : va_P x.1 vwCl (wld x M) H) (hS : va_S (A0 x) s.heap H locs) (hsz : ls.size = nL) (hre : (rest.map fun v => v.category).sum ≤ 8) (hfr : rm.frames + 1 ≤ R.frames) (hlo : 8 + (1 + 11) + rm.locals ≤ R.locals) (hcs : rm.cells = 0 ∧ rm.slots = 0 ∧ cells ≤ R.cells ∧ slots ≤ R.slots) (hdg : decode cc pc = .ok (.invokestatic 31, 3)) (kk : ∀ (H1 : Heap) (locs1 : List Loc), va_P x.1 vwCl (wld x out.2) H1 → va_S (A0 x) s.heap H1 locs1 → W p l e R s m args below meth c H1 locs1 cells slots Q (F0 m (pc + 3) ls (.int out.1 :: rest))) : W p l e R s m args below meth c H locs cells slots Q (F0 m pc ls (.int a1 :: rest)) :=
  m_ci (va_runS (As := [.int a1]) (rest := rest) ⟨hx, hb, hml, hown, hts.1⟩ hM (⟨callB_of 1 hts.1 (tb_good q_0) rfl hcs.1 hcs.2.1 (hts.1 _ q_2) (hts.1 _ q_1) ⟨by decide, by decide, by decide +kernel⟩ ⟨hfr, hlo⟩, hts.1 _ q_3⟩) ⟨blind, m_pre hts hK hZ hP hS⟩ rfl rfl hsz rfl (lv_room hre) hdg ⟨hcs.2.2.1, hcs.2.2.2⟩) hS kk
theorem cl_PR_23 {p : Program} {l : Launch} {e : Env} {R : Room} {s : State} {m : MethodId} {args : Array Value} {below : List Frame} {meth : Method} {c : Code} {H : Heap} {locs : List Loc} {cells slots : Nat} {Q : State → Prop} {cc : ByteArray} {pc : Nat} {ls : Array Slot} {rest : List Value} {x : Cx} {M : Mem} {a1 : Int32} {nL : Nat} {rm : Room} {out : Int32 × Mem} (hM : Ci l x y_PR_isRegister (Cond.code y_PR_isRegister b_PR_isRegister 1 (some .boolean) :: tb) rm [.int a1] M out) (hx : p.tables.exec = Jvm.exec) (hb : c.code = cc) (hml : c.maxLocals = nL) (hts : Tb args s) (hown : s.vm.findClass R_PR = some m.cls) (hK : va_K x.1 vwCl (tysx x) s) (hZ : Stc x s s.heap) (hP : va_P x.1 vwCl (wld x M) H) (hS : va_S (A0 x) s.heap H locs) (hsz : ls.size = nL) (hre : (rest.map fun v => v.category).sum ≤ 8) (hfr : rm.frames + 1 ≤ R.frames) (hlo : 8 + (1 + 11) + rm.locals ≤ R.locals) (hcs : rm.cells = 0 ∧ rm.slots = 0 ∧ cells ≤ R.cells ∧ slots ≤ R.slots) (hdg : decode cc pc = .ok (.invokestatic 23, 3)) (kk : ∀ (H1 : Heap) (locs1 : List Loc), va_P x.1 vwCl (wld x out.2) H1 → va_S (A0 x) s.heap H1 locs1 → W p l e R s m args below meth c H1 locs1 cells slots Q (F0 m (pc + 3) ls (.int out.1 :: rest))) : W p l e R s m args below meth c H locs cells slots Q (F0 m pc ls (.int a1 :: rest)) :=
  m_ci (va_runS (As := [.int a1]) (rest := rest) ⟨hx, hb, hml, hown, hts.1⟩ hM (⟨callB_of 1 hts.1 (tb_good q_4) rfl hcs.1 hcs.2.1 (hts.1 _ q_2) (hts.1 _ q_5) ⟨by decide, by decide, by decide +kernel⟩ ⟨hfr, hlo⟩, hts.1 _ q_6⟩) ⟨blind, m_pre hts hK hZ hP hS⟩ rfl rfl hsz rfl (lv_room hre) hdg ⟨hcs.2.2.1, hcs.2.2.2⟩) hS kk
theorem gf_PR_19 {p : Program} {l : Launch} {e : Env} {R : Room} {s : State} {m : MethodId} {args : Array Value} {below : List Frame} {meth : Method} {c : Code} {H : Heap} {locs : List Loc} {cells slots : Nat} {Q : State → Prop} {cc : ByteArray} {pc : Nat} {ls : Array Slot} {rest : List Value} {x : Cx} {M : Mem} (hexec : p.tables.exec = Jvm.exec) (hb : c.code = cc) (hts : Tb args s) (hown : s.vm.findClass R_PR = some m.cls) (hK : va_K x.1 vwCl (tysx x) s) (hP : va_P x.1 vwCl (wld x M) H) (hdg : decode cc pc = .ok (.getfield 19, 3)) (kk : W p l e R s m args below meth c H locs cells slots Q (F0 m (pc + 3) ls (.int (M 1 3) :: rest))) : W p l e R s m args below meth c H locs cells slots Q (F0 m pc ls (.ref (x.2.1 1) :: rest)) :=
  m_get (ref := "EdgeCampaign$Program") (C := R_PR) (T := T_PR) (N := 4) (ci := 5) hexec hb hts in_PR hown hK hP (by decide) rfl rfl 3 (by decide) q_7 rfl rfl hdg kk
theorem cl_PR_27 {p : Program} {l : Launch} {e : Env} {R : Room} {s : State} {m : MethodId} {args : Array Value} {below : List Frame} {meth : Method} {c : Code} {H : Heap} {locs : List Loc} {cells slots : Nat} {Q : State → Prop} {cc : ByteArray} {pc : Nat} {ls : Array Slot} {rest : List Value} {x : Cx} {M : Mem} {a1 : Int32} {a2 : Int32} {nL : Nat} {rm : Room} {out : Int32 × Mem} (hM : Ci l x y_PR_fits (Cond.code y_PR_fits b_PR_fits 2 (some .boolean) :: tb) rm [.int a1, .int a2] M out) (hx : p.tables.exec = Jvm.exec) (hb : c.code = cc) (hml : c.maxLocals = nL) (hts : Tb args s) (hown : s.vm.findClass R_PR = some m.cls) (hK : va_K x.1 vwCl (tysx x) s) (hZ : Stc x s s.heap) (hP : va_P x.1 vwCl (wld x M) H) (hS : va_S (A0 x) s.heap H locs) (hsz : ls.size = nL) (hre : (rest.map fun v => v.category).sum ≤ 8) (hfr : rm.frames + 1 ≤ R.frames) (hlo : 8 + (2 + 11) + rm.locals ≤ R.locals) (hcs : rm.cells = 0 ∧ rm.slots = 0 ∧ cells ≤ R.cells ∧ slots ≤ R.slots) (hdg : decode cc pc = .ok (.invokestatic 27, 3)) (kk : ∀ (H1 : Heap) (locs1 : List Loc), va_P x.1 vwCl (wld x out.2) H1 → va_S (A0 x) s.heap H1 locs1 → W p l e R s m args below meth c H1 locs1 cells slots Q (F0 m (pc + 3) ls (.int out.1 :: rest))) : W p l e R s m args below meth c H locs cells slots Q (F0 m pc ls (.int a2 :: .int a1 :: rest)) :=
  m_ci (va_runS (As := [.int a1, .int a2]) (rest := rest) ⟨hx, hb, hml, hown, hts.1⟩ hM (⟨callB_of 2 hts.1 (tb_good q_8) rfl hcs.1 hcs.2.1 (hts.1 _ q_2) (hts.1 _ q_9) ⟨by decide, by decide, by decide +kernel⟩ ⟨hfr, hlo⟩, hts.1 _ q_10⟩) ⟨blind, m_pre hts hK hZ hP hS⟩ rfl rfl hsz rfl (lv_room hre) hdg ⟨hcs.2.2.1, hcs.2.2.2⟩) hS kk
theorem gf_PR_9 {p : Program} {l : Launch} {e : Env} {R : Room} {s : State} {m : MethodId} {args : Array Value} {below : List Frame} {meth : Method} {c : Code} {H : Heap} {locs : List Loc} {cells slots : Nat} {Q : State → Prop} {cc : ByteArray} {pc : Nat} {ls : Array Slot} {rest : List Value} {x : Cx} {M : Mem} (hexec : p.tables.exec = Jvm.exec) (hb : c.code = cc) (hts : Tb args s) (hown : s.vm.findClass R_PR = some m.cls) (hK : va_K x.1 vwCl (tysx x) s) (hP : va_P x.1 vwCl (wld x M) H) (hdg : decode cc pc = .ok (.getfield 9, 3)) (kk : W p l e R s m args below meth c H locs cells slots Q (F0 m (pc + 3) ls (.ref (x.2.1 2) :: rest))) : W p l e R s m args below meth c H locs cells slots Q (F0 m pc ls (.ref (x.2.1 1) :: rest)) :=
  m_get (ref := "EdgeCampaign$Program") (C := R_PR) (T := T_PR) (N := 4) (ci := 5) hexec hb hts in_PR hown hK hP (by decide) rfl rfl 0 (by decide) q_11 rfl rfl hdg kk
theorem gf_PR_13 {p : Program} {l : Launch} {e : Env} {R : Room} {s : State} {m : MethodId} {args : Array Value} {below : List Frame} {meth : Method} {c : Code} {H : Heap} {locs : List Loc} {cells slots : Nat} {Q : State → Prop} {cc : ByteArray} {pc : Nat} {ls : Array Slot} {rest : List Value} {x : Cx} {M : Mem} (hexec : p.tables.exec = Jvm.exec) (hb : c.code = cc) (hts : Tb args s) (hown : s.vm.findClass R_PR = some m.cls) (hK : va_K x.1 vwCl (tysx x) s) (hP : va_P x.1 vwCl (wld x M) H) (hdg : decode cc pc = .ok (.getfield 13, 3)) (kk : W p l e R s m args below meth c H locs cells slots Q (F0 m (pc + 3) ls (.ref (x.2.1 3) :: rest))) : W p l e R s m args below meth c H locs cells slots Q (F0 m pc ls (.ref (x.2.1 1) :: rest)) :=
  m_get (ref := "EdgeCampaign$Program") (C := R_PR) (T := T_PR) (N := 4) (ci := 5) hexec hb hts in_PR hown hK hP (by decide) rfl rfl 1 (by decide) q_12 rfl rfl hdg kk
theorem gf_PR_16 {p : Program} {l : Launch} {e : Env} {R : Room} {s : State} {m : MethodId} {args : Array Value} {below : List Frame} {meth : Method} {c : Code} {H : Heap} {locs : List Loc} {cells slots : Nat} {Q : State → Prop} {cc : ByteArray} {pc : Nat} {ls : Array Slot} {rest : List Value} {x : Cx} {M : Mem} (hexec : p.tables.exec = Jvm.exec) (hb : c.code = cc) (hts : Tb args s) (hown : s.vm.findClass R_PR = some m.cls) (hK : va_K x.1 vwCl (tysx x) s) (hP : va_P x.1 vwCl (wld x M) H) (hdg : decode cc pc = .ok (.getfield 16, 3)) (kk : W p l e R s m args below meth c H locs cells slots Q (F0 m (pc + 3) ls (.ref (x.2.1 4) :: rest))) : W p l e R s m args below meth c H locs cells slots Q (F0 m pc ls (.ref (x.2.1 1) :: rest)) :=
  m_get (ref := "EdgeCampaign$Program") (C := R_PR) (T := T_PR) (N := 4) (ci := 5) hexec hb hts in_PR hown hK hP (by decide) rfl rfl 2 (by decide) q_13 rfl rfl hdg kk
theorem pf_PR_19 {p : Program} {l : Launch} {e : Env} {R : Room} {s : State} {m : MethodId} {args : Array Value} {below : List Frame} {meth : Method} {c : Code} {H H0 : Heap} {locs : List Loc} {cells slots : Nat} {Q : State → Prop} {cc : ByteArray} {pc : Nat} {ls : Array Slot} {rest : List Value} {x : Cx} {M M1 : Mem} {v : Int32} (hexec : p.tables.exec = Jvm.exec) (hb : c.code = cc) (hts : Tb args s) (hown : s.vm.findClass R_PR = some m.cls) (hK : va_K x.1 vwCl (tysx x) s) (hJ : Inj x) (hP : va_P x.1 vwCl (wld x M) H) (hS : va_S (A0 x) H0 H locs) (hM : M1 = st M 1 3 v) (hdg : decode cc pc = .ok (.putfield 19, 3)) (kk : ∀ (H1 : Heap) (locs1 : List Loc), va_P x.1 vwCl (wld x M1) H1 → va_S (A0 x) H0 H1 locs1 → W p l e R s m args below meth c H1 locs1 cells slots Q (F0 m (pc + 3) ls rest)) : W p l e R s m args below meth c H locs cells slots Q (F0 m pc ls (.int v :: .ref (x.2.1 1) :: rest)) :=
  m_put (ref := "EdgeCampaign$Program") (C := R_PR) (T := T_PR) (N := 4) (ci := 5) hexec hb hts in_PR t_PR ty_PR nm_PR hown hK hJ hP hS (by decide) rfl rfl 3 (by decide) q_7 rfl rfl (by decide +kernel) (Nat.le_of_ble_eq_true rfl) rfl hM hdg kk
theorem gf_EC_70 {p : Program} {l : Launch} {e : Env} {R : Room} {s : State} {m : MethodId} {args : Array Value} {below : List Frame} {meth : Method} {c : Code} {H : Heap} {locs : List Loc} {cells slots : Nat} {Q : State → Prop} {cc : ByteArray} {pc : Nat} {ls : Array Slot} {rest : List Value} {x : Cx} {M : Mem} (hexec : p.tables.exec = Jvm.exec) (hb : c.code = cc) (hts : Tb args s) (hown : s.vm.findClass R_EC = some m.cls) (hK : va_K x.1 vwCl (tysx x) s) (hP : va_P x.1 vwCl (wld x M) H) (hdg : decode cc pc = .ok (.getfield 70, 3)) (kk : W p l e R s m args below meth c H locs cells slots Q (F0 m (pc + 3) ls (.int (M 0 9) :: rest))) : W p l e R s m args below meth c H locs cells slots Q (F0 m pc ls (.ref (x.2.1 0) :: rest)) :=
  m_get (ref := "EdgeCampaign") (C := R_EC) (T := T_EC) (N := 12) (ci := 10) hexec hb hts in_EC hown hK hP (by decide) rfl rfl 9 (by decide) q_14 rfl rfl hdg kk
theorem gf_EC_10 {p : Program} {l : Launch} {e : Env} {R : Room} {s : State} {m : MethodId} {args : Array Value} {below : List Frame} {meth : Method} {c : Code} {H : Heap} {locs : List Loc} {cells slots : Nat} {Q : State → Prop} {cc : ByteArray} {pc : Nat} {ls : Array Slot} {rest : List Value} {x : Cx} {M : Mem} (hexec : p.tables.exec = Jvm.exec) (hb : c.code = cc) (hts : Tb args s) (hown : s.vm.findClass R_EC = some m.cls) (hK : va_K x.1 vwCl (tysx x) s) (hP : va_P x.1 vwCl (wld x M) H) (hdg : decode cc pc = .ok (.getfield 10, 3)) (kk : W p l e R s m args below meth c H locs cells slots Q (F0 m (pc + 3) ls (.ref (x.2.1 1) :: rest))) : W p l e R s m args below meth c H locs cells slots Q (F0 m pc ls (.ref (x.2.1 0) :: rest)) :=
  m_get (ref := "EdgeCampaign") (C := R_EC) (T := T_EC) (N := 12) (ci := 10) hexec hb hts in_EC hown hK hP (by decide) rfl rfl 0 (by decide) q_15 rfl rfl hdg kk
theorem cl_EC_80 {p : Program} {l : Launch} {e : Env} {R : Room} {s : State} {m : MethodId} {args : Array Value} {below : List Frame} {meth : Method} {c : Code} {H : Heap} {locs : List Loc} {cells slots : Nat} {Q : State → Prop} {cc : ByteArray} {pc : Nat} {ls : Array Slot} {rest : List Value} {x : Cx} {M : Mem} {a1 : Int32} {a2 : Int32} {a3 : Int32} {nL : Nat} {rm : Room} {out : Int32 × Mem} (hM : Ci l x y_PR_append (Cond.code y_PR_append b_PR_append 4 (some .boolean) :: tb) rm [.ref (x.2.1 1), .int a1, .int a2, .int a3] M out) (hx : p.tables.exec = Jvm.exec) (hb : c.code = cc) (hml : c.maxLocals = nL) (hts : Tb args s) (hown : s.vm.findClass R_EC = some m.cls) (hK : va_K x.1 vwCl (tysx x) s) (hZ : Stc x s s.heap) (hP : va_P x.1 vwCl (wld x M) H) (hS : va_S (A0 x) s.heap H locs) (hsz : ls.size = nL) (hre : (rest.map fun v => v.category).sum ≤ 8) (hfr : rm.frames + 1 ≤ R.frames) (hlo : 8 + (4 + 11) + rm.locals ≤ R.locals) (hcs : rm.cells = 0 ∧ rm.slots = 0 ∧ cells ≤ R.cells ∧ slots ≤ R.slots) (hdg : decode cc pc = .ok (.invokevirtual 80, 3)) (kk : ∀ (H1 : Heap) (locs1 : List Loc), va_P x.1 vwCl (wld x out.2) H1 → va_S (A0 x) s.heap H1 locs1 → W p l e R s m args below meth c H1 locs1 cells slots Q (F0 m (pc + 3) ls (.int out.1 :: rest))) : W p l e R s m args below meth c H locs cells slots Q (F0 m pc ls (.int a3 :: .int a2 :: .int a1 :: .ref (x.2.1 1) :: rest)) :=
  m_ci (va_runV (As := [.int a1, .int a2, .int a3]) (rest := rest) ⟨hx, hb, hml, hown, hts.1⟩ hM (⟨callB_of 3 hts.1 (tb_good q_16) rfl hcs.1 hcs.2.1 (hts.1 _ q_2) (hts.1 _ q_17) ⟨by decide, by decide, by decide +kernel⟩ ⟨hfr, hlo⟩, hts.1 _ q_18, hts.1 _ q_19⟩) ⟨blind, va_recv hK hP (ci := 5) rfl (wld_at (by decide) rfl), m_pre hts hK hZ hP hS⟩ rfl rfl hsz rfl (lv_room hre) hdg ⟨hcs.2.2.1, hcs.2.2.2⟩) hS kk
theorem gf_IN_15 {p : Program} {l : Launch} {e : Env} {R : Room} {s : State} {m : MethodId} {args : Array Value} {below : List Frame} {meth : Method} {c : Code} {H : Heap} {locs : List Loc} {cells slots : Nat} {Q : State → Prop} {cc : ByteArray} {pc : Nat} {ls : Array Slot} {rest : List Value} {x : Cx} {M : Mem} {j : Nat} (hexec : p.tables.exec = Jvm.exec) (hb : c.code = cc) (hts : Tb args s) (hown : s.vm.findClass R_IN = some m.cls) (hK : va_K x.1 vwCl (tysx x) s) (hP : va_P x.1 vwCl (wld x M) H) (k : kd_in j) (hdg : decode cc pc = .ok (.getfield 15, 3)) (kk : W p l e R s m args below meth c H locs cells slots Q (F0 m (pc + 3) ls (.int (M j 1) :: rest))) : W p l e R s m args below meth c H locs cells slots Q (F0 m pc ls (.ref (x.2.1 j) :: rest)) :=
  m_get (ref := "EdgeCampaign$Input") (C := R_IN) (T := T_IN) (N := 2) (ci := 4) hexec hb hts in_IN hown hK hP (lt_IN k) (ly_IN k) rfl 1 (by decide) q_20 rfl rfl hdg kk
theorem gf_IN_11 {p : Program} {l : Launch} {e : Env} {R : Room} {s : State} {m : MethodId} {args : Array Value} {below : List Frame} {meth : Method} {c : Code} {H : Heap} {locs : List Loc} {cells slots : Nat} {Q : State → Prop} {cc : ByteArray} {pc : Nat} {ls : Array Slot} {rest : List Value} {x : Cx} {M : Mem} {j : Nat} (hexec : p.tables.exec = Jvm.exec) (hb : c.code = cc) (hts : Tb args s) (hown : s.vm.findClass R_IN = some m.cls) (hK : va_K x.1 vwCl (tysx x) s) (hP : va_P x.1 vwCl (wld x M) H) (k : kd_in j) (hdg : decode cc pc = .ok (.getfield 11, 3)) (kk : W p l e R s m args below meth c H locs cells slots Q (F0 m (pc + 3) ls (.ref (x.2.1 (j + 1)) :: rest))) : W p l e R s m args below meth c H locs cells slots Q (F0 m pc ls (.ref (x.2.1 j) :: rest)) :=
  m_get (ref := "EdgeCampaign$Input") (C := R_IN) (T := T_IN) (N := 2) (ci := 4) hexec hb hts in_IN hown hK hP (lt_IN k) (ly_IN k) rfl 0 (by decide) q_21 rfl rfl hdg kk
theorem pf_IN_15 {p : Program} {l : Launch} {e : Env} {R : Room} {s : State} {m : MethodId} {args : Array Value} {below : List Frame} {meth : Method} {c : Code} {H H0 : Heap} {locs : List Loc} {cells slots : Nat} {Q : State → Prop} {cc : ByteArray} {pc : Nat} {ls : Array Slot} {rest : List Value} {x : Cx} {M M1 : Mem} {j : Nat} {v : Int32} (hexec : p.tables.exec = Jvm.exec) (hb : c.code = cc) (hts : Tb args s) (hown : s.vm.findClass R_IN = some m.cls) (hK : va_K x.1 vwCl (tysx x) s) (hJ : Inj x) (hP : va_P x.1 vwCl (wld x M) H) (hS : va_S (A0 x) H0 H locs) (k : kd_in j) (hM : M1 = st M j 1 v) (hdg : decode cc pc = .ok (.putfield 15, 3)) (kk : ∀ (H1 : Heap) (locs1 : List Loc), va_P x.1 vwCl (wld x M1) H1 → va_S (A0 x) H0 H1 locs1 → W p l e R s m args below meth c H1 locs1 cells slots Q (F0 m (pc + 3) ls rest)) : W p l e R s m args below meth c H locs cells slots Q (F0 m pc ls (.int v :: .ref (x.2.1 j) :: rest)) :=
  m_put (ref := "EdgeCampaign$Input") (C := R_IN) (T := T_IN) (N := 2) (ci := 4) hexec hb hts in_IN t_IN ty_IN nm_IN hown hK hJ hP hS (lt_IN k) (ly_IN k) rfl 1 (by decide) q_20 rfl rfl (by decide +kernel) (Nat.le_of_ble_eq_true rfl) (by rw [ly_IN k]; rfl) hM hdg kk
theorem gf_EC_19 {p : Program} {l : Launch} {e : Env} {R : Room} {s : State} {m : MethodId} {args : Array Value} {below : List Frame} {meth : Method} {c : Code} {H : Heap} {locs : List Loc} {cells slots : Nat} {Q : State → Prop} {cc : ByteArray} {pc : Nat} {ls : Array Slot} {rest : List Value} {x : Cx} {M : Mem} (hexec : p.tables.exec = Jvm.exec) (hb : c.code = cc) (hts : Tb args s) (hown : s.vm.findClass R_EC = some m.cls) (hK : va_K x.1 vwCl (tysx x) s) (hP : va_P x.1 vwCl (wld x M) H) (hdg : decode cc pc = .ok (.getfield 19, 3)) (kk : W p l e R s m args below meth c H locs cells slots Q (F0 m (pc + 3) ls (.ref (x.2.1 52) :: rest))) : W p l e R s m args below meth c H locs cells slots Q (F0 m pc ls (.ref (x.2.1 0) :: rest)) :=
  m_get (ref := "EdgeCampaign") (C := R_EC) (T := T_EC) (N := 12) (ci := 10) hexec hb hts in_EC hown hK hP (by decide) rfl rfl 1 (by decide) q_22 rfl rfl hdg kk
theorem cl_EC_84 {p : Program} {l : Launch} {e : Env} {R : Room} {s : State} {m : MethodId} {args : Array Value} {below : List Frame} {meth : Method} {c : Code} {H : Heap} {locs : List Loc} {cells slots : Nat} {Q : State → Prop} {cc : ByteArray} {pc : Nat} {ls : Array Slot} {rest : List Value} {x : Cx} {M : Mem} {j : Nat} {a1 : Int32} {nL : Nat} {rm : Room} {out : Int32 × Mem} (hM : Ci l x y_IN_append (Cond.code y_IN_append b_IN_append 2 (some .boolean) :: tb) rm [.ref (x.2.1 j), .int a1] M out) (k : kd_in j) (hx : p.tables.exec = Jvm.exec) (hb : c.code = cc) (hml : c.maxLocals = nL) (hts : Tb args s) (hown : s.vm.findClass R_EC = some m.cls) (hK : va_K x.1 vwCl (tysx x) s) (hZ : Stc x s s.heap) (hP : va_P x.1 vwCl (wld x M) H) (hS : va_S (A0 x) s.heap H locs) (hsz : ls.size = nL) (hre : (rest.map fun v => v.category).sum ≤ 8) (hfr : rm.frames + 1 ≤ R.frames) (hlo : 8 + (2 + 11) + rm.locals ≤ R.locals) (hcs : rm.cells = 0 ∧ rm.slots = 0 ∧ cells ≤ R.cells ∧ slots ≤ R.slots) (hdg : decode cc pc = .ok (.invokevirtual 84, 3)) (kk : ∀ (H1 : Heap) (locs1 : List Loc), va_P x.1 vwCl (wld x out.2) H1 → va_S (A0 x) s.heap H1 locs1 → W p l e R s m args below meth c H1 locs1 cells slots Q (F0 m (pc + 3) ls (.int out.1 :: rest))) : W p l e R s m args below meth c H locs cells slots Q (F0 m pc ls (.int a1 :: .ref (x.2.1 j) :: rest)) :=
  m_ci (va_runV (As := [.int a1]) (rest := rest) ⟨hx, hb, hml, hown, hts.1⟩ hM (⟨callB_of 1 hts.1 (tb_good q_23) rfl hcs.1 hcs.2.1 (hts.1 _ q_25) (hts.1 _ q_24) ⟨by decide, by decide, by decide +kernel⟩ ⟨hfr, hlo⟩, hts.1 _ q_26, hts.1 _ q_27⟩) ⟨blind, va_recv hK hP (ci := 4) rfl (wld_at (lt_IN k) (ly_IN k)), m_pre hts hK hZ hP hS⟩ rfl rfl hsz rfl (lv_room hre) hdg ⟨hcs.2.2.1, hcs.2.2.2⟩) hS kk
theorem gf_RU_11 {p : Program} {l : Launch} {e : Env} {R : Room} {s : State} {m : MethodId} {args : Array Value} {below : List Frame} {meth : Method} {c : Code} {H : Heap} {locs : List Loc} {cells slots : Nat} {Q : State → Prop} {cc : ByteArray} {pc : Nat} {ls : Array Slot} {rest : List Value} {x : Cx} {M : Mem} {j : Nat} (hexec : p.tables.exec = Jvm.exec) (hb : c.code = cc) (hts : Tb args s) (hown : s.vm.findClass R_RU = some m.cls) (hK : va_K x.1 vwCl (tysx x) s) (hP : va_P x.1 vwCl (wld x M) H) (k : kd_run j) (hdg : decode cc pc = .ok (.getfield 11, 3)) (kk : W p l e R s m args below meth c H locs cells slots Q (F0 m (pc + 3) ls (.ref (x.2.1 (j + 1)) :: rest))) : W p l e R s m args below meth c H locs cells slots Q (F0 m pc ls (.ref (x.2.1 j) :: rest)) :=
  m_get (ref := "EdgeCampaign$Run") (C := R_RU) (T := T_RU) (N := 11) (ci := 6) hexec hb hts in_RU hown hK hP (lt_RU k) (ly_RU k) rfl 0 (by decide) q_28 rfl rfl hdg kk
theorem cl_RU_53 {p : Program} {l : Launch} {e : Env} {R : Room} {s : State} {m : MethodId} {args : Array Value} {below : List Frame} {meth : Method} {c : Code} {H : Heap} {locs : List Loc} {cells slots : Nat} {Q : State → Prop} {cc : ByteArray} {pc : Nat} {ls : Array Slot} {rest : List Value} {x : Cx} {M : Mem} {j1 : Nat} {a2 : Int32} {nL : Nat} {rm : Room} {out : Mem} (hM : Cv l x y_JA_fill (Cond.code y_JA_fill b_JA_fill 4 none :: tb) rm [.ref (x.2.1 j1), .int a2] M out) (hx : p.tables.exec = Jvm.exec) (hb : c.code = cc) (hml : c.maxLocals = nL) (hts : Tb args s) (hown : s.vm.findClass R_RU = some m.cls) (hK : va_K x.1 vwCl (tysx x) s) (hZ : Stc x s s.heap) (hP : va_P x.1 vwCl (wld x M) H) (hS : va_S (A0 x) s.heap H locs) (hsz : ls.size = nL) (hre : (rest.map fun v => v.category).sum ≤ 8) (hfr : rm.frames + 1 ≤ R.frames) (hlo : 8 + (4 + 11) + rm.locals ≤ R.locals) (hcs : rm.cells = 0 ∧ rm.slots = 0 ∧ cells ≤ R.cells ∧ slots ≤ R.slots) (hdg : decode cc pc = .ok (.invokestatic 53, 3)) (kk : ∀ (H1 : Heap) (locs1 : List Loc), va_P x.1 vwCl (wld x out) H1 → va_S (A0 x) s.heap H1 locs1 → W p l e R s m args below meth c H1 locs1 cells slots Q (F0 m (pc + 3) ls (rest))) : W p l e R s m args below meth c H locs cells slots Q (F0 m pc ls (.int a2 :: .ref (x.2.1 j1) :: rest)) :=
  m_cv (va_runS (As := [.ref (x.2.1 j1), .int a2]) (rest := rest) ⟨hx, hb, hml, hown, hts.1⟩ hM (⟨callB_of 2 hts.1 (tb_good q_29) rfl hcs.1 hcs.2.1 (hts.1 _ q_31) (hts.1 _ q_30) ⟨by decide, by decide, by decide +kernel⟩ ⟨hfr, hlo⟩, hts.1 _ q_32⟩) ⟨blind, m_pre hts hK hZ hP hS⟩ rfl rfl hsz rfl (lv_room hre) hdg ⟨hcs.2.2.1, hcs.2.2.2⟩) hS kk
theorem gf_RU_17 {p : Program} {l : Launch} {e : Env} {R : Room} {s : State} {m : MethodId} {args : Array Value} {below : List Frame} {meth : Method} {c : Code} {H : Heap} {locs : List Loc} {cells slots : Nat} {Q : State → Prop} {cc : ByteArray} {pc : Nat} {ls : Array Slot} {rest : List Value} {x : Cx} {M : Mem} {j : Nat} (hexec : p.tables.exec = Jvm.exec) (hb : c.code = cc) (hts : Tb args s) (hown : s.vm.findClass R_RU = some m.cls) (hK : va_K x.1 vwCl (tysx x) s) (hP : va_P x.1 vwCl (wld x M) H) (k : kd_run j) (hdg : decode cc pc = .ok (.getfield 17, 3)) (kk : W p l e R s m args below meth c H locs cells slots Q (F0 m (pc + 3) ls (.ref (x.2.1 (j + 2)) :: rest))) : W p l e R s m args below meth c H locs cells slots Q (F0 m pc ls (.ref (x.2.1 j) :: rest)) :=
  m_get (ref := "EdgeCampaign$Run") (C := R_RU) (T := T_RU) (N := 11) (ci := 6) hexec hb hts in_RU hown hK hP (lt_RU k) (ly_RU k) rfl 1 (by decide) q_33 rfl rfl hdg kk
theorem pf_RU_50 {p : Program} {l : Launch} {e : Env} {R : Room} {s : State} {m : MethodId} {args : Array Value} {below : List Frame} {meth : Method} {c : Code} {H H0 : Heap} {locs : List Loc} {cells slots : Nat} {Q : State → Prop} {cc : ByteArray} {pc : Nat} {ls : Array Slot} {rest : List Value} {x : Cx} {M M1 : Mem} {j : Nat} {v : Int32} (hexec : p.tables.exec = Jvm.exec) (hb : c.code = cc) (hts : Tb args s) (hown : s.vm.findClass R_RU = some m.cls) (hK : va_K x.1 vwCl (tysx x) s) (hJ : Inj x) (hP : va_P x.1 vwCl (wld x M) H) (hS : va_S (A0 x) H0 H locs) (k : kd_run j) (hM : M1 = st M j 5 v) (hdg : decode cc pc = .ok (.putfield 50, 3)) (kk : ∀ (H1 : Heap) (locs1 : List Loc), va_P x.1 vwCl (wld x M1) H1 → va_S (A0 x) H0 H1 locs1 → W p l e R s m args below meth c H1 locs1 cells slots Q (F0 m (pc + 3) ls rest)) : W p l e R s m args below meth c H locs cells slots Q (F0 m pc ls (.int v :: .ref (x.2.1 j) :: rest)) :=
  m_put (ref := "EdgeCampaign$Run") (C := R_RU) (T := T_RU) (N := 11) (ci := 6) hexec hb hts in_RU t_RU ty_RU nm_RU hown hK hJ hP hS (lt_RU k) (ly_RU k) rfl 5 (by decide) q_34 rfl rfl (by decide +kernel) (Nat.le_of_ble_eq_true rfl) (by rw [ly_RU k]; rfl) hM hdg kk
theorem pf_RU_47 {p : Program} {l : Launch} {e : Env} {R : Room} {s : State} {m : MethodId} {args : Array Value} {below : List Frame} {meth : Method} {c : Code} {H H0 : Heap} {locs : List Loc} {cells slots : Nat} {Q : State → Prop} {cc : ByteArray} {pc : Nat} {ls : Array Slot} {rest : List Value} {x : Cx} {M M1 : Mem} {j : Nat} {v : Int32} (hexec : p.tables.exec = Jvm.exec) (hb : c.code = cc) (hts : Tb args s) (hown : s.vm.findClass R_RU = some m.cls) (hK : va_K x.1 vwCl (tysx x) s) (hJ : Inj x) (hP : va_P x.1 vwCl (wld x M) H) (hS : va_S (A0 x) H0 H locs) (k : kd_run j) (hM : M1 = st M j 6 v) (hdg : decode cc pc = .ok (.putfield 47, 3)) (kk : ∀ (H1 : Heap) (locs1 : List Loc), va_P x.1 vwCl (wld x M1) H1 → va_S (A0 x) H0 H1 locs1 → W p l e R s m args below meth c H1 locs1 cells slots Q (F0 m (pc + 3) ls rest)) : W p l e R s m args below meth c H locs cells slots Q (F0 m pc ls (.int v :: .ref (x.2.1 j) :: rest)) :=
  m_put (ref := "EdgeCampaign$Run") (C := R_RU) (T := T_RU) (N := 11) (ci := 6) hexec hb hts in_RU t_RU ty_RU nm_RU hown hK hJ hP hS (lt_RU k) (ly_RU k) rfl 6 (by decide) q_35 rfl rfl (by decide +kernel) (Nat.le_of_ble_eq_true rfl) (by rw [ly_RU k]; rfl) hM hdg kk
theorem pf_RU_36 {p : Program} {l : Launch} {e : Env} {R : Room} {s : State} {m : MethodId} {args : Array Value} {below : List Frame} {meth : Method} {c : Code} {H H0 : Heap} {locs : List Loc} {cells slots : Nat} {Q : State → Prop} {cc : ByteArray} {pc : Nat} {ls : Array Slot} {rest : List Value} {x : Cx} {M M1 : Mem} {j : Nat} {v : Int32} (hexec : p.tables.exec = Jvm.exec) (hb : c.code = cc) (hts : Tb args s) (hown : s.vm.findClass R_RU = some m.cls) (hK : va_K x.1 vwCl (tysx x) s) (hJ : Inj x) (hP : va_P x.1 vwCl (wld x M) H) (hS : va_S (A0 x) H0 H locs) (k : kd_run j) (hM : M1 = st M j 7 v) (hdg : decode cc pc = .ok (.putfield 36, 3)) (kk : ∀ (H1 : Heap) (locs1 : List Loc), va_P x.1 vwCl (wld x M1) H1 → va_S (A0 x) H0 H1 locs1 → W p l e R s m args below meth c H1 locs1 cells slots Q (F0 m (pc + 3) ls rest)) : W p l e R s m args below meth c H locs cells slots Q (F0 m pc ls (.int v :: .ref (x.2.1 j) :: rest)) :=
  m_put (ref := "EdgeCampaign$Run") (C := R_RU) (T := T_RU) (N := 11) (ci := 6) hexec hb hts in_RU t_RU ty_RU nm_RU hown hK hJ hP hS (lt_RU k) (ly_RU k) rfl 7 (by decide) q_36 rfl rfl (by decide +kernel) (Nat.le_of_ble_eq_true rfl) (by rw [ly_RU k]; rfl) hM hdg kk
theorem pf_RU_59 {p : Program} {l : Launch} {e : Env} {R : Room} {s : State} {m : MethodId} {args : Array Value} {below : List Frame} {meth : Method} {c : Code} {H H0 : Heap} {locs : List Loc} {cells slots : Nat} {Q : State → Prop} {cc : ByteArray} {pc : Nat} {ls : Array Slot} {rest : List Value} {x : Cx} {M M1 : Mem} {j : Nat} {v : Int32} (hexec : p.tables.exec = Jvm.exec) (hb : c.code = cc) (hts : Tb args s) (hown : s.vm.findClass R_RU = some m.cls) (hK : va_K x.1 vwCl (tysx x) s) (hJ : Inj x) (hP : va_P x.1 vwCl (wld x M) H) (hS : va_S (A0 x) H0 H locs) (k : kd_run j) (hM : M1 = st M j 8 v) (hdg : decode cc pc = .ok (.putfield 59, 3)) (kk : ∀ (H1 : Heap) (locs1 : List Loc), va_P x.1 vwCl (wld x M1) H1 → va_S (A0 x) H0 H1 locs1 → W p l e R s m args below meth c H1 locs1 cells slots Q (F0 m (pc + 3) ls rest)) : W p l e R s m args below meth c H locs cells slots Q (F0 m pc ls (.int v :: .ref (x.2.1 j) :: rest)) :=
  m_put (ref := "EdgeCampaign$Run") (C := R_RU) (T := T_RU) (N := 11) (ci := 6) hexec hb hts in_RU t_RU ty_RU nm_RU hown hK hJ hP hS (lt_RU k) (ly_RU k) rfl 8 (by decide) q_37 rfl rfl (by decide +kernel) (Nat.le_of_ble_eq_true rfl) (by rw [ly_RU k]; rfl) hM hdg kk
theorem pf_RU_62 {p : Program} {l : Launch} {e : Env} {R : Room} {s : State} {m : MethodId} {args : Array Value} {below : List Frame} {meth : Method} {c : Code} {H H0 : Heap} {locs : List Loc} {cells slots : Nat} {Q : State → Prop} {cc : ByteArray} {pc : Nat} {ls : Array Slot} {rest : List Value} {x : Cx} {M M1 : Mem} {j : Nat} {v : Int32} (hexec : p.tables.exec = Jvm.exec) (hb : c.code = cc) (hts : Tb args s) (hown : s.vm.findClass R_RU = some m.cls) (hK : va_K x.1 vwCl (tysx x) s) (hJ : Inj x) (hP : va_P x.1 vwCl (wld x M) H) (hS : va_S (A0 x) H0 H locs) (k : kd_run j) (hM : M1 = st M j 9 v) (hdg : decode cc pc = .ok (.putfield 62, 3)) (kk : ∀ (H1 : Heap) (locs1 : List Loc), va_P x.1 vwCl (wld x M1) H1 → va_S (A0 x) H0 H1 locs1 → W p l e R s m args below meth c H1 locs1 cells slots Q (F0 m (pc + 3) ls rest)) : W p l e R s m args below meth c H locs cells slots Q (F0 m pc ls (.int v :: .ref (x.2.1 j) :: rest)) :=
  m_put (ref := "EdgeCampaign$Run") (C := R_RU) (T := T_RU) (N := 11) (ci := 6) hexec hb hts in_RU t_RU ty_RU nm_RU hown hK hJ hP hS (lt_RU k) (ly_RU k) rfl 9 (by decide) q_38 rfl rfl (by decide +kernel) (Nat.le_of_ble_eq_true rfl) (by rw [ly_RU k]; rfl) hM hdg kk
theorem pf_RU_32 {p : Program} {l : Launch} {e : Env} {R : Room} {s : State} {m : MethodId} {args : Array Value} {below : List Frame} {meth : Method} {c : Code} {H H0 : Heap} {locs : List Loc} {cells slots : Nat} {Q : State → Prop} {cc : ByteArray} {pc : Nat} {ls : Array Slot} {rest : List Value} {x : Cx} {M M1 : Mem} {j : Nat} {v : Int32} (hexec : p.tables.exec = Jvm.exec) (hb : c.code = cc) (hts : Tb args s) (hown : s.vm.findClass R_RU = some m.cls) (hK : va_K x.1 vwCl (tysx x) s) (hJ : Inj x) (hP : va_P x.1 vwCl (wld x M) H) (hS : va_S (A0 x) H0 H locs) (k : kd_run j) (hM : M1 = st M j 10 v) (hdg : decode cc pc = .ok (.putfield 32, 3)) (kk : ∀ (H1 : Heap) (locs1 : List Loc), va_P x.1 vwCl (wld x M1) H1 → va_S (A0 x) H0 H1 locs1 → W p l e R s m args below meth c H1 locs1 cells slots Q (F0 m (pc + 3) ls rest)) : W p l e R s m args below meth c H locs cells slots Q (F0 m pc ls (.int v :: .ref (x.2.1 j) :: rest)) :=
  m_put (ref := "EdgeCampaign$Run") (C := R_RU) (T := T_RU) (N := 11) (ci := 6) hexec hb hts in_RU t_RU ty_RU nm_RU hown hK hJ hP hS (lt_RU k) (ly_RU k) rfl 10 (by decide) q_39 rfl rfl (by decide +kernel) (Nat.le_of_ble_eq_true rfl) (by rw [ly_RU k]; rfl) hM hdg kk
theorem gf_RU_50 {p : Program} {l : Launch} {e : Env} {R : Room} {s : State} {m : MethodId} {args : Array Value} {below : List Frame} {meth : Method} {c : Code} {H : Heap} {locs : List Loc} {cells slots : Nat} {Q : State → Prop} {cc : ByteArray} {pc : Nat} {ls : Array Slot} {rest : List Value} {x : Cx} {M : Mem} {j : Nat} (hexec : p.tables.exec = Jvm.exec) (hb : c.code = cc) (hts : Tb args s) (hown : s.vm.findClass R_RU = some m.cls) (hK : va_K x.1 vwCl (tysx x) s) (hP : va_P x.1 vwCl (wld x M) H) (k : kd_run j) (hdg : decode cc pc = .ok (.getfield 50, 3)) (kk : W p l e R s m args below meth c H locs cells slots Q (F0 m (pc + 3) ls (.int (M j 5) :: rest))) : W p l e R s m args below meth c H locs cells slots Q (F0 m pc ls (.ref (x.2.1 j) :: rest)) :=
  m_get (ref := "EdgeCampaign$Run") (C := R_RU) (T := T_RU) (N := 11) (ci := 6) hexec hb hts in_RU hown hK hP (lt_RU k) (ly_RU k) rfl 5 (by decide) q_34 rfl rfl hdg kk
theorem gf_RU_23 {p : Program} {l : Launch} {e : Env} {R : Room} {s : State} {m : MethodId} {args : Array Value} {below : List Frame} {meth : Method} {c : Code} {H : Heap} {locs : List Loc} {cells slots : Nat} {Q : State → Prop} {cc : ByteArray} {pc : Nat} {ls : Array Slot} {rest : List Value} {x : Cx} {M : Mem} {j : Nat} (hexec : p.tables.exec = Jvm.exec) (hb : c.code = cc) (hts : Tb args s) (hown : s.vm.findClass R_RU = some m.cls) (hK : va_K x.1 vwCl (tysx x) s) (hP : va_P x.1 vwCl (wld x M) H) (k : kd_run j) (hdg : decode cc pc = .ok (.getfield 23, 3)) (kk : W p l e R s m args below meth c H locs cells slots Q (F0 m (pc + 3) ls (.ref (x.2.1 (j + 4)) :: rest))) : W p l e R s m args below meth c H locs cells slots Q (F0 m pc ls (.ref (x.2.1 j) :: rest)) :=
  m_get (ref := "EdgeCampaign$Run") (C := R_RU) (T := T_RU) (N := 11) (ci := 6) hexec hb hts in_RU hown hK hP (lt_RU k) (ly_RU k) rfl 3 (by decide) q_40 rfl rfl hdg kk
theorem gf_RU_26 {p : Program} {l : Launch} {e : Env} {R : Room} {s : State} {m : MethodId} {args : Array Value} {below : List Frame} {meth : Method} {c : Code} {H : Heap} {locs : List Loc} {cells slots : Nat} {Q : State → Prop} {cc : ByteArray} {pc : Nat} {ls : Array Slot} {rest : List Value} {x : Cx} {M : Mem} {j : Nat} (hexec : p.tables.exec = Jvm.exec) (hb : c.code = cc) (hts : Tb args s) (hown : s.vm.findClass R_RU = some m.cls) (hK : va_K x.1 vwCl (tysx x) s) (hP : va_P x.1 vwCl (wld x M) H) (k : kd_run j) (hdg : decode cc pc = .ok (.getfield 26, 3)) (kk : W p l e R s m args below meth c H locs cells slots Q (F0 m (pc + 3) ls (.ref (x.2.1 (j + 5)) :: rest))) : W p l e R s m args below meth c H locs cells slots Q (F0 m pc ls (.ref (x.2.1 j) :: rest)) :=
  m_get (ref := "EdgeCampaign$Run") (C := R_RU) (T := T_RU) (N := 11) (ci := 6) hexec hb hts in_RU hown hK hP (lt_RU k) (ly_RU k) rfl 4 (by decide) q_41 rfl rfl hdg kk
theorem gf_RU_47 {p : Program} {l : Launch} {e : Env} {R : Room} {s : State} {m : MethodId} {args : Array Value} {below : List Frame} {meth : Method} {c : Code} {H : Heap} {locs : List Loc} {cells slots : Nat} {Q : State → Prop} {cc : ByteArray} {pc : Nat} {ls : Array Slot} {rest : List Value} {x : Cx} {M : Mem} {j : Nat} (hexec : p.tables.exec = Jvm.exec) (hb : c.code = cc) (hts : Tb args s) (hown : s.vm.findClass R_RU = some m.cls) (hK : va_K x.1 vwCl (tysx x) s) (hP : va_P x.1 vwCl (wld x M) H) (k : kd_run j) (hdg : decode cc pc = .ok (.getfield 47, 3)) (kk : W p l e R s m args below meth c H locs cells slots Q (F0 m (pc + 3) ls (.int (M j 6) :: rest))) : W p l e R s m args below meth c H locs cells slots Q (F0 m pc ls (.ref (x.2.1 j) :: rest)) :=
  m_get (ref := "EdgeCampaign$Run") (C := R_RU) (T := T_RU) (N := 11) (ci := 6) hexec hb hts in_RU hown hK hP (lt_RU k) (ly_RU k) rfl 6 (by decide) q_35 rfl rfl hdg kk
theorem gf_RU_20 {p : Program} {l : Launch} {e : Env} {R : Room} {s : State} {m : MethodId} {args : Array Value} {below : List Frame} {meth : Method} {c : Code} {H : Heap} {locs : List Loc} {cells slots : Nat} {Q : State → Prop} {cc : ByteArray} {pc : Nat} {ls : Array Slot} {rest : List Value} {x : Cx} {M : Mem} {j : Nat} (hexec : p.tables.exec = Jvm.exec) (hb : c.code = cc) (hts : Tb args s) (hown : s.vm.findClass R_RU = some m.cls) (hK : va_K x.1 vwCl (tysx x) s) (hP : va_P x.1 vwCl (wld x M) H) (k : kd_run j) (hdg : decode cc pc = .ok (.getfield 20, 3)) (kk : W p l e R s m args below meth c H locs cells slots Q (F0 m (pc + 3) ls (.ref (x.2.1 (j + 3)) :: rest))) : W p l e R s m args below meth c H locs cells slots Q (F0 m pc ls (.ref (x.2.1 j) :: rest)) :=
  m_get (ref := "EdgeCampaign$Run") (C := R_RU) (T := T_RU) (N := 11) (ci := 6) hexec hb hts in_RU hown hK hP (lt_RU k) (ly_RU k) rfl 2 (by decide) q_42 rfl rfl hdg kk
theorem gf_RU_59 {p : Program} {l : Launch} {e : Env} {R : Room} {s : State} {m : MethodId} {args : Array Value} {below : List Frame} {meth : Method} {c : Code} {H : Heap} {locs : List Loc} {cells slots : Nat} {Q : State → Prop} {cc : ByteArray} {pc : Nat} {ls : Array Slot} {rest : List Value} {x : Cx} {M : Mem} {j : Nat} (hexec : p.tables.exec = Jvm.exec) (hb : c.code = cc) (hts : Tb args s) (hown : s.vm.findClass R_RU = some m.cls) (hK : va_K x.1 vwCl (tysx x) s) (hP : va_P x.1 vwCl (wld x M) H) (k : kd_run j) (hdg : decode cc pc = .ok (.getfield 59, 3)) (kk : W p l e R s m args below meth c H locs cells slots Q (F0 m (pc + 3) ls (.int (M j 8) :: rest))) : W p l e R s m args below meth c H locs cells slots Q (F0 m pc ls (.ref (x.2.1 j) :: rest)) :=
  m_get (ref := "EdgeCampaign$Run") (C := R_RU) (T := T_RU) (N := 11) (ci := 6) hexec hb hts in_RU hown hK hP (lt_RU k) (ly_RU k) rfl 8 (by decide) q_37 rfl rfl hdg kk
theorem gf_RU_32 {p : Program} {l : Launch} {e : Env} {R : Room} {s : State} {m : MethodId} {args : Array Value} {below : List Frame} {meth : Method} {c : Code} {H : Heap} {locs : List Loc} {cells slots : Nat} {Q : State → Prop} {cc : ByteArray} {pc : Nat} {ls : Array Slot} {rest : List Value} {x : Cx} {M : Mem} {j : Nat} (hexec : p.tables.exec = Jvm.exec) (hb : c.code = cc) (hts : Tb args s) (hown : s.vm.findClass R_RU = some m.cls) (hK : va_K x.1 vwCl (tysx x) s) (hP : va_P x.1 vwCl (wld x M) H) (k : kd_run j) (hdg : decode cc pc = .ok (.getfield 32, 3)) (kk : W p l e R s m args below meth c H locs cells slots Q (F0 m (pc + 3) ls (.int (M j 10) :: rest))) : W p l e R s m args below meth c H locs cells slots Q (F0 m pc ls (.ref (x.2.1 j) :: rest)) :=
  m_get (ref := "EdgeCampaign$Run") (C := R_RU) (T := T_RU) (N := 11) (ci := 6) hexec hb hts in_RU hown hK hP (lt_RU k) (ly_RU k) rfl 10 (by decide) q_39 rfl rfl hdg kk
theorem cl_RU_100 {p : Program} {l : Launch} {e : Env} {R : Room} {s : State} {m : MethodId} {args : Array Value} {below : List Frame} {meth : Method} {c : Code} {H : Heap} {locs : List Loc} {cells slots : Nat} {Q : State → Prop} {cc : ByteArray} {pc : Nat} {ls : Array Slot} {rest : List Value} {x : Cx} {M : Mem} {a1 : Int32} {nL : Nat} {rm : Room} {out : Int32 × Mem} (hM : Ci l x y_PR_isJump (Cond.code y_PR_isJump b_PR_isJump 1 (some .boolean) :: tb) rm [.int a1] M out) (hx : p.tables.exec = Jvm.exec) (hb : c.code = cc) (hml : c.maxLocals = nL) (hts : Tb args s) (hown : s.vm.findClass R_RU = some m.cls) (hK : va_K x.1 vwCl (tysx x) s) (hZ : Stc x s s.heap) (hP : va_P x.1 vwCl (wld x M) H) (hS : va_S (A0 x) s.heap H locs) (hsz : ls.size = nL) (hre : (rest.map fun v => v.category).sum ≤ 8) (hfr : rm.frames + 1 ≤ R.frames) (hlo : 8 + (1 + 11) + rm.locals ≤ R.locals) (hcs : rm.cells = 0 ∧ rm.slots = 0 ∧ cells ≤ R.cells ∧ slots ≤ R.slots) (hdg : decode cc pc = .ok (.invokestatic 100, 3)) (kk : ∀ (H1 : Heap) (locs1 : List Loc), va_P x.1 vwCl (wld x out.2) H1 → va_S (A0 x) s.heap H1 locs1 → W p l e R s m args below meth c H1 locs1 cells slots Q (F0 m (pc + 3) ls (.int out.1 :: rest))) : W p l e R s m args below meth c H locs cells slots Q (F0 m pc ls (.int a1 :: rest)) :=
  m_ci (va_runS (As := [.int a1]) (rest := rest) ⟨hx, hb, hml, hown, hts.1⟩ hM (⟨callB_of 1 hts.1 (tb_good q_43) rfl hcs.1 hcs.2.1 (hts.1 _ q_2) (hts.1 _ q_44) ⟨by decide, by decide, by decide +kernel⟩ ⟨hfr, hlo⟩, hts.1 _ q_45⟩) ⟨blind, m_pre hts hK hZ hP hS⟩ rfl rfl hsz rfl (lv_room hre) hdg ⟨hcs.2.2.1, hcs.2.2.2⟩) hS kk
theorem gf_RU_36 {p : Program} {l : Launch} {e : Env} {R : Room} {s : State} {m : MethodId} {args : Array Value} {below : List Frame} {meth : Method} {c : Code} {H : Heap} {locs : List Loc} {cells slots : Nat} {Q : State → Prop} {cc : ByteArray} {pc : Nat} {ls : Array Slot} {rest : List Value} {x : Cx} {M : Mem} {j : Nat} (hexec : p.tables.exec = Jvm.exec) (hb : c.code = cc) (hts : Tb args s) (hown : s.vm.findClass R_RU = some m.cls) (hK : va_K x.1 vwCl (tysx x) s) (hP : va_P x.1 vwCl (wld x M) H) (k : kd_run j) (hdg : decode cc pc = .ok (.getfield 36, 3)) (kk : W p l e R s m args below meth c H locs cells slots Q (F0 m (pc + 3) ls (.int (M j 7) :: rest))) : W p l e R s m args below meth c H locs cells slots Q (F0 m pc ls (.ref (x.2.1 j) :: rest)) :=
  m_get (ref := "EdgeCampaign$Run") (C := R_RU) (T := T_RU) (N := 11) (ci := 6) hexec hb hts in_RU hown hK hP (lt_RU k) (ly_RU k) rfl 7 (by decide) q_36 rfl rfl hdg kk
theorem cl_RU_39 {p : Program} {l : Launch} {e : Env} {R : Room} {s : State} {m : MethodId} {args : Array Value} {below : List Frame} {meth : Method} {c : Code} {H : Heap} {locs : List Loc} {cells slots : Nat} {Q : State → Prop} {cc : ByteArray} {pc : Nat} {ls : Array Slot} {rest : List Value} {x : Cx} {M : Mem} {a1 : Int32} {nL : Nat} {rm : Room} {out : Int32 × Mem} (hM : Ci l x y_PR_has (Cond.code y_PR_has b_PR_has 2 (some .boolean) :: tb) rm [.ref (x.2.1 1), .int a1] M out) (hx : p.tables.exec = Jvm.exec) (hb : c.code = cc) (hml : c.maxLocals = nL) (hts : Tb args s) (hown : s.vm.findClass R_RU = some m.cls) (hK : va_K x.1 vwCl (tysx x) s) (hZ : Stc x s s.heap) (hP : va_P x.1 vwCl (wld x M) H) (hS : va_S (A0 x) s.heap H locs) (hsz : ls.size = nL) (hre : (rest.map fun v => v.category).sum ≤ 8) (hfr : rm.frames + 1 ≤ R.frames) (hlo : 8 + (2 + 11) + rm.locals ≤ R.locals) (hcs : rm.cells = 0 ∧ rm.slots = 0 ∧ cells ≤ R.cells ∧ slots ≤ R.slots) (hdg : decode cc pc = .ok (.invokevirtual 39, 3)) (kk : ∀ (H1 : Heap) (locs1 : List Loc), va_P x.1 vwCl (wld x out.2) H1 → va_S (A0 x) s.heap H1 locs1 → W p l e R s m args below meth c H1 locs1 cells slots Q (F0 m (pc + 3) ls (.int out.1 :: rest))) : W p l e R s m args below meth c H locs cells slots Q (F0 m pc ls (.int a1 :: .ref (x.2.1 1) :: rest)) :=
  m_ci (va_runV (As := [.int a1]) (rest := rest) ⟨hx, hb, hml, hown, hts.1⟩ hM (⟨callB_of 1 hts.1 (tb_good q_46) rfl hcs.1 hcs.2.1 (hts.1 _ q_2) (hts.1 _ q_47) ⟨by decide, by decide, by decide +kernel⟩ ⟨hfr, hlo⟩, hts.1 _ q_48, hts.1 _ q_49⟩) ⟨blind, va_recv hK hP (ci := 5) rfl (wld_at (by decide) rfl), m_pre hts hK hZ hP hS⟩ rfl rfl hsz rfl (lv_room hre) hdg ⟨hcs.2.2.1, hcs.2.2.2⟩) hS kk
theorem cl_RU_103 {p : Program} {l : Launch} {e : Env} {R : Room} {s : State} {m : MethodId} {args : Array Value} {below : List Frame} {meth : Method} {c : Code} {H : Heap} {locs : List Loc} {cells slots : Nat} {Q : State → Prop} {cc : ByteArray} {pc : Nat} {ls : Array Slot} {rest : List Value} {x : Cx} {M : Mem} {j : Nat} {a1 : Int32} {nL : Nat} {rm : Room} {out : Mem} (hM : Cv l x y_RU_goAlong (Cond.code y_RU_goAlong b_RU_goAlong 2 none :: tb) rm [.ref (x.2.1 j), .int a1] M out) (k : kd_run j) (hx : p.tables.exec = Jvm.exec) (hb : c.code = cc) (hml : c.maxLocals = nL) (hts : Tb args s) (hown : s.vm.findClass R_RU = some m.cls) (hK : va_K x.1 vwCl (tysx x) s) (hZ : Stc x s s.heap) (hP : va_P x.1 vwCl (wld x M) H) (hS : va_S (A0 x) s.heap H locs) (hsz : ls.size = nL) (hre : (rest.map fun v => v.category).sum ≤ 8) (hfr : rm.frames + 1 ≤ R.frames) (hlo : 8 + (2 + 11) + rm.locals ≤ R.locals) (hcs : rm.cells = 0 ∧ rm.slots = 0 ∧ cells ≤ R.cells ∧ slots ≤ R.slots) (hdg : decode cc pc = .ok (.invokevirtual 103, 3)) (kk : ∀ (H1 : Heap) (locs1 : List Loc), va_P x.1 vwCl (wld x out) H1 → va_S (A0 x) s.heap H1 locs1 → W p l e R s m args below meth c H1 locs1 cells slots Q (F0 m (pc + 3) ls (rest))) : W p l e R s m args below meth c H locs cells slots Q (F0 m pc ls (.int a1 :: .ref (x.2.1 j) :: rest)) :=
  m_cv (va_runV (As := [.int a1]) (rest := rest) ⟨hx, hb, hml, hown, hts.1⟩ hM (⟨callB_of 1 hts.1 (tb_good q_50) rfl hcs.1 hcs.2.1 (hts.1 _ q_52) (hts.1 _ q_51) ⟨by decide, by decide, by decide +kernel⟩ ⟨hfr, hlo⟩, hts.1 _ q_53, hts.1 _ q_54⟩) ⟨blind, va_recv hK hP (ci := 6) rfl (wld_at (lt_RU k) (ly_RU k)), m_pre hts hK hZ hP hS⟩ rfl rfl hsz rfl (lv_room hre) hdg ⟨hcs.2.2.1, hcs.2.2.2⟩) hS kk
theorem gf_RU_62 {p : Program} {l : Launch} {e : Env} {R : Room} {s : State} {m : MethodId} {args : Array Value} {below : List Frame} {meth : Method} {c : Code} {H : Heap} {locs : List Loc} {cells slots : Nat} {Q : State → Prop} {cc : ByteArray} {pc : Nat} {ls : Array Slot} {rest : List Value} {x : Cx} {M : Mem} {j : Nat} (hexec : p.tables.exec = Jvm.exec) (hb : c.code = cc) (hts : Tb args s) (hown : s.vm.findClass R_RU = some m.cls) (hK : va_K x.1 vwCl (tysx x) s) (hP : va_P x.1 vwCl (wld x M) H) (k : kd_run j) (hdg : decode cc pc = .ok (.getfield 62, 3)) (kk : W p l e R s m args below meth c H locs cells slots Q (F0 m (pc + 3) ls (.int (M j 9) :: rest))) : W p l e R s m args below meth c H locs cells slots Q (F0 m pc ls (.ref (x.2.1 j) :: rest)) :=
  m_get (ref := "EdgeCampaign$Run") (C := R_RU) (T := T_RU) (N := 11) (ci := 6) hexec hb hts in_RU hown hK hP (lt_RU k) (ly_RU k) rfl 9 (by decide) q_38 rfl rfl hdg kk
theorem gf_RU_65 {p : Program} {l : Launch} {e : Env} {R : Room} {s : State} {m : MethodId} {args : Array Value} {below : List Frame} {meth : Method} {c : Code} {H : Heap} {locs : List Loc} {cells slots : Nat} {Q : State → Prop} {cc : ByteArray} {pc : Nat} {ls : Array Slot} {rest : List Value} {x : Cx} {M : Mem} (hexec : p.tables.exec = Jvm.exec) (hb : c.code = cc) (hts : Tb args s) (hown : s.vm.findClass R_RU = some m.cls) (hK : va_K x.1 vwCl (tysx x) s) (hP : va_P x.1 vwCl (wld x M) H) (hdg : decode cc pc = .ok (.getfield 65, 3)) (kk : W p l e R s m args below meth c H locs cells slots Q (F0 m (pc + 3) ls (.ref (x.2.1 2) :: rest))) : W p l e R s m args below meth c H locs cells slots Q (F0 m pc ls (.ref (x.2.1 1) :: rest)) :=
  m_getN (ref := "EdgeCampaign$Program") (C := R_PR) (T := T_PR) (N := 4) (ci := 5) hexec hb hts in_PR hown hK hP (by decide) rfl rfl 0 (by decide) (nf_0) rfl rfl hdg kk
theorem gf_RU_68 {p : Program} {l : Launch} {e : Env} {R : Room} {s : State} {m : MethodId} {args : Array Value} {below : List Frame} {meth : Method} {c : Code} {H : Heap} {locs : List Loc} {cells slots : Nat} {Q : State → Prop} {cc : ByteArray} {pc : Nat} {ls : Array Slot} {rest : List Value} {x : Cx} {M : Mem} (hexec : p.tables.exec = Jvm.exec) (hb : c.code = cc) (hts : Tb args s) (hown : s.vm.findClass R_RU = some m.cls) (hK : va_K x.1 vwCl (tysx x) s) (hP : va_P x.1 vwCl (wld x M) H) (hdg : decode cc pc = .ok (.getfield 68, 3)) (kk : W p l e R s m args below meth c H locs cells slots Q (F0 m (pc + 3) ls (.ref (x.2.1 3) :: rest))) : W p l e R s m args below meth c H locs cells slots Q (F0 m pc ls (.ref (x.2.1 1) :: rest)) :=
  m_getN (ref := "EdgeCampaign$Program") (C := R_PR) (T := T_PR) (N := 4) (ci := 5) hexec hb hts in_PR hown hK hP (by decide) rfl rfl 1 (by decide) (nf_1) rfl rfl hdg kk
theorem gf_RU_71 {p : Program} {l : Launch} {e : Env} {R : Room} {s : State} {m : MethodId} {args : Array Value} {below : List Frame} {meth : Method} {c : Code} {H : Heap} {locs : List Loc} {cells slots : Nat} {Q : State → Prop} {cc : ByteArray} {pc : Nat} {ls : Array Slot} {rest : List Value} {x : Cx} {M : Mem} (hexec : p.tables.exec = Jvm.exec) (hb : c.code = cc) (hts : Tb args s) (hown : s.vm.findClass R_RU = some m.cls) (hK : va_K x.1 vwCl (tysx x) s) (hP : va_P x.1 vwCl (wld x M) H) (hdg : decode cc pc = .ok (.getfield 71, 3)) (kk : W p l e R s m args below meth c H locs cells slots Q (F0 m (pc + 3) ls (.ref (x.2.1 4) :: rest))) : W p l e R s m args below meth c H locs cells slots Q (F0 m pc ls (.ref (x.2.1 1) :: rest)) :=
  m_getN (ref := "EdgeCampaign$Program") (C := R_PR) (T := T_PR) (N := 4) (ci := 5) hexec hb hts in_PR hown hK hP (by decide) rfl rfl 2 (by decide) (nf_2) rfl rfl hdg kk
theorem cl_RU_74 {p : Program} {l : Launch} {e : Env} {R : Room} {s : State} {m : MethodId} {args : Array Value} {below : List Frame} {meth : Method} {c : Code} {H : Heap} {locs : List Loc} {cells slots : Nat} {Q : State → Prop} {cc : ByteArray} {pc : Nat} {ls : Array Slot} {rest : List Value} {x : Cx} {M : Mem} {j : Nat} {a1 : Int32} {nL : Nat} {rm : Room} {out : Int32 × Mem} (hM : Ci l x y_IN_at (Cond.code y_IN_at b_IN_at 2 (some .int) :: tb) rm [.ref (x.2.1 j), .int a1] M out) (k : kd_in j) (hx : p.tables.exec = Jvm.exec) (hb : c.code = cc) (hml : c.maxLocals = nL) (hts : Tb args s) (hown : s.vm.findClass R_RU = some m.cls) (hK : va_K x.1 vwCl (tysx x) s) (hZ : Stc x s s.heap) (hP : va_P x.1 vwCl (wld x M) H) (hS : va_S (A0 x) s.heap H locs) (hsz : ls.size = nL) (hre : (rest.map fun v => v.category).sum ≤ 8) (hfr : rm.frames + 1 ≤ R.frames) (hlo : 8 + (2 + 11) + rm.locals ≤ R.locals) (hcs : rm.cells = 0 ∧ rm.slots = 0 ∧ cells ≤ R.cells ∧ slots ≤ R.slots) (hdg : decode cc pc = .ok (.invokevirtual 74, 3)) (kk : ∀ (H1 : Heap) (locs1 : List Loc), va_P x.1 vwCl (wld x out.2) H1 → va_S (A0 x) s.heap H1 locs1 → W p l e R s m args below meth c H1 locs1 cells slots Q (F0 m (pc + 3) ls (.int out.1 :: rest))) : W p l e R s m args below meth c H locs cells slots Q (F0 m pc ls (.int a1 :: .ref (x.2.1 j) :: rest)) :=
  m_ci (va_runV (As := [.int a1]) (rest := rest) ⟨hx, hb, hml, hown, hts.1⟩ hM (⟨callB_of 1 hts.1 (tb_good q_55) rfl hcs.1 hcs.2.1 (hts.1 _ q_25) (hts.1 _ q_56) ⟨by decide, by decide, by decide +kernel⟩ ⟨hfr, hlo⟩, hts.1 _ q_57, hts.1 _ q_58⟩) ⟨blind, va_recv hK hP (ci := 4) rfl (wld_at (lt_IN k) (ly_IN k)), m_pre hts hK hZ hP hS⟩ rfl rfl hsz rfl (lv_room hre) hdg ⟨hcs.2.2.1, hcs.2.2.2⟩) hS kk
theorem cl_RU_80 {p : Program} {l : Launch} {e : Env} {R : Room} {s : State} {m : MethodId} {args : Array Value} {below : List Frame} {meth : Method} {c : Code} {H : Heap} {locs : List Loc} {cells slots : Nat} {Q : State → Prop} {cc : ByteArray} {pc : Nat} {ls : Array Slot} {rest : List Value} {x : Cx} {M : Mem} {j : Nat} {a1 : Int32} {nL : Nat} {rm : Room} {out : Mem} (hM : Cv l x y_RU_goInto (Cond.code y_RU_goInto b_RU_goInto 2 none :: tb) rm [.ref (x.2.1 j), .int a1] M out) (k : kd_run j) (hx : p.tables.exec = Jvm.exec) (hb : c.code = cc) (hml : c.maxLocals = nL) (hts : Tb args s) (hown : s.vm.findClass R_RU = some m.cls) (hK : va_K x.1 vwCl (tysx x) s) (hZ : Stc x s s.heap) (hP : va_P x.1 vwCl (wld x M) H) (hS : va_S (A0 x) s.heap H locs) (hsz : ls.size = nL) (hre : (rest.map fun v => v.category).sum ≤ 8) (hfr : rm.frames + 1 ≤ R.frames) (hlo : 8 + (2 + 11) + rm.locals ≤ R.locals) (hcs : rm.cells = 0 ∧ rm.slots = 0 ∧ cells ≤ R.cells ∧ slots ≤ R.slots) (hdg : decode cc pc = .ok (.invokevirtual 80, 3)) (kk : ∀ (H1 : Heap) (locs1 : List Loc), va_P x.1 vwCl (wld x out) H1 → va_S (A0 x) s.heap H1 locs1 → W p l e R s m args below meth c H1 locs1 cells slots Q (F0 m (pc + 3) ls (rest))) : W p l e R s m args below meth c H locs cells slots Q (F0 m pc ls (.int a1 :: .ref (x.2.1 j) :: rest)) :=
  m_cv (va_runV (As := [.int a1]) (rest := rest) ⟨hx, hb, hml, hown, hts.1⟩ hM (⟨callB_of 1 hts.1 (tb_good q_59) rfl hcs.1 hcs.2.1 (hts.1 _ q_52) (hts.1 _ q_60) ⟨by decide, by decide, by decide +kernel⟩ ⟨hfr, hlo⟩, hts.1 _ q_61, hts.1 _ q_62⟩) ⟨blind, va_recv hK hP (ci := 6) rfl (wld_at (lt_RU k) (ly_RU k)), m_pre hts hK hZ hP hS⟩ rfl rfl hsz rfl (lv_room hre) hdg ⟨hcs.2.2.1, hcs.2.2.2⟩) hS kk
theorem cl_RU_84 {p : Program} {l : Launch} {e : Env} {R : Room} {s : State} {m : MethodId} {args : Array Value} {below : List Frame} {meth : Method} {c : Code} {H : Heap} {locs : List Loc} {cells slots : Nat} {Q : State → Prop} {cc : ByteArray} {pc : Nat} {ls : Array Slot} {rest : List Value} {x : Cx} {M : Mem} {j : Nat} {nL : Nat} {rm : Room} {out : Mem} (hM : Cv l x y_RU_goBack (Cond.code y_RU_goBack b_RU_goBack 1 none :: tb) rm [.ref (x.2.1 j)] M out) (k : kd_run j) (hx : p.tables.exec = Jvm.exec) (hb : c.code = cc) (hml : c.maxLocals = nL) (hts : Tb args s) (hown : s.vm.findClass R_RU = some m.cls) (hK : va_K x.1 vwCl (tysx x) s) (hZ : Stc x s s.heap) (hP : va_P x.1 vwCl (wld x M) H) (hS : va_S (A0 x) s.heap H locs) (hsz : ls.size = nL) (hre : (rest.map fun v => v.category).sum ≤ 8) (hfr : rm.frames + 1 ≤ R.frames) (hlo : 8 + (1 + 11) + rm.locals ≤ R.locals) (hcs : rm.cells = 0 ∧ rm.slots = 0 ∧ cells ≤ R.cells ∧ slots ≤ R.slots) (hdg : decode cc pc = .ok (.invokevirtual 84, 3)) (kk : ∀ (H1 : Heap) (locs1 : List Loc), va_P x.1 vwCl (wld x out) H1 → va_S (A0 x) s.heap H1 locs1 → W p l e R s m args below meth c H1 locs1 cells slots Q (F0 m (pc + 3) ls (rest))) : W p l e R s m args below meth c H locs cells slots Q (F0 m pc ls (.ref (x.2.1 j) :: rest)) :=
  m_cv (va_runV (As := []) (rest := rest) ⟨hx, hb, hml, hown, hts.1⟩ hM (⟨callB_of 0 hts.1 (tb_good q_63) rfl hcs.1 hcs.2.1 (hts.1 _ q_52) (hts.1 _ q_64) ⟨by decide, by decide, by decide +kernel⟩ ⟨hfr, hlo⟩, hts.1 _ q_65, hts.1 _ q_66⟩) ⟨blind, va_recv hK hP (ci := 6) rfl (wld_at (lt_RU k) (ly_RU k)), m_pre hts hK hZ hP hS⟩ rfl rfl hsz rfl (lv_room hre) hdg ⟨hcs.2.2.1, hcs.2.2.2⟩) hS kk
theorem cl_RU_87 {p : Program} {l : Launch} {e : Env} {R : Room} {s : State} {m : MethodId} {args : Array Value} {below : List Frame} {meth : Method} {c : Code} {H : Heap} {locs : List Loc} {cells slots : Nat} {Q : State → Prop} {cc : ByteArray} {pc : Nat} {ls : Array Slot} {rest : List Value} {x : Cx} {M : Mem} {j : Nat} {a1 : Int32} {a2 : Int32} {nL : Nat} {rm : Room} {out : Mem} (hM : Cv l x y_RU_divide (Cond.code y_RU_divide b_RU_divide 3 none :: tb) rm [.ref (x.2.1 j), .int a1, .int a2] M out) (k : kd_run j) (hx : p.tables.exec = Jvm.exec) (hb : c.code = cc) (hml : c.maxLocals = nL) (hts : Tb args s) (hown : s.vm.findClass R_RU = some m.cls) (hK : va_K x.1 vwCl (tysx x) s) (hZ : Stc x s s.heap) (hP : va_P x.1 vwCl (wld x M) H) (hS : va_S (A0 x) s.heap H locs) (hsz : ls.size = nL) (hre : (rest.map fun v => v.category).sum ≤ 8) (hfr : rm.frames + 1 ≤ R.frames) (hlo : 8 + (3 + 11) + rm.locals ≤ R.locals) (hcs : rm.cells = 0 ∧ rm.slots = 0 ∧ cells ≤ R.cells ∧ slots ≤ R.slots) (hdg : decode cc pc = .ok (.invokevirtual 87, 3)) (kk : ∀ (H1 : Heap) (locs1 : List Loc), va_P x.1 vwCl (wld x out) H1 → va_S (A0 x) s.heap H1 locs1 → W p l e R s m args below meth c H1 locs1 cells slots Q (F0 m (pc + 3) ls (rest))) : W p l e R s m args below meth c H locs cells slots Q (F0 m pc ls (.int a2 :: .int a1 :: .ref (x.2.1 j) :: rest)) :=
  m_cv (va_runV (As := [.int a1, .int a2]) (rest := rest) ⟨hx, hb, hml, hown, hts.1⟩ hM (⟨callB_of 2 hts.1 (tb_good q_67) rfl hcs.1 hcs.2.1 (hts.1 _ q_52) (hts.1 _ q_68) ⟨by decide, by decide, by decide +kernel⟩ ⟨hfr, hlo⟩, hts.1 _ q_69, hts.1 _ q_70⟩) ⟨blind, va_recv hK hP (ci := 6) rfl (wld_at (lt_RU k) (ly_RU k)), m_pre hts hK hZ hP hS⟩ rfl rfl hsz rfl (lv_room hre) hdg ⟨hcs.2.2.1, hcs.2.2.2⟩) hS kk
theorem cl_RU_91 {p : Program} {l : Launch} {e : Env} {R : Room} {s : State} {m : MethodId} {args : Array Value} {below : List Frame} {meth : Method} {c : Code} {H : Heap} {locs : List Loc} {cells slots : Nat} {Q : State → Prop} {cc : ByteArray} {pc : Nat} {ls : Array Slot} {rest : List Value} {x : Cx} {M : Mem} {j : Nat} {a1 : Int32} {a2 : Int32} {nL : Nat} {rm : Room} {out : Mem} (hM : Cv l x y_RU_load (Cond.code y_RU_load b_RU_load 3 none :: tb) rm [.ref (x.2.1 j), .int a1, .int a2] M out) (k : kd_run j) (hx : p.tables.exec = Jvm.exec) (hb : c.code = cc) (hml : c.maxLocals = nL) (hts : Tb args s) (hown : s.vm.findClass R_RU = some m.cls) (hK : va_K x.1 vwCl (tysx x) s) (hZ : Stc x s s.heap) (hP : va_P x.1 vwCl (wld x M) H) (hS : va_S (A0 x) s.heap H locs) (hsz : ls.size = nL) (hre : (rest.map fun v => v.category).sum ≤ 8) (hfr : rm.frames + 1 ≤ R.frames) (hlo : 8 + (3 + 11) + rm.locals ≤ R.locals) (hcs : rm.cells = 0 ∧ rm.slots = 0 ∧ cells ≤ R.cells ∧ slots ≤ R.slots) (hdg : decode cc pc = .ok (.invokevirtual 91, 3)) (kk : ∀ (H1 : Heap) (locs1 : List Loc), va_P x.1 vwCl (wld x out) H1 → va_S (A0 x) s.heap H1 locs1 → W p l e R s m args below meth c H1 locs1 cells slots Q (F0 m (pc + 3) ls (rest))) : W p l e R s m args below meth c H locs cells slots Q (F0 m pc ls (.int a2 :: .int a1 :: .ref (x.2.1 j) :: rest)) :=
  m_cv (va_runV (As := [.int a1, .int a2]) (rest := rest) ⟨hx, hb, hml, hown, hts.1⟩ hM (⟨callB_of 2 hts.1 (tb_good q_71) rfl hcs.1 hcs.2.1 (hts.1 _ q_52) (hts.1 _ q_72) ⟨by decide, by decide, by decide +kernel⟩ ⟨hfr, hlo⟩, hts.1 _ q_73, hts.1 _ q_74⟩) ⟨blind, va_recv hK hP (ci := 6) rfl (wld_at (lt_RU k) (ly_RU k)), m_pre hts hK hZ hP hS⟩ rfl rfl hsz rfl (lv_room hre) hdg ⟨hcs.2.2.1, hcs.2.2.2⟩) hS kk
theorem cl_RU_94 {p : Program} {l : Launch} {e : Env} {R : Room} {s : State} {m : MethodId} {args : Array Value} {below : List Frame} {meth : Method} {c : Code} {H : Heap} {locs : List Loc} {cells slots : Nat} {Q : State → Prop} {cc : ByteArray} {pc : Nat} {ls : Array Slot} {rest : List Value} {x : Cx} {M : Mem} {j : Nat} {a1 : Int32} {a2 : Int32} {nL : Nat} {rm : Room} {out : Mem} (hM : Cv l x y_RU_save (Cond.code y_RU_save b_RU_save 3 none :: tb) rm [.ref (x.2.1 j), .int a1, .int a2] M out) (k : kd_run j) (hx : p.tables.exec = Jvm.exec) (hb : c.code = cc) (hml : c.maxLocals = nL) (hts : Tb args s) (hown : s.vm.findClass R_RU = some m.cls) (hK : va_K x.1 vwCl (tysx x) s) (hZ : Stc x s s.heap) (hP : va_P x.1 vwCl (wld x M) H) (hS : va_S (A0 x) s.heap H locs) (hsz : ls.size = nL) (hre : (rest.map fun v => v.category).sum ≤ 8) (hfr : rm.frames + 1 ≤ R.frames) (hlo : 8 + (3 + 11) + rm.locals ≤ R.locals) (hcs : rm.cells = 0 ∧ rm.slots = 0 ∧ cells ≤ R.cells ∧ slots ≤ R.slots) (hdg : decode cc pc = .ok (.invokevirtual 94, 3)) (kk : ∀ (H1 : Heap) (locs1 : List Loc), va_P x.1 vwCl (wld x out) H1 → va_S (A0 x) s.heap H1 locs1 → W p l e R s m args below meth c H1 locs1 cells slots Q (F0 m (pc + 3) ls (rest))) : W p l e R s m args below meth c H locs cells slots Q (F0 m pc ls (.int a2 :: .int a1 :: .ref (x.2.1 j) :: rest)) :=
  m_cv (va_runV (As := [.int a1, .int a2]) (rest := rest) ⟨hx, hb, hml, hown, hts.1⟩ hM (⟨callB_of 2 hts.1 (tb_good q_75) rfl hcs.1 hcs.2.1 (hts.1 _ q_52) (hts.1 _ q_76) ⟨by decide, by decide, by decide +kernel⟩ ⟨hfr, hlo⟩, hts.1 _ q_77, hts.1 _ q_78⟩) ⟨blind, va_recv hK hP (ci := 6) rfl (wld_at (lt_RU k) (ly_RU k)), m_pre hts hK hZ hP hS⟩ rfl rfl hsz rfl (lv_room hre) hdg ⟨hcs.2.2.1, hcs.2.2.2⟩) hS kk
theorem gf_RU_97 {p : Program} {l : Launch} {e : Env} {R : Room} {s : State} {m : MethodId} {args : Array Value} {below : List Frame} {meth : Method} {c : Code} {H : Heap} {locs : List Loc} {cells slots : Nat} {Q : State → Prop} {cc : ByteArray} {pc : Nat} {ls : Array Slot} {rest : List Value} {x : Cx} {M : Mem} {j : Nat} (hexec : p.tables.exec = Jvm.exec) (hb : c.code = cc) (hts : Tb args s) (hown : s.vm.findClass R_RU = some m.cls) (hK : va_K x.1 vwCl (tysx x) s) (hP : va_P x.1 vwCl (wld x M) H) (k : kd_in j) (hdg : decode cc pc = .ok (.getfield 97, 3)) (kk : W p l e R s m args below meth c H locs cells slots Q (F0 m (pc + 3) ls (.int (M j 1) :: rest))) : W p l e R s m args below meth c H locs cells slots Q (F0 m pc ls (.ref (x.2.1 j) :: rest)) :=
  m_getN (ref := "EdgeCampaign$Input") (C := R_IN) (T := T_IN) (N := 2) (ci := 4) hexec hb hts in_IN hown hK hP (lt_IN k) (ly_IN k) rfl 1 (by decide) (nf_3) rfl rfl hdg kk
theorem cl_RU_29 {p : Program} {l : Launch} {e : Env} {R : Room} {s : State} {m : MethodId} {args : Array Value} {below : List Frame} {meth : Method} {c : Code} {H : Heap} {locs : List Loc} {cells slots : Nat} {Q : State → Prop} {cc : ByteArray} {pc : Nat} {ls : Array Slot} {rest : List Value} {x : Cx} {M : Mem} {j : Nat} {nL : Nat} {rm : Room} {out : Mem} (hM : Cv l x y_RU_reset (Cond.code y_RU_reset b_RU_reset 2 none :: tb) rm [.ref (x.2.1 j)] M out) (k : kd_run j) (hx : p.tables.exec = Jvm.exec) (hb : c.code = cc) (hml : c.maxLocals = nL) (hts : Tb args s) (hown : s.vm.findClass R_RU = some m.cls) (hK : va_K x.1 vwCl (tysx x) s) (hZ : Stc x s s.heap) (hP : va_P x.1 vwCl (wld x M) H) (hS : va_S (A0 x) s.heap H locs) (hsz : ls.size = nL) (hre : (rest.map fun v => v.category).sum ≤ 8) (hfr : rm.frames + 1 ≤ R.frames) (hlo : 8 + (2 + 11) + rm.locals ≤ R.locals) (hcs : rm.cells = 0 ∧ rm.slots = 0 ∧ cells ≤ R.cells ∧ slots ≤ R.slots) (hdg : decode cc pc = .ok (.invokevirtual 29, 3)) (kk : ∀ (H1 : Heap) (locs1 : List Loc), va_P x.1 vwCl (wld x out) H1 → va_S (A0 x) s.heap H1 locs1 → W p l e R s m args below meth c H1 locs1 cells slots Q (F0 m (pc + 3) ls (rest))) : W p l e R s m args below meth c H locs cells slots Q (F0 m pc ls (.ref (x.2.1 j) :: rest)) :=
  m_cv (va_runV (As := []) (rest := rest) ⟨hx, hb, hml, hown, hts.1⟩ hM (⟨callB_of 0 hts.1 (tb_good q_79) rfl hcs.1 hcs.2.1 (hts.1 _ q_52) (hts.1 _ q_80) ⟨by decide, by decide, by decide +kernel⟩ ⟨hfr, hlo⟩, hts.1 _ q_81, hts.1 _ q_82⟩) ⟨blind, va_recv hK hP (ci := 6) rfl (wld_at (lt_RU k) (ly_RU k)), m_pre hts hK hZ hP hS⟩ rfl rfl hsz rfl (lv_room hre) hdg ⟨hcs.2.2.1, hcs.2.2.2⟩) hS kk
theorem cl_RU_43 {p : Program} {l : Launch} {e : Env} {R : Room} {s : State} {m : MethodId} {args : Array Value} {below : List Frame} {meth : Method} {c : Code} {H : Heap} {locs : List Loc} {cells slots : Nat} {Q : State → Prop} {cc : ByteArray} {pc : Nat} {ls : Array Slot} {rest : List Value} {x : Cx} {M : Mem} {j : Nat} {j2 : Nat} {nL : Nat} {rm : Room} {out : Mem} (hM : Cv l x y_RU_step (Cond.code y_RU_step b_RU_step 6 none :: tb) rm [.ref (x.2.1 j), .ref (x.2.1 1), .ref (x.2.1 j2)] M out) (k : kd_run j) (hx : p.tables.exec = Jvm.exec) (hb : c.code = cc) (hml : c.maxLocals = nL) (hts : Tb args s) (hown : s.vm.findClass R_RU = some m.cls) (hK : va_K x.1 vwCl (tysx x) s) (hZ : Stc x s s.heap) (hP : va_P x.1 vwCl (wld x M) H) (hS : va_S (A0 x) s.heap H locs) (hsz : ls.size = nL) (hre : (rest.map fun v => v.category).sum ≤ 8) (hfr : rm.frames + 1 ≤ R.frames) (hlo : 8 + (6 + 11) + rm.locals ≤ R.locals) (hcs : rm.cells = 0 ∧ rm.slots = 0 ∧ cells ≤ R.cells ∧ slots ≤ R.slots) (hdg : decode cc pc = .ok (.invokevirtual 43, 3)) (kk : ∀ (H1 : Heap) (locs1 : List Loc), va_P x.1 vwCl (wld x out) H1 → va_S (A0 x) s.heap H1 locs1 → W p l e R s m args below meth c H1 locs1 cells slots Q (F0 m (pc + 3) ls (rest))) : W p l e R s m args below meth c H locs cells slots Q (F0 m pc ls (.ref (x.2.1 j2) :: .ref (x.2.1 1) :: .ref (x.2.1 j) :: rest)) :=
  m_cv (va_runV (As := [.ref (x.2.1 1), .ref (x.2.1 j2)]) (rest := rest) ⟨hx, hb, hml, hown, hts.1⟩ hM (⟨callB_of 2 hts.1 (tb_good q_83) rfl hcs.1 hcs.2.1 (hts.1 _ q_52) (hts.1 _ q_84) ⟨by decide, by decide, by decide +kernel⟩ ⟨hfr, hlo⟩, hts.1 _ q_85, hts.1 _ q_86⟩) ⟨blind, va_recv hK hP (ci := 6) rfl (wld_at (lt_RU k) (ly_RU k)), m_pre hts hK hZ hP hS⟩ rfl rfl hsz rfl (lv_room hre) hdg ⟨hcs.2.2.1, hcs.2.2.2⟩) hS kk
theorem gf_ST_34 {p : Program} {l : Launch} {e : Env} {R : Room} {s : State} {m : MethodId} {args : Array Value} {below : List Frame} {meth : Method} {c : Code} {H : Heap} {locs : List Loc} {cells slots : Nat} {Q : State → Prop} {cc : ByteArray} {pc : Nat} {ls : Array Slot} {rest : List Value} {x : Cx} {M : Mem} {j : Nat} (hexec : p.tables.exec = Jvm.exec) (hb : c.code = cc) (hts : Tb args s) (hown : s.vm.findClass R_ST = some m.cls) (hK : va_K x.1 vwCl (tysx x) s) (hP : va_P x.1 vwCl (wld x M) H) (k : kd_run j) (hdg : decode cc pc = .ok (.getfield 34, 3)) (kk : W p l e R s m args below meth c H locs cells slots Q (F0 m (pc + 3) ls (.int (M j 5) :: rest))) : W p l e R s m args below meth c H locs cells slots Q (F0 m pc ls (.ref (x.2.1 j) :: rest)) :=
  m_getN (ref := "EdgeCampaign$Run") (C := R_RU) (T := T_RU) (N := 11) (ci := 6) hexec hb hts in_RU hown hK hP (lt_RU k) (ly_RU k) rfl 5 (by decide) (nf_4) rfl rfl hdg kk
theorem gf_ST_39 {p : Program} {l : Launch} {e : Env} {R : Room} {s : State} {m : MethodId} {args : Array Value} {below : List Frame} {meth : Method} {c : Code} {H : Heap} {locs : List Loc} {cells slots : Nat} {Q : State → Prop} {cc : ByteArray} {pc : Nat} {ls : Array Slot} {rest : List Value} {x : Cx} {M : Mem} {j : Nat} (hexec : p.tables.exec = Jvm.exec) (hb : c.code = cc) (hts : Tb args s) (hown : s.vm.findClass R_ST = some m.cls) (hK : va_K x.1 vwCl (tysx x) s) (hP : va_P x.1 vwCl (wld x M) H) (k : kd_run j) (hdg : decode cc pc = .ok (.getfield 39, 3)) (kk : W p l e R s m args below meth c H locs cells slots Q (F0 m (pc + 3) ls (.ref (x.2.1 (j + 5)) :: rest))) : W p l e R s m args below meth c H locs cells slots Q (F0 m pc ls (.ref (x.2.1 j) :: rest)) :=
  m_getN (ref := "EdgeCampaign$Run") (C := R_RU) (T := T_RU) (N := 11) (ci := 6) hexec hb hts in_RU hown hK hP (lt_RU k) (ly_RU k) rfl 4 (by decide) (nf_5) rfl rfl hdg kk
theorem gf_ST_19 {p : Program} {l : Launch} {e : Env} {R : Room} {s : State} {m : MethodId} {args : Array Value} {below : List Frame} {meth : Method} {c : Code} {H : Heap} {locs : List Loc} {cells slots : Nat} {Q : State → Prop} {cc : ByteArray} {pc : Nat} {ls : Array Slot} {rest : List Value} {x : Cx} {M : Mem} (hexec : p.tables.exec = Jvm.exec) (hb : c.code = cc) (hts : Tb args s) (hown : s.vm.findClass R_ST = some m.cls) (hK : va_K x.1 vwCl (tysx x) s) (hP : va_P x.1 vwCl (wld x M) H) (hdg : decode cc pc = .ok (.getfield 19, 3)) (kk : W p l e R s m args below meth c H locs cells slots Q (F0 m (pc + 3) ls (.ref (x.2.1 7) :: rest))) : W p l e R s m args below meth c H locs cells slots Q (F0 m pc ls (.ref (x.2.1 5) :: rest)) :=
  m_get (ref := "EdgeCampaign$Store") (C := R_ST) (T := T_ST) (N := 7) (ci := 8) hexec hb hts in_ST hown hK hP (by decide) rfl rfl 1 (by decide) q_87 rfl rfl hdg kk
theorem cl_ST_42 {p : Program} {l : Launch} {e : Env} {R : Room} {s : State} {m : MethodId} {args : Array Value} {below : List Frame} {meth : Method} {c : Code} {H : Heap} {locs : List Loc} {cells slots : Nat} {Q : State → Prop} {cc : ByteArray} {pc : Nat} {ls : Array Slot} {rest : List Value} {x : Cx} {M : Mem} {j : Nat} {a1 : Int32} {nL : Nat} {rm : Room} {out : Int32 × Mem} (hM : Ci l x y_RU_pairBit (Cond.code y_RU_pairBit b_RU_pairBit 3 (some .int) :: tb) rm [.ref (x.2.1 j), .int a1] M out) (k : kd_run j) (hx : p.tables.exec = Jvm.exec) (hb : c.code = cc) (hml : c.maxLocals = nL) (hts : Tb args s) (hown : s.vm.findClass R_ST = some m.cls) (hK : va_K x.1 vwCl (tysx x) s) (hZ : Stc x s s.heap) (hP : va_P x.1 vwCl (wld x M) H) (hS : va_S (A0 x) s.heap H locs) (hsz : ls.size = nL) (hre : (rest.map fun v => v.category).sum ≤ 8) (hfr : rm.frames + 1 ≤ R.frames) (hlo : 8 + (3 + 11) + rm.locals ≤ R.locals) (hcs : rm.cells = 0 ∧ rm.slots = 0 ∧ cells ≤ R.cells ∧ slots ≤ R.slots) (hdg : decode cc pc = .ok (.invokevirtual 42, 3)) (kk : ∀ (H1 : Heap) (locs1 : List Loc), va_P x.1 vwCl (wld x out.2) H1 → va_S (A0 x) s.heap H1 locs1 → W p l e R s m args below meth c H1 locs1 cells slots Q (F0 m (pc + 3) ls (.int out.1 :: rest))) : W p l e R s m args below meth c H locs cells slots Q (F0 m pc ls (.int a1 :: .ref (x.2.1 j) :: rest)) :=
  m_ci (va_runV (As := [.int a1]) (rest := rest) ⟨hx, hb, hml, hown, hts.1⟩ hM (⟨callB_of 1 hts.1 (tb_good q_88) rfl hcs.1 hcs.2.1 (hts.1 _ q_52) (hts.1 _ q_89) ⟨by decide, by decide, by decide +kernel⟩ ⟨hfr, hlo⟩, hts.1 _ q_90, hts.1 _ q_91⟩) ⟨blind, va_recv hK hP (ci := 6) rfl (wld_at (lt_RU k) (ly_RU k)), m_pre hts hK hZ hP hS⟩ rfl rfl hsz rfl (lv_room hre) hdg ⟨hcs.2.2.1, hcs.2.2.2⟩) hS kk
theorem cl_IN_25 {p : Program} {l : Launch} {e : Env} {R : Room} {s : State} {m : MethodId} {args : Array Value} {below : List Frame} {meth : Method} {c : Code} {H : Heap} {locs : List Loc} {cells slots : Nat} {Q : State → Prop} {cc : ByteArray} {pc : Nat} {ls : Array Slot} {rest : List Value} {x : Cx} {M : Mem} {j : Nat} {a1 : Int32} {nL : Nat} {rm : Room} {out : Int32 × Mem} (hM : Ci l x y_IN_at (Cond.code y_IN_at b_IN_at 2 (some .int) :: tb) rm [.ref (x.2.1 j), .int a1] M out) (k : kd_in j) (hx : p.tables.exec = Jvm.exec) (hb : c.code = cc) (hml : c.maxLocals = nL) (hts : Tb args s) (hown : s.vm.findClass R_IN = some m.cls) (hK : va_K x.1 vwCl (tysx x) s) (hZ : Stc x s s.heap) (hP : va_P x.1 vwCl (wld x M) H) (hS : va_S (A0 x) s.heap H locs) (hsz : ls.size = nL) (hre : (rest.map fun v => v.category).sum ≤ 8) (hfr : rm.frames + 1 ≤ R.frames) (hlo : 8 + (2 + 11) + rm.locals ≤ R.locals) (hcs : rm.cells = 0 ∧ rm.slots = 0 ∧ cells ≤ R.cells ∧ slots ≤ R.slots) (hdg : decode cc pc = .ok (.invokevirtual 25, 3)) (kk : ∀ (H1 : Heap) (locs1 : List Loc), va_P x.1 vwCl (wld x out.2) H1 → va_S (A0 x) s.heap H1 locs1 → W p l e R s m args below meth c H1 locs1 cells slots Q (F0 m (pc + 3) ls (.int out.1 :: rest))) : W p l e R s m args below meth c H locs cells slots Q (F0 m pc ls (.int a1 :: .ref (x.2.1 j) :: rest)) :=
  m_ci (va_runV (As := [.int a1]) (rest := rest) ⟨hx, hb, hml, hown, hts.1⟩ hM (⟨callB_of 1 hts.1 (tb_good q_55) rfl hcs.1 hcs.2.1 (hts.1 _ q_25) (hts.1 _ q_96) ⟨by decide, by decide, by decide +kernel⟩ ⟨hfr, hlo⟩, hts.1 _ q_57, hts.1 _ q_58⟩) ⟨blind, va_recv hK hP (ci := 4) rfl (wld_at (lt_IN k) (ly_IN k)), m_pre hts hK hZ hP hS⟩ rfl rfl hsz rfl (lv_room hre) hdg ⟨hcs.2.2.1, hcs.2.2.2⟩) hS kk
theorem cl_IN_29 {p : Program} {l : Launch} {e : Env} {R : Room} {s : State} {m : MethodId} {args : Array Value} {below : List Frame} {meth : Method} {c : Code} {H : Heap} {locs : List Loc} {cells slots : Nat} {Q : State → Prop} {cc : ByteArray} {pc : Nat} {ls : Array Slot} {rest : List Value} {x : Cx} {M : Mem} {j : Nat} {a1 : Int32} {nL : Nat} {rm : Room} {out : Int32 × Mem} (hM : Ci l x y_IN_append (Cond.code y_IN_append b_IN_append 2 (some .boolean) :: tb) rm [.ref (x.2.1 j), .int a1] M out) (k : kd_in j) (hx : p.tables.exec = Jvm.exec) (hb : c.code = cc) (hml : c.maxLocals = nL) (hts : Tb args s) (hown : s.vm.findClass R_IN = some m.cls) (hK : va_K x.1 vwCl (tysx x) s) (hZ : Stc x s s.heap) (hP : va_P x.1 vwCl (wld x M) H) (hS : va_S (A0 x) s.heap H locs) (hsz : ls.size = nL) (hre : (rest.map fun v => v.category).sum ≤ 8) (hfr : rm.frames + 1 ≤ R.frames) (hlo : 8 + (2 + 11) + rm.locals ≤ R.locals) (hcs : rm.cells = 0 ∧ rm.slots = 0 ∧ cells ≤ R.cells ∧ slots ≤ R.slots) (hdg : decode cc pc = .ok (.invokevirtual 29, 3)) (kk : ∀ (H1 : Heap) (locs1 : List Loc), va_P x.1 vwCl (wld x out.2) H1 → va_S (A0 x) s.heap H1 locs1 → W p l e R s m args below meth c H1 locs1 cells slots Q (F0 m (pc + 3) ls (.int out.1 :: rest))) : W p l e R s m args below meth c H locs cells slots Q (F0 m pc ls (.int a1 :: .ref (x.2.1 j) :: rest)) :=
  m_ci (va_runV (As := [.int a1]) (rest := rest) ⟨hx, hb, hml, hown, hts.1⟩ hM (⟨callB_of 1 hts.1 (tb_good q_23) rfl hcs.1 hcs.2.1 (hts.1 _ q_25) (hts.1 _ q_97) ⟨by decide, by decide, by decide +kernel⟩ ⟨hfr, hlo⟩, hts.1 _ q_26, hts.1 _ q_27⟩) ⟨blind, va_recv hK hP (ci := 4) rfl (wld_at (lt_IN k) (ly_IN k)), m_pre hts hK hZ hP hS⟩ rfl rfl hsz rfl (lv_room hre) hdg ⟨hcs.2.2.1, hcs.2.2.2⟩) hS kk
theorem cl_IN_33 {p : Program} {l : Launch} {e : Env} {R : Room} {s : State} {m : MethodId} {args : Array Value} {below : List Frame} {meth : Method} {c : Code} {H : Heap} {locs : List Loc} {cells slots : Nat} {Q : State → Prop} {cc : ByteArray} {pc : Nat} {ls : Array Slot} {rest : List Value} {x : Cx} {M : Mem} {j : Nat} {j1 : Nat} {a2 : Int32} {a3 : Int32} {nL : Nat} {rm : Room} {out : Mem} (hM : Cv l x y_IN_appendPart (Cond.code y_IN_appendPart b_IN_appendPart 6 none :: tb) rm [.ref (x.2.1 j), .ref (x.2.1 j1), .int a2, .int a3] M out) (k : kd_in j) (hx : p.tables.exec = Jvm.exec) (hb : c.code = cc) (hml : c.maxLocals = nL) (hts : Tb args s) (hown : s.vm.findClass R_IN = some m.cls) (hK : va_K x.1 vwCl (tysx x) s) (hZ : Stc x s s.heap) (hP : va_P x.1 vwCl (wld x M) H) (hS : va_S (A0 x) s.heap H locs) (hsz : ls.size = nL) (hre : (rest.map fun v => v.category).sum ≤ 8) (hfr : rm.frames + 1 ≤ R.frames) (hlo : 8 + (6 + 11) + rm.locals ≤ R.locals) (hcs : rm.cells = 0 ∧ rm.slots = 0 ∧ cells ≤ R.cells ∧ slots ≤ R.slots) (hdg : decode cc pc = .ok (.invokevirtual 33, 3)) (kk : ∀ (H1 : Heap) (locs1 : List Loc), va_P x.1 vwCl (wld x out) H1 → va_S (A0 x) s.heap H1 locs1 → W p l e R s m args below meth c H1 locs1 cells slots Q (F0 m (pc + 3) ls (rest))) : W p l e R s m args below meth c H locs cells slots Q (F0 m pc ls (.int a3 :: .int a2 :: .ref (x.2.1 j1) :: .ref (x.2.1 j) :: rest)) :=
  m_cv (va_runV (As := [.ref (x.2.1 j1), .int a2, .int a3]) (rest := rest) ⟨hx, hb, hml, hown, hts.1⟩ hM (⟨callB_of 3 hts.1 (tb_good q_98) rfl hcs.1 hcs.2.1 (hts.1 _ q_25) (hts.1 _ q_99) ⟨by decide, by decide, by decide +kernel⟩ ⟨hfr, hlo⟩, hts.1 _ q_100, hts.1 _ q_101⟩) ⟨blind, va_recv hK hP (ci := 4) rfl (wld_at (lt_IN k) (ly_IN k)), m_pre hts hK hZ hP hS⟩ rfl rfl hsz rfl (lv_room hre) hdg ⟨hcs.2.2.1, hcs.2.2.2⟩) hS kk
theorem gf_ST_23 {p : Program} {l : Launch} {e : Env} {R : Room} {s : State} {m : MethodId} {args : Array Value} {below : List Frame} {meth : Method} {c : Code} {H : Heap} {locs : List Loc} {cells slots : Nat} {Q : State → Prop} {cc : ByteArray} {pc : Nat} {ls : Array Slot} {rest : List Value} {x : Cx} {M : Mem} (hexec : p.tables.exec = Jvm.exec) (hb : c.code = cc) (hts : Tb args s) (hown : s.vm.findClass R_ST = some m.cls) (hK : va_K x.1 vwCl (tysx x) s) (hP : va_P x.1 vwCl (wld x M) H) (hdg : decode cc pc = .ok (.getfield 23, 3)) (kk : W p l e R s m args below meth c H locs cells slots Q (F0 m (pc + 3) ls (.ref (x.2.1 8) :: rest))) : W p l e R s m args below meth c H locs cells slots Q (F0 m pc ls (.ref (x.2.1 5) :: rest)) :=
  m_get (ref := "EdgeCampaign$Store") (C := R_ST) (T := T_ST) (N := 7) (ci := 8) hexec hb hts in_ST hown hK hP (by decide) rfl rfl 2 (by decide) q_102 rfl rfl hdg kk
theorem gf_ST_27 {p : Program} {l : Launch} {e : Env} {R : Room} {s : State} {m : MethodId} {args : Array Value} {below : List Frame} {meth : Method} {c : Code} {H : Heap} {locs : List Loc} {cells slots : Nat} {Q : State → Prop} {cc : ByteArray} {pc : Nat} {ls : Array Slot} {rest : List Value} {x : Cx} {M : Mem} (hexec : p.tables.exec = Jvm.exec) (hb : c.code = cc) (hts : Tb args s) (hown : s.vm.findClass R_ST = some m.cls) (hK : va_K x.1 vwCl (tysx x) s) (hP : va_P x.1 vwCl (wld x M) H) (hdg : decode cc pc = .ok (.getfield 27, 3)) (kk : W p l e R s m args below meth c H locs cells slots Q (F0 m (pc + 3) ls (.int (M 5 3) :: rest))) : W p l e R s m args below meth c H locs cells slots Q (F0 m pc ls (.ref (x.2.1 5) :: rest)) :=
  m_get (ref := "EdgeCampaign$Store") (C := R_ST) (T := T_ST) (N := 7) (ci := 8) hexec hb hts in_ST hown hK hP (by decide) rfl rfl 3 (by decide) q_103 rfl rfl hdg kk
theorem gf_ST_71 {p : Program} {l : Launch} {e : Env} {R : Room} {s : State} {m : MethodId} {args : Array Value} {below : List Frame} {meth : Method} {c : Code} {H : Heap} {locs : List Loc} {cells slots : Nat} {Q : State → Prop} {cc : ByteArray} {pc : Nat} {ls : Array Slot} {rest : List Value} {x : Cx} {M : Mem} (hexec : p.tables.exec = Jvm.exec) (hb : c.code = cc) (hts : Tb args s) (hown : s.vm.findClass R_ST = some m.cls) (hK : va_K x.1 vwCl (tysx x) s) (hP : va_P x.1 vwCl (wld x M) H) (hdg : decode cc pc = .ok (.getfield 71, 3)) (kk : W p l e R s m args below meth c H locs cells slots Q (F0 m (pc + 3) ls (.int (M 5 6) :: rest))) : W p l e R s m args below meth c H locs cells slots Q (F0 m pc ls (.ref (x.2.1 5) :: rest)) :=
  m_get (ref := "EdgeCampaign$Store") (C := R_ST) (T := T_ST) (N := 7) (ci := 8) hexec hb hts in_ST hown hK hP (by decide) rfl rfl 6 (by decide) q_104 rfl rfl hdg kk
theorem pf_ST_71 {p : Program} {l : Launch} {e : Env} {R : Room} {s : State} {m : MethodId} {args : Array Value} {below : List Frame} {meth : Method} {c : Code} {H H0 : Heap} {locs : List Loc} {cells slots : Nat} {Q : State → Prop} {cc : ByteArray} {pc : Nat} {ls : Array Slot} {rest : List Value} {x : Cx} {M M1 : Mem} {v : Int32} (hexec : p.tables.exec = Jvm.exec) (hb : c.code = cc) (hts : Tb args s) (hown : s.vm.findClass R_ST = some m.cls) (hK : va_K x.1 vwCl (tysx x) s) (hJ : Inj x) (hP : va_P x.1 vwCl (wld x M) H) (hS : va_S (A0 x) H0 H locs) (hM : M1 = st M 5 6 v) (hdg : decode cc pc = .ok (.putfield 71, 3)) (kk : ∀ (H1 : Heap) (locs1 : List Loc), va_P x.1 vwCl (wld x M1) H1 → va_S (A0 x) H0 H1 locs1 → W p l e R s m args below meth c H1 locs1 cells slots Q (F0 m (pc + 3) ls rest)) : W p l e R s m args below meth c H locs cells slots Q (F0 m pc ls (.int v :: .ref (x.2.1 5) :: rest)) :=
  m_put (ref := "EdgeCampaign$Store") (C := R_ST) (T := T_ST) (N := 7) (ci := 8) hexec hb hts in_ST t_ST ty_ST nm_ST hown hK hJ hP hS (by decide) rfl rfl 6 (by decide) q_104 rfl rfl (by decide +kernel) (Nat.le_of_ble_eq_true rfl) rfl hM hdg kk
theorem gf_ST_68 {p : Program} {l : Launch} {e : Env} {R : Room} {s : State} {m : MethodId} {args : Array Value} {below : List Frame} {meth : Method} {c : Code} {H : Heap} {locs : List Loc} {cells slots : Nat} {Q : State → Prop} {cc : ByteArray} {pc : Nat} {ls : Array Slot} {rest : List Value} {x : Cx} {M : Mem} (hexec : p.tables.exec = Jvm.exec) (hb : c.code = cc) (hts : Tb args s) (hown : s.vm.findClass R_ST = some m.cls) (hK : va_K x.1 vwCl (tysx x) s) (hP : va_P x.1 vwCl (wld x M) H) (hdg : decode cc pc = .ok (.getfield 68, 3)) (kk : W p l e R s m args below meth c H locs cells slots Q (F0 m (pc + 3) ls (.int (M 5 5) :: rest))) : W p l e R s m args below meth c H locs cells slots Q (F0 m pc ls (.ref (x.2.1 5) :: rest)) :=
  m_get (ref := "EdgeCampaign$Store") (C := R_ST) (T := T_ST) (N := 7) (ci := 8) hexec hb hts in_ST hown hK hP (by decide) rfl rfl 5 (by decide) q_105 rfl rfl hdg kk
theorem pf_ST_68 {p : Program} {l : Launch} {e : Env} {R : Room} {s : State} {m : MethodId} {args : Array Value} {below : List Frame} {meth : Method} {c : Code} {H H0 : Heap} {locs : List Loc} {cells slots : Nat} {Q : State → Prop} {cc : ByteArray} {pc : Nat} {ls : Array Slot} {rest : List Value} {x : Cx} {M M1 : Mem} {v : Int32} (hexec : p.tables.exec = Jvm.exec) (hb : c.code = cc) (hts : Tb args s) (hown : s.vm.findClass R_ST = some m.cls) (hK : va_K x.1 vwCl (tysx x) s) (hJ : Inj x) (hP : va_P x.1 vwCl (wld x M) H) (hS : va_S (A0 x) H0 H locs) (hM : M1 = st M 5 5 v) (hdg : decode cc pc = .ok (.putfield 68, 3)) (kk : ∀ (H1 : Heap) (locs1 : List Loc), va_P x.1 vwCl (wld x M1) H1 → va_S (A0 x) H0 H1 locs1 → W p l e R s m args below meth c H1 locs1 cells slots Q (F0 m (pc + 3) ls rest)) : W p l e R s m args below meth c H locs cells slots Q (F0 m pc ls (.int v :: .ref (x.2.1 5) :: rest)) :=
  m_put (ref := "EdgeCampaign$Store") (C := R_ST) (T := T_ST) (N := 7) (ci := 8) hexec hb hts in_ST t_ST ty_ST nm_ST hown hK hJ hP hS (by decide) rfl rfl 5 (by decide) q_105 rfl rfl (by decide +kernel) (Nat.le_of_ble_eq_true rfl) rfl hM hdg kk
theorem gf_EN_16 {p : Program} {l : Launch} {e : Env} {R : Room} {s : State} {m : MethodId} {args : Array Value} {below : List Frame} {meth : Method} {c : Code} {H : Heap} {locs : List Loc} {cells slots : Nat} {Q : State → Prop} {cc : ByteArray} {pc : Nat} {ls : Array Slot} {rest : List Value} {x : Cx} {M : Mem} {j : Nat} (hexec : p.tables.exec = Jvm.exec) (hb : c.code = cc) (hts : Tb args s) (hown : s.vm.findClass R_EN = some m.cls) (hK : va_K x.1 vwCl (tysx x) s) (hP : va_P x.1 vwCl (wld x M) H) (k : kd_en j) (hdg : decode cc pc = .ok (.getfield 16, 3)) (kk : W p l e R s m args below meth c H locs cells slots Q (F0 m (pc + 3) ls (.int (M j 1) :: rest))) : W p l e R s m args below meth c H locs cells slots Q (F0 m pc ls (.ref (x.2.1 j) :: rest)) :=
  m_get (ref := "EdgeCampaign$Entry") (C := R_EN) (T := T_EN) (N := 4) (ci := 0) hexec hb hts in_EN hown hK hP (lt_EN k) (ly_EN k) rfl 1 (by decide) q_106 rfl rfl hdg kk
theorem gf_EN_10 {p : Program} {l : Launch} {e : Env} {R : Room} {s : State} {m : MethodId} {args : Array Value} {below : List Frame} {meth : Method} {c : Code} {H : Heap} {locs : List Loc} {cells slots : Nat} {Q : State → Prop} {cc : ByteArray} {pc : Nat} {ls : Array Slot} {rest : List Value} {x : Cx} {M : Mem} {j : Nat} (hexec : p.tables.exec = Jvm.exec) (hb : c.code = cc) (hts : Tb args s) (hown : s.vm.findClass R_EN = some m.cls) (hK : va_K x.1 vwCl (tysx x) s) (hP : va_P x.1 vwCl (wld x M) H) (k : kd_en j) (hdg : decode cc pc = .ok (.getfield 10, 3)) (kk : W p l e R s m args below meth c H locs cells slots Q (F0 m (pc + 3) ls (.ref (x.2.1 (2 * j - 186)) :: rest))) : W p l e R s m args below meth c H locs cells slots Q (F0 m pc ls (.ref (x.2.1 j) :: rest)) :=
  m_get (ref := "EdgeCampaign$Entry") (C := R_EN) (T := T_EN) (N := 4) (ci := 0) hexec hb hts in_EN hown hK hP (lt_EN k) (ly_EN k) rfl 0 (by decide) q_107 rfl rfl hdg kk
theorem gf_EN_20 {p : Program} {l : Launch} {e : Env} {R : Room} {s : State} {m : MethodId} {args : Array Value} {below : List Frame} {meth : Method} {c : Code} {H : Heap} {locs : List Loc} {cells slots : Nat} {Q : State → Prop} {cc : ByteArray} {pc : Nat} {ls : Array Slot} {rest : List Value} {x : Cx} {M : Mem} {j : Nat} (hexec : p.tables.exec = Jvm.exec) (hb : c.code = cc) (hts : Tb args s) (hown : s.vm.findClass R_EN = some m.cls) (hK : va_K x.1 vwCl (tysx x) s) (hP : va_P x.1 vwCl (wld x M) H) (k : kd_in j) (hdg : decode cc pc = .ok (.getfield 20, 3)) (kk : W p l e R s m args below meth c H locs cells slots Q (F0 m (pc + 3) ls (.int (M j 1) :: rest))) : W p l e R s m args below meth c H locs cells slots Q (F0 m pc ls (.ref (x.2.1 j) :: rest)) :=
  m_getN (ref := "EdgeCampaign$Input") (C := R_IN) (T := T_IN) (N := 2) (ci := 4) hexec hb hts in_IN hown hK hP (lt_IN k) (ly_IN k) rfl 1 (by decide) (nf_6) rfl rfl hdg kk
theorem gf_ST_13 {p : Program} {l : Launch} {e : Env} {R : Room} {s : State} {m : MethodId} {args : Array Value} {below : List Frame} {meth : Method} {c : Code} {H : Heap} {locs : List Loc} {cells slots : Nat} {Q : State → Prop} {cc : ByteArray} {pc : Nat} {ls : Array Slot} {rest : List Value} {x : Cx} {M : Mem} (hexec : p.tables.exec = Jvm.exec) (hb : c.code = cc) (hts : Tb args s) (hown : s.vm.findClass R_ST = some m.cls) (hK : va_K x.1 vwCl (tysx x) s) (hP : va_P x.1 vwCl (wld x M) H) (hdg : decode cc pc = .ok (.getfield 13, 3)) (kk : W p l e R s m args below meth c H locs cells slots Q (F0 m (pc + 3) ls (.ref (x.2.1 6) :: rest))) : W p l e R s m args below meth c H locs cells slots Q (F0 m pc ls (.ref (x.2.1 5) :: rest)) :=
  m_get (ref := "EdgeCampaign$Store") (C := R_ST) (T := T_ST) (N := 7) (ci := 8) hexec hb hts in_ST hown hK hP (by decide) rfl rfl 0 (by decide) q_108 rfl rfl hdg kk
theorem cl_ST_77 {p : Program} {l : Launch} {e : Env} {R : Room} {s : State} {m : MethodId} {args : Array Value} {below : List Frame} {meth : Method} {c : Code} {H : Heap} {locs : List Loc} {cells slots : Nat} {Q : State → Prop} {cc : ByteArray} {pc : Nat} {ls : Array Slot} {rest : List Value} {x : Cx} {M : Mem} {j : Nat} {nL : Nat} {rm : Room} {out : Int32 × Mem} (hM : Ci l x y_EN_cost (Cond.code y_EN_cost b_EN_cost 1 (some .int) :: tb) rm [.ref (x.2.1 j)] M out) (k : kd_en j) (hx : p.tables.exec = Jvm.exec) (hb : c.code = cc) (hml : c.maxLocals = nL) (hts : Tb args s) (hown : s.vm.findClass R_ST = some m.cls) (hK : va_K x.1 vwCl (tysx x) s) (hZ : Stc x s s.heap) (hP : va_P x.1 vwCl (wld x M) H) (hS : va_S (A0 x) s.heap H locs) (hsz : ls.size = nL) (hre : (rest.map fun v => v.category).sum ≤ 8) (hfr : rm.frames + 1 ≤ R.frames) (hlo : 8 + (1 + 11) + rm.locals ≤ R.locals) (hcs : rm.cells = 0 ∧ rm.slots = 0 ∧ cells ≤ R.cells ∧ slots ≤ R.slots) (hdg : decode cc pc = .ok (.invokevirtual 77, 3)) (kk : ∀ (H1 : Heap) (locs1 : List Loc), va_P x.1 vwCl (wld x out.2) H1 → va_S (A0 x) s.heap H1 locs1 → W p l e R s m args below meth c H1 locs1 cells slots Q (F0 m (pc + 3) ls (.int out.1 :: rest))) : W p l e R s m args below meth c H locs cells slots Q (F0 m pc ls (.ref (x.2.1 j) :: rest)) :=
  m_ci (va_runV (As := []) (rest := rest) ⟨hx, hb, hml, hown, hts.1⟩ hM (⟨callB_of 0 hts.1 (tb_good q_109) rfl hcs.1 hcs.2.1 (hts.1 _ q_111) (hts.1 _ q_110) ⟨by decide, by decide, by decide +kernel⟩ ⟨hfr, hlo⟩, hts.1 _ q_112, hts.1 _ q_113⟩) ⟨blind, va_recv hK hP (ci := 0) rfl (wld_at (lt_EN k) (ly_EN k)), m_pre hts hK hZ hP hS⟩ rfl rfl hsz rfl (lv_room hre) hdg ⟨hcs.2.2.1, hcs.2.2.2⟩) hS kk
theorem pf_ST_31 {p : Program} {l : Launch} {e : Env} {R : Room} {s : State} {m : MethodId} {args : Array Value} {below : List Frame} {meth : Method} {c : Code} {H H0 : Heap} {locs : List Loc} {cells slots : Nat} {Q : State → Prop} {cc : ByteArray} {pc : Nat} {ls : Array Slot} {rest : List Value} {x : Cx} {M M1 : Mem} {v : Int32} (hexec : p.tables.exec = Jvm.exec) (hb : c.code = cc) (hts : Tb args s) (hown : s.vm.findClass R_ST = some m.cls) (hK : va_K x.1 vwCl (tysx x) s) (hJ : Inj x) (hP : va_P x.1 vwCl (wld x M) H) (hS : va_S (A0 x) H0 H locs) (hM : M1 = st M 5 4 v) (hdg : decode cc pc = .ok (.putfield 31, 3)) (kk : ∀ (H1 : Heap) (locs1 : List Loc), va_P x.1 vwCl (wld x M1) H1 → va_S (A0 x) H0 H1 locs1 → W p l e R s m args below meth c H1 locs1 cells slots Q (F0 m (pc + 3) ls rest)) : W p l e R s m args below meth c H locs cells slots Q (F0 m pc ls (.int v :: .ref (x.2.1 5) :: rest)) :=
  m_put (ref := "EdgeCampaign$Store") (C := R_ST) (T := T_ST) (N := 7) (ci := 8) hexec hb hts in_ST t_ST ty_ST nm_ST hown hK hJ hP hS (by decide) rfl rfl 4 (by decide) q_114 rfl rfl (by decide +kernel) (Nat.le_of_ble_eq_true rfl) rfl hM hdg kk
theorem gf_ST_31 {p : Program} {l : Launch} {e : Env} {R : Room} {s : State} {m : MethodId} {args : Array Value} {below : List Frame} {meth : Method} {c : Code} {H : Heap} {locs : List Loc} {cells slots : Nat} {Q : State → Prop} {cc : ByteArray} {pc : Nat} {ls : Array Slot} {rest : List Value} {x : Cx} {M : Mem} (hexec : p.tables.exec = Jvm.exec) (hb : c.code = cc) (hts : Tb args s) (hown : s.vm.findClass R_ST = some m.cls) (hK : va_K x.1 vwCl (tysx x) s) (hP : va_P x.1 vwCl (wld x M) H) (hdg : decode cc pc = .ok (.getfield 31, 3)) (kk : W p l e R s m args below meth c H locs cells slots Q (F0 m (pc + 3) ls (.int (M 5 4) :: rest))) : W p l e R s m args below meth c H locs cells slots Q (F0 m pc ls (.ref (x.2.1 5) :: rest)) :=
  m_get (ref := "EdgeCampaign$Store") (C := R_ST) (T := T_ST) (N := 7) (ci := 8) hexec hb hts in_ST hown hK hP (by decide) rfl rfl 4 (by decide) q_114 rfl rfl hdg kk
theorem cl_ST_74 {p : Program} {l : Launch} {e : Env} {R : Room} {s : State} {m : MethodId} {args : Array Value} {below : List Frame} {meth : Method} {c : Code} {H : Heap} {locs : List Loc} {cells slots : Nat} {Q : State → Prop} {cc : ByteArray} {pc : Nat} {ls : Array Slot} {rest : List Value} {x : Cx} {M : Mem} {a1 : Int32} {nL : Nat} {rm : Room} {out : Int32 × Mem} (hM : Ci l x y_ST_top (Cond.code y_ST_top b_ST_top 5 (some .int) :: tb) rm [.ref (x.2.1 5), .int a1] M out) (hx : p.tables.exec = Jvm.exec) (hb : c.code = cc) (hml : c.maxLocals = nL) (hts : Tb args s) (hown : s.vm.findClass R_ST = some m.cls) (hK : va_K x.1 vwCl (tysx x) s) (hZ : Stc x s s.heap) (hP : va_P x.1 vwCl (wld x M) H) (hS : va_S (A0 x) s.heap H locs) (hsz : ls.size = nL) (hre : (rest.map fun v => v.category).sum ≤ 8) (hfr : rm.frames + 1 ≤ R.frames) (hlo : 8 + (5 + 11) + rm.locals ≤ R.locals) (hcs : rm.cells = 0 ∧ rm.slots = 0 ∧ cells ≤ R.cells ∧ slots ≤ R.slots) (hdg : decode cc pc = .ok (.invokevirtual 74, 3)) (kk : ∀ (H1 : Heap) (locs1 : List Loc), va_P x.1 vwCl (wld x out.2) H1 → va_S (A0 x) s.heap H1 locs1 → W p l e R s m args below meth c H1 locs1 cells slots Q (F0 m (pc + 3) ls (.int out.1 :: rest))) : W p l e R s m args below meth c H locs cells slots Q (F0 m pc ls (.int a1 :: .ref (x.2.1 5) :: rest)) :=
  m_ci (va_runV (As := [.int a1]) (rest := rest) ⟨hx, hb, hml, hown, hts.1⟩ hM (⟨callB_of 1 hts.1 (tb_good q_115) rfl hcs.1 hcs.2.1 (hts.1 _ q_117) (hts.1 _ q_116) ⟨by decide, by decide, by decide +kernel⟩ ⟨hfr, hlo⟩, hts.1 _ q_118, hts.1 _ q_119⟩) ⟨blind, va_recv hK hP (ci := 8) rfl (wld_at (by decide) rfl), m_pre hts hK hZ hP hS⟩ rfl rfl hsz rfl (lv_room hre) hdg ⟨hcs.2.2.1, hcs.2.2.2⟩) hS kk
theorem pf_ST_27 {p : Program} {l : Launch} {e : Env} {R : Room} {s : State} {m : MethodId} {args : Array Value} {below : List Frame} {meth : Method} {c : Code} {H H0 : Heap} {locs : List Loc} {cells slots : Nat} {Q : State → Prop} {cc : ByteArray} {pc : Nat} {ls : Array Slot} {rest : List Value} {x : Cx} {M M1 : Mem} {v : Int32} (hexec : p.tables.exec = Jvm.exec) (hb : c.code = cc) (hts : Tb args s) (hown : s.vm.findClass R_ST = some m.cls) (hK : va_K x.1 vwCl (tysx x) s) (hJ : Inj x) (hP : va_P x.1 vwCl (wld x M) H) (hS : va_S (A0 x) H0 H locs) (hM : M1 = st M 5 3 v) (hdg : decode cc pc = .ok (.putfield 27, 3)) (kk : ∀ (H1 : Heap) (locs1 : List Loc), va_P x.1 vwCl (wld x M1) H1 → va_S (A0 x) H0 H1 locs1 → W p l e R s m args below meth c H1 locs1 cells slots Q (F0 m (pc + 3) ls rest)) : W p l e R s m args below meth c H locs cells slots Q (F0 m pc ls (.int v :: .ref (x.2.1 5) :: rest)) :=
  m_put (ref := "EdgeCampaign$Store") (C := R_ST) (T := T_ST) (N := 7) (ci := 8) hexec hb hts in_ST t_ST ty_ST nm_ST hown hK hJ hP hS (by decide) rfl rfl 3 (by decide) q_103 rfl rfl (by decide +kernel) (Nat.le_of_ble_eq_true rfl) rfl hM hdg kk
theorem cl_ST_65 {p : Program} {l : Launch} {e : Env} {R : Room} {s : State} {m : MethodId} {args : Array Value} {below : List Frame} {meth : Method} {c : Code} {H : Heap} {locs : List Loc} {cells slots : Nat} {Q : State → Prop} {cc : ByteArray} {pc : Nat} {ls : Array Slot} {rest : List Value} {x : Cx} {M : Mem}  {nL : Nat} {rm : Room} {out : Mem} (hM : Cv l x y_ST_chooseFavoured (Cond.code y_ST_chooseFavoured b_ST_chooseFavoured 2 none :: tb) rm [.ref (x.2.1 5)] M out) (hx : p.tables.exec = Jvm.exec) (hb : c.code = cc) (hml : c.maxLocals = nL) (hts : Tb args s) (hown : s.vm.findClass R_ST = some m.cls) (hK : va_K x.1 vwCl (tysx x) s) (hZ : Stc x s s.heap) (hP : va_P x.1 vwCl (wld x M) H) (hS : va_S (A0 x) s.heap H locs) (hsz : ls.size = nL) (hre : (rest.map fun v => v.category).sum ≤ 8) (hfr : rm.frames + 1 ≤ R.frames) (hlo : 8 + (2 + 11) + rm.locals ≤ R.locals) (hcs : rm.cells = 0 ∧ rm.slots = 0 ∧ cells ≤ R.cells ∧ slots ≤ R.slots) (hdg : decode cc pc = .ok (.invokevirtual 65, 3)) (kk : ∀ (H1 : Heap) (locs1 : List Loc), va_P x.1 vwCl (wld x out) H1 → va_S (A0 x) s.heap H1 locs1 → W p l e R s m args below meth c H1 locs1 cells slots Q (F0 m (pc + 3) ls (rest))) : W p l e R s m args below meth c H locs cells slots Q (F0 m pc ls (.ref (x.2.1 5) :: rest)) :=
  m_cv (va_runV (As := []) (rest := rest) ⟨hx, hb, hml, hown, hts.1⟩ hM (⟨callB_of 0 hts.1 (tb_good q_120) rfl hcs.1 hcs.2.1 (hts.1 _ q_117) (hts.1 _ q_121) ⟨by decide, by decide, by decide +kernel⟩ ⟨hfr, hlo⟩, hts.1 _ q_122, hts.1 _ q_123⟩) ⟨blind, va_recv hK hP (ci := 8) rfl (wld_at (by decide) rfl), m_pre hts hK hZ hP hS⟩ rfl rfl hsz rfl (lv_room hre) hdg ⟨hcs.2.2.1, hcs.2.2.2⟩) hS kk
theorem gf_ST_46 {p : Program} {l : Launch} {e : Env} {R : Room} {s : State} {m : MethodId} {args : Array Value} {below : List Frame} {meth : Method} {c : Code} {H : Heap} {locs : List Loc} {cells slots : Nat} {Q : State → Prop} {cc : ByteArray} {pc : Nat} {ls : Array Slot} {rest : List Value} {x : Cx} {M : Mem} {j : Nat} (hexec : p.tables.exec = Jvm.exec) (hb : c.code = cc) (hts : Tb args s) (hown : s.vm.findClass R_ST = some m.cls) (hK : va_K x.1 vwCl (tysx x) s) (hP : va_P x.1 vwCl (wld x M) H) (k : kd_en j) (hdg : decode cc pc = .ok (.getfield 46, 3)) (kk : W p l e R s m args below meth c H locs cells slots Q (F0 m (pc + 3) ls (.ref (x.2.1 (2 * j - 186)) :: rest))) : W p l e R s m args below meth c H locs cells slots Q (F0 m pc ls (.ref (x.2.1 j) :: rest)) :=
  m_getN (ref := "EdgeCampaign$Entry") (C := R_EN) (T := T_EN) (N := 4) (ci := 0) hexec hb hts in_EN hown hK hP (lt_EN k) (ly_EN k) rfl 0 (by decide) (nf_7) rfl rfl hdg kk
theorem cl_ST_50 {p : Program} {l : Launch} {e : Env} {R : Room} {s : State} {m : MethodId} {args : Array Value} {below : List Frame} {meth : Method} {c : Code} {H : Heap} {locs : List Loc} {cells slots : Nat} {Q : State → Prop} {cc : ByteArray} {pc : Nat} {ls : Array Slot} {rest : List Value} {x : Cx} {M : Mem} {j : Nat} {j1 : Nat} {nL : Nat} {rm : Room} {out : Mem} (hM : Cv l x y_IN_copy (Cond.code y_IN_copy b_IN_copy 2 none :: tb) rm [.ref (x.2.1 j), .ref (x.2.1 j1)] M out) (k : kd_in j) (hx : p.tables.exec = Jvm.exec) (hb : c.code = cc) (hml : c.maxLocals = nL) (hts : Tb args s) (hown : s.vm.findClass R_ST = some m.cls) (hK : va_K x.1 vwCl (tysx x) s) (hZ : Stc x s s.heap) (hP : va_P x.1 vwCl (wld x M) H) (hS : va_S (A0 x) s.heap H locs) (hsz : ls.size = nL) (hre : (rest.map fun v => v.category).sum ≤ 8) (hfr : rm.frames + 1 ≤ R.frames) (hlo : 8 + (2 + 11) + rm.locals ≤ R.locals) (hcs : rm.cells = 0 ∧ rm.slots = 0 ∧ cells ≤ R.cells ∧ slots ≤ R.slots) (hdg : decode cc pc = .ok (.invokevirtual 50, 3)) (kk : ∀ (H1 : Heap) (locs1 : List Loc), va_P x.1 vwCl (wld x out) H1 → va_S (A0 x) s.heap H1 locs1 → W p l e R s m args below meth c H1 locs1 cells slots Q (F0 m (pc + 3) ls (rest))) : W p l e R s m args below meth c H locs cells slots Q (F0 m pc ls (.ref (x.2.1 j1) :: .ref (x.2.1 j) :: rest)) :=
  m_cv (va_runV (As := [.ref (x.2.1 j1)]) (rest := rest) ⟨hx, hb, hml, hown, hts.1⟩ hM (⟨callB_of 1 hts.1 (tb_good q_124) rfl hcs.1 hcs.2.1 (hts.1 _ q_25) (hts.1 _ q_125) ⟨by decide, by decide, by decide +kernel⟩ ⟨hfr, hlo⟩, hts.1 _ q_126, hts.1 _ q_127⟩) ⟨blind, va_recv hK hP (ci := 4) rfl (wld_at (lt_IN k) (ly_IN k)), m_pre hts hK hZ hP hS⟩ rfl rfl hsz rfl (lv_room hre) hdg ⟨hcs.2.2.1, hcs.2.2.2⟩) hS kk
theorem gf_ST_56 {p : Program} {l : Launch} {e : Env} {R : Room} {s : State} {m : MethodId} {args : Array Value} {below : List Frame} {meth : Method} {c : Code} {H : Heap} {locs : List Loc} {cells slots : Nat} {Q : State → Prop} {cc : ByteArray} {pc : Nat} {ls : Array Slot} {rest : List Value} {x : Cx} {M : Mem} {j : Nat} (hexec : p.tables.exec = Jvm.exec) (hb : c.code = cc) (hts : Tb args s) (hown : s.vm.findClass R_ST = some m.cls) (hK : va_K x.1 vwCl (tysx x) s) (hP : va_P x.1 vwCl (wld x M) H) (k : kd_run j) (hdg : decode cc pc = .ok (.getfield 56, 3)) (kk : W p l e R s m args below meth c H locs cells slots Q (F0 m (pc + 3) ls (.int (M j 9) :: rest))) : W p l e R s m args below meth c H locs cells slots Q (F0 m pc ls (.ref (x.2.1 j) :: rest)) :=
  m_getN (ref := "EdgeCampaign$Run") (C := R_RU) (T := T_RU) (N := 11) (ci := 6) hexec hb hts in_RU hown hK hP (lt_RU k) (ly_RU k) rfl 9 (by decide) (nf_8) rfl rfl hdg kk
theorem pf_ST_59 {p : Program} {l : Launch} {e : Env} {R : Room} {s : State} {m : MethodId} {args : Array Value} {below : List Frame} {meth : Method} {c : Code} {H H0 : Heap} {locs : List Loc} {cells slots : Nat} {Q : State → Prop} {cc : ByteArray} {pc : Nat} {ls : Array Slot} {rest : List Value} {x : Cx} {M M1 : Mem} {j : Nat} {v : Int32} (hexec : p.tables.exec = Jvm.exec) (hb : c.code = cc) (hts : Tb args s) (hown : s.vm.findClass R_ST = some m.cls) (hK : va_K x.1 vwCl (tysx x) s) (hJ : Inj x) (hP : va_P x.1 vwCl (wld x M) H) (hS : va_S (A0 x) H0 H locs) (k : kd_en j) (hM : M1 = st M j 1 v) (hdg : decode cc pc = .ok (.putfield 59, 3)) (kk : ∀ (H1 : Heap) (locs1 : List Loc), va_P x.1 vwCl (wld x M1) H1 → va_S (A0 x) H0 H1 locs1 → W p l e R s m args below meth c H1 locs1 cells slots Q (F0 m (pc + 3) ls rest)) : W p l e R s m args below meth c H locs cells slots Q (F0 m pc ls (.int v :: .ref (x.2.1 j) :: rest)) :=
  m_putN (ref := "EdgeCampaign$Entry") (C := R_EN) (T := T_EN) (N := 4) (ci := 0) hexec hb hts in_EN t_EN ty_EN nm_EN hown hK hJ hP hS (lt_EN k) (ly_EN k) rfl 1 (by decide) (nf_9) rfl rfl (by decide +kernel) (Nat.le_of_ble_eq_true rfl) (by rw [ly_EN k]; rfl) hM hdg kk
theorem pf_ST_60 {p : Program} {l : Launch} {e : Env} {R : Room} {s : State} {m : MethodId} {args : Array Value} {below : List Frame} {meth : Method} {c : Code} {H H0 : Heap} {locs : List Loc} {cells slots : Nat} {Q : State → Prop} {cc : ByteArray} {pc : Nat} {ls : Array Slot} {rest : List Value} {x : Cx} {M M1 : Mem} {j : Nat} {v : Int32} (hexec : p.tables.exec = Jvm.exec) (hb : c.code = cc) (hts : Tb args s) (hown : s.vm.findClass R_ST = some m.cls) (hK : va_K x.1 vwCl (tysx x) s) (hJ : Inj x) (hP : va_P x.1 vwCl (wld x M) H) (hS : va_S (A0 x) H0 H locs) (k : kd_en j) (hM : M1 = st M j 2 v) (hdg : decode cc pc = .ok (.putfield 60, 3)) (kk : ∀ (H1 : Heap) (locs1 : List Loc), va_P x.1 vwCl (wld x M1) H1 → va_S (A0 x) H0 H1 locs1 → W p l e R s m args below meth c H1 locs1 cells slots Q (F0 m (pc + 3) ls rest)) : W p l e R s m args below meth c H locs cells slots Q (F0 m pc ls (.int v :: .ref (x.2.1 j) :: rest)) :=
  m_putN (ref := "EdgeCampaign$Entry") (C := R_EN) (T := T_EN) (N := 4) (ci := 0) hexec hb hts in_EN t_EN ty_EN nm_EN hown hK hJ hP hS (lt_EN k) (ly_EN k) rfl 2 (by decide) (nf_10) rfl rfl (by decide +kernel) (Nat.le_of_ble_eq_true rfl) (by rw [ly_EN k]; rfl) hM hdg kk
theorem cl_ST_61 {p : Program} {l : Launch} {e : Env} {R : Room} {s : State} {m : MethodId} {args : Array Value} {below : List Frame} {meth : Method} {c : Code} {H : Heap} {locs : List Loc} {cells slots : Nat} {Q : State → Prop} {cc : ByteArray} {pc : Nat} {ls : Array Slot} {rest : List Value} {x : Cx} {M : Mem} {a1 : Int32} {a2 : Int32} {nL : Nat} {rm : Room} {out : Mem} (hM : Cv l x y_ST_markSeen (Cond.code y_ST_markSeen b_ST_markSeen 3 none :: tb) rm [.ref (x.2.1 5), .int a1, .int a2] M out) (hx : p.tables.exec = Jvm.exec) (hb : c.code = cc) (hml : c.maxLocals = nL) (hts : Tb args s) (hown : s.vm.findClass R_ST = some m.cls) (hK : va_K x.1 vwCl (tysx x) s) (hZ : Stc x s s.heap) (hP : va_P x.1 vwCl (wld x M) H) (hS : va_S (A0 x) s.heap H locs) (hsz : ls.size = nL) (hre : (rest.map fun v => v.category).sum ≤ 8) (hfr : rm.frames + 1 ≤ R.frames) (hlo : 8 + (3 + 11) + rm.locals ≤ R.locals) (hcs : rm.cells = 0 ∧ rm.slots = 0 ∧ cells ≤ R.cells ∧ slots ≤ R.slots) (hdg : decode cc pc = .ok (.invokevirtual 61, 3)) (kk : ∀ (H1 : Heap) (locs1 : List Loc), va_P x.1 vwCl (wld x out) H1 → va_S (A0 x) s.heap H1 locs1 → W p l e R s m args below meth c H1 locs1 cells slots Q (F0 m (pc + 3) ls (rest))) : W p l e R s m args below meth c H locs cells slots Q (F0 m pc ls (.int a2 :: .int a1 :: .ref (x.2.1 5) :: rest)) :=
  m_cv (va_runV (As := [.int a1, .int a2]) (rest := rest) ⟨hx, hb, hml, hown, hts.1⟩ hM (⟨callB_of 2 hts.1 (tb_good q_128) rfl hcs.1 hcs.2.1 (hts.1 _ q_117) (hts.1 _ q_129) ⟨by decide, by decide, by decide +kernel⟩ ⟨hfr, hlo⟩, hts.1 _ q_130, hts.1 _ q_131⟩) ⟨blind, va_recv hK hP (ci := 8) rfl (wld_at (by decide) rfl), m_pre hts hK hZ hP hS⟩ rfl rfl hsz rfl (lv_room hre) hdg ⟨hcs.2.2.1, hcs.2.2.2⟩) hS kk
theorem gf_FI_33 {p : Program} {l : Launch} {e : Env} {R : Room} {s : State} {m : MethodId} {args : Array Value} {below : List Frame} {meth : Method} {c : Code} {H : Heap} {locs : List Loc} {cells slots : Nat} {Q : State → Prop} {cc : ByteArray} {pc : Nat} {ls : Array Slot} {rest : List Value} {x : Cx} {M : Mem} {j : Nat} (hexec : p.tables.exec = Jvm.exec) (hb : c.code = cc) (hts : Tb args s) (hown : s.vm.findClass R_FI = some m.cls) (hK : va_K x.1 vwCl (tysx x) s) (hP : va_P x.1 vwCl (wld x M) H) (k : kd_fi j) (hdg : decode cc pc = .ok (.getfield 33, 3)) (kk : W p l e R s m args below meth c H locs cells slots Q (F0 m (pc + 3) ls (.int (M j 3) :: rest))) : W p l e R s m args below meth c H locs cells slots Q (F0 m pc ls (.ref (x.2.1 j) :: rest)) :=
  m_get (ref := "EdgeCampaign$Finding") (C := R_FI) (T := T_FI) (N := 7) (ci := 1) hexec hb hts in_FI hown hK hP (lt_FI k) (ly_FI k) rfl 3 (by decide) q_132 rfl rfl hdg kk
theorem gf_FI_29 {p : Program} {l : Launch} {e : Env} {R : Room} {s : State} {m : MethodId} {args : Array Value} {below : List Frame} {meth : Method} {c : Code} {H : Heap} {locs : List Loc} {cells slots : Nat} {Q : State → Prop} {cc : ByteArray} {pc : Nat} {ls : Array Slot} {rest : List Value} {x : Cx} {M : Mem} {j : Nat} (hexec : p.tables.exec = Jvm.exec) (hb : c.code = cc) (hts : Tb args s) (hown : s.vm.findClass R_FI = some m.cls) (hK : va_K x.1 vwCl (tysx x) s) (hP : va_P x.1 vwCl (wld x M) H) (k : kd_run j) (hdg : decode cc pc = .ok (.getfield 29, 3)) (kk : W p l e R s m args below meth c H locs cells slots Q (F0 m (pc + 3) ls (.int (M j 10) :: rest))) : W p l e R s m args below meth c H locs cells slots Q (F0 m pc ls (.ref (x.2.1 j) :: rest)) :=
  m_getN (ref := "EdgeCampaign$Run") (C := R_RU) (T := T_RU) (N := 11) (ci := 6) hexec hb hts in_RU hown hK hP (lt_RU k) (ly_RU k) rfl 10 (by decide) (nf_11) rfl rfl hdg kk
theorem gf_FI_39 {p : Program} {l : Launch} {e : Env} {R : Room} {s : State} {m : MethodId} {args : Array Value} {below : List Frame} {meth : Method} {c : Code} {H : Heap} {locs : List Loc} {cells slots : Nat} {Q : State → Prop} {cc : ByteArray} {pc : Nat} {ls : Array Slot} {rest : List Value} {x : Cx} {M : Mem} {j : Nat} (hexec : p.tables.exec = Jvm.exec) (hb : c.code = cc) (hts : Tb args s) (hown : s.vm.findClass R_FI = some m.cls) (hK : va_K x.1 vwCl (tysx x) s) (hP : va_P x.1 vwCl (wld x M) H) (k : kd_fi j) (hdg : decode cc pc = .ok (.getfield 39, 3)) (kk : W p l e R s m args below meth c H locs cells slots Q (F0 m (pc + 3) ls (.int (M j 4) :: rest))) : W p l e R s m args below meth c H locs cells slots Q (F0 m pc ls (.ref (x.2.1 j) :: rest)) :=
  m_get (ref := "EdgeCampaign$Finding") (C := R_FI) (T := T_FI) (N := 7) (ci := 1) hexec hb hts in_FI hown hK hP (lt_FI k) (ly_FI k) rfl 4 (by decide) q_133 rfl rfl hdg kk
theorem gf_FI_36 {p : Program} {l : Launch} {e : Env} {R : Room} {s : State} {m : MethodId} {args : Array Value} {below : List Frame} {meth : Method} {c : Code} {H : Heap} {locs : List Loc} {cells slots : Nat} {Q : State → Prop} {cc : ByteArray} {pc : Nat} {ls : Array Slot} {rest : List Value} {x : Cx} {M : Mem} {j : Nat} (hexec : p.tables.exec = Jvm.exec) (hb : c.code = cc) (hts : Tb args s) (hown : s.vm.findClass R_FI = some m.cls) (hK : va_K x.1 vwCl (tysx x) s) (hP : va_P x.1 vwCl (wld x M) H) (k : kd_run j) (hdg : decode cc pc = .ok (.getfield 36, 3)) (kk : W p l e R s m args below meth c H locs cells slots Q (F0 m (pc + 3) ls (.int (M j 8) :: rest))) : W p l e R s m args below meth c H locs cells slots Q (F0 m pc ls (.ref (x.2.1 j) :: rest)) :=
  m_getN (ref := "EdgeCampaign$Run") (C := R_RU) (T := T_RU) (N := 11) (ci := 6) hexec hb hts in_RU hown hK hP (lt_RU k) (ly_RU k) rfl 8 (by decide) (nf_12) rfl rfl hdg kk
theorem gf_FI_43 {p : Program} {l : Launch} {e : Env} {R : Room} {s : State} {m : MethodId} {args : Array Value} {below : List Frame} {meth : Method} {c : Code} {H : Heap} {locs : List Loc} {cells slots : Nat} {Q : State → Prop} {cc : ByteArray} {pc : Nat} {ls : Array Slot} {rest : List Value} {x : Cx} {M : Mem} {j : Nat} (hexec : p.tables.exec = Jvm.exec) (hb : c.code = cc) (hts : Tb args s) (hown : s.vm.findClass R_FI = some m.cls) (hK : va_K x.1 vwCl (tysx x) s) (hP : va_P x.1 vwCl (wld x M) H) (k : kd_fi j) (hdg : decode cc pc = .ok (.getfield 43, 3)) (kk : W p l e R s m args below meth c H locs cells slots Q (F0 m (pc + 3) ls (.int (M j 5) :: rest))) : W p l e R s m args below meth c H locs cells slots Q (F0 m pc ls (.ref (x.2.1 j) :: rest)) :=
  m_get (ref := "EdgeCampaign$Finding") (C := R_FI) (T := T_FI) (N := 7) (ci := 1) hexec hb hts in_FI hown hK hP (lt_FI k) (ly_FI k) rfl 5 (by decide) q_134 rfl rfl hdg kk
theorem gf_FI_40 {p : Program} {l : Launch} {e : Env} {R : Room} {s : State} {m : MethodId} {args : Array Value} {below : List Frame} {meth : Method} {c : Code} {H : Heap} {locs : List Loc} {cells slots : Nat} {Q : State → Prop} {cc : ByteArray} {pc : Nat} {ls : Array Slot} {rest : List Value} {x : Cx} {M : Mem} {j : Nat} (hexec : p.tables.exec = Jvm.exec) (hb : c.code = cc) (hts : Tb args s) (hown : s.vm.findClass R_FI = some m.cls) (hK : va_K x.1 vwCl (tysx x) s) (hP : va_P x.1 vwCl (wld x M) H) (k : kd_run j) (hdg : decode cc pc = .ok (.getfield 40, 3)) (kk : W p l e R s m args below meth c H locs cells slots Q (F0 m (pc + 3) ls (.int (M j 6) :: rest))) : W p l e R s m args below meth c H locs cells slots Q (F0 m pc ls (.ref (x.2.1 j) :: rest)) :=
  m_getN (ref := "EdgeCampaign$Run") (C := R_RU) (T := T_RU) (N := 11) (ci := 6) hexec hb hts in_RU hown hK hP (lt_RU k) (ly_RU k) rfl 6 (by decide) (nf_13) rfl rfl hdg kk
theorem gf_FI_21 {p : Program} {l : Launch} {e : Env} {R : Room} {s : State} {m : MethodId} {args : Array Value} {below : List Frame} {meth : Method} {c : Code} {H : Heap} {locs : List Loc} {cells slots : Nat} {Q : State → Prop} {cc : ByteArray} {pc : Nat} {ls : Array Slot} {rest : List Value} {x : Cx} {M : Mem} {j : Nat} (hexec : p.tables.exec = Jvm.exec) (hb : c.code = cc) (hts : Tb args s) (hown : s.vm.findClass R_FI = some m.cls) (hK : va_K x.1 vwCl (tysx x) s) (hP : va_P x.1 vwCl (wld x M) H) (k : kd_fi j) (hdg : decode cc pc = .ok (.getfield 21, 3)) (kk : W p l e R s m args below meth c H locs cells slots Q (F0 m (pc + 3) ls (.ref (x.2.1 (j + 1)) :: rest))) : W p l e R s m args below meth c H locs cells slots Q (F0 m pc ls (.ref (x.2.1 j) :: rest)) :=
  m_get (ref := "EdgeCampaign$Finding") (C := R_FI) (T := T_FI) (N := 7) (ci := 1) hexec hb hts in_FI hown hK hP (lt_FI k) (ly_FI k) rfl 2 (by decide) q_135 rfl rfl hdg kk
theorem cl_FI_44 {p : Program} {l : Launch} {e : Env} {R : Room} {s : State} {m : MethodId} {args : Array Value} {below : List Frame} {meth : Method} {c : Code} {H : Heap} {locs : List Loc} {cells slots : Nat} {Q : State → Prop} {cc : ByteArray} {pc : Nat} {ls : Array Slot} {rest : List Value} {x : Cx} {M : Mem} {j : Nat} {a1 : Int32} {nL : Nat} {rm : Room} {out : Int32 × Mem} (hM : Ci l x y_RU_onStack (Cond.code y_RU_onStack b_RU_onStack 3 (some .int) :: tb) rm [.ref (x.2.1 j), .int a1] M out) (k : kd_run j) (hx : p.tables.exec = Jvm.exec) (hb : c.code = cc) (hml : c.maxLocals = nL) (hts : Tb args s) (hown : s.vm.findClass R_FI = some m.cls) (hK : va_K x.1 vwCl (tysx x) s) (hZ : Stc x s s.heap) (hP : va_P x.1 vwCl (wld x M) H) (hS : va_S (A0 x) s.heap H locs) (hsz : ls.size = nL) (hre : (rest.map fun v => v.category).sum ≤ 8) (hfr : rm.frames + 1 ≤ R.frames) (hlo : 8 + (3 + 11) + rm.locals ≤ R.locals) (hcs : rm.cells = 0 ∧ rm.slots = 0 ∧ cells ≤ R.cells ∧ slots ≤ R.slots) (hdg : decode cc pc = .ok (.invokevirtual 44, 3)) (kk : ∀ (H1 : Heap) (locs1 : List Loc), va_P x.1 vwCl (wld x out.2) H1 → va_S (A0 x) s.heap H1 locs1 → W p l e R s m args below meth c H1 locs1 cells slots Q (F0 m (pc + 3) ls (.int out.1 :: rest))) : W p l e R s m args below meth c H locs cells slots Q (F0 m pc ls (.int a1 :: .ref (x.2.1 j) :: rest)) :=
  m_ci (va_runV (As := [.int a1]) (rest := rest) ⟨hx, hb, hml, hown, hts.1⟩ hM (⟨callB_of 1 hts.1 (tb_good q_136) rfl hcs.1 hcs.2.1 (hts.1 _ q_52) (hts.1 _ q_137) ⟨by decide, by decide, by decide +kernel⟩ ⟨hfr, hlo⟩, hts.1 _ q_138, hts.1 _ q_139⟩) ⟨blind, va_recv hK hP (ci := 6) rfl (wld_at (lt_RU k) (ly_RU k)), m_pre hts hK hZ hP hS⟩ rfl rfl hsz rfl (lv_room hre) hdg ⟨hcs.2.2.1, hcs.2.2.2⟩) hS kk
theorem gf_FS_11 {p : Program} {l : Launch} {e : Env} {R : Room} {s : State} {m : MethodId} {args : Array Value} {below : List Frame} {meth : Method} {c : Code} {H : Heap} {locs : List Loc} {cells slots : Nat} {Q : State → Prop} {cc : ByteArray} {pc : Nat} {ls : Array Slot} {rest : List Value} {x : Cx} {M : Mem} (hexec : p.tables.exec = Jvm.exec) (hb : c.code = cc) (hts : Tb args s) (hown : s.vm.findClass R_FS = some m.cls) (hK : va_K x.1 vwCl (tysx x) s) (hP : va_P x.1 vwCl (wld x M) H) (hdg : decode cc pc = .ok (.getfield 11, 3)) (kk : W p l e R s m args below meth c H locs cells slots Q (F0 m (pc + 3) ls (.ref (x.2.1 10) :: rest))) : W p l e R s m args below meth c H locs cells slots Q (F0 m pc ls (.ref (x.2.1 9) :: rest)) :=
  m_get (ref := "EdgeCampaign$Findings") (C := R_FS) (T := T_FS) (N := 2) (ci := 2) hexec hb hts in_FS hown hK hP (by decide) rfl rfl 0 (by decide) q_140 rfl rfl hdg kk
theorem gf_FS_24 {p : Program} {l : Launch} {e : Env} {R : Room} {s : State} {m : MethodId} {args : Array Value} {below : List Frame} {meth : Method} {c : Code} {H : Heap} {locs : List Loc} {cells slots : Nat} {Q : State → Prop} {cc : ByteArray} {pc : Nat} {ls : Array Slot} {rest : List Value} {x : Cx} {M : Mem} {j : Nat} (hexec : p.tables.exec = Jvm.exec) (hb : c.code = cc) (hts : Tb args s) (hown : s.vm.findClass R_FS = some m.cls) (hK : va_K x.1 vwCl (tysx x) s) (hP : va_P x.1 vwCl (wld x M) H) (k : kd_fi j) (hdg : decode cc pc = .ok (.getfield 24, 3)) (kk : W p l e R s m args below meth c H locs cells slots Q (F0 m (pc + 3) ls (.int (M j 6) :: rest))) : W p l e R s m args below meth c H locs cells slots Q (F0 m pc ls (.ref (x.2.1 j) :: rest)) :=
  m_getN (ref := "EdgeCampaign$Finding") (C := R_FI) (T := T_FI) (N := 7) (ci := 1) hexec hb hts in_FI hown hK hP (lt_FI k) (ly_FI k) rfl 6 (by decide) (nf_14) rfl rfl hdg kk
theorem pf_FS_24 {p : Program} {l : Launch} {e : Env} {R : Room} {s : State} {m : MethodId} {args : Array Value} {below : List Frame} {meth : Method} {c : Code} {H H0 : Heap} {locs : List Loc} {cells slots : Nat} {Q : State → Prop} {cc : ByteArray} {pc : Nat} {ls : Array Slot} {rest : List Value} {x : Cx} {M M1 : Mem} {j : Nat} {v : Int32} (hexec : p.tables.exec = Jvm.exec) (hb : c.code = cc) (hts : Tb args s) (hown : s.vm.findClass R_FS = some m.cls) (hK : va_K x.1 vwCl (tysx x) s) (hJ : Inj x) (hP : va_P x.1 vwCl (wld x M) H) (hS : va_S (A0 x) H0 H locs) (k : kd_fi j) (hM : M1 = st M j 6 v) (hdg : decode cc pc = .ok (.putfield 24, 3)) (kk : ∀ (H1 : Heap) (locs1 : List Loc), va_P x.1 vwCl (wld x M1) H1 → va_S (A0 x) H0 H1 locs1 → W p l e R s m args below meth c H1 locs1 cells slots Q (F0 m (pc + 3) ls rest)) : W p l e R s m args below meth c H locs cells slots Q (F0 m pc ls (.int v :: .ref (x.2.1 j) :: rest)) :=
  m_putN (ref := "EdgeCampaign$Finding") (C := R_FI) (T := T_FI) (N := 7) (ci := 1) hexec hb hts in_FI t_FI ty_FI nm_FI hown hK hJ hP hS (lt_FI k) (ly_FI k) rfl 6 (by decide) (nf_14) rfl rfl (by decide +kernel) (Nat.le_of_ble_eq_true rfl) (by rw [ly_FI k]; rfl) hM hdg kk
theorem gf_FS_16 {p : Program} {l : Launch} {e : Env} {R : Room} {s : State} {m : MethodId} {args : Array Value} {below : List Frame} {meth : Method} {c : Code} {H : Heap} {locs : List Loc} {cells slots : Nat} {Q : State → Prop} {cc : ByteArray} {pc : Nat} {ls : Array Slot} {rest : List Value} {x : Cx} {M : Mem} (hexec : p.tables.exec = Jvm.exec) (hb : c.code = cc) (hts : Tb args s) (hown : s.vm.findClass R_FS = some m.cls) (hK : va_K x.1 vwCl (tysx x) s) (hP : va_P x.1 vwCl (wld x M) H) (hdg : decode cc pc = .ok (.getfield 16, 3)) (kk : W p l e R s m args below meth c H locs cells slots Q (F0 m (pc + 3) ls (.int (M 9 1) :: rest))) : W p l e R s m args below meth c H locs cells slots Q (F0 m pc ls (.ref (x.2.1 9) :: rest)) :=
  m_get (ref := "EdgeCampaign$Findings") (C := R_FS) (T := T_FS) (N := 2) (ci := 2) hexec hb hts in_FS hown hK hP (by decide) rfl rfl 1 (by decide) q_141 rfl rfl hdg kk
theorem cl_FS_20 {p : Program} {l : Launch} {e : Env} {R : Room} {s : State} {m : MethodId} {args : Array Value} {below : List Frame} {meth : Method} {c : Code} {H : Heap} {locs : List Loc} {cells slots : Nat} {Q : State → Prop} {cc : ByteArray} {pc : Nat} {ls : Array Slot} {rest : List Value} {x : Cx} {M : Mem} {j : Nat} {j1 : Nat} {nL : Nat} {rm : Room} {out : Int32 × Mem} (hM : Ci l x y_FI_hasSignOf (Cond.code y_FI_hasSignOf b_FI_hasSignOf 3 (some .boolean) :: tb) rm [.ref (x.2.1 j), .ref (x.2.1 j1)] M out) (k : kd_fi j) (hx : p.tables.exec = Jvm.exec) (hb : c.code = cc) (hml : c.maxLocals = nL) (hts : Tb args s) (hown : s.vm.findClass R_FS = some m.cls) (hK : va_K x.1 vwCl (tysx x) s) (hZ : Stc x s s.heap) (hP : va_P x.1 vwCl (wld x M) H) (hS : va_S (A0 x) s.heap H locs) (hsz : ls.size = nL) (hre : (rest.map fun v => v.category).sum ≤ 8) (hfr : rm.frames + 1 ≤ R.frames) (hlo : 8 + (3 + 11) + rm.locals ≤ R.locals) (hcs : rm.cells = 0 ∧ rm.slots = 0 ∧ cells ≤ R.cells ∧ slots ≤ R.slots) (hdg : decode cc pc = .ok (.invokevirtual 20, 3)) (kk : ∀ (H1 : Heap) (locs1 : List Loc), va_P x.1 vwCl (wld x out.2) H1 → va_S (A0 x) s.heap H1 locs1 → W p l e R s m args below meth c H1 locs1 cells slots Q (F0 m (pc + 3) ls (.int out.1 :: rest))) : W p l e R s m args below meth c H locs cells slots Q (F0 m pc ls (.ref (x.2.1 j1) :: .ref (x.2.1 j) :: rest)) :=
  m_ci (va_runV (As := [.ref (x.2.1 j1)]) (rest := rest) ⟨hx, hb, hml, hown, hts.1⟩ hM (⟨callB_of 1 hts.1 (tb_good q_142) rfl hcs.1 hcs.2.1 (hts.1 _ q_144) (hts.1 _ q_143) ⟨by decide, by decide, by decide +kernel⟩ ⟨hfr, hlo⟩, hts.1 _ q_145, hts.1 _ q_146⟩) ⟨blind, va_recv hK hP (ci := 1) rfl (wld_at (lt_FI k) (ly_FI k)), m_pre hts hK hZ hP hS⟩ rfl rfl hsz rfl (lv_room hre) hdg ⟨hcs.2.2.1, hcs.2.2.2⟩) hS kk
theorem gf_FI_10 {p : Program} {l : Launch} {e : Env} {R : Room} {s : State} {m : MethodId} {args : Array Value} {below : List Frame} {meth : Method} {c : Code} {H : Heap} {locs : List Loc} {cells slots : Nat} {Q : State → Prop} {cc : ByteArray} {pc : Nat} {ls : Array Slot} {rest : List Value} {x : Cx} {M : Mem} {j : Nat} (hexec : p.tables.exec = Jvm.exec) (hb : c.code = cc) (hts : Tb args s) (hown : s.vm.findClass R_FI = some m.cls) (hK : va_K x.1 vwCl (tysx x) s) (hP : va_P x.1 vwCl (wld x M) H) (k : kd_fi j) (hdg : decode cc pc = .ok (.getfield 10, 3)) (kk : W p l e R s m args below meth c H locs cells slots Q (F0 m (pc + 3) ls (.ref (x.2.1 (2 * j - 186)) :: rest))) : W p l e R s m args below meth c H locs cells slots Q (F0 m pc ls (.ref (x.2.1 j) :: rest)) :=
  m_get (ref := "EdgeCampaign$Finding") (C := R_FI) (T := T_FI) (N := 7) (ci := 1) hexec hb hts in_FI hown hK hP (lt_FI k) (ly_FI k) rfl 0 (by decide) q_147 rfl rfl hdg kk
theorem cl_FI_25 {p : Program} {l : Launch} {e : Env} {R : Room} {s : State} {m : MethodId} {args : Array Value} {below : List Frame} {meth : Method} {c : Code} {H : Heap} {locs : List Loc} {cells slots : Nat} {Q : State → Prop} {cc : ByteArray} {pc : Nat} {ls : Array Slot} {rest : List Value} {x : Cx} {M : Mem} {j : Nat} {j1 : Nat} {nL : Nat} {rm : Room} {out : Mem} (hM : Cv l x y_IN_copy (Cond.code y_IN_copy b_IN_copy 2 none :: tb) rm [.ref (x.2.1 j), .ref (x.2.1 j1)] M out) (k : kd_in j) (hx : p.tables.exec = Jvm.exec) (hb : c.code = cc) (hml : c.maxLocals = nL) (hts : Tb args s) (hown : s.vm.findClass R_FI = some m.cls) (hK : va_K x.1 vwCl (tysx x) s) (hZ : Stc x s s.heap) (hP : va_P x.1 vwCl (wld x M) H) (hS : va_S (A0 x) s.heap H locs) (hsz : ls.size = nL) (hre : (rest.map fun v => v.category).sum ≤ 8) (hfr : rm.frames + 1 ≤ R.frames) (hlo : 8 + (2 + 11) + rm.locals ≤ R.locals) (hcs : rm.cells = 0 ∧ rm.slots = 0 ∧ cells ≤ R.cells ∧ slots ≤ R.slots) (hdg : decode cc pc = .ok (.invokevirtual 25, 3)) (kk : ∀ (H1 : Heap) (locs1 : List Loc), va_P x.1 vwCl (wld x out) H1 → va_S (A0 x) s.heap H1 locs1 → W p l e R s m args below meth c H1 locs1 cells slots Q (F0 m (pc + 3) ls (rest))) : W p l e R s m args below meth c H locs cells slots Q (F0 m pc ls (.ref (x.2.1 j1) :: .ref (x.2.1 j) :: rest)) :=
  m_cv (va_runV (As := [.ref (x.2.1 j1)]) (rest := rest) ⟨hx, hb, hml, hown, hts.1⟩ hM (⟨callB_of 1 hts.1 (tb_good q_124) rfl hcs.1 hcs.2.1 (hts.1 _ q_25) (hts.1 _ q_148) ⟨by decide, by decide, by decide +kernel⟩ ⟨hfr, hlo⟩, hts.1 _ q_126, hts.1 _ q_127⟩) ⟨blind, va_recv hK hP (ci := 4) rfl (wld_at (lt_IN k) (ly_IN k)), m_pre hts hK hZ hP hS⟩ rfl rfl hsz rfl (lv_room hre) hdg ⟨hcs.2.2.1, hcs.2.2.2⟩) hS kk
theorem gf_FI_16 {p : Program} {l : Launch} {e : Env} {R : Room} {s : State} {m : MethodId} {args : Array Value} {below : List Frame} {meth : Method} {c : Code} {H : Heap} {locs : List Loc} {cells slots : Nat} {Q : State → Prop} {cc : ByteArray} {pc : Nat} {ls : Array Slot} {rest : List Value} {x : Cx} {M : Mem} {j : Nat} (hexec : p.tables.exec = Jvm.exec) (hb : c.code = cc) (hts : Tb args s) (hown : s.vm.findClass R_FI = some m.cls) (hK : va_K x.1 vwCl (tysx x) s) (hP : va_P x.1 vwCl (wld x M) H) (k : kd_fi j) (hdg : decode cc pc = .ok (.getfield 16, 3)) (kk : W p l e R s m args below meth c H locs cells slots Q (F0 m (pc + 3) ls (.ref (x.2.1 (2 * j - 184)) :: rest))) : W p l e R s m args below meth c H locs cells slots Q (F0 m pc ls (.ref (x.2.1 j) :: rest)) :=
  m_get (ref := "EdgeCampaign$Finding") (C := R_FI) (T := T_FI) (N := 7) (ci := 1) hexec hb hts in_FI hown hK hP (lt_FI k) (ly_FI k) rfl 1 (by decide) q_149 rfl rfl hdg kk
theorem pf_FI_33 {p : Program} {l : Launch} {e : Env} {R : Room} {s : State} {m : MethodId} {args : Array Value} {below : List Frame} {meth : Method} {c : Code} {H H0 : Heap} {locs : List Loc} {cells slots : Nat} {Q : State → Prop} {cc : ByteArray} {pc : Nat} {ls : Array Slot} {rest : List Value} {x : Cx} {M M1 : Mem} {j : Nat} {v : Int32} (hexec : p.tables.exec = Jvm.exec) (hb : c.code = cc) (hts : Tb args s) (hown : s.vm.findClass R_FI = some m.cls) (hK : va_K x.1 vwCl (tysx x) s) (hJ : Inj x) (hP : va_P x.1 vwCl (wld x M) H) (hS : va_S (A0 x) H0 H locs) (k : kd_fi j) (hM : M1 = st M j 3 v) (hdg : decode cc pc = .ok (.putfield 33, 3)) (kk : ∀ (H1 : Heap) (locs1 : List Loc), va_P x.1 vwCl (wld x M1) H1 → va_S (A0 x) H0 H1 locs1 → W p l e R s m args below meth c H1 locs1 cells slots Q (F0 m (pc + 3) ls rest)) : W p l e R s m args below meth c H locs cells slots Q (F0 m pc ls (.int v :: .ref (x.2.1 j) :: rest)) :=
  m_put (ref := "EdgeCampaign$Finding") (C := R_FI) (T := T_FI) (N := 7) (ci := 1) hexec hb hts in_FI t_FI ty_FI nm_FI hown hK hJ hP hS (lt_FI k) (ly_FI k) rfl 3 (by decide) q_132 rfl rfl (by decide +kernel) (Nat.le_of_ble_eq_true rfl) (by rw [ly_FI k]; rfl) hM hdg kk
theorem pf_FI_39 {p : Program} {l : Launch} {e : Env} {R : Room} {s : State} {m : MethodId} {args : Array Value} {below : List Frame} {meth : Method} {c : Code} {H H0 : Heap} {locs : List Loc} {cells slots : Nat} {Q : State → Prop} {cc : ByteArray} {pc : Nat} {ls : Array Slot} {rest : List Value} {x : Cx} {M M1 : Mem} {j : Nat} {v : Int32} (hexec : p.tables.exec = Jvm.exec) (hb : c.code = cc) (hts : Tb args s) (hown : s.vm.findClass R_FI = some m.cls) (hK : va_K x.1 vwCl (tysx x) s) (hJ : Inj x) (hP : va_P x.1 vwCl (wld x M) H) (hS : va_S (A0 x) H0 H locs) (k : kd_fi j) (hM : M1 = st M j 4 v) (hdg : decode cc pc = .ok (.putfield 39, 3)) (kk : ∀ (H1 : Heap) (locs1 : List Loc), va_P x.1 vwCl (wld x M1) H1 → va_S (A0 x) H0 H1 locs1 → W p l e R s m args below meth c H1 locs1 cells slots Q (F0 m (pc + 3) ls rest)) : W p l e R s m args below meth c H locs cells slots Q (F0 m pc ls (.int v :: .ref (x.2.1 j) :: rest)) :=
  m_put (ref := "EdgeCampaign$Finding") (C := R_FI) (T := T_FI) (N := 7) (ci := 1) hexec hb hts in_FI t_FI ty_FI nm_FI hown hK hJ hP hS (lt_FI k) (ly_FI k) rfl 4 (by decide) q_133 rfl rfl (by decide +kernel) (Nat.le_of_ble_eq_true rfl) (by rw [ly_FI k]; rfl) hM hdg kk
theorem pf_FI_43 {p : Program} {l : Launch} {e : Env} {R : Room} {s : State} {m : MethodId} {args : Array Value} {below : List Frame} {meth : Method} {c : Code} {H H0 : Heap} {locs : List Loc} {cells slots : Nat} {Q : State → Prop} {cc : ByteArray} {pc : Nat} {ls : Array Slot} {rest : List Value} {x : Cx} {M M1 : Mem} {j : Nat} {v : Int32} (hexec : p.tables.exec = Jvm.exec) (hb : c.code = cc) (hts : Tb args s) (hown : s.vm.findClass R_FI = some m.cls) (hK : va_K x.1 vwCl (tysx x) s) (hJ : Inj x) (hP : va_P x.1 vwCl (wld x M) H) (hS : va_S (A0 x) H0 H locs) (k : kd_fi j) (hM : M1 = st M j 5 v) (hdg : decode cc pc = .ok (.putfield 43, 3)) (kk : ∀ (H1 : Heap) (locs1 : List Loc), va_P x.1 vwCl (wld x M1) H1 → va_S (A0 x) H0 H1 locs1 → W p l e R s m args below meth c H1 locs1 cells slots Q (F0 m (pc + 3) ls rest)) : W p l e R s m args below meth c H locs cells slots Q (F0 m pc ls (.int v :: .ref (x.2.1 j) :: rest)) :=
  m_put (ref := "EdgeCampaign$Finding") (C := R_FI) (T := T_FI) (N := 7) (ci := 1) hexec hb hts in_FI t_FI ty_FI nm_FI hown hK hJ hP hS (lt_FI k) (ly_FI k) rfl 5 (by decide) q_134 rfl rfl (by decide +kernel) (Nat.le_of_ble_eq_true rfl) (by rw [ly_FI k]; rfl) hM hdg kk
theorem pf_FI_48 {p : Program} {l : Launch} {e : Env} {R : Room} {s : State} {m : MethodId} {args : Array Value} {below : List Frame} {meth : Method} {c : Code} {H H0 : Heap} {locs : List Loc} {cells slots : Nat} {Q : State → Prop} {cc : ByteArray} {pc : Nat} {ls : Array Slot} {rest : List Value} {x : Cx} {M M1 : Mem} {j : Nat} {v : Int32} (hexec : p.tables.exec = Jvm.exec) (hb : c.code = cc) (hts : Tb args s) (hown : s.vm.findClass R_FI = some m.cls) (hK : va_K x.1 vwCl (tysx x) s) (hJ : Inj x) (hP : va_P x.1 vwCl (wld x M) H) (hS : va_S (A0 x) H0 H locs) (k : kd_fi j) (hM : M1 = st M j 6 v) (hdg : decode cc pc = .ok (.putfield 48, 3)) (kk : ∀ (H1 : Heap) (locs1 : List Loc), va_P x.1 vwCl (wld x M1) H1 → va_S (A0 x) H0 H1 locs1 → W p l e R s m args below meth c H1 locs1 cells slots Q (F0 m (pc + 3) ls rest)) : W p l e R s m args below meth c H locs cells slots Q (F0 m pc ls (.int v :: .ref (x.2.1 j) :: rest)) :=
  m_put (ref := "EdgeCampaign$Finding") (C := R_FI) (T := T_FI) (N := 7) (ci := 1) hexec hb hts in_FI t_FI ty_FI nm_FI hown hK hJ hP hS (lt_FI k) (ly_FI k) rfl 6 (by decide) q_150 rfl rfl (by decide +kernel) (Nat.le_of_ble_eq_true rfl) (by rw [ly_FI k]; rfl) hM hdg kk
theorem cl_FS_27 {p : Program} {l : Launch} {e : Env} {R : Room} {s : State} {m : MethodId} {args : Array Value} {below : List Frame} {meth : Method} {c : Code} {H : Heap} {locs : List Loc} {cells slots : Nat} {Q : State → Prop} {cc : ByteArray} {pc : Nat} {ls : Array Slot} {rest : List Value} {x : Cx} {M : Mem} {j : Nat} {j1 : Nat} {j2 : Nat} {nL : Nat} {rm : Room} {out : Mem} (hM : Cv l x y_FI_begin (Cond.code y_FI_begin b_FI_begin 4 none :: tb) rm [.ref (x.2.1 j), .ref (x.2.1 j1), .ref (x.2.1 j2)] M out) (k : kd_fi j) (hx : p.tables.exec = Jvm.exec) (hb : c.code = cc) (hml : c.maxLocals = nL) (hts : Tb args s) (hown : s.vm.findClass R_FS = some m.cls) (hK : va_K x.1 vwCl (tysx x) s) (hZ : Stc x s s.heap) (hP : va_P x.1 vwCl (wld x M) H) (hS : va_S (A0 x) s.heap H locs) (hsz : ls.size = nL) (hre : (rest.map fun v => v.category).sum ≤ 8) (hfr : rm.frames + 1 ≤ R.frames) (hlo : 8 + (4 + 11) + rm.locals ≤ R.locals) (hcs : rm.cells = 0 ∧ rm.slots = 0 ∧ cells ≤ R.cells ∧ slots ≤ R.slots) (hdg : decode cc pc = .ok (.invokevirtual 27, 3)) (kk : ∀ (H1 : Heap) (locs1 : List Loc), va_P x.1 vwCl (wld x out) H1 → va_S (A0 x) s.heap H1 locs1 → W p l e R s m args below meth c H1 locs1 cells slots Q (F0 m (pc + 3) ls (rest))) : W p l e R s m args below meth c H locs cells slots Q (F0 m pc ls (.ref (x.2.1 j2) :: .ref (x.2.1 j1) :: .ref (x.2.1 j) :: rest)) :=
  m_cv (va_runV (As := [.ref (x.2.1 j1), .ref (x.2.1 j2)]) (rest := rest) ⟨hx, hb, hml, hown, hts.1⟩ hM (⟨callB_of 2 hts.1 (tb_good q_151) rfl hcs.1 hcs.2.1 (hts.1 _ q_144) (hts.1 _ q_152) ⟨by decide, by decide, by decide +kernel⟩ ⟨hfr, hlo⟩, hts.1 _ q_153, hts.1 _ q_154⟩) ⟨blind, va_recv hK hP (ci := 1) rfl (wld_at (lt_FI k) (ly_FI k)), m_pre hts hK hZ hP hS⟩ rfl rfl hsz rfl (lv_room hre) hdg ⟨hcs.2.2.1, hcs.2.2.2⟩) hS kk
theorem pf_FS_16 {p : Program} {l : Launch} {e : Env} {R : Room} {s : State} {m : MethodId} {args : Array Value} {below : List Frame} {meth : Method} {c : Code} {H H0 : Heap} {locs : List Loc} {cells slots : Nat} {Q : State → Prop} {cc : ByteArray} {pc : Nat} {ls : Array Slot} {rest : List Value} {x : Cx} {M M1 : Mem} {v : Int32} (hexec : p.tables.exec = Jvm.exec) (hb : c.code = cc) (hts : Tb args s) (hown : s.vm.findClass R_FS = some m.cls) (hK : va_K x.1 vwCl (tysx x) s) (hJ : Inj x) (hP : va_P x.1 vwCl (wld x M) H) (hS : va_S (A0 x) H0 H locs) (hM : M1 = st M 9 1 v) (hdg : decode cc pc = .ok (.putfield 16, 3)) (kk : ∀ (H1 : Heap) (locs1 : List Loc), va_P x.1 vwCl (wld x M1) H1 → va_S (A0 x) H0 H1 locs1 → W p l e R s m args below meth c H1 locs1 cells slots Q (F0 m (pc + 3) ls rest)) : W p l e R s m args below meth c H locs cells slots Q (F0 m pc ls (.int v :: .ref (x.2.1 9) :: rest)) :=
  m_put (ref := "EdgeCampaign$Findings") (C := R_FS) (T := T_FS) (N := 2) (ci := 2) hexec hb hts in_FS t_FS ty_FS nm_FS hown hK hJ hP hS (by decide) rfl rfl 1 (by decide) q_141 rfl rfl (by decide +kernel) (Nat.le_of_ble_eq_true rfl) rfl hM hdg kk
theorem gf_SH_19 {p : Program} {l : Launch} {e : Env} {R : Room} {s : State} {m : MethodId} {args : Array Value} {below : List Frame} {meth : Method} {c : Code} {H : Heap} {locs : List Loc} {cells slots : Nat} {Q : State → Prop} {cc : ByteArray} {pc : Nat} {ls : Array Slot} {rest : List Value} {x : Cx} {M : Mem} (hexec : p.tables.exec = Jvm.exec) (hb : c.code = cc) (hts : Tb args s) (hown : s.vm.findClass R_SH = some m.cls) (hK : va_K x.1 vwCl (tysx x) s) (hP : va_P x.1 vwCl (wld x M) H) (hdg : decode cc pc = .ok (.getfield 19, 3)) (kk : W p l e R s m args below meth c H locs cells slots Q (F0 m (pc + 3) ls (.ref (x.2.1 56) :: rest))) : W p l e R s m args below meth c H locs cells slots Q (F0 m pc ls (.ref (x.2.1 11) :: rest)) :=
  m_get (ref := "EdgeCampaign$Shortener") (C := R_SH) (T := T_SH) (N := 2) (ci := 7) hexec hb hts in_SH hown hK hP (by decide) rfl rfl 1 (by decide) q_158 rfl rfl hdg kk
theorem cl_SH_64 {p : Program} {l : Launch} {e : Env} {R : Room} {s : State} {m : MethodId} {args : Array Value} {below : List Frame} {meth : Method} {c : Code} {H : Heap} {locs : List Loc} {cells slots : Nat} {Q : State → Prop} {cc : ByteArray} {pc : Nat} {ls : Array Slot} {rest : List Value} {x : Cx} {M : Mem} {j : Nat} {a1 : Int32} {nL : Nat} {rm : Room} {out : Mem} (hM : Cv l x y_IN_cutTo (Cond.code y_IN_cutTo b_IN_cutTo 2 none :: tb) rm [.ref (x.2.1 j), .int a1] M out) (k : kd_in j) (hx : p.tables.exec = Jvm.exec) (hb : c.code = cc) (hml : c.maxLocals = nL) (hts : Tb args s) (hown : s.vm.findClass R_SH = some m.cls) (hK : va_K x.1 vwCl (tysx x) s) (hZ : Stc x s s.heap) (hP : va_P x.1 vwCl (wld x M) H) (hS : va_S (A0 x) s.heap H locs) (hsz : ls.size = nL) (hre : (rest.map fun v => v.category).sum ≤ 8) (hfr : rm.frames + 1 ≤ R.frames) (hlo : 8 + (2 + 11) + rm.locals ≤ R.locals) (hcs : rm.cells = 0 ∧ rm.slots = 0 ∧ cells ≤ R.cells ∧ slots ≤ R.slots) (hdg : decode cc pc = .ok (.invokevirtual 64, 3)) (kk : ∀ (H1 : Heap) (locs1 : List Loc), va_P x.1 vwCl (wld x out) H1 → va_S (A0 x) s.heap H1 locs1 → W p l e R s m args below meth c H1 locs1 cells slots Q (F0 m (pc + 3) ls (rest))) : W p l e R s m args below meth c H locs cells slots Q (F0 m pc ls (.int a1 :: .ref (x.2.1 j) :: rest)) :=
  m_cv (va_runV (As := [.int a1]) (rest := rest) ⟨hx, hb, hml, hown, hts.1⟩ hM (⟨callB_of 1 hts.1 (tb_good q_159) rfl hcs.1 hcs.2.1 (hts.1 _ q_25) (hts.1 _ q_160) ⟨by decide, by decide, by decide +kernel⟩ ⟨hfr, hlo⟩, hts.1 _ q_161, hts.1 _ q_162⟩) ⟨blind, va_recv hK hP (ci := 4) rfl (wld_at (lt_IN k) (ly_IN k)), m_pre hts hK hZ hP hS⟩ rfl rfl hsz rfl (lv_room hre) hdg ⟨hcs.2.2.1, hcs.2.2.2⟩) hS kk
theorem cl_SH_68 {p : Program} {l : Launch} {e : Env} {R : Room} {s : State} {m : MethodId} {args : Array Value} {below : List Frame} {meth : Method} {c : Code} {H : Heap} {locs : List Loc} {cells slots : Nat} {Q : State → Prop} {cc : ByteArray} {pc : Nat} {ls : Array Slot} {rest : List Value} {x : Cx} {M : Mem} {j : Nat} {j1 : Nat} {a2 : Int32} {a3 : Int32} {nL : Nat} {rm : Room} {out : Mem} (hM : Cv l x y_IN_appendPart (Cond.code y_IN_appendPart b_IN_appendPart 6 none :: tb) rm [.ref (x.2.1 j), .ref (x.2.1 j1), .int a2, .int a3] M out) (k : kd_in j) (hx : p.tables.exec = Jvm.exec) (hb : c.code = cc) (hml : c.maxLocals = nL) (hts : Tb args s) (hown : s.vm.findClass R_SH = some m.cls) (hK : va_K x.1 vwCl (tysx x) s) (hZ : Stc x s s.heap) (hP : va_P x.1 vwCl (wld x M) H) (hS : va_S (A0 x) s.heap H locs) (hsz : ls.size = nL) (hre : (rest.map fun v => v.category).sum ≤ 8) (hfr : rm.frames + 1 ≤ R.frames) (hlo : 8 + (6 + 11) + rm.locals ≤ R.locals) (hcs : rm.cells = 0 ∧ rm.slots = 0 ∧ cells ≤ R.cells ∧ slots ≤ R.slots) (hdg : decode cc pc = .ok (.invokevirtual 68, 3)) (kk : ∀ (H1 : Heap) (locs1 : List Loc), va_P x.1 vwCl (wld x out) H1 → va_S (A0 x) s.heap H1 locs1 → W p l e R s m args below meth c H1 locs1 cells slots Q (F0 m (pc + 3) ls (rest))) : W p l e R s m args below meth c H locs cells slots Q (F0 m pc ls (.int a3 :: .int a2 :: .ref (x.2.1 j1) :: .ref (x.2.1 j) :: rest)) :=
  m_cv (va_runV (As := [.ref (x.2.1 j1), .int a2, .int a3]) (rest := rest) ⟨hx, hb, hml, hown, hts.1⟩ hM (⟨callB_of 3 hts.1 (tb_good q_98) rfl hcs.1 hcs.2.1 (hts.1 _ q_25) (hts.1 _ q_163) ⟨by decide, by decide, by decide +kernel⟩ ⟨hfr, hlo⟩, hts.1 _ q_100, hts.1 _ q_101⟩) ⟨blind, va_recv hK hP (ci := 4) rfl (wld_at (lt_IN k) (ly_IN k)), m_pre hts hK hZ hP hS⟩ rfl rfl hsz rfl (lv_room hre) hdg ⟨hcs.2.2.1, hcs.2.2.2⟩) hS kk
theorem gf_SH_28 {p : Program} {l : Launch} {e : Env} {R : Room} {s : State} {m : MethodId} {args : Array Value} {below : List Frame} {meth : Method} {c : Code} {H : Heap} {locs : List Loc} {cells slots : Nat} {Q : State → Prop} {cc : ByteArray} {pc : Nat} {ls : Array Slot} {rest : List Value} {x : Cx} {M : Mem} {j : Nat} (hexec : p.tables.exec = Jvm.exec) (hb : c.code = cc) (hts : Tb args s) (hown : s.vm.findClass R_SH = some m.cls) (hK : va_K x.1 vwCl (tysx x) s) (hP : va_P x.1 vwCl (wld x M) H) (k : kd_in j) (hdg : decode cc pc = .ok (.getfield 28, 3)) (kk : W p l e R s m args below meth c H locs cells slots Q (F0 m (pc + 3) ls (.int (M j 1) :: rest))) : W p l e R s m args below meth c H locs cells slots Q (F0 m pc ls (.ref (x.2.1 j) :: rest)) :=
  m_getN (ref := "EdgeCampaign$Input") (C := R_IN) (T := T_IN) (N := 2) (ci := 4) hexec hb hts in_IN hown hK hP (lt_IN k) (ly_IN k) rfl 1 (by decide) (nf_15) rfl rfl hdg kk
theorem cl_SH_60 {p : Program} {l : Launch} {e : Env} {R : Room} {s : State} {m : MethodId} {args : Array Value} {below : List Frame} {meth : Method} {c : Code} {H : Heap} {locs : List Loc} {cells slots : Nat} {Q : State → Prop} {cc : ByteArray} {pc : Nat} {ls : Array Slot} {rest : List Value} {x : Cx} {M : Mem} {j : Nat} {j1 : Nat} {nL : Nat} {rm : Room} {out : Mem} (hM : Cv l x y_IN_copy (Cond.code y_IN_copy b_IN_copy 2 none :: tb) rm [.ref (x.2.1 j), .ref (x.2.1 j1)] M out) (k : kd_in j) (hx : p.tables.exec = Jvm.exec) (hb : c.code = cc) (hml : c.maxLocals = nL) (hts : Tb args s) (hown : s.vm.findClass R_SH = some m.cls) (hK : va_K x.1 vwCl (tysx x) s) (hZ : Stc x s s.heap) (hP : va_P x.1 vwCl (wld x M) H) (hS : va_S (A0 x) s.heap H locs) (hsz : ls.size = nL) (hre : (rest.map fun v => v.category).sum ≤ 8) (hfr : rm.frames + 1 ≤ R.frames) (hlo : 8 + (2 + 11) + rm.locals ≤ R.locals) (hcs : rm.cells = 0 ∧ rm.slots = 0 ∧ cells ≤ R.cells ∧ slots ≤ R.slots) (hdg : decode cc pc = .ok (.invokevirtual 60, 3)) (kk : ∀ (H1 : Heap) (locs1 : List Loc), va_P x.1 vwCl (wld x out) H1 → va_S (A0 x) s.heap H1 locs1 → W p l e R s m args below meth c H1 locs1 cells slots Q (F0 m (pc + 3) ls (rest))) : W p l e R s m args below meth c H locs cells slots Q (F0 m pc ls (.ref (x.2.1 j1) :: .ref (x.2.1 j) :: rest)) :=
  m_cv (va_runV (As := [.ref (x.2.1 j1)]) (rest := rest) ⟨hx, hb, hml, hown, hts.1⟩ hM (⟨callB_of 1 hts.1 (tb_good q_124) rfl hcs.1 hcs.2.1 (hts.1 _ q_25) (hts.1 _ q_164) ⟨by decide, by decide, by decide +kernel⟩ ⟨hfr, hlo⟩, hts.1 _ q_126, hts.1 _ q_127⟩) ⟨blind, va_recv hK hP (ci := 4) rfl (wld_at (lt_IN k) (ly_IN k)), m_pre hts hK hZ hP hS⟩ rfl rfl hsz rfl (lv_room hre) hdg ⟨hcs.2.2.1, hcs.2.2.2⟩) hS kk
theorem gf_SH_23 {p : Program} {l : Launch} {e : Env} {R : Room} {s : State} {m : MethodId} {args : Array Value} {below : List Frame} {meth : Method} {c : Code} {H : Heap} {locs : List Loc} {cells slots : Nat} {Q : State → Prop} {cc : ByteArray} {pc : Nat} {ls : Array Slot} {rest : List Value} {x : Cx} {M : Mem} {j : Nat} (hexec : p.tables.exec = Jvm.exec) (hb : c.code = cc) (hts : Tb args s) (hown : s.vm.findClass R_SH = some m.cls) (hK : va_K x.1 vwCl (tysx x) s) (hP : va_P x.1 vwCl (wld x M) H) (k : kd_fi j) (hdg : decode cc pc = .ok (.getfield 23, 3)) (kk : W p l e R s m args below meth c H locs cells slots Q (F0 m (pc + 3) ls (.ref (x.2.1 (2 * j - 184)) :: rest))) : W p l e R s m args below meth c H locs cells slots Q (F0 m pc ls (.ref (x.2.1 j) :: rest)) :=
  m_getN (ref := "EdgeCampaign$Finding") (C := R_FI) (T := T_FI) (N := 7) (ci := 1) hexec hb hts in_FI hown hK hP (lt_FI k) (ly_FI k) rfl 1 (by decide) (nf_16) rfl rfl hdg kk
theorem gf_SH_10 {p : Program} {l : Launch} {e : Env} {R : Room} {s : State} {m : MethodId} {args : Array Value} {below : List Frame} {meth : Method} {c : Code} {H : Heap} {locs : List Loc} {cells slots : Nat} {Q : State → Prop} {cc : ByteArray} {pc : Nat} {ls : Array Slot} {rest : List Value} {x : Cx} {M : Mem} (hexec : p.tables.exec = Jvm.exec) (hb : c.code = cc) (hts : Tb args s) (hown : s.vm.findClass R_SH = some m.cls) (hK : va_K x.1 vwCl (tysx x) s) (hP : va_P x.1 vwCl (wld x M) H) (hdg : decode cc pc = .ok (.getfield 10, 3)) (kk : W p l e R s m args below meth c H locs cells slots Q (F0 m (pc + 3) ls (.ref (x.2.1 20) :: rest))) : W p l e R s m args below meth c H locs cells slots Q (F0 m pc ls (.ref (x.2.1 11) :: rest)) :=
  m_get (ref := "EdgeCampaign$Shortener") (C := R_SH) (T := T_SH) (N := 2) (ci := 7) hexec hb hts in_SH hown hK hP (by decide) rfl rfl 0 (by decide) q_165 rfl rfl hdg kk
theorem cl_SH_52 {p : Program} {l : Launch} {e : Env} {R : Room} {s : State} {m : MethodId} {args : Array Value} {below : List Frame} {meth : Method} {c : Code} {H : Heap} {locs : List Loc} {cells slots : Nat} {Q : State → Prop} {cc : ByteArray} {pc : Nat} {ls : Array Slot} {rest : List Value} {x : Cx} {M : Mem} {j : Nat} {j2 : Nat} {nL : Nat} {rm : Room} {out : Mem} (hM : Cv l x y_RU_perform (Cond.code y_RU_perform b_RU_perform 4 none :: tb) rm [.ref (x.2.1 j), .ref (x.2.1 1), .ref (x.2.1 j2)] M out) (k : kd_run j) (hx : p.tables.exec = Jvm.exec) (hb : c.code = cc) (hml : c.maxLocals = nL) (hts : Tb args s) (hown : s.vm.findClass R_SH = some m.cls) (hK : va_K x.1 vwCl (tysx x) s) (hZ : Stc x s s.heap) (hP : va_P x.1 vwCl (wld x M) H) (hS : va_S (A0 x) s.heap H locs) (hsz : ls.size = nL) (hre : (rest.map fun v => v.category).sum ≤ 8) (hfr : rm.frames + 1 ≤ R.frames) (hlo : 8 + (4 + 11) + rm.locals ≤ R.locals) (hcs : rm.cells = 0 ∧ rm.slots = 0 ∧ cells ≤ R.cells ∧ slots ≤ R.slots) (hdg : decode cc pc = .ok (.invokevirtual 52, 3)) (kk : ∀ (H1 : Heap) (locs1 : List Loc), va_P x.1 vwCl (wld x out) H1 → va_S (A0 x) s.heap H1 locs1 → W p l e R s m args below meth c H1 locs1 cells slots Q (F0 m (pc + 3) ls (rest))) : W p l e R s m args below meth c H locs cells slots Q (F0 m pc ls (.ref (x.2.1 j2) :: .ref (x.2.1 1) :: .ref (x.2.1 j) :: rest)) :=
  m_cv (va_runV (As := [.ref (x.2.1 1), .ref (x.2.1 j2)]) (rest := rest) ⟨hx, hb, hml, hown, hts.1⟩ hM (⟨callB_of 2 hts.1 (tb_good q_166) rfl hcs.1 hcs.2.1 (hts.1 _ q_52) (hts.1 _ q_167) ⟨by decide, by decide, by decide +kernel⟩ ⟨hfr, hlo⟩, hts.1 _ q_168, hts.1 _ q_169⟩) ⟨blind, va_recv hK hP (ci := 6) rfl (wld_at (lt_RU k) (ly_RU k)), m_pre hts hK hZ hP hS⟩ rfl rfl hsz rfl (lv_room hre) hdg ⟨hcs.2.2.1, hcs.2.2.2⟩) hS kk
theorem cl_SH_56 {p : Program} {l : Launch} {e : Env} {R : Room} {s : State} {m : MethodId} {args : Array Value} {below : List Frame} {meth : Method} {c : Code} {H : Heap} {locs : List Loc} {cells slots : Nat} {Q : State → Prop} {cc : ByteArray} {pc : Nat} {ls : Array Slot} {rest : List Value} {x : Cx} {M : Mem} {j : Nat} {j1 : Nat} {nL : Nat} {rm : Room} {out : Int32 × Mem} (hM : Ci l x y_FI_hasSignOf (Cond.code y_FI_hasSignOf b_FI_hasSignOf 3 (some .boolean) :: tb) rm [.ref (x.2.1 j), .ref (x.2.1 j1)] M out) (k : kd_fi j) (hx : p.tables.exec = Jvm.exec) (hb : c.code = cc) (hml : c.maxLocals = nL) (hts : Tb args s) (hown : s.vm.findClass R_SH = some m.cls) (hK : va_K x.1 vwCl (tysx x) s) (hZ : Stc x s s.heap) (hP : va_P x.1 vwCl (wld x M) H) (hS : va_S (A0 x) s.heap H locs) (hsz : ls.size = nL) (hre : (rest.map fun v => v.category).sum ≤ 8) (hfr : rm.frames + 1 ≤ R.frames) (hlo : 8 + (3 + 11) + rm.locals ≤ R.locals) (hcs : rm.cells = 0 ∧ rm.slots = 0 ∧ cells ≤ R.cells ∧ slots ≤ R.slots) (hdg : decode cc pc = .ok (.invokevirtual 56, 3)) (kk : ∀ (H1 : Heap) (locs1 : List Loc), va_P x.1 vwCl (wld x out.2) H1 → va_S (A0 x) s.heap H1 locs1 → W p l e R s m args below meth c H1 locs1 cells slots Q (F0 m (pc + 3) ls (.int out.1 :: rest))) : W p l e R s m args below meth c H locs cells slots Q (F0 m pc ls (.ref (x.2.1 j1) :: .ref (x.2.1 j) :: rest)) :=
  m_ci (va_runV (As := [.ref (x.2.1 j1)]) (rest := rest) ⟨hx, hb, hml, hown, hts.1⟩ hM (⟨callB_of 1 hts.1 (tb_good q_142) rfl hcs.1 hcs.2.1 (hts.1 _ q_144) (hts.1 _ q_170) ⟨by decide, by decide, by decide +kernel⟩ ⟨hfr, hlo⟩, hts.1 _ q_145, hts.1 _ q_146⟩) ⟨blind, va_recv hK hP (ci := 1) rfl (wld_at (lt_FI k) (ly_FI k)), m_pre hts hK hZ hP hS⟩ rfl rfl hsz rfl (lv_room hre) hdg ⟨hcs.2.2.1, hcs.2.2.2⟩) hS kk
theorem cl_SH_49 {p : Program} {l : Launch} {e : Env} {R : Room} {s : State} {m : MethodId} {args : Array Value} {below : List Frame} {meth : Method} {c : Code} {H : Heap} {locs : List Loc} {cells slots : Nat} {Q : State → Prop} {cc : ByteArray} {pc : Nat} {ls : Array Slot} {rest : List Value} {x : Cx} {M : Mem} {j1 : Nat} {a2 : Int32} {a3 : Int32} {nL : Nat} {rm : Room} {out : Mem} (hM : Cv l x y_SH_makeRest (Cond.code y_SH_makeRest b_SH_makeRest 4 none :: tb) rm [.ref (x.2.1 11), .ref (x.2.1 j1), .int a2, .int a3] M out) (hx : p.tables.exec = Jvm.exec) (hb : c.code = cc) (hml : c.maxLocals = nL) (hts : Tb args s) (hown : s.vm.findClass R_SH = some m.cls) (hK : va_K x.1 vwCl (tysx x) s) (hZ : Stc x s s.heap) (hP : va_P x.1 vwCl (wld x M) H) (hS : va_S (A0 x) s.heap H locs) (hsz : ls.size = nL) (hre : (rest.map fun v => v.category).sum ≤ 8) (hfr : rm.frames + 1 ≤ R.frames) (hlo : 8 + (4 + 11) + rm.locals ≤ R.locals) (hcs : rm.cells = 0 ∧ rm.slots = 0 ∧ cells ≤ R.cells ∧ slots ≤ R.slots) (hdg : decode cc pc = .ok (.invokevirtual 49, 3)) (kk : ∀ (H1 : Heap) (locs1 : List Loc), va_P x.1 vwCl (wld x out) H1 → va_S (A0 x) s.heap H1 locs1 → W p l e R s m args below meth c H1 locs1 cells slots Q (F0 m (pc + 3) ls (rest))) : W p l e R s m args below meth c H locs cells slots Q (F0 m pc ls (.int a3 :: .int a2 :: .ref (x.2.1 j1) :: .ref (x.2.1 11) :: rest)) :=
  m_cv (va_runV (As := [.ref (x.2.1 j1), .int a2, .int a3]) (rest := rest) ⟨hx, hb, hml, hown, hts.1⟩ hM (⟨callB_of 3 hts.1 (tb_good q_171) rfl hcs.1 hcs.2.1 (hts.1 _ q_173) (hts.1 _ q_172) ⟨by decide, by decide, by decide +kernel⟩ ⟨hfr, hlo⟩, hts.1 _ q_174, hts.1 _ q_175⟩) ⟨blind, va_recv hK hP (ci := 7) rfl (wld_at (by decide) rfl), m_pre hts hK hZ hP hS⟩ rfl rfl hsz rfl (lv_room hre) hdg ⟨hcs.2.2.1, hcs.2.2.2⟩) hS kk
theorem cl_SH_45 {p : Program} {l : Launch} {e : Env} {R : Room} {s : State} {m : MethodId} {args : Array Value} {below : List Frame} {meth : Method} {c : Code} {H : Heap} {locs : List Loc} {cells slots : Nat} {Q : State → Prop} {cc : ByteArray} {pc : Nat} {ls : Array Slot} {rest : List Value} {x : Cx} {M : Mem} {j1 : Nat} {a2 : Int32} {a3 : Int32} {nL : Nat} {rm : Room} {out : Mem} (hM : Cv l x y_SH_makePart (Cond.code y_SH_makePart b_SH_makePart 4 none :: tb) rm [.ref (x.2.1 11), .ref (x.2.1 j1), .int a2, .int a3] M out) (hx : p.tables.exec = Jvm.exec) (hb : c.code = cc) (hml : c.maxLocals = nL) (hts : Tb args s) (hown : s.vm.findClass R_SH = some m.cls) (hK : va_K x.1 vwCl (tysx x) s) (hZ : Stc x s s.heap) (hP : va_P x.1 vwCl (wld x M) H) (hS : va_S (A0 x) s.heap H locs) (hsz : ls.size = nL) (hre : (rest.map fun v => v.category).sum ≤ 8) (hfr : rm.frames + 1 ≤ R.frames) (hlo : 8 + (4 + 11) + rm.locals ≤ R.locals) (hcs : rm.cells = 0 ∧ rm.slots = 0 ∧ cells ≤ R.cells ∧ slots ≤ R.slots) (hdg : decode cc pc = .ok (.invokevirtual 45, 3)) (kk : ∀ (H1 : Heap) (locs1 : List Loc), va_P x.1 vwCl (wld x out) H1 → va_S (A0 x) s.heap H1 locs1 → W p l e R s m args below meth c H1 locs1 cells slots Q (F0 m (pc + 3) ls (rest))) : W p l e R s m args below meth c H locs cells slots Q (F0 m pc ls (.int a3 :: .int a2 :: .ref (x.2.1 j1) :: .ref (x.2.1 11) :: rest)) :=
  m_cv (va_runV (As := [.ref (x.2.1 j1), .int a2, .int a3]) (rest := rest) ⟨hx, hb, hml, hown, hts.1⟩ hM (⟨callB_of 3 hts.1 (tb_good q_176) rfl hcs.1 hcs.2.1 (hts.1 _ q_173) (hts.1 _ q_177) ⟨by decide, by decide, by decide +kernel⟩ ⟨hfr, hlo⟩, hts.1 _ q_178, hts.1 _ q_179⟩) ⟨blind, va_recv hK hP (ci := 7) rfl (wld_at (by decide) rfl), m_pre hts hK hZ hP hS⟩ rfl rfl hsz rfl (lv_room hre) hdg ⟨hcs.2.2.1, hcs.2.2.2⟩) hS kk
theorem cl_SH_38 {p : Program} {l : Launch} {e : Env} {R : Room} {s : State} {m : MethodId} {args : Array Value} {below : List Frame} {meth : Method} {c : Code} {H : Heap} {locs : List Loc} {cells slots : Nat} {Q : State → Prop} {cc : ByteArray} {pc : Nat} {ls : Array Slot} {rest : List Value} {x : Cx} {M : Mem} {j1 : Nat} {a3 : Int32} {a4 : Int32} {nL : Nat} {rm : Room} {out : Int32 × Mem} (hM : Ci l x y_SH_keepFirst (Cond.code y_SH_keepFirst b_SH_keepFirst 9 (some .boolean) :: tb) rm [.ref (x.2.1 11), .ref (x.2.1 j1), .ref (x.2.1 1), .int a3, .int a4] M out) (hx : p.tables.exec = Jvm.exec) (hb : c.code = cc) (hml : c.maxLocals = nL) (hts : Tb args s) (hown : s.vm.findClass R_SH = some m.cls) (hK : va_K x.1 vwCl (tysx x) s) (hZ : Stc x s s.heap) (hP : va_P x.1 vwCl (wld x M) H) (hS : va_S (A0 x) s.heap H locs) (hsz : ls.size = nL) (hre : (rest.map fun v => v.category).sum ≤ 8) (hfr : rm.frames + 1 ≤ R.frames) (hlo : 8 + (9 + 11) + rm.locals ≤ R.locals) (hcs : rm.cells = 0 ∧ rm.slots = 0 ∧ cells ≤ R.cells ∧ slots ≤ R.slots) (hdg : decode cc pc = .ok (.invokevirtual 38, 3)) (kk : ∀ (H1 : Heap) (locs1 : List Loc), va_P x.1 vwCl (wld x out.2) H1 → va_S (A0 x) s.heap H1 locs1 → W p l e R s m args below meth c H1 locs1 cells slots Q (F0 m (pc + 3) ls (.int out.1 :: rest))) : W p l e R s m args below meth c H locs cells slots Q (F0 m pc ls (.int a4 :: .int a3 :: .ref (x.2.1 1) :: .ref (x.2.1 j1) :: .ref (x.2.1 11) :: rest)) :=
  m_ci (va_runV (As := [.ref (x.2.1 j1), .ref (x.2.1 1), .int a3, .int a4]) (rest := rest) ⟨hx, hb, hml, hown, hts.1⟩ hM (⟨callB_of 4 hts.1 (tb_good q_180) rfl hcs.1 hcs.2.1 (hts.1 _ q_173) (hts.1 _ q_181) ⟨by decide, by decide, by decide +kernel⟩ ⟨hfr, hlo⟩, hts.1 _ q_182, hts.1 _ q_183⟩) ⟨blind, va_recv hK hP (ci := 7) rfl (wld_at (by decide) rfl), m_pre hts hK hZ hP hS⟩ rfl rfl hsz rfl (lv_room hre) hdg ⟨hcs.2.2.1, hcs.2.2.2⟩) hS kk
theorem gf_TR_41 {p : Program} {l : Launch} {e : Env} {R : Room} {s : State} {m : MethodId} {args : Array Value} {below : List Frame} {meth : Method} {c : Code} {H : Heap} {locs : List Loc} {cells slots : Nat} {Q : State → Prop} {cc : ByteArray} {pc : Nat} {ls : Array Slot} {rest : List Value} {x : Cx} {M : Mem} {j : Nat} (hexec : p.tables.exec = Jvm.exec) (hb : c.code = cc) (hts : Tb args s) (hown : s.vm.findClass R_TR = some m.cls) (hK : va_K x.1 vwCl (tysx x) s) (hP : va_P x.1 vwCl (wld x M) H) (k : kd_in j) (hdg : decode cc pc = .ok (.getfield 41, 3)) (kk : W p l e R s m args below meth c H locs cells slots Q (F0 m (pc + 3) ls (.int (M j 1) :: rest))) : W p l e R s m args below meth c H locs cells slots Q (F0 m pc ls (.ref (x.2.1 j) :: rest)) :=
  m_getN (ref := "EdgeCampaign$Input") (C := R_IN) (T := T_IN) (N := 2) (ci := 4) hexec hb hts in_IN hown hK hP (lt_IN k) (ly_IN k) rfl 1 (by decide) (nf_17) rfl rfl hdg kk
theorem pf_TR_48 {p : Program} {l : Launch} {e : Env} {R : Room} {s : State} {m : MethodId} {args : Array Value} {below : List Frame} {meth : Method} {c : Code} {H H0 : Heap} {locs : List Loc} {cells slots : Nat} {Q : State → Prop} {cc : ByteArray} {pc : Nat} {ls : Array Slot} {rest : List Value} {x : Cx} {M M1 : Mem} {v : Int32} (hexec : p.tables.exec = Jvm.exec) (hb : c.code = cc) (hts : Tb args s) (hown : s.vm.findClass R_TR = some m.cls) (hK : va_K x.1 vwCl (tysx x) s) (hJ : Inj x) (hP : va_P x.1 vwCl (wld x M) H) (hS : va_S (A0 x) H0 H locs) (hM : M1 = st M 13 1 v) (hdg : decode cc pc = .ok (.putfield 48, 3)) (kk : ∀ (H1 : Heap) (locs1 : List Loc), va_P x.1 vwCl (wld x M1) H1 → va_S (A0 x) H0 H1 locs1 → W p l e R s m args below meth c H1 locs1 cells slots Q (F0 m (pc + 3) ls rest)) : W p l e R s m args below meth c H locs cells slots Q (F0 m pc ls (.int v :: .ref (x.2.1 13) :: rest)) :=
  m_put (ref := "EdgeCampaign$Trials") (C := R_TR) (T := T_TR) (N := 3) (ci := 9) hexec hb hts in_TR t_TR ty_TR nm_TR hown hK hJ hP hS (by decide) rfl rfl 1 (by decide) q_186 rfl rfl (by decide +kernel) (Nat.le_of_ble_eq_true rfl) rfl hM hdg kk
theorem gf_TR_87 {p : Program} {l : Launch} {e : Env} {R : Room} {s : State} {m : MethodId} {args : Array Value} {below : List Frame} {meth : Method} {c : Code} {H : Heap} {locs : List Loc} {cells slots : Nat} {Q : State → Prop} {cc : ByteArray} {pc : Nat} {ls : Array Slot} {rest : List Value} {x : Cx} {M : Mem} {j : Nat} (hexec : p.tables.exec = Jvm.exec) (hb : c.code = cc) (hts : Tb args s) (hown : s.vm.findClass R_TR = some m.cls) (hK : va_K x.1 vwCl (tysx x) s) (hP : va_P x.1 vwCl (wld x M) H) (k : kd_en j) (hdg : decode cc pc = .ok (.getfield 87, 3)) (kk : W p l e R s m args below meth c H locs cells slots Q (F0 m (pc + 3) ls (.int (M j 2) :: rest))) : W p l e R s m args below meth c H locs cells slots Q (F0 m pc ls (.ref (x.2.1 j) :: rest)) :=
  m_getN (ref := "EdgeCampaign$Entry") (C := R_EN) (T := T_EN) (N := 4) (ci := 0) hexec hb hts in_EN hown hK hP (lt_EN k) (ly_EN k) rfl 2 (by decide) (nf_18) rfl rfl hdg kk
theorem cl_TR_96 {p : Program} {l : Launch} {e : Env} {R : Room} {s : State} {m : MethodId} {args : Array Value} {below : List Frame} {meth : Method} {c : Code} {H : Heap} {locs : List Loc} {cells slots : Nat} {Q : State → Prop} {cc : ByteArray} {pc : Nat} {ls : Array Slot} {rest : List Value} {x : Cx} {M : Mem} {a1 : Int32} {nL : Nat} {rm : Room} {out : Int32 × Mem} (hM : Ci l x y_ST_isFavoured (Cond.code y_ST_isFavoured b_ST_isFavoured 2 (some .boolean) :: tb) rm [.ref (x.2.1 5), .int a1] M out) (hx : p.tables.exec = Jvm.exec) (hb : c.code = cc) (hml : c.maxLocals = nL) (hts : Tb args s) (hown : s.vm.findClass R_TR = some m.cls) (hK : va_K x.1 vwCl (tysx x) s) (hZ : Stc x s s.heap) (hP : va_P x.1 vwCl (wld x M) H) (hS : va_S (A0 x) s.heap H locs) (hsz : ls.size = nL) (hre : (rest.map fun v => v.category).sum ≤ 8) (hfr : rm.frames + 1 ≤ R.frames) (hlo : 8 + (2 + 11) + rm.locals ≤ R.locals) (hcs : rm.cells = 0 ∧ rm.slots = 0 ∧ cells ≤ R.cells ∧ slots ≤ R.slots) (hdg : decode cc pc = .ok (.invokevirtual 96, 3)) (kk : ∀ (H1 : Heap) (locs1 : List Loc), va_P x.1 vwCl (wld x out.2) H1 → va_S (A0 x) s.heap H1 locs1 → W p l e R s m args below meth c H1 locs1 cells slots Q (F0 m (pc + 3) ls (.int out.1 :: rest))) : W p l e R s m args below meth c H locs cells slots Q (F0 m pc ls (.int a1 :: .ref (x.2.1 5) :: rest)) :=
  m_ci (va_runV (As := [.int a1]) (rest := rest) ⟨hx, hb, hml, hown, hts.1⟩ hM (⟨callB_of 1 hts.1 (tb_good q_188) rfl hcs.1 hcs.2.1 (hts.1 _ q_117) (hts.1 _ q_189) ⟨by decide, by decide, by decide +kernel⟩ ⟨hfr, hlo⟩, hts.1 _ q_190, hts.1 _ q_191⟩) ⟨blind, va_recv hK hP (ci := 8) rfl (wld_at (by decide) rfl), m_pre hts hK hZ hP hS⟩ rfl rfl hsz rfl (lv_room hre) hdg ⟨hcs.2.2.1, hcs.2.2.2⟩) hS kk
theorem pf_TR_68 {p : Program} {l : Launch} {e : Env} {R : Room} {s : State} {m : MethodId} {args : Array Value} {below : List Frame} {meth : Method} {c : Code} {H H0 : Heap} {locs : List Loc} {cells slots : Nat} {Q : State → Prop} {cc : ByteArray} {pc : Nat} {ls : Array Slot} {rest : List Value} {x : Cx} {M M1 : Mem} {v : Int32} (hexec : p.tables.exec = Jvm.exec) (hb : c.code = cc) (hts : Tb args s) (hown : s.vm.findClass R_TR = some m.cls) (hK : va_K x.1 vwCl (tysx x) s) (hJ : Inj x) (hP : va_P x.1 vwCl (wld x M) H) (hS : va_S (A0 x) H0 H locs) (hM : M1 = st M 13 2 v) (hdg : decode cc pc = .ok (.putfield 68, 3)) (kk : ∀ (H1 : Heap) (locs1 : List Loc), va_P x.1 vwCl (wld x M1) H1 → va_S (A0 x) H0 H1 locs1 → W p l e R s m args below meth c H1 locs1 cells slots Q (F0 m (pc + 3) ls rest)) : W p l e R s m args below meth c H locs cells slots Q (F0 m pc ls (.int v :: .ref (x.2.1 13) :: rest)) :=
  m_put (ref := "EdgeCampaign$Trials") (C := R_TR) (T := T_TR) (N := 3) (ci := 9) hexec hb hts in_TR t_TR ty_TR nm_TR hown hK hJ hP hS (by decide) rfl rfl 2 (by decide) q_192 rfl rfl (by decide +kernel) (Nat.le_of_ble_eq_true rfl) rfl hM hdg kk
theorem gf_TR_25 {p : Program} {l : Launch} {e : Env} {R : Room} {s : State} {m : MethodId} {args : Array Value} {below : List Frame} {meth : Method} {c : Code} {H : Heap} {locs : List Loc} {cells slots : Nat} {Q : State → Prop} {cc : ByteArray} {pc : Nat} {ls : Array Slot} {rest : List Value} {x : Cx} {M : Mem} (hexec : p.tables.exec = Jvm.exec) (hb : c.code = cc) (hts : Tb args s) (hown : s.vm.findClass R_TR = some m.cls) (hK : va_K x.1 vwCl (tysx x) s) (hP : va_P x.1 vwCl (wld x M) H) (hdg : decode cc pc = .ok (.getfield 25, 3)) (kk : W p l e R s m args below meth c H locs cells slots Q (F0 m (pc + 3) ls (.ref (x.2.1 6) :: rest))) : W p l e R s m args below meth c H locs cells slots Q (F0 m pc ls (.ref (x.2.1 5) :: rest)) :=
  m_getN (ref := "EdgeCampaign$Store") (C := R_ST) (T := T_ST) (N := 7) (ci := 8) hexec hb hts in_ST hown hK hP (by decide) rfl rfl 0 (by decide) (nf_19) rfl rfl hdg kk
theorem pf_TR_9 {p : Program} {l : Launch} {e : Env} {R : Room} {s : State} {m : MethodId} {args : Array Value} {below : List Frame} {meth : Method} {c : Code} {H H0 : Heap} {locs : List Loc} {cells slots : Nat} {Q : State → Prop} {cc : ByteArray} {pc : Nat} {ls : Array Slot} {rest : List Value} {x : Cx} {M M1 : Mem} {v : Int32} (hexec : p.tables.exec = Jvm.exec) (hb : c.code = cc) (hts : Tb args s) (hown : s.vm.findClass R_TR = some m.cls) (hK : va_K x.1 vwCl (tysx x) s) (hJ : Inj x) (hP : va_P x.1 vwCl (wld x M) H) (hS : va_S (A0 x) H0 H locs) (hM : M1 = st M 13 0 v) (hdg : decode cc pc = .ok (.putfield 9, 3)) (kk : ∀ (H1 : Heap) (locs1 : List Loc), va_P x.1 vwCl (wld x M1) H1 → va_S (A0 x) H0 H1 locs1 → W p l e R s m args below meth c H1 locs1 cells slots Q (F0 m (pc + 3) ls rest)) : W p l e R s m args below meth c H locs cells slots Q (F0 m pc ls (.int v :: .ref (x.2.1 13) :: rest)) :=
  m_put (ref := "EdgeCampaign$Trials") (C := R_TR) (T := T_TR) (N := 3) (ci := 9) hexec hb hts in_TR t_TR ty_TR nm_TR hown hK hJ hP hS (by decide) rfl rfl 0 (by decide) q_193 rfl rfl (by decide +kernel) (Nat.le_of_ble_eq_true rfl) rfl hM hdg kk
theorem gf_TR_80 {p : Program} {l : Launch} {e : Env} {R : Room} {s : State} {m : MethodId} {args : Array Value} {below : List Frame} {meth : Method} {c : Code} {H : Heap} {locs : List Loc} {cells slots : Nat} {Q : State → Prop} {cc : ByteArray} {pc : Nat} {ls : Array Slot} {rest : List Value} {x : Cx} {M : Mem} {j : Nat} (hexec : p.tables.exec = Jvm.exec) (hb : c.code = cc) (hts : Tb args s) (hown : s.vm.findClass R_TR = some m.cls) (hK : va_K x.1 vwCl (tysx x) s) (hP : va_P x.1 vwCl (wld x M) H) (k : kd_en j) (hdg : decode cc pc = .ok (.getfield 80, 3)) (kk : W p l e R s m args below meth c H locs cells slots Q (F0 m (pc + 3) ls (.int (M j 3) :: rest))) : W p l e R s m args below meth c H locs cells slots Q (F0 m pc ls (.ref (x.2.1 j) :: rest)) :=
  m_getN (ref := "EdgeCampaign$Entry") (C := R_EN) (T := T_EN) (N := 4) (ci := 0) hexec hb hts in_EN hown hK hP (lt_EN k) (ly_EN k) rfl 3 (by decide) (nf_20) rfl rfl hdg kk
theorem gf_TR_29 {p : Program} {l : Launch} {e : Env} {R : Room} {s : State} {m : MethodId} {args : Array Value} {below : List Frame} {meth : Method} {c : Code} {H : Heap} {locs : List Loc} {cells slots : Nat} {Q : State → Prop} {cc : ByteArray} {pc : Nat} {ls : Array Slot} {rest : List Value} {x : Cx} {M : Mem} {j : Nat} (hexec : p.tables.exec = Jvm.exec) (hb : c.code = cc) (hts : Tb args s) (hown : s.vm.findClass R_TR = some m.cls) (hK : va_K x.1 vwCl (tysx x) s) (hP : va_P x.1 vwCl (wld x M) H) (k : kd_en j) (hdg : decode cc pc = .ok (.getfield 29, 3)) (kk : W p l e R s m args below meth c H locs cells slots Q (F0 m (pc + 3) ls (.ref (x.2.1 (2 * j - 186)) :: rest))) : W p l e R s m args below meth c H locs cells slots Q (F0 m pc ls (.ref (x.2.1 j) :: rest)) :=
  m_getN (ref := "EdgeCampaign$Entry") (C := R_EN) (T := T_EN) (N := 4) (ci := 0) hexec hb hts in_EN hown hK hP (lt_EN k) (ly_EN k) rfl 0 (by decide) (nf_21) rfl rfl hdg kk
theorem cl_TR_44 {p : Program} {l : Launch} {e : Env} {R : Room} {s : State} {m : MethodId} {args : Array Value} {below : List Frame} {meth : Method} {c : Code} {H : Heap} {locs : List Loc} {cells slots : Nat} {Q : State → Prop} {cc : ByteArray} {pc : Nat} {ls : Array Slot} {rest : List Value} {x : Cx} {M : Mem} {j1 : Nat} {nL : Nat} {rm : Room} {out : Int32 × Mem} (hM : Ci l x y_TR_firstDrawing (Cond.code y_TR_firstDrawing b_TR_firstDrawing 1 (some .int) :: tb) rm [.ref (x.2.1 j1)] M out) (hx : p.tables.exec = Jvm.exec) (hb : c.code = cc) (hml : c.maxLocals = nL) (hts : Tb args s) (hown : s.vm.findClass R_TR = some m.cls) (hK : va_K x.1 vwCl (tysx x) s) (hZ : Stc x s s.heap) (hP : va_P x.1 vwCl (wld x M) H) (hS : va_S (A0 x) s.heap H locs) (hsz : ls.size = nL) (hre : (rest.map fun v => v.category).sum ≤ 8) (hfr : rm.frames + 1 ≤ R.frames) (hlo : 8 + (1 + 11) + rm.locals ≤ R.locals) (hcs : rm.cells = 0 ∧ rm.slots = 0 ∧ cells ≤ R.cells ∧ slots ≤ R.slots) (hdg : decode cc pc = .ok (.invokestatic 44, 3)) (kk : ∀ (H1 : Heap) (locs1 : List Loc), va_P x.1 vwCl (wld x out.2) H1 → va_S (A0 x) s.heap H1 locs1 → W p l e R s m args below meth c H1 locs1 cells slots Q (F0 m (pc + 3) ls (.int out.1 :: rest))) : W p l e R s m args below meth c H locs cells slots Q (F0 m pc ls (.ref (x.2.1 j1) :: rest)) :=
  m_ci (va_runS (As := [.ref (x.2.1 j1)]) (rest := rest) ⟨hx, hb, hml, hown, hts.1⟩ hM (⟨callB_of 1 hts.1 (tb_good q_194) rfl hcs.1 hcs.2.1 (hts.1 _ q_196) (hts.1 _ q_195) ⟨by decide, by decide, by decide +kernel⟩ ⟨hfr, hlo⟩, hts.1 _ q_197⟩) ⟨blind, m_pre hts hK hZ hP hS⟩ rfl rfl hsz rfl (lv_room hre) hdg ⟨hcs.2.2.1, hcs.2.2.2⟩) hS kk
theorem gf_TR_9 {p : Program} {l : Launch} {e : Env} {R : Room} {s : State} {m : MethodId} {args : Array Value} {below : List Frame} {meth : Method} {c : Code} {H : Heap} {locs : List Loc} {cells slots : Nat} {Q : State → Prop} {cc : ByteArray} {pc : Nat} {ls : Array Slot} {rest : List Value} {x : Cx} {M : Mem} (hexec : p.tables.exec = Jvm.exec) (hb : c.code = cc) (hts : Tb args s) (hown : s.vm.findClass R_TR = some m.cls) (hK : va_K x.1 vwCl (tysx x) s) (hP : va_P x.1 vwCl (wld x M) H) (hdg : decode cc pc = .ok (.getfield 9, 3)) (kk : W p l e R s m args below meth c H locs cells slots Q (F0 m (pc + 3) ls (.int (M 13 0) :: rest))) : W p l e R s m args below meth c H locs cells slots Q (F0 m pc ls (.ref (x.2.1 13) :: rest)) :=
  m_get (ref := "EdgeCampaign$Trials") (C := R_TR) (T := T_TR) (N := 3) (ci := 9) hexec hb hts in_TR hown hK hP (by decide) rfl rfl 0 (by decide) q_193 rfl rfl hdg kk
theorem cl_TR_15 {p : Program} {l : Launch} {e : Env} {R : Room} {s : State} {m : MethodId} {args : Array Value} {below : List Frame} {meth : Method} {c : Code} {H : Heap} {locs : List Loc} {cells slots : Nat} {Q : State → Prop} {cc : ByteArray} {pc : Nat} {ls : Array Slot} {rest : List Value} {x : Cx} {M : Mem} {a1 : Int32} {nL : Nat} {rm : Room} {out : Int32 × Mem} (hM : Ci l x y_ST_has (Cond.code y_ST_has b_ST_has 2 (some .boolean) :: tb) rm [.ref (x.2.1 5), .int a1] M out) (hx : p.tables.exec = Jvm.exec) (hb : c.code = cc) (hml : c.maxLocals = nL) (hts : Tb args s) (hown : s.vm.findClass R_TR = some m.cls) (hK : va_K x.1 vwCl (tysx x) s) (hZ : Stc x s s.heap) (hP : va_P x.1 vwCl (wld x M) H) (hS : va_S (A0 x) s.heap H locs) (hsz : ls.size = nL) (hre : (rest.map fun v => v.category).sum ≤ 8) (hfr : rm.frames + 1 ≤ R.frames) (hlo : 8 + (2 + 11) + rm.locals ≤ R.locals) (hcs : rm.cells = 0 ∧ rm.slots = 0 ∧ cells ≤ R.cells ∧ slots ≤ R.slots) (hdg : decode cc pc = .ok (.invokevirtual 15, 3)) (kk : ∀ (H1 : Heap) (locs1 : List Loc), va_P x.1 vwCl (wld x out.2) H1 → va_S (A0 x) s.heap H1 locs1 → W p l e R s m args below meth c H1 locs1 cells slots Q (F0 m (pc + 3) ls (.int out.1 :: rest))) : W p l e R s m args below meth c H locs cells slots Q (F0 m pc ls (.int a1 :: .ref (x.2.1 5) :: rest)) :=
  m_ci (va_runV (As := [.int a1]) (rest := rest) ⟨hx, hb, hml, hown, hts.1⟩ hM (⟨callB_of 1 hts.1 (tb_good q_198) rfl hcs.1 hcs.2.1 (hts.1 _ q_117) (hts.1 _ q_199) ⟨by decide, by decide, by decide +kernel⟩ ⟨hfr, hlo⟩, hts.1 _ q_200, hts.1 _ q_201⟩) ⟨blind, va_recv hK hP (ci := 8) rfl (wld_at (by decide) rfl), m_pre hts hK hZ hP hS⟩ rfl rfl hsz rfl (lv_room hre) hdg ⟨hcs.2.2.1, hcs.2.2.2⟩) hS kk
theorem cl_TR_21 {p : Program} {l : Launch} {e : Env} {R : Room} {s : State} {m : MethodId} {args : Array Value} {below : List Frame} {meth : Method} {c : Code} {H : Heap} {locs : List Loc} {cells slots : Nat} {Q : State → Prop} {cc : ByteArray} {pc : Nat} {ls : Array Slot} {rest : List Value} {x : Cx} {M : Mem} {a2 : Int32} {nL : Nat} {rm : Room} {out : Mem} (hM : Cv l x y_TR_takeUp (Cond.code y_TR_takeUp b_TR_takeUp 4 none :: tb) rm [.ref (x.2.1 13), .ref (x.2.1 5), .int a2] M out) (hx : p.tables.exec = Jvm.exec) (hb : c.code = cc) (hml : c.maxLocals = nL) (hts : Tb args s) (hown : s.vm.findClass R_TR = some m.cls) (hK : va_K x.1 vwCl (tysx x) s) (hZ : Stc x s s.heap) (hP : va_P x.1 vwCl (wld x M) H) (hS : va_S (A0 x) s.heap H locs) (hsz : ls.size = nL) (hre : (rest.map fun v => v.category).sum ≤ 8) (hfr : rm.frames + 1 ≤ R.frames) (hlo : 8 + (4 + 11) + rm.locals ≤ R.locals) (hcs : rm.cells = 0 ∧ rm.slots = 0 ∧ cells ≤ R.cells ∧ slots ≤ R.slots) (hdg : decode cc pc = .ok (.invokevirtual 21, 3)) (kk : ∀ (H1 : Heap) (locs1 : List Loc), va_P x.1 vwCl (wld x out) H1 → va_S (A0 x) s.heap H1 locs1 → W p l e R s m args below meth c H1 locs1 cells slots Q (F0 m (pc + 3) ls (rest))) : W p l e R s m args below meth c H locs cells slots Q (F0 m pc ls (.int a2 :: .ref (x.2.1 5) :: .ref (x.2.1 13) :: rest)) :=
  m_cv (va_runV (As := [.ref (x.2.1 5), .int a2]) (rest := rest) ⟨hx, hb, hml, hown, hts.1⟩ hM (⟨callB_of 2 hts.1 (tb_good q_202) rfl hcs.1 hcs.2.1 (hts.1 _ q_196) (hts.1 _ q_203) ⟨by decide, by decide, by decide +kernel⟩ ⟨hfr, hlo⟩, hts.1 _ q_204, hts.1 _ q_205⟩) ⟨blind, va_recv hK hP (ci := 9) rfl (wld_at (by decide) rfl), m_pre hts hK hZ hP hS⟩ rfl rfl hsz rfl (lv_room hre) hdg ⟨hcs.2.2.1, hcs.2.2.2⟩) hS kk
theorem gf_EC_66 {p : Program} {l : Launch} {e : Env} {R : Room} {s : State} {m : MethodId} {args : Array Value} {below : List Frame} {meth : Method} {c : Code} {H : Heap} {locs : List Loc} {cells slots : Nat} {Q : State → Prop} {cc : ByteArray} {pc : Nat} {ls : Array Slot} {rest : List Value} {x : Cx} {M : Mem} (hexec : p.tables.exec = Jvm.exec) (hb : c.code = cc) (hts : Tb args s) (hown : s.vm.findClass R_EC = some m.cls) (hK : va_K x.1 vwCl (tysx x) s) (hP : va_P x.1 vwCl (wld x M) H) (hdg : decode cc pc = .ok (.getfield 66, 3)) (kk : W p l e R s m args below meth c H locs cells slots Q (F0 m (pc + 3) ls (.ref (x.2.1 13) :: rest))) : W p l e R s m args below meth c H locs cells slots Q (F0 m pc ls (.ref (x.2.1 0) :: rest)) :=
  m_get (ref := "EdgeCampaign") (C := R_EC) (T := T_EC) (N := 12) (ci := 10) hexec hb hts in_EC hown hK hP (by decide) rfl rfl 8 (by decide) q_206 rfl rfl hdg kk
theorem gf_EC_36 {p : Program} {l : Launch} {e : Env} {R : Room} {s : State} {m : MethodId} {args : Array Value} {below : List Frame} {meth : Method} {c : Code} {H : Heap} {locs : List Loc} {cells slots : Nat} {Q : State → Prop} {cc : ByteArray} {pc : Nat} {ls : Array Slot} {rest : List Value} {x : Cx} {M : Mem} (hexec : p.tables.exec = Jvm.exec) (hb : c.code = cc) (hts : Tb args s) (hown : s.vm.findClass R_EC = some m.cls) (hK : va_K x.1 vwCl (tysx x) s) (hP : va_P x.1 vwCl (wld x M) H) (hdg : decode cc pc = .ok (.getfield 36, 3)) (kk : W p l e R s m args below meth c H locs cells slots Q (F0 m (pc + 3) ls (.ref (x.2.1 5) :: rest))) : W p l e R s m args below meth c H locs cells slots Q (F0 m pc ls (.ref (x.2.1 0) :: rest)) :=
  m_get (ref := "EdgeCampaign") (C := R_EC) (T := T_EC) (N := 12) (ci := 10) hexec hb hts in_EC hown hK hP (by decide) rfl rfl 4 (by decide) q_207 rfl rfl hdg kk
theorem cl_EC_216 {p : Program} {l : Launch} {e : Env} {R : Room} {s : State} {m : MethodId} {args : Array Value} {below : List Frame} {meth : Method} {c : Code} {H : Heap} {locs : List Loc} {cells slots : Nat} {Q : State → Prop} {cc : ByteArray} {pc : Nat} {ls : Array Slot} {rest : List Value} {x : Cx} {M : Mem}  {nL : Nat} {rm : Room} {out : Mem} (hM : Cv l x y_TR_beginWithFirst (Cond.code y_TR_beginWithFirst b_TR_beginWithFirst 2 none :: tb) rm [.ref (x.2.1 13), .ref (x.2.1 5)] M out) (hx : p.tables.exec = Jvm.exec) (hb : c.code = cc) (hml : c.maxLocals = nL) (hts : Tb args s) (hown : s.vm.findClass R_EC = some m.cls) (hK : va_K x.1 vwCl (tysx x) s) (hZ : Stc x s s.heap) (hP : va_P x.1 vwCl (wld x M) H) (hS : va_S (A0 x) s.heap H locs) (hsz : ls.size = nL) (hre : (rest.map fun v => v.category).sum ≤ 8) (hfr : rm.frames + 1 ≤ R.frames) (hlo : 8 + (2 + 11) + rm.locals ≤ R.locals) (hcs : rm.cells = 0 ∧ rm.slots = 0 ∧ cells ≤ R.cells ∧ slots ≤ R.slots) (hdg : decode cc pc = .ok (.invokevirtual 216, 3)) (kk : ∀ (H1 : Heap) (locs1 : List Loc), va_P x.1 vwCl (wld x out) H1 → va_S (A0 x) s.heap H1 locs1 → W p l e R s m args below meth c H1 locs1 cells slots Q (F0 m (pc + 3) ls (rest))) : W p l e R s m args below meth c H locs cells slots Q (F0 m pc ls (.ref (x.2.1 5) :: .ref (x.2.1 13) :: rest)) :=
  m_cv (va_runV (As := [.ref (x.2.1 5)]) (rest := rest) ⟨hx, hb, hml, hown, hts.1⟩ hM (⟨callB_of 1 hts.1 (tb_good q_208) rfl hcs.1 hcs.2.1 (hts.1 _ q_196) (hts.1 _ q_209) ⟨by decide, by decide, by decide +kernel⟩ ⟨hfr, hlo⟩, hts.1 _ q_210, hts.1 _ q_211⟩) ⟨blind, va_recv hK hP (ci := 9) rfl (wld_at (by decide) rfl), m_pre hts hK hZ hP hS⟩ rfl rfl hsz rfl (lv_room hre) hdg ⟨hcs.2.2.1, hcs.2.2.2⟩) hS kk
theorem gf_EC_29 {p : Program} {l : Launch} {e : Env} {R : Room} {s : State} {m : MethodId} {args : Array Value} {below : List Frame} {meth : Method} {c : Code} {H : Heap} {locs : List Loc} {cells slots : Nat} {Q : State → Prop} {cc : ByteArray} {pc : Nat} {ls : Array Slot} {rest : List Value} {x : Cx} {M : Mem} (hexec : p.tables.exec = Jvm.exec) (hb : c.code = cc) (hts : Tb args s) (hown : s.vm.findClass R_EC = some m.cls) (hK : va_K x.1 vwCl (tysx x) s) (hP : va_P x.1 vwCl (wld x M) H) (hdg : decode cc pc = .ok (.getfield 29, 3)) (kk : W p l e R s m args below meth c H locs cells slots Q (F0 m (pc + 3) ls (.ref (x.2.1 14) :: rest))) : W p l e R s m args below meth c H locs cells slots Q (F0 m pc ls (.ref (x.2.1 0) :: rest)) :=
  m_get (ref := "EdgeCampaign") (C := R_EC) (T := T_EC) (N := 12) (ci := 10) hexec hb hts in_EC hown hK hP (by decide) rfl rfl 3 (by decide) q_212 rfl rfl hdg kk
theorem gf_EC_190 {p : Program} {l : Launch} {e : Env} {R : Room} {s : State} {m : MethodId} {args : Array Value} {below : List Frame} {meth : Method} {c : Code} {H : Heap} {locs : List Loc} {cells slots : Nat} {Q : State → Prop} {cc : ByteArray} {pc : Nat} {ls : Array Slot} {rest : List Value} {x : Cx} {M : Mem} {j : Nat} (hexec : p.tables.exec = Jvm.exec) (hb : c.code = cc) (hts : Tb args s) (hown : s.vm.findClass R_EC = some m.cls) (hK : va_K x.1 vwCl (tysx x) s) (hP : va_P x.1 vwCl (wld x M) H) (k : kd_run j) (hdg : decode cc pc = .ok (.getfield 190, 3)) (kk : W p l e R s m args below meth c H locs cells slots Q (F0 m (pc + 3) ls (.int (M j 10) :: rest))) : W p l e R s m args below meth c H locs cells slots Q (F0 m pc ls (.ref (x.2.1 j) :: rest)) :=
  m_getN (ref := "EdgeCampaign$Run") (C := R_RU) (T := T_RU) (N := 11) (ci := 6) hexec hb hts in_RU hown hK hP (lt_RU k) (ly_RU k) rfl 10 (by decide) (nf_22) rfl rfl hdg kk
theorem cl_EC_201 {p : Program} {l : Launch} {e : Env} {R : Room} {s : State} {m : MethodId} {args : Array Value} {below : List Frame} {meth : Method} {c : Code} {H : Heap} {locs : List Loc} {cells slots : Nat} {Q : State → Prop} {cc : ByteArray} {pc : Nat} {ls : Array Slot} {rest : List Value} {x : Cx} {M : Mem} {j : Nat} {nL : Nat} {rm : Room} {out : Int32 × Mem} (hM : Ci l x y_RU_hasTrapped (Cond.code y_RU_hasTrapped b_RU_hasTrapped 1 (some .boolean) :: tb) rm [.ref (x.2.1 j)] M out) (k : kd_run j) (hx : p.tables.exec = Jvm.exec) (hb : c.code = cc) (hml : c.maxLocals = nL) (hts : Tb args s) (hown : s.vm.findClass R_EC = some m.cls) (hK : va_K x.1 vwCl (tysx x) s) (hZ : Stc x s s.heap) (hP : va_P x.1 vwCl (wld x M) H) (hS : va_S (A0 x) s.heap H locs) (hsz : ls.size = nL) (hre : (rest.map fun v => v.category).sum ≤ 8) (hfr : rm.frames + 1 ≤ R.frames) (hlo : 8 + (1 + 11) + rm.locals ≤ R.locals) (hcs : rm.cells = 0 ∧ rm.slots = 0 ∧ cells ≤ R.cells ∧ slots ≤ R.slots) (hdg : decode cc pc = .ok (.invokevirtual 201, 3)) (kk : ∀ (H1 : Heap) (locs1 : List Loc), va_P x.1 vwCl (wld x out.2) H1 → va_S (A0 x) s.heap H1 locs1 → W p l e R s m args below meth c H1 locs1 cells slots Q (F0 m (pc + 3) ls (.int out.1 :: rest))) : W p l e R s m args below meth c H locs cells slots Q (F0 m pc ls (.ref (x.2.1 j) :: rest)) :=
  m_ci (va_runV (As := []) (rest := rest) ⟨hx, hb, hml, hown, hts.1⟩ hM (⟨callB_of 0 hts.1 (tb_good q_213) rfl hcs.1 hcs.2.1 (hts.1 _ q_52) (hts.1 _ q_214) ⟨by decide, by decide, by decide +kernel⟩ ⟨hfr, hlo⟩, hts.1 _ q_215, hts.1 _ q_216⟩) ⟨blind, va_recv hK hP (ci := 6) rfl (wld_at (lt_RU k) (ly_RU k)), m_pre hts hK hZ hP hS⟩ rfl rfl hsz rfl (lv_room hre) hdg ⟨hcs.2.2.1, hcs.2.2.2⟩) hS kk
theorem gf_EC_43 {p : Program} {l : Launch} {e : Env} {R : Room} {s : State} {m : MethodId} {args : Array Value} {below : List Frame} {meth : Method} {c : Code} {H : Heap} {locs : List Loc} {cells slots : Nat} {Q : State → Prop} {cc : ByteArray} {pc : Nat} {ls : Array Slot} {rest : List Value} {x : Cx} {M : Mem} (hexec : p.tables.exec = Jvm.exec) (hb : c.code = cc) (hts : Tb args s) (hown : s.vm.findClass R_EC = some m.cls) (hK : va_K x.1 vwCl (tysx x) s) (hP : va_P x.1 vwCl (wld x M) H) (hdg : decode cc pc = .ok (.getfield 43, 3)) (kk : W p l e R s m args below meth c H locs cells slots Q (F0 m (pc + 3) ls (.ref (x.2.1 9) :: rest))) : W p l e R s m args below meth c H locs cells slots Q (F0 m pc ls (.ref (x.2.1 0) :: rest)) :=
  m_get (ref := "EdgeCampaign") (C := R_EC) (T := T_EC) (N := 12) (ci := 10) hexec hb hts in_EC hown hK hP (by decide) rfl rfl 5 (by decide) q_217 rfl rfl hdg kk
theorem cl_EC_205 {p : Program} {l : Launch} {e : Env} {R : Room} {s : State} {m : MethodId} {args : Array Value} {below : List Frame} {meth : Method} {c : Code} {H : Heap} {locs : List Loc} {cells slots : Nat} {Q : State → Prop} {cc : ByteArray} {pc : Nat} {ls : Array Slot} {rest : List Value} {x : Cx} {M : Mem} {j1 : Nat} {nL : Nat} {rm : Room} {out : Int32 × Mem} (hM : Ci l x y_FS_countHit (Cond.code y_FS_countHit b_FS_countHit 3 (some .boolean) :: tb) rm [.ref (x.2.1 9), .ref (x.2.1 j1)] M out) (hx : p.tables.exec = Jvm.exec) (hb : c.code = cc) (hml : c.maxLocals = nL) (hts : Tb args s) (hown : s.vm.findClass R_EC = some m.cls) (hK : va_K x.1 vwCl (tysx x) s) (hZ : Stc x s s.heap) (hP : va_P x.1 vwCl (wld x M) H) (hS : va_S (A0 x) s.heap H locs) (hsz : ls.size = nL) (hre : (rest.map fun v => v.category).sum ≤ 8) (hfr : rm.frames + 1 ≤ R.frames) (hlo : 8 + (3 + 11) + rm.locals ≤ R.locals) (hcs : rm.cells = 0 ∧ rm.slots = 0 ∧ cells ≤ R.cells ∧ slots ≤ R.slots) (hdg : decode cc pc = .ok (.invokevirtual 205, 3)) (kk : ∀ (H1 : Heap) (locs1 : List Loc), va_P x.1 vwCl (wld x out.2) H1 → va_S (A0 x) s.heap H1 locs1 → W p l e R s m args below meth c H1 locs1 cells slots Q (F0 m (pc + 3) ls (.int out.1 :: rest))) : W p l e R s m args below meth c H locs cells slots Q (F0 m pc ls (.ref (x.2.1 j1) :: .ref (x.2.1 9) :: rest)) :=
  m_ci (va_runV (As := [.ref (x.2.1 j1)]) (rest := rest) ⟨hx, hb, hml, hown, hts.1⟩ hM (⟨callB_of 1 hts.1 (tb_good q_218) rfl hcs.1 hcs.2.1 (hts.1 _ q_220) (hts.1 _ q_219) ⟨by decide, by decide, by decide +kernel⟩ ⟨hfr, hlo⟩, hts.1 _ q_221, hts.1 _ q_222⟩) ⟨blind, va_recv hK hP (ci := 2) rfl (wld_at (by decide) rfl), m_pre hts hK hZ hP hS⟩ rfl rfl hsz rfl (lv_room hre) hdg ⟨hcs.2.2.1, hcs.2.2.2⟩) hS kk
theorem cl_EC_208 {p : Program} {l : Launch} {e : Env} {R : Room} {s : State} {m : MethodId} {args : Array Value} {below : List Frame} {meth : Method} {c : Code} {H : Heap} {locs : List Loc} {cells slots : Nat} {Q : State → Prop} {cc : ByteArray} {pc : Nat} {ls : Array Slot} {rest : List Value} {x : Cx} {M : Mem} {j1 : Nat} {j2 : Nat} {nL : Nat} {rm : Room} {out : Option Nat × Mem} (hM : Cq l x y_FS_begin (Cond.code y_FS_begin b_FS_begin 4 (some (.object "EdgeCampaign$Finding")) :: tb) rm [.ref (x.2.1 9), .ref (x.2.1 j1), .ref (x.2.1 j2)] M out) (hx : p.tables.exec = Jvm.exec) (hb : c.code = cc) (hml : c.maxLocals = nL) (hts : Tb args s) (hown : s.vm.findClass R_EC = some m.cls) (hK : va_K x.1 vwCl (tysx x) s) (hZ : Stc x s s.heap) (hP : va_P x.1 vwCl (wld x M) H) (hS : va_S (A0 x) s.heap H locs) (hsz : ls.size = nL) (hre : (rest.map fun v => v.category).sum ≤ 8) (hfr : rm.frames + 1 ≤ R.frames) (hlo : 8 + (4 + 11) + rm.locals ≤ R.locals) (hcs : rm.cells = 0 ∧ rm.slots = 0 ∧ cells ≤ R.cells ∧ slots ≤ R.slots) (hdg : decode cc pc = .ok (.invokevirtual 208, 3)) (kk : ∀ (H1 : Heap) (locs1 : List Loc), va_P x.1 vwCl (wld x out.2) H1 → va_S (A0 x) s.heap H1 locs1 → W p l e R s m args below meth c H1 locs1 cells slots Q (F0 m (pc + 3) ls (va_rf (out.1.map x.2.1) :: rest))) : W p l e R s m args below meth c H locs cells slots Q (F0 m pc ls (.ref (x.2.1 j2) :: .ref (x.2.1 j1) :: .ref (x.2.1 9) :: rest)) :=
  m_cq (va_runV (As := [.ref (x.2.1 j1), .ref (x.2.1 j2)]) (rest := rest) ⟨hx, hb, hml, hown, hts.1⟩ hM (⟨callB_of 2 hts.1 (tb_good q_223) rfl hcs.1 hcs.2.1 (hts.1 _ q_220) (hts.1 _ q_224) ⟨by decide, by decide, by decide +kernel⟩ ⟨hfr, hlo⟩, hts.1 _ q_225, hts.1 _ q_226⟩) ⟨blind, va_recv hK hP (ci := 2) rfl (wld_at (by decide) rfl), m_pre hts hK hZ hP hS⟩ rfl rfl hsz rfl (lv_room hre) hdg ⟨hcs.2.2.1, hcs.2.2.2⟩) hS kk
theorem gf_EC_77 {p : Program} {l : Launch} {e : Env} {R : Room} {s : State} {m : MethodId} {args : Array Value} {below : List Frame} {meth : Method} {c : Code} {H : Heap} {locs : List Loc} {cells slots : Nat} {Q : State → Prop} {cc : ByteArray} {pc : Nat} {ls : Array Slot} {rest : List Value} {x : Cx} {M : Mem} (hexec : p.tables.exec = Jvm.exec) (hb : c.code = cc) (hts : Tb args s) (hown : s.vm.findClass R_EC = some m.cls) (hK : va_K x.1 vwCl (tysx x) s) (hP : va_P x.1 vwCl (wld x M) H) (hdg : decode cc pc = .ok (.getfield 77, 3)) (kk : W p l e R s m args below meth c H locs cells slots Q (F0 m (pc + 3) ls (.int (M 0 11) :: rest))) : W p l e R s m args below meth c H locs cells slots Q (F0 m pc ls (.ref (x.2.1 0) :: rest)) :=
  m_get (ref := "EdgeCampaign") (C := R_EC) (T := T_EC) (N := 12) (ci := 10) hexec hb hts in_EC hown hK hP (by decide) rfl rfl 11 (by decide) q_227 rfl rfl hdg kk
theorem pf_EC_77 {p : Program} {l : Launch} {e : Env} {R : Room} {s : State} {m : MethodId} {args : Array Value} {below : List Frame} {meth : Method} {c : Code} {H H0 : Heap} {locs : List Loc} {cells slots : Nat} {Q : State → Prop} {cc : ByteArray} {pc : Nat} {ls : Array Slot} {rest : List Value} {x : Cx} {M M1 : Mem} {v : Int32} (hexec : p.tables.exec = Jvm.exec) (hb : c.code = cc) (hts : Tb args s) (hown : s.vm.findClass R_EC = some m.cls) (hK : va_K x.1 vwCl (tysx x) s) (hJ : Inj x) (hP : va_P x.1 vwCl (wld x M) H) (hS : va_S (A0 x) H0 H locs) (hM : M1 = st M 0 11 v) (hdg : decode cc pc = .ok (.putfield 77, 3)) (kk : ∀ (H1 : Heap) (locs1 : List Loc), va_P x.1 vwCl (wld x M1) H1 → va_S (A0 x) H0 H1 locs1 → W p l e R s m args below meth c H1 locs1 cells slots Q (F0 m (pc + 3) ls rest)) : W p l e R s m args below meth c H locs cells slots Q (F0 m pc ls (.int v :: .ref (x.2.1 0) :: rest)) :=
  m_put (ref := "EdgeCampaign") (C := R_EC) (T := T_EC) (N := 12) (ci := 10) hexec hb hts in_EC t_EC ty_EC nm_EC hown hK hJ hP hS (by decide) rfl rfl 11 (by decide) q_227 rfl rfl (by decide +kernel) (Nat.le_of_ble_eq_true rfl) rfl hM hdg kk
theorem gf_EC_50 {p : Program} {l : Launch} {e : Env} {R : Room} {s : State} {m : MethodId} {args : Array Value} {below : List Frame} {meth : Method} {c : Code} {H : Heap} {locs : List Loc} {cells slots : Nat} {Q : State → Prop} {cc : ByteArray} {pc : Nat} {ls : Array Slot} {rest : List Value} {x : Cx} {M : Mem} (hexec : p.tables.exec = Jvm.exec) (hb : c.code = cc) (hts : Tb args s) (hown : s.vm.findClass R_EC = some m.cls) (hK : va_K x.1 vwCl (tysx x) s) (hP : va_P x.1 vwCl (wld x M) H) (hdg : decode cc pc = .ok (.getfield 50, 3)) (kk : W p l e R s m args below meth c H locs cells slots Q (F0 m (pc + 3) ls (.ref (x.2.1 11) :: rest))) : W p l e R s m args below meth c H locs cells slots Q (F0 m pc ls (.ref (x.2.1 0) :: rest)) :=
  m_get (ref := "EdgeCampaign") (C := R_EC) (T := T_EC) (N := 12) (ci := 10) hexec hb hts in_EC hown hK hP (by decide) rfl rfl 6 (by decide) q_228 rfl rfl hdg kk
theorem cl_EC_212 {p : Program} {l : Launch} {e : Env} {R : Room} {s : State} {m : MethodId} {args : Array Value} {below : List Frame} {meth : Method} {c : Code} {H : Heap} {locs : List Loc} {cells slots : Nat} {Q : State → Prop} {cc : ByteArray} {pc : Nat} {ls : Array Slot} {rest : List Value} {x : Cx} {M : Mem} {j1 : Nat} {nL : Nat} {rm : Room} {out : Mem} (hM : Cv l x y_SH_shorten (Cond.code y_SH_shorten b_SH_shorten 7 none :: tb) rm [.ref (x.2.1 11), .ref (x.2.1 j1), .ref (x.2.1 1)] M out) (hx : p.tables.exec = Jvm.exec) (hb : c.code = cc) (hml : c.maxLocals = nL) (hts : Tb args s) (hown : s.vm.findClass R_EC = some m.cls) (hK : va_K x.1 vwCl (tysx x) s) (hZ : Stc x s s.heap) (hP : va_P x.1 vwCl (wld x M) H) (hS : va_S (A0 x) s.heap H locs) (hsz : ls.size = nL) (hre : (rest.map fun v => v.category).sum ≤ 8) (hfr : rm.frames + 1 ≤ R.frames) (hlo : 8 + (7 + 11) + rm.locals ≤ R.locals) (hcs : rm.cells = 0 ∧ rm.slots = 0 ∧ cells ≤ R.cells ∧ slots ≤ R.slots) (hdg : decode cc pc = .ok (.invokevirtual 212, 3)) (kk : ∀ (H1 : Heap) (locs1 : List Loc), va_P x.1 vwCl (wld x out) H1 → va_S (A0 x) s.heap H1 locs1 → W p l e R s m args below meth c H1 locs1 cells slots Q (F0 m (pc + 3) ls (rest))) : W p l e R s m args below meth c H locs cells slots Q (F0 m pc ls (.ref (x.2.1 1) :: .ref (x.2.1 j1) :: .ref (x.2.1 11) :: rest)) :=
  m_cv (va_runV (As := [.ref (x.2.1 j1), .ref (x.2.1 1)]) (rest := rest) ⟨hx, hb, hml, hown, hts.1⟩ hM (⟨callB_of 2 hts.1 (tb_good q_229) rfl hcs.1 hcs.2.1 (hts.1 _ q_173) (hts.1 _ q_230) ⟨by decide, by decide, by decide +kernel⟩ ⟨hfr, hlo⟩, hts.1 _ q_231, hts.1 _ q_232⟩) ⟨blind, va_recv hK hP (ci := 7) rfl (wld_at (by decide) rfl), m_pre hts hK hZ hP hS⟩ rfl rfl hsz rfl (lv_room hre) hdg ⟨hcs.2.2.1, hcs.2.2.2⟩) hS kk
theorem cl_EC_193 {p : Program} {l : Launch} {e : Env} {R : Room} {s : State} {m : MethodId} {args : Array Value} {below : List Frame} {meth : Method} {c : Code} {H : Heap} {locs : List Loc} {cells slots : Nat} {Q : State → Prop} {cc : ByteArray} {pc : Nat} {ls : Array Slot} {rest : List Value} {x : Cx} {M : Mem} {j1 : Nat} {nL : Nat} {rm : Room} {out : Int32 × Mem} (hM : Ci l x y_ST_hasNews (Cond.code y_ST_hasNews b_ST_hasNews 4 (some .boolean) :: tb) rm [.ref (x.2.1 5), .ref (x.2.1 j1)] M out) (hx : p.tables.exec = Jvm.exec) (hb : c.code = cc) (hml : c.maxLocals = nL) (hts : Tb args s) (hown : s.vm.findClass R_EC = some m.cls) (hK : va_K x.1 vwCl (tysx x) s) (hZ : Stc x s s.heap) (hP : va_P x.1 vwCl (wld x M) H) (hS : va_S (A0 x) s.heap H locs) (hsz : ls.size = nL) (hre : (rest.map fun v => v.category).sum ≤ 8) (hfr : rm.frames + 1 ≤ R.frames) (hlo : 8 + (4 + 11) + rm.locals ≤ R.locals) (hcs : rm.cells = 0 ∧ rm.slots = 0 ∧ cells ≤ R.cells ∧ slots ≤ R.slots) (hdg : decode cc pc = .ok (.invokevirtual 193, 3)) (kk : ∀ (H1 : Heap) (locs1 : List Loc), va_P x.1 vwCl (wld x out.2) H1 → va_S (A0 x) s.heap H1 locs1 → W p l e R s m args below meth c H1 locs1 cells slots Q (F0 m (pc + 3) ls (.int out.1 :: rest))) : W p l e R s m args below meth c H locs cells slots Q (F0 m pc ls (.ref (x.2.1 j1) :: .ref (x.2.1 5) :: rest)) :=
  m_ci (va_runV (As := [.ref (x.2.1 j1)]) (rest := rest) ⟨hx, hb, hml, hown, hts.1⟩ hM (⟨callB_of 1 hts.1 (tb_good q_233) rfl hcs.1 hcs.2.1 (hts.1 _ q_117) (hts.1 _ q_234) ⟨by decide, by decide, by decide +kernel⟩ ⟨hfr, hlo⟩, hts.1 _ q_235, hts.1 _ q_236⟩) ⟨blind, va_recv hK hP (ci := 8) rfl (wld_at (by decide) rfl), m_pre hts hK hZ hP hS⟩ rfl rfl hsz rfl (lv_room hre) hdg ⟨hcs.2.2.1, hcs.2.2.2⟩) hS kk
theorem cl_EC_197 {p : Program} {l : Launch} {e : Env} {R : Room} {s : State} {m : MethodId} {args : Array Value} {below : List Frame} {meth : Method} {c : Code} {H : Heap} {locs : List Loc} {cells slots : Nat} {Q : State → Prop} {cc : ByteArray} {pc : Nat} {ls : Array Slot} {rest : List Value} {x : Cx} {M : Mem} {j1 : Nat} {j2 : Nat} {nL : Nat} {rm : Room} {out : Int32 × Mem} (hM : Ci l x y_ST_keep (Cond.code y_ST_keep b_ST_keep 5 (some .boolean) :: tb) rm [.ref (x.2.1 5), .ref (x.2.1 j1), .ref (x.2.1 j2)] M out) (hx : p.tables.exec = Jvm.exec) (hb : c.code = cc) (hml : c.maxLocals = nL) (hts : Tb args s) (hown : s.vm.findClass R_EC = some m.cls) (hK : va_K x.1 vwCl (tysx x) s) (hZ : Stc x s s.heap) (hP : va_P x.1 vwCl (wld x M) H) (hS : va_S (A0 x) s.heap H locs) (hsz : ls.size = nL) (hre : (rest.map fun v => v.category).sum ≤ 8) (hfr : rm.frames + 1 ≤ R.frames) (hlo : 8 + (5 + 11) + rm.locals ≤ R.locals) (hcs : rm.cells = 0 ∧ rm.slots = 0 ∧ cells ≤ R.cells ∧ slots ≤ R.slots) (hdg : decode cc pc = .ok (.invokevirtual 197, 3)) (kk : ∀ (H1 : Heap) (locs1 : List Loc), va_P x.1 vwCl (wld x out.2) H1 → va_S (A0 x) s.heap H1 locs1 → W p l e R s m args below meth c H1 locs1 cells slots Q (F0 m (pc + 3) ls (.int out.1 :: rest))) : W p l e R s m args below meth c H locs cells slots Q (F0 m pc ls (.ref (x.2.1 j2) :: .ref (x.2.1 j1) :: .ref (x.2.1 5) :: rest)) :=
  m_ci (va_runV (As := [.ref (x.2.1 j1), .ref (x.2.1 j2)]) (rest := rest) ⟨hx, hb, hml, hown, hts.1⟩ hM (⟨callB_of 2 hts.1 (tb_good q_237) rfl hcs.1 hcs.2.1 (hts.1 _ q_117) (hts.1 _ q_238) ⟨by decide, by decide, by decide +kernel⟩ ⟨hfr, hlo⟩, hts.1 _ q_239, hts.1 _ q_240⟩) ⟨blind, va_recv hK hP (ci := 8) rfl (wld_at (by decide) rfl), m_pre hts hK hZ hP hS⟩ rfl rfl hsz rfl (lv_room hre) hdg ⟨hcs.2.2.1, hcs.2.2.2⟩) hS kk
theorem cl_EC_186 {p : Program} {l : Launch} {e : Env} {R : Room} {s : State} {m : MethodId} {args : Array Value} {below : List Frame} {meth : Method} {c : Code} {H : Heap} {locs : List Loc} {cells slots : Nat} {Q : State → Prop} {cc : ByteArray} {pc : Nat} {ls : Array Slot} {rest : List Value} {x : Cx} {M : Mem} {j : Nat} {j2 : Nat} {nL : Nat} {rm : Room} {out : Mem} (hM : Cv l x y_RU_perform (Cond.code y_RU_perform b_RU_perform 4 none :: tb) rm [.ref (x.2.1 j), .ref (x.2.1 1), .ref (x.2.1 j2)] M out) (k : kd_run j) (hx : p.tables.exec = Jvm.exec) (hb : c.code = cc) (hml : c.maxLocals = nL) (hts : Tb args s) (hown : s.vm.findClass R_EC = some m.cls) (hK : va_K x.1 vwCl (tysx x) s) (hZ : Stc x s s.heap) (hP : va_P x.1 vwCl (wld x M) H) (hS : va_S (A0 x) s.heap H locs) (hsz : ls.size = nL) (hre : (rest.map fun v => v.category).sum ≤ 8) (hfr : rm.frames + 1 ≤ R.frames) (hlo : 8 + (4 + 11) + rm.locals ≤ R.locals) (hcs : rm.cells = 0 ∧ rm.slots = 0 ∧ cells ≤ R.cells ∧ slots ≤ R.slots) (hdg : decode cc pc = .ok (.invokevirtual 186, 3)) (kk : ∀ (H1 : Heap) (locs1 : List Loc), va_P x.1 vwCl (wld x out) H1 → va_S (A0 x) s.heap H1 locs1 → W p l e R s m args below meth c H1 locs1 cells slots Q (F0 m (pc + 3) ls (rest))) : W p l e R s m args below meth c H locs cells slots Q (F0 m pc ls (.ref (x.2.1 j2) :: .ref (x.2.1 1) :: .ref (x.2.1 j) :: rest)) :=
  m_cv (va_runV (As := [.ref (x.2.1 1), .ref (x.2.1 j2)]) (rest := rest) ⟨hx, hb, hml, hown, hts.1⟩ hM (⟨callB_of 2 hts.1 (tb_good q_166) rfl hcs.1 hcs.2.1 (hts.1 _ q_52) (hts.1 _ q_241) ⟨by decide, by decide, by decide +kernel⟩ ⟨hfr, hlo⟩, hts.1 _ q_168, hts.1 _ q_169⟩) ⟨blind, va_recv hK hP (ci := 6) rfl (wld_at (lt_RU k) (ly_RU k)), m_pre hts hK hZ hP hS⟩ rfl rfl hsz rfl (lv_room hre) hdg ⟨hcs.2.2.1, hcs.2.2.2⟩) hS kk
theorem pf_EC_70 {p : Program} {l : Launch} {e : Env} {R : Room} {s : State} {m : MethodId} {args : Array Value} {below : List Frame} {meth : Method} {c : Code} {H H0 : Heap} {locs : List Loc} {cells slots : Nat} {Q : State → Prop} {cc : ByteArray} {pc : Nat} {ls : Array Slot} {rest : List Value} {x : Cx} {M M1 : Mem} {v : Int32} (hexec : p.tables.exec = Jvm.exec) (hb : c.code = cc) (hts : Tb args s) (hown : s.vm.findClass R_EC = some m.cls) (hK : va_K x.1 vwCl (tysx x) s) (hJ : Inj x) (hP : va_P x.1 vwCl (wld x M) H) (hS : va_S (A0 x) H0 H locs) (hM : M1 = st M 0 9 v) (hdg : decode cc pc = .ok (.putfield 70, 3)) (kk : ∀ (H1 : Heap) (locs1 : List Loc), va_P x.1 vwCl (wld x M1) H1 → va_S (A0 x) H0 H1 locs1 → W p l e R s m args below meth c H1 locs1 cells slots Q (F0 m (pc + 3) ls rest)) : W p l e R s m args below meth c H locs cells slots Q (F0 m pc ls (.int v :: .ref (x.2.1 0) :: rest)) :=
  m_put (ref := "EdgeCampaign") (C := R_EC) (T := T_EC) (N := 12) (ci := 10) hexec hb hts in_EC t_EC ty_EC nm_EC hown hK hJ hP hS (by decide) rfl rfl 9 (by decide) q_14 rfl rfl (by decide +kernel) (Nat.le_of_ble_eq_true rfl) rfl hM hdg kk
theorem gf_EC_74 {p : Program} {l : Launch} {e : Env} {R : Room} {s : State} {m : MethodId} {args : Array Value} {below : List Frame} {meth : Method} {c : Code} {H : Heap} {locs : List Loc} {cells slots : Nat} {Q : State → Prop} {cc : ByteArray} {pc : Nat} {ls : Array Slot} {rest : List Value} {x : Cx} {M : Mem} (hexec : p.tables.exec = Jvm.exec) (hb : c.code = cc) (hts : Tb args s) (hown : s.vm.findClass R_EC = some m.cls) (hK : va_K x.1 vwCl (tysx x) s) (hP : va_P x.1 vwCl (wld x M) H) (hdg : decode cc pc = .ok (.getfield 74, 3)) (kk : W p l e R s m args below meth c H locs cells slots Q (F0 m (pc + 3) ls (.int (M 0 10) :: rest))) : W p l e R s m args below meth c H locs cells slots Q (F0 m pc ls (.ref (x.2.1 0) :: rest)) :=
  m_get (ref := "EdgeCampaign") (C := R_EC) (T := T_EC) (N := 12) (ci := 10) hexec hb hts in_EC hown hK hP (by decide) rfl rfl 10 (by decide) q_242 rfl rfl hdg kk
theorem pf_EC_74 {p : Program} {l : Launch} {e : Env} {R : Room} {s : State} {m : MethodId} {args : Array Value} {below : List Frame} {meth : Method} {c : Code} {H H0 : Heap} {locs : List Loc} {cells slots : Nat} {Q : State → Prop} {cc : ByteArray} {pc : Nat} {ls : Array Slot} {rest : List Value} {x : Cx} {M M1 : Mem} {v : Int32} (hexec : p.tables.exec = Jvm.exec) (hb : c.code = cc) (hts : Tb args s) (hown : s.vm.findClass R_EC = some m.cls) (hK : va_K x.1 vwCl (tysx x) s) (hJ : Inj x) (hP : va_P x.1 vwCl (wld x M) H) (hS : va_S (A0 x) H0 H locs) (hM : M1 = st M 0 10 v) (hdg : decode cc pc = .ok (.putfield 74, 3)) (kk : ∀ (H1 : Heap) (locs1 : List Loc), va_P x.1 vwCl (wld x M1) H1 → va_S (A0 x) H0 H1 locs1 → W p l e R s m args below meth c H1 locs1 cells slots Q (F0 m (pc + 3) ls rest)) : W p l e R s m args below meth c H locs cells slots Q (F0 m pc ls (.int v :: .ref (x.2.1 0) :: rest)) :=
  m_put (ref := "EdgeCampaign") (C := R_EC) (T := T_EC) (N := 12) (ci := 10) hexec hb hts in_EC t_EC ty_EC nm_EC hown hK hJ hP hS (by decide) rfl rfl 10 (by decide) q_242 rfl rfl (by decide +kernel) (Nat.le_of_ble_eq_true rfl) rfl hM hdg kk
theorem cl_EC_87 {p : Program} {l : Launch} {e : Env} {R : Room} {s : State} {m : MethodId} {args : Array Value} {below : List Frame} {meth : Method} {c : Code} {H : Heap} {locs : List Loc} {cells slots : Nat} {Q : State → Prop} {cc : ByteArray} {pc : Nat} {ls : Array Slot} {rest : List Value} {x : Cx} {M : Mem} {j1 : Nat} {nL : Nat} {rm : Room} {out : Int32 × Mem} (hM : Ci l x y_EC_execute (Cond.code y_EC_execute b_EC_execute 3 (some .int) :: tb) rm [.ref (x.2.1 0), .ref (x.2.1 j1)] M out) (hx : p.tables.exec = Jvm.exec) (hb : c.code = cc) (hml : c.maxLocals = nL) (hts : Tb args s) (hown : s.vm.findClass R_EC = some m.cls) (hK : va_K x.1 vwCl (tysx x) s) (hZ : Stc x s s.heap) (hP : va_P x.1 vwCl (wld x M) H) (hS : va_S (A0 x) s.heap H locs) (hsz : ls.size = nL) (hre : (rest.map fun v => v.category).sum ≤ 8) (hfr : rm.frames + 1 ≤ R.frames) (hlo : 8 + (3 + 11) + rm.locals ≤ R.locals) (hcs : rm.cells = 0 ∧ rm.slots = 0 ∧ cells ≤ R.cells ∧ slots ≤ R.slots) (hdg : decode cc pc = .ok (.invokevirtual 87, 3)) (kk : ∀ (H1 : Heap) (locs1 : List Loc), va_P x.1 vwCl (wld x out.2) H1 → va_S (A0 x) s.heap H1 locs1 → W p l e R s m args below meth c H1 locs1 cells slots Q (F0 m (pc + 3) ls (.int out.1 :: rest))) : W p l e R s m args below meth c H locs cells slots Q (F0 m pc ls (.ref (x.2.1 j1) :: .ref (x.2.1 0) :: rest)) :=
  m_ci (va_runV (As := [.ref (x.2.1 j1)]) (rest := rest) ⟨hx, hb, hml, hown, hts.1⟩ hM (⟨callB_of 1 hts.1 (tb_good q_243) rfl hcs.1 hcs.2.1 (hts.1 _ q_245) (hts.1 _ q_244) ⟨by decide, by decide, by decide +kernel⟩ ⟨hfr, hlo⟩, hts.1 _ q_246, hts.1 _ q_247⟩) ⟨blind, va_recv hK hP (ci := 10) rfl (wld_at (by decide) rfl), m_pre hts hK hZ hP hS⟩ rfl rfl hsz rfl (lv_room hre) hdg ⟨hcs.2.2.1, hcs.2.2.2⟩) hS kk
theorem cl_EC_91 {p : Program} {l : Launch} {e : Env} {R : Room} {s : State} {m : MethodId} {args : Array Value} {below : List Frame} {meth : Method} {c : Code} {H : Heap} {locs : List Loc} {cells slots : Nat} {Q : State → Prop} {cc : ByteArray} {pc : Nat} {ls : Array Slot} {rest : List Value} {x : Cx} {M : Mem} {j : Nat} {a1 : Int32} {nL : Nat} {rm : Room} {out : Mem} (hM : Cv l x y_IN_cutTo (Cond.code y_IN_cutTo b_IN_cutTo 2 none :: tb) rm [.ref (x.2.1 j), .int a1] M out) (k : kd_in j) (hx : p.tables.exec = Jvm.exec) (hb : c.code = cc) (hml : c.maxLocals = nL) (hts : Tb args s) (hown : s.vm.findClass R_EC = some m.cls) (hK : va_K x.1 vwCl (tysx x) s) (hZ : Stc x s s.heap) (hP : va_P x.1 vwCl (wld x M) H) (hS : va_S (A0 x) s.heap H locs) (hsz : ls.size = nL) (hre : (rest.map fun v => v.category).sum ≤ 8) (hfr : rm.frames + 1 ≤ R.frames) (hlo : 8 + (2 + 11) + rm.locals ≤ R.locals) (hcs : rm.cells = 0 ∧ rm.slots = 0 ∧ cells ≤ R.cells ∧ slots ≤ R.slots) (hdg : decode cc pc = .ok (.invokevirtual 91, 3)) (kk : ∀ (H1 : Heap) (locs1 : List Loc), va_P x.1 vwCl (wld x out) H1 → va_S (A0 x) s.heap H1 locs1 → W p l e R s m args below meth c H1 locs1 cells slots Q (F0 m (pc + 3) ls (rest))) : W p l e R s m args below meth c H locs cells slots Q (F0 m pc ls (.int a1 :: .ref (x.2.1 j) :: rest)) :=
  m_cv (va_runV (As := [.int a1]) (rest := rest) ⟨hx, hb, hml, hown, hts.1⟩ hM (⟨callB_of 1 hts.1 (tb_good q_159) rfl hcs.1 hcs.2.1 (hts.1 _ q_25) (hts.1 _ q_248) ⟨by decide, by decide, by decide +kernel⟩ ⟨hfr, hlo⟩, hts.1 _ q_161, hts.1 _ q_162⟩) ⟨blind, va_recv hK hP (ci := 4) rfl (wld_at (lt_IN k) (ly_IN k)), m_pre hts hK hZ hP hS⟩ rfl rfl hsz rfl (lv_room hre) hdg ⟨hcs.2.2.1, hcs.2.2.2⟩) hS kk
theorem cl_IN_40 {p : Program} {l : Launch} {e : Env} {R : Room} {s : State} {m : MethodId} {args : Array Value} {below : List Frame} {meth : Method} {c : Code} {H : Heap} {locs : List Loc} {cells slots : Nat} {Q : State → Prop} {cc : ByteArray} {pc : Nat} {ls : Array Slot} {rest : List Value} {x : Cx} {M : Mem} {j : Nat} {a1 : Int32} {a2 : Int32} {nL : Nat} {rm : Room} {out : Mem} (hM : Cv l x y_IN_put (Cond.code y_IN_put b_IN_put 3 none :: tb) rm [.ref (x.2.1 j), .int a1, .int a2] M out) (k : kd_in j) (hx : p.tables.exec = Jvm.exec) (hb : c.code = cc) (hml : c.maxLocals = nL) (hts : Tb args s) (hown : s.vm.findClass R_IN = some m.cls) (hK : va_K x.1 vwCl (tysx x) s) (hZ : Stc x s s.heap) (hP : va_P x.1 vwCl (wld x M) H) (hS : va_S (A0 x) s.heap H locs) (hsz : ls.size = nL) (hre : (rest.map fun v => v.category).sum ≤ 8) (hfr : rm.frames + 1 ≤ R.frames) (hlo : 8 + (3 + 11) + rm.locals ≤ R.locals) (hcs : rm.cells = 0 ∧ rm.slots = 0 ∧ cells ≤ R.cells ∧ slots ≤ R.slots) (hdg : decode cc pc = .ok (.invokevirtual 40, 3)) (kk : ∀ (H1 : Heap) (locs1 : List Loc), va_P x.1 vwCl (wld x out) H1 → va_S (A0 x) s.heap H1 locs1 → W p l e R s m args below meth c H1 locs1 cells slots Q (F0 m (pc + 3) ls (rest))) : W p l e R s m args below meth c H locs cells slots Q (F0 m pc ls (.int a2 :: .int a1 :: .ref (x.2.1 j) :: rest)) :=
  m_cv (va_runV (As := [.int a1, .int a2]) (rest := rest) ⟨hx, hb, hml, hown, hts.1⟩ hM (⟨callB_of 2 hts.1 (tb_good q_249) rfl hcs.1 hcs.2.1 (hts.1 _ q_25) (hts.1 _ q_250) ⟨by decide, by decide, by decide +kernel⟩ ⟨hfr, hlo⟩, hts.1 _ q_251, hts.1 _ q_252⟩) ⟨blind, va_recv hK hP (ci := 4) rfl (wld_at (lt_IN k) (ly_IN k)), m_pre hts hK hZ hP hS⟩ rfl rfl hsz rfl (lv_room hre) hdg ⟨hcs.2.2.1, hcs.2.2.2⟩) hS kk
theorem gf_GE_7 {p : Program} {l : Launch} {e : Env} {R : Room} {s : State} {m : MethodId} {args : Array Value} {below : List Frame} {meth : Method} {c : Code} {H : Heap} {locs : List Loc} {cells slots : Nat} {Q : State → Prop} {cc : ByteArray} {pc : Nat} {ls : Array Slot} {rest : List Value} {x : Cx} {M : Mem} (hexec : p.tables.exec = Jvm.exec) (hb : c.code = cc) (hts : Tb args s) (hown : s.vm.findClass R_GE = some m.cls) (hK : va_K x.1 vwCl (tysx x) s) (hP : va_P x.1 vwCl (wld x M) H) (hdg : decode cc pc = .ok (.getfield 7, 3)) (kk : W p l e R s m args below meth c H locs cells slots Q (F0 m (pc + 3) ls (.int (M 12 0) :: rest))) : W p l e R s m args below meth c H locs cells slots Q (F0 m pc ls (.ref (x.2.1 12) :: rest)) :=
  m_get (ref := "EdgeCampaign$Generator") (C := R_GE) (T := T_GE) (N := 1) (ci := 3) hexec hb hts in_GE hown hK hP (by decide) rfl rfl 0 (by decide) q_253 rfl rfl hdg kk
theorem pf_GE_7 {p : Program} {l : Launch} {e : Env} {R : Room} {s : State} {m : MethodId} {args : Array Value} {below : List Frame} {meth : Method} {c : Code} {H H0 : Heap} {locs : List Loc} {cells slots : Nat} {Q : State → Prop} {cc : ByteArray} {pc : Nat} {ls : Array Slot} {rest : List Value} {x : Cx} {M M1 : Mem} {v : Int32} (hexec : p.tables.exec = Jvm.exec) (hb : c.code = cc) (hts : Tb args s) (hown : s.vm.findClass R_GE = some m.cls) (hK : va_K x.1 vwCl (tysx x) s) (hJ : Inj x) (hP : va_P x.1 vwCl (wld x M) H) (hS : va_S (A0 x) H0 H locs) (hM : M1 = st M 12 0 v) (hdg : decode cc pc = .ok (.putfield 7, 3)) (kk : ∀ (H1 : Heap) (locs1 : List Loc), va_P x.1 vwCl (wld x M1) H1 → va_S (A0 x) H0 H1 locs1 → W p l e R s m args below meth c H1 locs1 cells slots Q (F0 m (pc + 3) ls rest)) : W p l e R s m args below meth c H locs cells slots Q (F0 m pc ls (.int v :: .ref (x.2.1 12) :: rest)) :=
  m_put (ref := "EdgeCampaign$Generator") (C := R_GE) (T := T_GE) (N := 1) (ci := 3) hexec hb hts in_GE t_GE ty_GE nm_GE hown hK hJ hP hS (by decide) rfl rfl 0 (by decide) q_253 rfl rfl (by decide +kernel) (Nat.le_of_ble_eq_true rfl) rfl hM hdg kk
theorem cl_TR_103 {p : Program} {l : Launch} {e : Env} {R : Room} {s : State} {m : MethodId} {args : Array Value} {below : List Frame} {meth : Method} {c : Code} {H : Heap} {locs : List Loc} {cells slots : Nat} {Q : State → Prop} {cc : ByteArray} {pc : Nat} {ls : Array Slot} {rest : List Value} {x : Cx} {M : Mem} {a1 : Int32} {nL : Nat} {rm : Room} {out : Int32 × Mem} (hM : Ci l x y_GE_draw (Cond.code y_GE_draw b_GE_draw 2 (some .int) :: tb) rm [.ref (x.2.1 12), .int a1] M out) (hx : p.tables.exec = Jvm.exec) (hb : c.code = cc) (hml : c.maxLocals = nL) (hts : Tb args s) (hown : s.vm.findClass R_TR = some m.cls) (hK : va_K x.1 vwCl (tysx x) s) (hZ : Stc x s s.heap) (hP : va_P x.1 vwCl (wld x M) H) (hS : va_S (A0 x) s.heap H locs) (hsz : ls.size = nL) (hre : (rest.map fun v => v.category).sum ≤ 8) (hfr : rm.frames + 1 ≤ R.frames) (hlo : 8 + (2 + 11) + rm.locals ≤ R.locals) (hcs : rm.cells = 0 ∧ rm.slots = 0 ∧ cells ≤ R.cells ∧ slots ≤ R.slots) (hdg : decode cc pc = .ok (.invokevirtual 103, 3)) (kk : ∀ (H1 : Heap) (locs1 : List Loc), va_P x.1 vwCl (wld x out.2) H1 → va_S (A0 x) s.heap H1 locs1 → W p l e R s m args below meth c H1 locs1 cells slots Q (F0 m (pc + 3) ls (.int out.1 :: rest))) : W p l e R s m args below meth c H locs cells slots Q (F0 m pc ls (.int a1 :: .ref (x.2.1 12) :: rest)) :=
  m_ci (va_runV (As := [.int a1]) (rest := rest) ⟨hx, hb, hml, hown, hts.1⟩ hM (⟨callB_of 1 hts.1 (tb_good q_255) rfl hcs.1 hcs.2.1 (hts.1 _ q_257) (hts.1 _ q_256) ⟨by decide, by decide, by decide +kernel⟩ ⟨hfr, hlo⟩, hts.1 _ q_258, hts.1 _ q_259⟩) ⟨blind, va_recv hK hP (ci := 3) rfl (wld_at (by decide) rfl), m_pre hts hK hZ hP hS⟩ rfl rfl hsz rfl (lv_room hre) hdg ⟨hcs.2.2.1, hcs.2.2.2⟩) hS kk
theorem cl_TR_115 {p : Program} {l : Launch} {e : Env} {R : Room} {s : State} {m : MethodId} {args : Array Value} {below : List Frame} {meth : Method} {c : Code} {H : Heap} {locs : List Loc} {cells slots : Nat} {Q : State → Prop} {cc : ByteArray} {pc : Nat} {ls : Array Slot} {rest : List Value} {x : Cx} {M : Mem} {j : Nat} {a1 : Int32} {a2 : Int32} {nL : Nat} {rm : Room} {out : Mem} (hM : Cv l x y_IN_insert (Cond.code y_IN_insert b_IN_insert 4 none :: tb) rm [.ref (x.2.1 j), .int a1, .int a2] M out) (k : kd_in j) (hx : p.tables.exec = Jvm.exec) (hb : c.code = cc) (hml : c.maxLocals = nL) (hts : Tb args s) (hown : s.vm.findClass R_TR = some m.cls) (hK : va_K x.1 vwCl (tysx x) s) (hZ : Stc x s s.heap) (hP : va_P x.1 vwCl (wld x M) H) (hS : va_S (A0 x) s.heap H locs) (hsz : ls.size = nL) (hre : (rest.map fun v => v.category).sum ≤ 8) (hfr : rm.frames + 1 ≤ R.frames) (hlo : 8 + (4 + 11) + rm.locals ≤ R.locals) (hcs : rm.cells = 0 ∧ rm.slots = 0 ∧ cells ≤ R.cells ∧ slots ≤ R.slots) (hdg : decode cc pc = .ok (.invokevirtual 115, 3)) (kk : ∀ (H1 : Heap) (locs1 : List Loc), va_P x.1 vwCl (wld x out) H1 → va_S (A0 x) s.heap H1 locs1 → W p l e R s m args below meth c H1 locs1 cells slots Q (F0 m (pc + 3) ls (rest))) : W p l e R s m args below meth c H locs cells slots Q (F0 m pc ls (.int a2 :: .int a1 :: .ref (x.2.1 j) :: rest)) :=
  m_cv (va_runV (As := [.int a1, .int a2]) (rest := rest) ⟨hx, hb, hml, hown, hts.1⟩ hM (⟨callB_of 2 hts.1 (tb_good q_260) rfl hcs.1 hcs.2.1 (hts.1 _ q_25) (hts.1 _ q_261) ⟨by decide, by decide, by decide +kernel⟩ ⟨hfr, hlo⟩, hts.1 _ q_262, hts.1 _ q_263⟩) ⟨blind, va_recv hK hP (ci := 4) rfl (wld_at (lt_IN k) (ly_IN k)), m_pre hts hK hZ hP hS⟩ rfl rfl hsz rfl (lv_room hre) hdg ⟨hcs.2.2.1, hcs.2.2.2⟩) hS kk
theorem cl_TR_59 {p : Program} {l : Launch} {e : Env} {R : Room} {s : State} {m : MethodId} {args : Array Value} {below : List Frame} {meth : Method} {c : Code} {H : Heap} {locs : List Loc} {cells slots : Nat} {Q : State → Prop} {cc : ByteArray} {pc : Nat} {ls : Array Slot} {rest : List Value} {x : Cx} {M : Mem} {j : Nat} {a1 : Int32} {a2 : Int32} {nL : Nat} {rm : Room} {out : Mem} (hM : Cv l x y_IN_addTo (Cond.code y_IN_addTo b_IN_addTo 3 none :: tb) rm [.ref (x.2.1 j), .int a1, .int a2] M out) (k : kd_in j) (hx : p.tables.exec = Jvm.exec) (hb : c.code = cc) (hml : c.maxLocals = nL) (hts : Tb args s) (hown : s.vm.findClass R_TR = some m.cls) (hK : va_K x.1 vwCl (tysx x) s) (hZ : Stc x s s.heap) (hP : va_P x.1 vwCl (wld x M) H) (hS : va_S (A0 x) s.heap H locs) (hsz : ls.size = nL) (hre : (rest.map fun v => v.category).sum ≤ 8) (hfr : rm.frames + 1 ≤ R.frames) (hlo : 8 + (3 + 11) + rm.locals ≤ R.locals) (hcs : rm.cells = 0 ∧ rm.slots = 0 ∧ cells ≤ R.cells ∧ slots ≤ R.slots) (hdg : decode cc pc = .ok (.invokevirtual 59, 3)) (kk : ∀ (H1 : Heap) (locs1 : List Loc), va_P x.1 vwCl (wld x out) H1 → va_S (A0 x) s.heap H1 locs1 → W p l e R s m args below meth c H1 locs1 cells slots Q (F0 m (pc + 3) ls (rest))) : W p l e R s m args below meth c H locs cells slots Q (F0 m pc ls (.int a2 :: .int a1 :: .ref (x.2.1 j) :: rest)) :=
  m_cv (va_runV (As := [.int a1, .int a2]) (rest := rest) ⟨hx, hb, hml, hown, hts.1⟩ hM (⟨callB_of 2 hts.1 (tb_good q_264) rfl hcs.1 hcs.2.1 (hts.1 _ q_25) (hts.1 _ q_265) ⟨by decide, by decide, by decide +kernel⟩ ⟨hfr, hlo⟩, hts.1 _ q_266, hts.1 _ q_267⟩) ⟨blind, va_recv hK hP (ci := 4) rfl (wld_at (lt_IN k) (ly_IN k)), m_pre hts hK hZ hP hS⟩ rfl rfl hsz rfl (lv_room hre) hdg ⟨hcs.2.2.1, hcs.2.2.2⟩) hS kk
theorem cl_TR_51 {p : Program} {l : Launch} {e : Env} {R : Room} {s : State} {m : MethodId} {args : Array Value} {below : List Frame} {meth : Method} {c : Code} {H : Heap} {locs : List Loc} {cells slots : Nat} {Q : State → Prop} {cc : ByteArray} {pc : Nat} {ls : Array Slot} {rest : List Value} {x : Cx} {M : Mem} {j : Nat} {a1 : Int32} {a2 : Int32} {nL : Nat} {rm : Room} {out : Mem} (hM : Cv l x y_IN_turnBit (Cond.code y_IN_turnBit b_IN_turnBit 3 none :: tb) rm [.ref (x.2.1 j), .int a1, .int a2] M out) (k : kd_in j) (hx : p.tables.exec = Jvm.exec) (hb : c.code = cc) (hml : c.maxLocals = nL) (hts : Tb args s) (hown : s.vm.findClass R_TR = some m.cls) (hK : va_K x.1 vwCl (tysx x) s) (hZ : Stc x s s.heap) (hP : va_P x.1 vwCl (wld x M) H) (hS : va_S (A0 x) s.heap H locs) (hsz : ls.size = nL) (hre : (rest.map fun v => v.category).sum ≤ 8) (hfr : rm.frames + 1 ≤ R.frames) (hlo : 8 + (3 + 11) + rm.locals ≤ R.locals) (hcs : rm.cells = 0 ∧ rm.slots = 0 ∧ cells ≤ R.cells ∧ slots ≤ R.slots) (hdg : decode cc pc = .ok (.invokevirtual 51, 3)) (kk : ∀ (H1 : Heap) (locs1 : List Loc), va_P x.1 vwCl (wld x out) H1 → va_S (A0 x) s.heap H1 locs1 → W p l e R s m args below meth c H1 locs1 cells slots Q (F0 m (pc + 3) ls (rest))) : W p l e R s m args below meth c H locs cells slots Q (F0 m pc ls (.int a2 :: .int a1 :: .ref (x.2.1 j) :: rest)) :=
  m_cv (va_runV (As := [.int a1, .int a2]) (rest := rest) ⟨hx, hb, hml, hown, hts.1⟩ hM (⟨callB_of 2 hts.1 (tb_good q_268) rfl hcs.1 hcs.2.1 (hts.1 _ q_25) (hts.1 _ q_269) ⟨by decide, by decide, by decide +kernel⟩ ⟨hfr, hlo⟩, hts.1 _ q_270, hts.1 _ q_271⟩) ⟨blind, va_recv hK hP (ci := 4) rfl (wld_at (lt_IN k) (ly_IN k)), m_pre hts hK hZ hP hS⟩ rfl rfl hsz rfl (lv_room hre) hdg ⟨hcs.2.2.1, hcs.2.2.2⟩) hS kk
theorem cl_TR_65 {p : Program} {l : Launch} {e : Env} {R : Room} {s : State} {m : MethodId} {args : Array Value} {below : List Frame} {meth : Method} {c : Code} {H : Heap} {locs : List Loc} {cells slots : Nat} {Q : State → Prop} {cc : ByteArray} {pc : Nat} {ls : Array Slot} {rest : List Value} {x : Cx} {M : Mem} {j : Nat} {a1 : Int32} {a2 : Int32} {nL : Nat} {rm : Room} {out : Mem} (hM : Cv l x y_IN_put (Cond.code y_IN_put b_IN_put 3 none :: tb) rm [.ref (x.2.1 j), .int a1, .int a2] M out) (k : kd_in j) (hx : p.tables.exec = Jvm.exec) (hb : c.code = cc) (hml : c.maxLocals = nL) (hts : Tb args s) (hown : s.vm.findClass R_TR = some m.cls) (hK : va_K x.1 vwCl (tysx x) s) (hZ : Stc x s s.heap) (hP : va_P x.1 vwCl (wld x M) H) (hS : va_S (A0 x) s.heap H locs) (hsz : ls.size = nL) (hre : (rest.map fun v => v.category).sum ≤ 8) (hfr : rm.frames + 1 ≤ R.frames) (hlo : 8 + (3 + 11) + rm.locals ≤ R.locals) (hcs : rm.cells = 0 ∧ rm.slots = 0 ∧ cells ≤ R.cells ∧ slots ≤ R.slots) (hdg : decode cc pc = .ok (.invokevirtual 65, 3)) (kk : ∀ (H1 : Heap) (locs1 : List Loc), va_P x.1 vwCl (wld x out) H1 → va_S (A0 x) s.heap H1 locs1 → W p l e R s m args below meth c H1 locs1 cells slots Q (F0 m (pc + 3) ls (rest))) : W p l e R s m args below meth c H locs cells slots Q (F0 m pc ls (.int a2 :: .int a1 :: .ref (x.2.1 j) :: rest)) :=
  m_cv (va_runV (As := [.int a1, .int a2]) (rest := rest) ⟨hx, hb, hml, hown, hts.1⟩ hM (⟨callB_of 2 hts.1 (tb_good q_249) rfl hcs.1 hcs.2.1 (hts.1 _ q_25) (hts.1 _ q_272) ⟨by decide, by decide, by decide +kernel⟩ ⟨hfr, hlo⟩, hts.1 _ q_251, hts.1 _ q_252⟩) ⟨blind, va_recv hK hP (ci := 4) rfl (wld_at (lt_IN k) (ly_IN k)), m_pre hts hK hZ hP hS⟩ rfl rfl hsz rfl (lv_room hre) hdg ⟨hcs.2.2.1, hcs.2.2.2⟩) hS kk
theorem cl_TR_118 {p : Program} {l : Launch} {e : Env} {R : Room} {s : State} {m : MethodId} {args : Array Value} {below : List Frame} {meth : Method} {c : Code} {H : Heap} {locs : List Loc} {cells slots : Nat} {Q : State → Prop} {cc : ByteArray} {pc : Nat} {ls : Array Slot} {rest : List Value} {x : Cx} {M : Mem} {j : Nat} {a1 : Int32} {nL : Nat} {rm : Room} {out : Mem} (hM : Cv l x y_IN_takeOut (Cond.code y_IN_takeOut b_IN_takeOut 3 none :: tb) rm [.ref (x.2.1 j), .int a1] M out) (k : kd_in j) (hx : p.tables.exec = Jvm.exec) (hb : c.code = cc) (hml : c.maxLocals = nL) (hts : Tb args s) (hown : s.vm.findClass R_TR = some m.cls) (hK : va_K x.1 vwCl (tysx x) s) (hZ : Stc x s s.heap) (hP : va_P x.1 vwCl (wld x M) H) (hS : va_S (A0 x) s.heap H locs) (hsz : ls.size = nL) (hre : (rest.map fun v => v.category).sum ≤ 8) (hfr : rm.frames + 1 ≤ R.frames) (hlo : 8 + (3 + 11) + rm.locals ≤ R.locals) (hcs : rm.cells = 0 ∧ rm.slots = 0 ∧ cells ≤ R.cells ∧ slots ≤ R.slots) (hdg : decode cc pc = .ok (.invokevirtual 118, 3)) (kk : ∀ (H1 : Heap) (locs1 : List Loc), va_P x.1 vwCl (wld x out) H1 → va_S (A0 x) s.heap H1 locs1 → W p l e R s m args below meth c H1 locs1 cells slots Q (F0 m (pc + 3) ls (rest))) : W p l e R s m args below meth c H locs cells slots Q (F0 m pc ls (.int a1 :: .ref (x.2.1 j) :: rest)) :=
  m_cv (va_runV (As := [.int a1]) (rest := rest) ⟨hx, hb, hml, hown, hts.1⟩ hM (⟨callB_of 1 hts.1 (tb_good q_273) rfl hcs.1 hcs.2.1 (hts.1 _ q_25) (hts.1 _ q_274) ⟨by decide, by decide, by decide +kernel⟩ ⟨hfr, hlo⟩, hts.1 _ q_275, hts.1 _ q_276⟩) ⟨blind, va_recv hK hP (ci := 4) rfl (wld_at (lt_IN k) (ly_IN k)), m_pre hts hK hZ hP hS⟩ rfl rfl hsz rfl (lv_room hre) hdg ⟨hcs.2.2.1, hcs.2.2.2⟩) hS kk
theorem cl_TR_111 {p : Program} {l : Launch} {e : Env} {R : Room} {s : State} {m : MethodId} {args : Array Value} {below : List Frame} {meth : Method} {c : Code} {H : Heap} {locs : List Loc} {cells slots : Nat} {Q : State → Prop} {cc : ByteArray} {pc : Nat} {ls : Array Slot} {rest : List Value} {x : Cx} {M : Mem} {a1 : Int32} {j2 : Nat} {nL : Nat} {rm : Room} {out : Mem} (hM : Cv l x y_TR_changeDrawn (Cond.code y_TR_changeDrawn b_TR_changeDrawn 5 none :: tb) rm [.int a1, .ref (x.2.1 j2), .ref (x.2.1 12)] M out) (hx : p.tables.exec = Jvm.exec) (hb : c.code = cc) (hml : c.maxLocals = nL) (hts : Tb args s) (hown : s.vm.findClass R_TR = some m.cls) (hK : va_K x.1 vwCl (tysx x) s) (hZ : Stc x s s.heap) (hP : va_P x.1 vwCl (wld x M) H) (hS : va_S (A0 x) s.heap H locs) (hsz : ls.size = nL) (hre : (rest.map fun v => v.category).sum ≤ 8) (hfr : rm.frames + 1 ≤ R.frames) (hlo : 8 + (5 + 11) + rm.locals ≤ R.locals) (hcs : rm.cells = 0 ∧ rm.slots = 0 ∧ cells ≤ R.cells ∧ slots ≤ R.slots) (hdg : decode cc pc = .ok (.invokestatic 111, 3)) (kk : ∀ (H1 : Heap) (locs1 : List Loc), va_P x.1 vwCl (wld x out) H1 → va_S (A0 x) s.heap H1 locs1 → W p l e R s m args below meth c H1 locs1 cells slots Q (F0 m (pc + 3) ls (rest))) : W p l e R s m args below meth c H locs cells slots Q (F0 m pc ls (.ref (x.2.1 12) :: .ref (x.2.1 j2) :: .int a1 :: rest)) :=
  m_cv (va_runS (As := [.int a1, .ref (x.2.1 j2), .ref (x.2.1 12)]) (rest := rest) ⟨hx, hb, hml, hown, hts.1⟩ hM (⟨callB_of 3 hts.1 (tb_good q_277) rfl hcs.1 hcs.2.1 (hts.1 _ q_196) (hts.1 _ q_278) ⟨by decide, by decide, by decide +kernel⟩ ⟨hfr, hlo⟩, hts.1 _ q_279⟩) ⟨blind, m_pre hts hK hZ hP hS⟩ rfl rfl hsz rfl (lv_room hre) hdg ⟨hcs.2.2.1, hcs.2.2.2⟩) hS kk
theorem cl_TR_108 {p : Program} {l : Launch} {e : Env} {R : Room} {s : State} {m : MethodId} {args : Array Value} {below : List Frame} {meth : Method} {c : Code} {H : Heap} {locs : List Loc} {cells slots : Nat} {Q : State → Prop} {cc : ByteArray} {pc : Nat} {ls : Array Slot} {rest : List Value} {x : Cx} {M : Mem} {j1 : Nat} {nL : Nat} {rm : Room} {out : Mem} (hM : Cv l x y_TR_insertDrawn (Cond.code y_TR_insertDrawn b_TR_insertDrawn 3 none :: tb) rm [.ref (x.2.1 j1), .ref (x.2.1 12)] M out) (hx : p.tables.exec = Jvm.exec) (hb : c.code = cc) (hml : c.maxLocals = nL) (hts : Tb args s) (hown : s.vm.findClass R_TR = some m.cls) (hK : va_K x.1 vwCl (tysx x) s) (hZ : Stc x s s.heap) (hP : va_P x.1 vwCl (wld x M) H) (hS : va_S (A0 x) s.heap H locs) (hsz : ls.size = nL) (hre : (rest.map fun v => v.category).sum ≤ 8) (hfr : rm.frames + 1 ≤ R.frames) (hlo : 8 + (3 + 11) + rm.locals ≤ R.locals) (hcs : rm.cells = 0 ∧ rm.slots = 0 ∧ cells ≤ R.cells ∧ slots ≤ R.slots) (hdg : decode cc pc = .ok (.invokestatic 108, 3)) (kk : ∀ (H1 : Heap) (locs1 : List Loc), va_P x.1 vwCl (wld x out) H1 → va_S (A0 x) s.heap H1 locs1 → W p l e R s m args below meth c H1 locs1 cells slots Q (F0 m (pc + 3) ls (rest))) : W p l e R s m args below meth c H locs cells slots Q (F0 m pc ls (.ref (x.2.1 12) :: .ref (x.2.1 j1) :: rest)) :=
  m_cv (va_runS (As := [.ref (x.2.1 j1), .ref (x.2.1 12)]) (rest := rest) ⟨hx, hb, hml, hown, hts.1⟩ hM (⟨callB_of 2 hts.1 (tb_good q_280) rfl hcs.1 hcs.2.1 (hts.1 _ q_196) (hts.1 _ q_281) ⟨by decide, by decide, by decide +kernel⟩ ⟨hfr, hlo⟩, hts.1 _ q_282⟩) ⟨blind, m_pre hts hK hZ hP hS⟩ rfl rfl hsz rfl (lv_room hre) hdg ⟨hcs.2.2.1, hcs.2.2.2⟩) hS kk
theorem cl_TR_122 {p : Program} {l : Launch} {e : Env} {R : Room} {s : State} {m : MethodId} {args : Array Value} {below : List Frame} {meth : Method} {c : Code} {H : Heap} {locs : List Loc} {cells slots : Nat} {Q : State → Prop} {cc : ByteArray} {pc : Nat} {ls : Array Slot} {rest : List Value} {x : Cx} {M : Mem} {j : Nat} {a1 : Int32} {nL : Nat} {rm : Room} {out : Mem} (hM : Cv l x y_IN_cutTo (Cond.code y_IN_cutTo b_IN_cutTo 2 none :: tb) rm [.ref (x.2.1 j), .int a1] M out) (k : kd_in j) (hx : p.tables.exec = Jvm.exec) (hb : c.code = cc) (hml : c.maxLocals = nL) (hts : Tb args s) (hown : s.vm.findClass R_TR = some m.cls) (hK : va_K x.1 vwCl (tysx x) s) (hZ : Stc x s s.heap) (hP : va_P x.1 vwCl (wld x M) H) (hS : va_S (A0 x) s.heap H locs) (hsz : ls.size = nL) (hre : (rest.map fun v => v.category).sum ≤ 8) (hfr : rm.frames + 1 ≤ R.frames) (hlo : 8 + (2 + 11) + rm.locals ≤ R.locals) (hcs : rm.cells = 0 ∧ rm.slots = 0 ∧ cells ≤ R.cells ∧ slots ≤ R.slots) (hdg : decode cc pc = .ok (.invokevirtual 122, 3)) (kk : ∀ (H1 : Heap) (locs1 : List Loc), va_P x.1 vwCl (wld x out) H1 → va_S (A0 x) s.heap H1 locs1 → W p l e R s m args below meth c H1 locs1 cells slots Q (F0 m (pc + 3) ls (rest))) : W p l e R s m args below meth c H locs cells slots Q (F0 m pc ls (.int a1 :: .ref (x.2.1 j) :: rest)) :=
  m_cv (va_runV (As := [.int a1]) (rest := rest) ⟨hx, hb, hml, hown, hts.1⟩ hM (⟨callB_of 1 hts.1 (tb_good q_159) rfl hcs.1 hcs.2.1 (hts.1 _ q_25) (hts.1 _ q_283) ⟨by decide, by decide, by decide +kernel⟩ ⟨hfr, hlo⟩, hts.1 _ q_161, hts.1 _ q_162⟩) ⟨blind, va_recv hK hP (ci := 4) rfl (wld_at (lt_IN k) (ly_IN k)), m_pre hts hK hZ hP hS⟩ rfl rfl hsz rfl (lv_room hre) hdg ⟨hcs.2.2.1, hcs.2.2.2⟩) hS kk
theorem cl_TR_125 {p : Program} {l : Launch} {e : Env} {R : Room} {s : State} {m : MethodId} {args : Array Value} {below : List Frame} {meth : Method} {c : Code} {H : Heap} {locs : List Loc} {cells slots : Nat} {Q : State → Prop} {cc : ByteArray} {pc : Nat} {ls : Array Slot} {rest : List Value} {x : Cx} {M : Mem} {j : Nat} {j1 : Nat} {a2 : Int32} {a3 : Int32} {nL : Nat} {rm : Room} {out : Mem} (hM : Cv l x y_IN_appendPart (Cond.code y_IN_appendPart b_IN_appendPart 6 none :: tb) rm [.ref (x.2.1 j), .ref (x.2.1 j1), .int a2, .int a3] M out) (k : kd_in j) (hx : p.tables.exec = Jvm.exec) (hb : c.code = cc) (hml : c.maxLocals = nL) (hts : Tb args s) (hown : s.vm.findClass R_TR = some m.cls) (hK : va_K x.1 vwCl (tysx x) s) (hZ : Stc x s s.heap) (hP : va_P x.1 vwCl (wld x M) H) (hS : va_S (A0 x) s.heap H locs) (hsz : ls.size = nL) (hre : (rest.map fun v => v.category).sum ≤ 8) (hfr : rm.frames + 1 ≤ R.frames) (hlo : 8 + (6 + 11) + rm.locals ≤ R.locals) (hcs : rm.cells = 0 ∧ rm.slots = 0 ∧ cells ≤ R.cells ∧ slots ≤ R.slots) (hdg : decode cc pc = .ok (.invokevirtual 125, 3)) (kk : ∀ (H1 : Heap) (locs1 : List Loc), va_P x.1 vwCl (wld x out) H1 → va_S (A0 x) s.heap H1 locs1 → W p l e R s m args below meth c H1 locs1 cells slots Q (F0 m (pc + 3) ls (rest))) : W p l e R s m args below meth c H locs cells slots Q (F0 m pc ls (.int a3 :: .int a2 :: .ref (x.2.1 j1) :: .ref (x.2.1 j) :: rest)) :=
  m_cv (va_runV (As := [.ref (x.2.1 j1), .int a2, .int a3]) (rest := rest) ⟨hx, hb, hml, hown, hts.1⟩ hM (⟨callB_of 3 hts.1 (tb_good q_98) rfl hcs.1 hcs.2.1 (hts.1 _ q_25) (hts.1 _ q_284) ⟨by decide, by decide, by decide +kernel⟩ ⟨hfr, hlo⟩, hts.1 _ q_100, hts.1 _ q_101⟩) ⟨blind, va_recv hK hP (ci := 4) rfl (wld_at (lt_IN k) (ly_IN k)), m_pre hts hK hZ hP hS⟩ rfl rfl hsz rfl (lv_room hre) hdg ⟨hcs.2.2.1, hcs.2.2.2⟩) hS kk
theorem gf_TR_79 {p : Program} {l : Launch} {e : Env} {R : Room} {s : State} {m : MethodId} {args : Array Value} {below : List Frame} {meth : Method} {c : Code} {H : Heap} {locs : List Loc} {cells slots : Nat} {Q : State → Prop} {cc : ByteArray} {pc : Nat} {ls : Array Slot} {rest : List Value} {x : Cx} {M : Mem} (hexec : p.tables.exec = Jvm.exec) (hb : c.code = cc) (hts : Tb args s) (hown : s.vm.findClass R_TR = some m.cls) (hK : va_K x.1 vwCl (tysx x) s) (hP : va_P x.1 vwCl (wld x M) H) (hdg : decode cc pc = .ok (.getfield 79, 3)) (kk : W p l e R s m args below meth c H locs cells slots Q (F0 m (pc + 3) ls (.int (M 5 3) :: rest))) : W p l e R s m args below meth c H locs cells slots Q (F0 m pc ls (.ref (x.2.1 5) :: rest)) :=
  m_getN (ref := "EdgeCampaign$Store") (C := R_ST) (T := T_ST) (N := 7) (ci := 8) hexec hb hts in_ST hown hK hP (by decide) rfl rfl 3 (by decide) (nf_23) rfl rfl hdg kk
theorem cl_TR_35 {p : Program} {l : Launch} {e : Env} {R : Room} {s : State} {m : MethodId} {args : Array Value} {below : List Frame} {meth : Method} {c : Code} {H : Heap} {locs : List Loc} {cells slots : Nat} {Q : State → Prop} {cc : ByteArray} {pc : Nat} {ls : Array Slot} {rest : List Value} {x : Cx} {M : Mem} {j : Nat} {j1 : Nat} {nL : Nat} {rm : Room} {out : Mem} (hM : Cv l x y_IN_copy (Cond.code y_IN_copy b_IN_copy 2 none :: tb) rm [.ref (x.2.1 j), .ref (x.2.1 j1)] M out) (k : kd_in j) (hx : p.tables.exec = Jvm.exec) (hb : c.code = cc) (hml : c.maxLocals = nL) (hts : Tb args s) (hown : s.vm.findClass R_TR = some m.cls) (hK : va_K x.1 vwCl (tysx x) s) (hZ : Stc x s s.heap) (hP : va_P x.1 vwCl (wld x M) H) (hS : va_S (A0 x) s.heap H locs) (hsz : ls.size = nL) (hre : (rest.map fun v => v.category).sum ≤ 8) (hfr : rm.frames + 1 ≤ R.frames) (hlo : 8 + (2 + 11) + rm.locals ≤ R.locals) (hcs : rm.cells = 0 ∧ rm.slots = 0 ∧ cells ≤ R.cells ∧ slots ≤ R.slots) (hdg : decode cc pc = .ok (.invokevirtual 35, 3)) (kk : ∀ (H1 : Heap) (locs1 : List Loc), va_P x.1 vwCl (wld x out) H1 → va_S (A0 x) s.heap H1 locs1 → W p l e R s m args below meth c H1 locs1 cells slots Q (F0 m (pc + 3) ls (rest))) : W p l e R s m args below meth c H locs cells slots Q (F0 m pc ls (.ref (x.2.1 j1) :: .ref (x.2.1 j) :: rest)) :=
  m_cv (va_runV (As := [.ref (x.2.1 j1)]) (rest := rest) ⟨hx, hb, hml, hown, hts.1⟩ hM (⟨callB_of 1 hts.1 (tb_good q_124) rfl hcs.1 hcs.2.1 (hts.1 _ q_25) (hts.1 _ q_285) ⟨by decide, by decide, by decide +kernel⟩ ⟨hfr, hlo⟩, hts.1 _ q_126, hts.1 _ q_127⟩) ⟨blind, va_recv hK hP (ci := 4) rfl (wld_at (lt_IN k) (ly_IN k)), m_pre hts hK hZ hP hS⟩ rfl rfl hsz rfl (lv_room hre) hdg ⟨hcs.2.2.1, hcs.2.2.2⟩) hS kk
theorem gf_TR_48 {p : Program} {l : Launch} {e : Env} {R : Room} {s : State} {m : MethodId} {args : Array Value} {below : List Frame} {meth : Method} {c : Code} {H : Heap} {locs : List Loc} {cells slots : Nat} {Q : State → Prop} {cc : ByteArray} {pc : Nat} {ls : Array Slot} {rest : List Value} {x : Cx} {M : Mem} (hexec : p.tables.exec = Jvm.exec) (hb : c.code = cc) (hts : Tb args s) (hown : s.vm.findClass R_TR = some m.cls) (hK : va_K x.1 vwCl (tysx x) s) (hP : va_P x.1 vwCl (wld x M) H) (hdg : decode cc pc = .ok (.getfield 48, 3)) (kk : W p l e R s m args below meth c H locs cells slots Q (F0 m (pc + 3) ls (.int (M 13 1) :: rest))) : W p l e R s m args below meth c H locs cells slots Q (F0 m pc ls (.ref (x.2.1 13) :: rest)) :=
  m_get (ref := "EdgeCampaign$Trials") (C := R_TR) (T := T_TR) (N := 3) (ci := 9) hexec hb hts in_TR hown hK hP (by decide) rfl rfl 1 (by decide) q_186 rfl rfl hdg kk
theorem gf_TR_68 {p : Program} {l : Launch} {e : Env} {R : Room} {s : State} {m : MethodId} {args : Array Value} {below : List Frame} {meth : Method} {c : Code} {H : Heap} {locs : List Loc} {cells slots : Nat} {Q : State → Prop} {cc : ByteArray} {pc : Nat} {ls : Array Slot} {rest : List Value} {x : Cx} {M : Mem} (hexec : p.tables.exec = Jvm.exec) (hb : c.code = cc) (hts : Tb args s) (hown : s.vm.findClass R_TR = some m.cls) (hK : va_K x.1 vwCl (tysx x) s) (hP : va_P x.1 vwCl (wld x M) H) (hdg : decode cc pc = .ok (.getfield 68, 3)) (kk : W p l e R s m args below meth c H locs cells slots Q (F0 m (pc + 3) ls (.int (M 13 2) :: rest))) : W p l e R s m args below meth c H locs cells slots Q (F0 m pc ls (.ref (x.2.1 13) :: rest)) :=
  m_get (ref := "EdgeCampaign$Trials") (C := R_TR) (T := T_TR) (N := 3) (ci := 9) hexec hb hts in_TR hown hK hP (by decide) rfl rfl 2 (by decide) q_192 rfl rfl hdg kk
theorem cl_TR_75 {p : Program} {l : Launch} {e : Env} {R : Room} {s : State} {m : MethodId} {args : Array Value} {below : List Frame} {meth : Method} {c : Code} {H : Heap} {locs : List Loc} {cells slots : Nat} {Q : State → Prop} {cc : ByteArray} {pc : Nat} {ls : Array Slot} {rest : List Value} {x : Cx} {M : Mem} {j1 : Nat} {nL : Nat} {rm : Room} {out : Mem} (hM : Cv l x y_TR_joinPartner (Cond.code y_TR_joinPartner b_TR_joinPartner 8 none :: tb) rm [.ref (x.2.1 13), .ref (x.2.1 j1), .ref (x.2.1 5), .ref (x.2.1 12)] M out) (hx : p.tables.exec = Jvm.exec) (hb : c.code = cc) (hml : c.maxLocals = nL) (hts : Tb args s) (hown : s.vm.findClass R_TR = some m.cls) (hK : va_K x.1 vwCl (tysx x) s) (hZ : Stc x s s.heap) (hP : va_P x.1 vwCl (wld x M) H) (hS : va_S (A0 x) s.heap H locs) (hsz : ls.size = nL) (hre : (rest.map fun v => v.category).sum ≤ 8) (hfr : rm.frames + 1 ≤ R.frames) (hlo : 8 + (8 + 11) + rm.locals ≤ R.locals) (hcs : rm.cells = 0 ∧ rm.slots = 0 ∧ cells ≤ R.cells ∧ slots ≤ R.slots) (hdg : decode cc pc = .ok (.invokevirtual 75, 3)) (kk : ∀ (H1 : Heap) (locs1 : List Loc), va_P x.1 vwCl (wld x out) H1 → va_S (A0 x) s.heap H1 locs1 → W p l e R s m args below meth c H1 locs1 cells slots Q (F0 m (pc + 3) ls (rest))) : W p l e R s m args below meth c H locs cells slots Q (F0 m pc ls (.ref (x.2.1 12) :: .ref (x.2.1 5) :: .ref (x.2.1 j1) :: .ref (x.2.1 13) :: rest)) :=
  m_cv (va_runV (As := [.ref (x.2.1 j1), .ref (x.2.1 5), .ref (x.2.1 12)]) (rest := rest) ⟨hx, hb, hml, hown, hts.1⟩ hM (⟨callB_of 3 hts.1 (tb_good q_286) rfl hcs.1 hcs.2.1 (hts.1 _ q_196) (hts.1 _ q_287) ⟨by decide, by decide, by decide +kernel⟩ ⟨hfr, hlo⟩, hts.1 _ q_288, hts.1 _ q_289⟩) ⟨blind, va_recv hK hP (ci := 9) rfl (wld_at (by decide) rfl), m_pre hts hK hZ hP hS⟩ rfl rfl hsz rfl (lv_room hre) hdg ⟨hcs.2.2.1, hcs.2.2.2⟩) hS kk
theorem cl_TR_71 {p : Program} {l : Launch} {e : Env} {R : Room} {s : State} {m : MethodId} {args : Array Value} {below : List Frame} {meth : Method} {c : Code} {H : Heap} {locs : List Loc} {cells slots : Nat} {Q : State → Prop} {cc : ByteArray} {pc : Nat} {ls : Array Slot} {rest : List Value} {x : Cx} {M : Mem} {j1 : Nat} {nL : Nat} {rm : Room} {out : Mem} (hM : Cv l x y_TR_changeByDraws (Cond.code y_TR_changeByDraws b_TR_changeByDraws 5 none :: tb) rm [.ref (x.2.1 j1), .ref (x.2.1 12)] M out) (hx : p.tables.exec = Jvm.exec) (hb : c.code = cc) (hml : c.maxLocals = nL) (hts : Tb args s) (hown : s.vm.findClass R_TR = some m.cls) (hK : va_K x.1 vwCl (tysx x) s) (hZ : Stc x s s.heap) (hP : va_P x.1 vwCl (wld x M) H) (hS : va_S (A0 x) s.heap H locs) (hsz : ls.size = nL) (hre : (rest.map fun v => v.category).sum ≤ 8) (hfr : rm.frames + 1 ≤ R.frames) (hlo : 8 + (5 + 11) + rm.locals ≤ R.locals) (hcs : rm.cells = 0 ∧ rm.slots = 0 ∧ cells ≤ R.cells ∧ slots ≤ R.slots) (hdg : decode cc pc = .ok (.invokestatic 71, 3)) (kk : ∀ (H1 : Heap) (locs1 : List Loc), va_P x.1 vwCl (wld x out) H1 → va_S (A0 x) s.heap H1 locs1 → W p l e R s m args below meth c H1 locs1 cells slots Q (F0 m (pc + 3) ls (rest))) : W p l e R s m args below meth c H locs cells slots Q (F0 m pc ls (.ref (x.2.1 12) :: .ref (x.2.1 j1) :: rest)) :=
  m_cv (va_runS (As := [.ref (x.2.1 j1), .ref (x.2.1 12)]) (rest := rest) ⟨hx, hb, hml, hown, hts.1⟩ hM (⟨callB_of 2 hts.1 (tb_good q_290) rfl hcs.1 hcs.2.1 (hts.1 _ q_196) (hts.1 _ q_291) ⟨by decide, by decide, by decide +kernel⟩ ⟨hfr, hlo⟩, hts.1 _ q_292⟩) ⟨blind, m_pre hts hK hZ hP hS⟩ rfl rfl hsz rfl (lv_room hre) hdg ⟨hcs.2.2.1, hcs.2.2.2⟩) hS kk
theorem cl_TR_99 {p : Program} {l : Launch} {e : Env} {R : Room} {s : State} {m : MethodId} {args : Array Value} {below : List Frame} {meth : Method} {c : Code} {H : Heap} {locs : List Loc} {cells slots : Nat} {Q : State → Prop} {cc : ByteArray} {pc : Nat} {ls : Array Slot} {rest : List Value} {x : Cx} {M : Mem} {a1 : Int32} {nL : Nat} {rm : Room} {out : Int32 × Mem} (hM : Ci l x y_ST_behind (Cond.code y_ST_behind b_ST_behind 2 (some .int) :: tb) rm [.ref (x.2.1 5), .int a1] M out) (hx : p.tables.exec = Jvm.exec) (hb : c.code = cc) (hml : c.maxLocals = nL) (hts : Tb args s) (hown : s.vm.findClass R_TR = some m.cls) (hK : va_K x.1 vwCl (tysx x) s) (hZ : Stc x s s.heap) (hP : va_P x.1 vwCl (wld x M) H) (hS : va_S (A0 x) s.heap H locs) (hsz : ls.size = nL) (hre : (rest.map fun v => v.category).sum ≤ 8) (hfr : rm.frames + 1 ≤ R.frames) (hlo : 8 + (2 + 11) + rm.locals ≤ R.locals) (hcs : rm.cells = 0 ∧ rm.slots = 0 ∧ cells ≤ R.cells ∧ slots ≤ R.slots) (hdg : decode cc pc = .ok (.invokevirtual 99, 3)) (kk : ∀ (H1 : Heap) (locs1 : List Loc), va_P x.1 vwCl (wld x out.2) H1 → va_S (A0 x) s.heap H1 locs1 → W p l e R s m args below meth c H1 locs1 cells slots Q (F0 m (pc + 3) ls (.int out.1 :: rest))) : W p l e R s m args below meth c H locs cells slots Q (F0 m pc ls (.int a1 :: .ref (x.2.1 5) :: rest)) :=
  m_ci (va_runV (As := [.int a1]) (rest := rest) ⟨hx, hb, hml, hown, hts.1⟩ hM (⟨callB_of 1 hts.1 (tb_good q_295) rfl hcs.1 hcs.2.1 (hts.1 _ q_117) (hts.1 _ q_296) ⟨by decide, by decide, by decide +kernel⟩ ⟨hfr, hlo⟩, hts.1 _ q_297, hts.1 _ q_298⟩) ⟨blind, va_recv hK hP (ci := 8) rfl (wld_at (by decide) rfl), m_pre hts hK hZ hP hS⟩ rfl rfl hsz rfl (lv_room hre) hdg ⟨hcs.2.2.1, hcs.2.2.2⟩) hS kk
theorem pf_TR_80 {p : Program} {l : Launch} {e : Env} {R : Room} {s : State} {m : MethodId} {args : Array Value} {below : List Frame} {meth : Method} {c : Code} {H H0 : Heap} {locs : List Loc} {cells slots : Nat} {Q : State → Prop} {cc : ByteArray} {pc : Nat} {ls : Array Slot} {rest : List Value} {x : Cx} {M M1 : Mem} {j : Nat} {v : Int32} (hexec : p.tables.exec = Jvm.exec) (hb : c.code = cc) (hts : Tb args s) (hown : s.vm.findClass R_TR = some m.cls) (hK : va_K x.1 vwCl (tysx x) s) (hJ : Inj x) (hP : va_P x.1 vwCl (wld x M) H) (hS : va_S (A0 x) H0 H locs) (k : kd_en j) (hM : M1 = st M j 3 v) (hdg : decode cc pc = .ok (.putfield 80, 3)) (kk : ∀ (H1 : Heap) (locs1 : List Loc), va_P x.1 vwCl (wld x M1) H1 → va_S (A0 x) H0 H1 locs1 → W p l e R s m args below meth c H1 locs1 cells slots Q (F0 m (pc + 3) ls rest)) : W p l e R s m args below meth c H locs cells slots Q (F0 m pc ls (.int v :: .ref (x.2.1 j) :: rest)) :=
  m_putN (ref := "EdgeCampaign$Entry") (C := R_EN) (T := T_EN) (N := 4) (ci := 0) hexec hb hts in_EN t_EN ty_EN nm_EN hown hK hJ hP hS (lt_EN k) (ly_EN k) rfl 3 (by decide) (nf_20) rfl rfl (by decide +kernel) (Nat.le_of_ble_eq_true rfl) (by rw [ly_EN k]; rfl) hM hdg kk
theorem cl_TR_83 {p : Program} {l : Launch} {e : Env} {R : Room} {s : State} {m : MethodId} {args : Array Value} {below : List Frame} {meth : Method} {c : Code} {H : Heap} {locs : List Loc} {cells slots : Nat} {Q : State → Prop} {cc : ByteArray} {pc : Nat} {ls : Array Slot} {rest : List Value} {x : Cx} {M : Mem}  {nL : Nat} {rm : Room} {out : Int32 × Mem} (hM : Ci l x y_TR_next (Cond.code y_TR_next b_TR_next 4 (some .int) :: tb) rm [.ref (x.2.1 13), .ref (x.2.1 5)] M out) (hx : p.tables.exec = Jvm.exec) (hb : c.code = cc) (hml : c.maxLocals = nL) (hts : Tb args s) (hown : s.vm.findClass R_TR = some m.cls) (hK : va_K x.1 vwCl (tysx x) s) (hZ : Stc x s s.heap) (hP : va_P x.1 vwCl (wld x M) H) (hS : va_S (A0 x) s.heap H locs) (hsz : ls.size = nL) (hre : (rest.map fun v => v.category).sum ≤ 8) (hfr : rm.frames + 1 ≤ R.frames) (hlo : 8 + (4 + 11) + rm.locals ≤ R.locals) (hcs : rm.cells = 0 ∧ rm.slots = 0 ∧ cells ≤ R.cells ∧ slots ≤ R.slots) (hdg : decode cc pc = .ok (.invokevirtual 83, 3)) (kk : ∀ (H1 : Heap) (locs1 : List Loc), va_P x.1 vwCl (wld x out.2) H1 → va_S (A0 x) s.heap H1 locs1 → W p l e R s m args below meth c H1 locs1 cells slots Q (F0 m (pc + 3) ls (.int out.1 :: rest))) : W p l e R s m args below meth c H locs cells slots Q (F0 m pc ls (.ref (x.2.1 5) :: .ref (x.2.1 13) :: rest)) :=
  m_ci (va_runV (As := [.ref (x.2.1 5)]) (rest := rest) ⟨hx, hb, hml, hown, hts.1⟩ hM (⟨callB_of 1 hts.1 (tb_good q_299) rfl hcs.1 hcs.2.1 (hts.1 _ q_196) (hts.1 _ q_300) ⟨by decide, by decide, by decide +kernel⟩ ⟨hfr, hlo⟩, hts.1 _ q_301, hts.1 _ q_302⟩) ⟨blind, va_recv hK hP (ci := 9) rfl (wld_at (by decide) rfl), m_pre hts hK hZ hP hS⟩ rfl rfl hsz rfl (lv_room hre) hdg ⟨hcs.2.2.1, hcs.2.2.2⟩) hS kk
theorem gf_EC_94 {p : Program} {l : Launch} {e : Env} {R : Room} {s : State} {m : MethodId} {args : Array Value} {below : List Frame} {meth : Method} {c : Code} {H : Heap} {locs : List Loc} {cells slots : Nat} {Q : State → Prop} {cc : ByteArray} {pc : Nat} {ls : Array Slot} {rest : List Value} {x : Cx} {M : Mem} (hexec : p.tables.exec = Jvm.exec) (hb : c.code = cc) (hts : Tb args s) (hown : s.vm.findClass R_EC = some m.cls) (hK : va_K x.1 vwCl (tysx x) s) (hP : va_P x.1 vwCl (wld x M) H) (hdg : decode cc pc = .ok (.getfield 94, 3)) (kk : W p l e R s m args below meth c H locs cells slots Q (F0 m (pc + 3) ls (.int (M 5 3) :: rest))) : W p l e R s m args below meth c H locs cells slots Q (F0 m pc ls (.ref (x.2.1 5) :: rest)) :=
  m_getN (ref := "EdgeCampaign$Store") (C := R_ST) (T := T_ST) (N := 7) (ci := 8) hexec hb hts in_ST hown hK hP (by decide) rfl rfl 3 (by decide) (nf_24) rfl rfl hdg kk
theorem gf_EC_23 {p : Program} {l : Launch} {e : Env} {R : Room} {s : State} {m : MethodId} {args : Array Value} {below : List Frame} {meth : Method} {c : Code} {H : Heap} {locs : List Loc} {cells slots : Nat} {Q : State → Prop} {cc : ByteArray} {pc : Nat} {ls : Array Slot} {rest : List Value} {x : Cx} {M : Mem} (hexec : p.tables.exec = Jvm.exec) (hb : c.code = cc) (hts : Tb args s) (hown : s.vm.findClass R_EC = some m.cls) (hK : va_K x.1 vwCl (tysx x) s) (hP : va_P x.1 vwCl (wld x M) H) (hdg : decode cc pc = .ok (.getfield 23, 3)) (kk : W p l e R s m args below meth c H locs cells slots Q (F0 m (pc + 3) ls (.ref (x.2.1 54) :: rest))) : W p l e R s m args below meth c H locs cells slots Q (F0 m pc ls (.ref (x.2.1 0) :: rest)) :=
  m_get (ref := "EdgeCampaign") (C := R_EC) (T := T_EC) (N := 12) (ci := 10) hexec hb hts in_EC hown hK hP (by decide) rfl rfl 2 (by decide) q_303 rfl rfl hdg kk
theorem gf_EC_59 {p : Program} {l : Launch} {e : Env} {R : Room} {s : State} {m : MethodId} {args : Array Value} {below : List Frame} {meth : Method} {c : Code} {H : Heap} {locs : List Loc} {cells slots : Nat} {Q : State → Prop} {cc : ByteArray} {pc : Nat} {ls : Array Slot} {rest : List Value} {x : Cx} {M : Mem} (hexec : p.tables.exec = Jvm.exec) (hb : c.code = cc) (hts : Tb args s) (hown : s.vm.findClass R_EC = some m.cls) (hK : va_K x.1 vwCl (tysx x) s) (hP : va_P x.1 vwCl (wld x M) H) (hdg : decode cc pc = .ok (.getfield 59, 3)) (kk : W p l e R s m args below meth c H locs cells slots Q (F0 m (pc + 3) ls (.ref (x.2.1 12) :: rest))) : W p l e R s m args below meth c H locs cells slots Q (F0 m pc ls (.ref (x.2.1 0) :: rest)) :=
  m_get (ref := "EdgeCampaign") (C := R_EC) (T := T_EC) (N := 12) (ci := 10) hexec hb hts in_EC hown hK hP (by decide) rfl rfl 7 (by decide) q_304 rfl rfl hdg kk
theorem cl_EC_97 {p : Program} {l : Launch} {e : Env} {R : Room} {s : State} {m : MethodId} {args : Array Value} {below : List Frame} {meth : Method} {c : Code} {H : Heap} {locs : List Loc} {cells slots : Nat} {Q : State → Prop} {cc : ByteArray} {pc : Nat} {ls : Array Slot} {rest : List Value} {x : Cx} {M : Mem} {j1 : Nat} {nL : Nat} {rm : Room} {out : Mem} (hM : Cv l x y_TR_change (Cond.code y_TR_change b_TR_change 8 none :: tb) rm [.ref (x.2.1 13), .ref (x.2.1 j1), .ref (x.2.1 5), .ref (x.2.1 12)] M out) (hx : p.tables.exec = Jvm.exec) (hb : c.code = cc) (hml : c.maxLocals = nL) (hts : Tb args s) (hown : s.vm.findClass R_EC = some m.cls) (hK : va_K x.1 vwCl (tysx x) s) (hZ : Stc x s s.heap) (hP : va_P x.1 vwCl (wld x M) H) (hS : va_S (A0 x) s.heap H locs) (hsz : ls.size = nL) (hre : (rest.map fun v => v.category).sum ≤ 8) (hfr : rm.frames + 1 ≤ R.frames) (hlo : 8 + (8 + 11) + rm.locals ≤ R.locals) (hcs : rm.cells = 0 ∧ rm.slots = 0 ∧ cells ≤ R.cells ∧ slots ≤ R.slots) (hdg : decode cc pc = .ok (.invokevirtual 97, 3)) (kk : ∀ (H1 : Heap) (locs1 : List Loc), va_P x.1 vwCl (wld x out) H1 → va_S (A0 x) s.heap H1 locs1 → W p l e R s m args below meth c H1 locs1 cells slots Q (F0 m (pc + 3) ls (rest))) : W p l e R s m args below meth c H locs cells slots Q (F0 m pc ls (.ref (x.2.1 12) :: .ref (x.2.1 5) :: .ref (x.2.1 j1) :: .ref (x.2.1 13) :: rest)) :=
  m_cv (va_runV (As := [.ref (x.2.1 j1), .ref (x.2.1 5), .ref (x.2.1 12)]) (rest := rest) ⟨hx, hb, hml, hown, hts.1⟩ hM (⟨callB_of 3 hts.1 (tb_good q_305) rfl hcs.1 hcs.2.1 (hts.1 _ q_196) (hts.1 _ q_306) ⟨by decide, by decide, by decide +kernel⟩ ⟨hfr, hlo⟩, hts.1 _ q_307, hts.1 _ q_308⟩) ⟨blind, va_recv hK hP (ci := 9) rfl (wld_at (by decide) rfl), m_pre hts hK hZ hP hS⟩ rfl rfl hsz rfl (lv_room hre) hdg ⟨hcs.2.2.1, hcs.2.2.2⟩) hS kk
theorem cl_EC_101 {p : Program} {l : Launch} {e : Env} {R : Room} {s : State} {m : MethodId} {args : Array Value} {below : List Frame} {meth : Method} {c : Code} {H : Heap} {locs : List Loc} {cells slots : Nat} {Q : State → Prop} {cc : ByteArray} {pc : Nat} {ls : Array Slot} {rest : List Value} {x : Cx} {M : Mem}  {nL : Nat} {rm : Room} {out : Mem} (hM : Cv l x y_TR_advance (Cond.code y_TR_advance b_TR_advance 3 none :: tb) rm [.ref (x.2.1 13), .ref (x.2.1 5)] M out) (hx : p.tables.exec = Jvm.exec) (hb : c.code = cc) (hml : c.maxLocals = nL) (hts : Tb args s) (hown : s.vm.findClass R_EC = some m.cls) (hK : va_K x.1 vwCl (tysx x) s) (hZ : Stc x s s.heap) (hP : va_P x.1 vwCl (wld x M) H) (hS : va_S (A0 x) s.heap H locs) (hsz : ls.size = nL) (hre : (rest.map fun v => v.category).sum ≤ 8) (hfr : rm.frames + 1 ≤ R.frames) (hlo : 8 + (3 + 11) + rm.locals ≤ R.locals) (hcs : rm.cells = 0 ∧ rm.slots = 0 ∧ cells ≤ R.cells ∧ slots ≤ R.slots) (hdg : decode cc pc = .ok (.invokevirtual 101, 3)) (kk : ∀ (H1 : Heap) (locs1 : List Loc), va_P x.1 vwCl (wld x out) H1 → va_S (A0 x) s.heap H1 locs1 → W p l e R s m args below meth c H1 locs1 cells slots Q (F0 m (pc + 3) ls (rest))) : W p l e R s m args below meth c H locs cells slots Q (F0 m pc ls (.ref (x.2.1 5) :: .ref (x.2.1 13) :: rest)) :=
  m_cv (va_runV (As := [.ref (x.2.1 5)]) (rest := rest) ⟨hx, hb, hml, hown, hts.1⟩ hM (⟨callB_of 1 hts.1 (tb_good q_309) rfl hcs.1 hcs.2.1 (hts.1 _ q_196) (hts.1 _ q_310) ⟨by decide, by decide, by decide +kernel⟩ ⟨hfr, hlo⟩, hts.1 _ q_311, hts.1 _ q_312⟩) ⟨blind, va_recv hK hP (ci := 9) rfl (wld_at (by decide) rfl), m_pre hts hK hZ hP hS⟩ rfl rfl hsz rfl (lv_room hre) hdg ⟨hcs.2.2.1, hcs.2.2.2⟩) hS kk
theorem gf_EC_105 {p : Program} {l : Launch} {e : Env} {R : Room} {s : State} {m : MethodId} {args : Array Value} {below : List Frame} {meth : Method} {c : Code} {H : Heap} {locs : List Loc} {cells slots : Nat} {Q : State → Prop} {cc : ByteArray} {pc : Nat} {ls : Array Slot} {rest : List Value} {x : Cx} {M : Mem} (hexec : p.tables.exec = Jvm.exec) (hb : c.code = cc) (hts : Tb args s) (hown : s.vm.findClass R_EC = some m.cls) (hK : va_K x.1 vwCl (tysx x) s) (hP : va_P x.1 vwCl (wld x M) H) (hdg : decode cc pc = .ok (.getfield 105, 3)) (kk : W p l e R s m args below meth c H locs cells slots Q (F0 m (pc + 3) ls (.int (M 9 1) :: rest))) : W p l e R s m args below meth c H locs cells slots Q (F0 m pc ls (.ref (x.2.1 9) :: rest)) :=
  m_getN (ref := "EdgeCampaign$Findings") (C := R_FS) (T := T_FS) (N := 2) (ci := 2) hexec hb hts in_FS hown hK hP (by decide) rfl rfl 1 (by decide) (nf_25) rfl rfl hdg kk
theorem gf_EC_106 {p : Program} {l : Launch} {e : Env} {R : Room} {s : State} {m : MethodId} {args : Array Value} {below : List Frame} {meth : Method} {c : Code} {H : Heap} {locs : List Loc} {cells slots : Nat} {Q : State → Prop} {cc : ByteArray} {pc : Nat} {ls : Array Slot} {rest : List Value} {x : Cx} {M : Mem} (hexec : p.tables.exec = Jvm.exec) (hb : c.code = cc) (hts : Tb args s) (hown : s.vm.findClass R_EC = some m.cls) (hK : va_K x.1 vwCl (tysx x) s) (hP : va_P x.1 vwCl (wld x M) H) (hdg : decode cc pc = .ok (.getfield 106, 3)) (kk : W p l e R s m args below meth c H locs cells slots Q (F0 m (pc + 3) ls (.int (M 5 5) :: rest))) : W p l e R s m args below meth c H locs cells slots Q (F0 m pc ls (.ref (x.2.1 5) :: rest)) :=
  m_getN (ref := "EdgeCampaign$Store") (C := R_ST) (T := T_ST) (N := 7) (ci := 8) hexec hb hts in_ST hown hK hP (by decide) rfl rfl 5 (by decide) (nf_26) rfl rfl hdg kk
theorem gf_EC_109 {p : Program} {l : Launch} {e : Env} {R : Room} {s : State} {m : MethodId} {args : Array Value} {below : List Frame} {meth : Method} {c : Code} {H : Heap} {locs : List Loc} {cells slots : Nat} {Q : State → Prop} {cc : ByteArray} {pc : Nat} {ls : Array Slot} {rest : List Value} {x : Cx} {M : Mem} (hexec : p.tables.exec = Jvm.exec) (hb : c.code = cc) (hts : Tb args s) (hown : s.vm.findClass R_EC = some m.cls) (hK : va_K x.1 vwCl (tysx x) s) (hP : va_P x.1 vwCl (wld x M) H) (hdg : decode cc pc = .ok (.getfield 109, 3)) (kk : W p l e R s m args below meth c H locs cells slots Q (F0 m (pc + 3) ls (.int (M 5 6) :: rest))) : W p l e R s m args below meth c H locs cells slots Q (F0 m pc ls (.ref (x.2.1 5) :: rest)) :=
  m_getN (ref := "EdgeCampaign$Store") (C := R_ST) (T := T_ST) (N := 7) (ci := 8) hexec hb hts in_ST hown hK hP (by decide) rfl rfl 6 (by decide) (nf_27) rfl rfl hdg kk
theorem cl_EC_112 {p : Program} {l : Launch} {e : Env} {R : Room} {s : State} {m : MethodId} {args : Array Value} {below : List Frame} {meth : Method} {c : Code} {H : Heap} {locs : List Loc} {cells slots : Nat} {Q : State → Prop} {cc : ByteArray} {pc : Nat} {ls : Array Slot} {rest : List Value} {x : Cx} {M : Mem} {a1 : Int32} {nL : Nat} {rm : Room} {out : Int32 × Mem} (hM : Ci l x y_ST_has (Cond.code y_ST_has b_ST_has 2 (some .boolean) :: tb) rm [.ref (x.2.1 5), .int a1] M out) (hx : p.tables.exec = Jvm.exec) (hb : c.code = cc) (hml : c.maxLocals = nL) (hts : Tb args s) (hown : s.vm.findClass R_EC = some m.cls) (hK : va_K x.1 vwCl (tysx x) s) (hZ : Stc x s s.heap) (hP : va_P x.1 vwCl (wld x M) H) (hS : va_S (A0 x) s.heap H locs) (hsz : ls.size = nL) (hre : (rest.map fun v => v.category).sum ≤ 8) (hfr : rm.frames + 1 ≤ R.frames) (hlo : 8 + (2 + 11) + rm.locals ≤ R.locals) (hcs : rm.cells = 0 ∧ rm.slots = 0 ∧ cells ≤ R.cells ∧ slots ≤ R.slots) (hdg : decode cc pc = .ok (.invokevirtual 112, 3)) (kk : ∀ (H1 : Heap) (locs1 : List Loc), va_P x.1 vwCl (wld x out.2) H1 → va_S (A0 x) s.heap H1 locs1 → W p l e R s m args below meth c H1 locs1 cells slots Q (F0 m (pc + 3) ls (.int out.1 :: rest))) : W p l e R s m args below meth c H locs cells slots Q (F0 m pc ls (.int a1 :: .ref (x.2.1 5) :: rest)) :=
  m_ci (va_runV (As := [.int a1]) (rest := rest) ⟨hx, hb, hml, hown, hts.1⟩ hM (⟨callB_of 1 hts.1 (tb_good q_198) rfl hcs.1 hcs.2.1 (hts.1 _ q_117) (hts.1 _ q_313) ⟨by decide, by decide, by decide +kernel⟩ ⟨hfr, hlo⟩, hts.1 _ q_200, hts.1 _ q_201⟩) ⟨blind, va_recv hK hP (ci := 8) rfl (wld_at (by decide) rfl), m_pre hts hK hZ hP hS⟩ rfl rfl hsz rfl (lv_room hre) hdg ⟨hcs.2.2.1, hcs.2.2.2⟩) hS kk
theorem gf_EC_115 {p : Program} {l : Launch} {e : Env} {R : Room} {s : State} {m : MethodId} {args : Array Value} {below : List Frame} {meth : Method} {c : Code} {H : Heap} {locs : List Loc} {cells slots : Nat} {Q : State → Prop} {cc : ByteArray} {pc : Nat} {ls : Array Slot} {rest : List Value} {x : Cx} {M : Mem} (hexec : p.tables.exec = Jvm.exec) (hb : c.code = cc) (hts : Tb args s) (hown : s.vm.findClass R_EC = some m.cls) (hK : va_K x.1 vwCl (tysx x) s) (hP : va_P x.1 vwCl (wld x M) H) (hdg : decode cc pc = .ok (.getfield 115, 3)) (kk : W p l e R s m args below meth c H locs cells slots Q (F0 m (pc + 3) ls (.ref (x.2.1 6) :: rest))) : W p l e R s m args below meth c H locs cells slots Q (F0 m pc ls (.ref (x.2.1 5) :: rest)) :=
  m_getN (ref := "EdgeCampaign$Store") (C := R_ST) (T := T_ST) (N := 7) (ci := 8) hexec hb hts in_ST hown hK hP (by decide) rfl rfl 0 (by decide) (nf_28) rfl rfl hdg kk
theorem gf_EC_119 {p : Program} {l : Launch} {e : Env} {R : Room} {s : State} {m : MethodId} {args : Array Value} {below : List Frame} {meth : Method} {c : Code} {H : Heap} {locs : List Loc} {cells slots : Nat} {Q : State → Prop} {cc : ByteArray} {pc : Nat} {ls : Array Slot} {rest : List Value} {x : Cx} {M : Mem} {j : Nat} (hexec : p.tables.exec = Jvm.exec) (hb : c.code = cc) (hts : Tb args s) (hown : s.vm.findClass R_EC = some m.cls) (hK : va_K x.1 vwCl (tysx x) s) (hP : va_P x.1 vwCl (wld x M) H) (k : kd_en j) (hdg : decode cc pc = .ok (.getfield 119, 3)) (kk : W p l e R s m args below meth c H locs cells slots Q (F0 m (pc + 3) ls (.ref (x.2.1 (2 * j - 186)) :: rest))) : W p l e R s m args below meth c H locs cells slots Q (F0 m pc ls (.ref (x.2.1 j) :: rest)) :=
  m_getN (ref := "EdgeCampaign$Entry") (C := R_EN) (T := T_EN) (N := 4) (ci := 0) hexec hb hts in_EN hown hK hP (lt_EN k) (ly_EN k) rfl 0 (by decide) (nf_29) rfl rfl hdg kk
theorem gf_EC_124 {p : Program} {l : Launch} {e : Env} {R : Room} {s : State} {m : MethodId} {args : Array Value} {below : List Frame} {meth : Method} {c : Code} {H : Heap} {locs : List Loc} {cells slots : Nat} {Q : State → Prop} {cc : ByteArray} {pc : Nat} {ls : Array Slot} {rest : List Value} {x : Cx} {M : Mem} {j : Nat} (hexec : p.tables.exec = Jvm.exec) (hb : c.code = cc) (hts : Tb args s) (hown : s.vm.findClass R_EC = some m.cls) (hK : va_K x.1 vwCl (tysx x) s) (hP : va_P x.1 vwCl (wld x M) H) (k : kd_in j) (hdg : decode cc pc = .ok (.getfield 124, 3)) (kk : W p l e R s m args below meth c H locs cells slots Q (F0 m (pc + 3) ls (.int (M j 1) :: rest))) : W p l e R s m args below meth c H locs cells slots Q (F0 m pc ls (.ref (x.2.1 j) :: rest)) :=
  m_getN (ref := "EdgeCampaign$Input") (C := R_IN) (T := T_IN) (N := 2) (ci := 4) hexec hb hts in_IN hown hK hP (lt_IN k) (ly_IN k) rfl 1 (by decide) (nf_30) rfl rfl hdg kk
theorem gf_EC_125 {p : Program} {l : Launch} {e : Env} {R : Room} {s : State} {m : MethodId} {args : Array Value} {below : List Frame} {meth : Method} {c : Code} {H : Heap} {locs : List Loc} {cells slots : Nat} {Q : State → Prop} {cc : ByteArray} {pc : Nat} {ls : Array Slot} {rest : List Value} {x : Cx} {M : Mem} {j : Nat} (hexec : p.tables.exec = Jvm.exec) (hb : c.code = cc) (hts : Tb args s) (hown : s.vm.findClass R_EC = some m.cls) (hK : va_K x.1 vwCl (tysx x) s) (hP : va_P x.1 vwCl (wld x M) H) (k : kd_en j) (hdg : decode cc pc = .ok (.getfield 125, 3)) (kk : W p l e R s m args below meth c H locs cells slots Q (F0 m (pc + 3) ls (.int (M j 1) :: rest))) : W p l e R s m args below meth c H locs cells slots Q (F0 m pc ls (.ref (x.2.1 j) :: rest)) :=
  m_getN (ref := "EdgeCampaign$Entry") (C := R_EN) (T := T_EN) (N := 4) (ci := 0) hexec hb hts in_EN hown hK hP (lt_EN k) (ly_EN k) rfl 1 (by decide) (nf_31) rfl rfl hdg kk
theorem gf_EC_128 {p : Program} {l : Launch} {e : Env} {R : Room} {s : State} {m : MethodId} {args : Array Value} {below : List Frame} {meth : Method} {c : Code} {H : Heap} {locs : List Loc} {cells slots : Nat} {Q : State → Prop} {cc : ByteArray} {pc : Nat} {ls : Array Slot} {rest : List Value} {x : Cx} {M : Mem} {j : Nat} (hexec : p.tables.exec = Jvm.exec) (hb : c.code = cc) (hts : Tb args s) (hown : s.vm.findClass R_EC = some m.cls) (hK : va_K x.1 vwCl (tysx x) s) (hP : va_P x.1 vwCl (wld x M) H) (k : kd_en j) (hdg : decode cc pc = .ok (.getfield 128, 3)) (kk : W p l e R s m args below meth c H locs cells slots Q (F0 m (pc + 3) ls (.int (M j 2) :: rest))) : W p l e R s m args below meth c H locs cells slots Q (F0 m pc ls (.ref (x.2.1 j) :: rest)) :=
  m_getN (ref := "EdgeCampaign$Entry") (C := R_EN) (T := T_EN) (N := 4) (ci := 0) hexec hb hts in_EN hown hK hP (lt_EN k) (ly_EN k) rfl 2 (by decide) (nf_32) rfl rfl hdg kk
theorem gf_EC_131 {p : Program} {l : Launch} {e : Env} {R : Room} {s : State} {m : MethodId} {args : Array Value} {below : List Frame} {meth : Method} {c : Code} {H : Heap} {locs : List Loc} {cells slots : Nat} {Q : State → Prop} {cc : ByteArray} {pc : Nat} {ls : Array Slot} {rest : List Value} {x : Cx} {M : Mem} {j : Nat} (hexec : p.tables.exec = Jvm.exec) (hb : c.code = cc) (hts : Tb args s) (hown : s.vm.findClass R_EC = some m.cls) (hK : va_K x.1 vwCl (tysx x) s) (hP : va_P x.1 vwCl (wld x M) H) (k : kd_en j) (hdg : decode cc pc = .ok (.getfield 131, 3)) (kk : W p l e R s m args below meth c H locs cells slots Q (F0 m (pc + 3) ls (.int (M j 3) :: rest))) : W p l e R s m args below meth c H locs cells slots Q (F0 m pc ls (.ref (x.2.1 j) :: rest)) :=
  m_getN (ref := "EdgeCampaign$Entry") (C := R_EN) (T := T_EN) (N := 4) (ci := 0) hexec hb hts in_EN hown hK hP (lt_EN k) (ly_EN k) rfl 3 (by decide) (nf_33) rfl rfl hdg kk
theorem cl_EC_134 {p : Program} {l : Launch} {e : Env} {R : Room} {s : State} {m : MethodId} {args : Array Value} {below : List Frame} {meth : Method} {c : Code} {H : Heap} {locs : List Loc} {cells slots : Nat} {Q : State → Prop} {cc : ByteArray} {pc : Nat} {ls : Array Slot} {rest : List Value} {x : Cx} {M : Mem} {a1 : Int32} {nL : Nat} {rm : Room} {out : Int32 × Mem} (hM : Ci l x y_ST_isFavoured (Cond.code y_ST_isFavoured b_ST_isFavoured 2 (some .boolean) :: tb) rm [.ref (x.2.1 5), .int a1] M out) (hx : p.tables.exec = Jvm.exec) (hb : c.code = cc) (hml : c.maxLocals = nL) (hts : Tb args s) (hown : s.vm.findClass R_EC = some m.cls) (hK : va_K x.1 vwCl (tysx x) s) (hZ : Stc x s s.heap) (hP : va_P x.1 vwCl (wld x M) H) (hS : va_S (A0 x) s.heap H locs) (hsz : ls.size = nL) (hre : (rest.map fun v => v.category).sum ≤ 8) (hfr : rm.frames + 1 ≤ R.frames) (hlo : 8 + (2 + 11) + rm.locals ≤ R.locals) (hcs : rm.cells = 0 ∧ rm.slots = 0 ∧ cells ≤ R.cells ∧ slots ≤ R.slots) (hdg : decode cc pc = .ok (.invokevirtual 134, 3)) (kk : ∀ (H1 : Heap) (locs1 : List Loc), va_P x.1 vwCl (wld x out.2) H1 → va_S (A0 x) s.heap H1 locs1 → W p l e R s m args below meth c H1 locs1 cells slots Q (F0 m (pc + 3) ls (.int out.1 :: rest))) : W p l e R s m args below meth c H locs cells slots Q (F0 m pc ls (.int a1 :: .ref (x.2.1 5) :: rest)) :=
  m_ci (va_runV (As := [.int a1]) (rest := rest) ⟨hx, hb, hml, hown, hts.1⟩ hM (⟨callB_of 1 hts.1 (tb_good q_188) rfl hcs.1 hcs.2.1 (hts.1 _ q_117) (hts.1 _ q_314) ⟨by decide, by decide, by decide +kernel⟩ ⟨hfr, hlo⟩, hts.1 _ q_190, hts.1 _ q_191⟩) ⟨blind, va_recv hK hP (ci := 8) rfl (wld_at (by decide) rfl), m_pre hts hK hZ hP hS⟩ rfl rfl hsz rfl (lv_room hre) hdg ⟨hcs.2.2.1, hcs.2.2.2⟩) hS kk
theorem cl_EC_137 {p : Program} {l : Launch} {e : Env} {R : Room} {s : State} {m : MethodId} {args : Array Value} {below : List Frame} {meth : Method} {c : Code} {H : Heap} {locs : List Loc} {cells slots : Nat} {Q : State → Prop} {cc : ByteArray} {pc : Nat} {ls : Array Slot} {rest : List Value} {x : Cx} {M : Mem} {j : Nat} {a1 : Int32} {nL : Nat} {rm : Room} {out : Int32 × Mem} (hM : Ci l x y_IN_at (Cond.code y_IN_at b_IN_at 2 (some .int) :: tb) rm [.ref (x.2.1 j), .int a1] M out) (k : kd_in j) (hx : p.tables.exec = Jvm.exec) (hb : c.code = cc) (hml : c.maxLocals = nL) (hts : Tb args s) (hown : s.vm.findClass R_EC = some m.cls) (hK : va_K x.1 vwCl (tysx x) s) (hZ : Stc x s s.heap) (hP : va_P x.1 vwCl (wld x M) H) (hS : va_S (A0 x) s.heap H locs) (hsz : ls.size = nL) (hre : (rest.map fun v => v.category).sum ≤ 8) (hfr : rm.frames + 1 ≤ R.frames) (hlo : 8 + (2 + 11) + rm.locals ≤ R.locals) (hcs : rm.cells = 0 ∧ rm.slots = 0 ∧ cells ≤ R.cells ∧ slots ≤ R.slots) (hdg : decode cc pc = .ok (.invokevirtual 137, 3)) (kk : ∀ (H1 : Heap) (locs1 : List Loc), va_P x.1 vwCl (wld x out.2) H1 → va_S (A0 x) s.heap H1 locs1 → W p l e R s m args below meth c H1 locs1 cells slots Q (F0 m (pc + 3) ls (.int out.1 :: rest))) : W p l e R s m args below meth c H locs cells slots Q (F0 m pc ls (.int a1 :: .ref (x.2.1 j) :: rest)) :=
  m_ci (va_runV (As := [.int a1]) (rest := rest) ⟨hx, hb, hml, hown, hts.1⟩ hM (⟨callB_of 1 hts.1 (tb_good q_55) rfl hcs.1 hcs.2.1 (hts.1 _ q_25) (hts.1 _ q_315) ⟨by decide, by decide, by decide +kernel⟩ ⟨hfr, hlo⟩, hts.1 _ q_57, hts.1 _ q_58⟩) ⟨blind, va_recv hK hP (ci := 4) rfl (wld_at (lt_IN k) (ly_IN k)), m_pre hts hK hZ hP hS⟩ rfl rfl hsz rfl (lv_room hre) hdg ⟨hcs.2.2.1, hcs.2.2.2⟩) hS kk
theorem cl_EC_141 {p : Program} {l : Launch} {e : Env} {R : Room} {s : State} {m : MethodId} {args : Array Value} {below : List Frame} {meth : Method} {c : Code} {H : Heap} {locs : List Loc} {cells slots : Nat} {Q : State → Prop} {cc : ByteArray} {pc : Nat} {ls : Array Slot} {rest : List Value} {x : Cx} {M : Mem} {a1 : Int32} {nL : Nat} {rm : Room} {out : Int32 × Mem} (hM : Ci l x y_PR_isPlace (Cond.code y_PR_isPlace b_PR_isPlace 1 (some .boolean) :: tb) rm [.int a1] M out) (hx : p.tables.exec = Jvm.exec) (hb : c.code = cc) (hml : c.maxLocals = nL) (hts : Tb args s) (hown : s.vm.findClass R_EC = some m.cls) (hK : va_K x.1 vwCl (tysx x) s) (hZ : Stc x s s.heap) (hP : va_P x.1 vwCl (wld x M) H) (hS : va_S (A0 x) s.heap H locs) (hsz : ls.size = nL) (hre : (rest.map fun v => v.category).sum ≤ 8) (hfr : rm.frames + 1 ≤ R.frames) (hlo : 8 + (1 + 11) + rm.locals ≤ R.locals) (hcs : rm.cells = 0 ∧ rm.slots = 0 ∧ cells ≤ R.cells ∧ slots ≤ R.slots) (hdg : decode cc pc = .ok (.invokestatic 141, 3)) (kk : ∀ (H1 : Heap) (locs1 : List Loc), va_P x.1 vwCl (wld x out.2) H1 → va_S (A0 x) s.heap H1 locs1 → W p l e R s m args below meth c H1 locs1 cells slots Q (F0 m (pc + 3) ls (.int out.1 :: rest))) : W p l e R s m args below meth c H locs cells slots Q (F0 m pc ls (.int a1 :: rest)) :=
  m_ci (va_runS (As := [.int a1]) (rest := rest) ⟨hx, hb, hml, hown, hts.1⟩ hM (⟨callB_of 1 hts.1 (tb_good q_0) rfl hcs.1 hcs.2.1 (hts.1 _ q_2) (hts.1 _ q_316) ⟨by decide, by decide, by decide +kernel⟩ ⟨hfr, hlo⟩, hts.1 _ q_3⟩) ⟨blind, m_pre hts hK hZ hP hS⟩ rfl rfl hsz rfl (lv_room hre) hdg ⟨hcs.2.2.1, hcs.2.2.2⟩) hS kk
theorem gf_EC_144 {p : Program} {l : Launch} {e : Env} {R : Room} {s : State} {m : MethodId} {args : Array Value} {below : List Frame} {meth : Method} {c : Code} {H : Heap} {locs : List Loc} {cells slots : Nat} {Q : State → Prop} {cc : ByteArray} {pc : Nat} {ls : Array Slot} {rest : List Value} {x : Cx} {M : Mem} (hexec : p.tables.exec = Jvm.exec) (hb : c.code = cc) (hts : Tb args s) (hown : s.vm.findClass R_EC = some m.cls) (hK : va_K x.1 vwCl (tysx x) s) (hP : va_P x.1 vwCl (wld x M) H) (hdg : decode cc pc = .ok (.getfield 144, 3)) (kk : W p l e R s m args below meth c H locs cells slots Q (F0 m (pc + 3) ls (.ref (x.2.1 7) :: rest))) : W p l e R s m args below meth c H locs cells slots Q (F0 m pc ls (.ref (x.2.1 5) :: rest)) :=
  m_getN (ref := "EdgeCampaign$Store") (C := R_ST) (T := T_ST) (N := 7) (ci := 8) hexec hb hts in_ST hown hK hP (by decide) rfl rfl 1 (by decide) (nf_34) rfl rfl hdg kk
theorem gf_EC_164 {p : Program} {l : Launch} {e : Env} {R : Room} {s : State} {m : MethodId} {args : Array Value} {below : List Frame} {meth : Method} {c : Code} {H : Heap} {locs : List Loc} {cells slots : Nat} {Q : State → Prop} {cc : ByteArray} {pc : Nat} {ls : Array Slot} {rest : List Value} {x : Cx} {M : Mem} {j : Nat} (hexec : p.tables.exec = Jvm.exec) (hb : c.code = cc) (hts : Tb args s) (hown : s.vm.findClass R_EC = some m.cls) (hK : va_K x.1 vwCl (tysx x) s) (hP : va_P x.1 vwCl (wld x M) H) (k : kd_fi j) (hdg : decode cc pc = .ok (.getfield 164, 3)) (kk : W p l e R s m args below meth c H locs cells slots Q (F0 m (pc + 3) ls (.ref (x.2.1 (j + 1)) :: rest))) : W p l e R s m args below meth c H locs cells slots Q (F0 m pc ls (.ref (x.2.1 j) :: rest)) :=
  m_getN (ref := "EdgeCampaign$Finding") (C := R_FI) (T := T_FI) (N := 7) (ci := 1) hexec hb hts in_FI hown hK hP (lt_FI k) (ly_FI k) rfl 2 (by decide) (nf_35) rfl rfl hdg kk
theorem cl_EC_148 {p : Program} {l : Launch} {e : Env} {R : Room} {s : State} {m : MethodId} {args : Array Value} {below : List Frame} {meth : Method} {c : Code} {H : Heap} {locs : List Loc} {cells slots : Nat} {Q : State → Prop} {cc : ByteArray} {pc : Nat} {ls : Array Slot} {rest : List Value} {x : Cx} {M : Mem} {a1 : Int32} {nL : Nat} {rm : Room} {out : Int32 × Mem} (hM : Ci l x y_FS_has (Cond.code y_FS_has b_FS_has 2 (some .boolean) :: tb) rm [.ref (x.2.1 9), .int a1] M out) (hx : p.tables.exec = Jvm.exec) (hb : c.code = cc) (hml : c.maxLocals = nL) (hts : Tb args s) (hown : s.vm.findClass R_EC = some m.cls) (hK : va_K x.1 vwCl (tysx x) s) (hZ : Stc x s s.heap) (hP : va_P x.1 vwCl (wld x M) H) (hS : va_S (A0 x) s.heap H locs) (hsz : ls.size = nL) (hre : (rest.map fun v => v.category).sum ≤ 8) (hfr : rm.frames + 1 ≤ R.frames) (hlo : 8 + (2 + 11) + rm.locals ≤ R.locals) (hcs : rm.cells = 0 ∧ rm.slots = 0 ∧ cells ≤ R.cells ∧ slots ≤ R.slots) (hdg : decode cc pc = .ok (.invokevirtual 148, 3)) (kk : ∀ (H1 : Heap) (locs1 : List Loc), va_P x.1 vwCl (wld x out.2) H1 → va_S (A0 x) s.heap H1 locs1 → W p l e R s m args below meth c H1 locs1 cells slots Q (F0 m (pc + 3) ls (.int out.1 :: rest))) : W p l e R s m args below meth c H locs cells slots Q (F0 m pc ls (.int a1 :: .ref (x.2.1 9) :: rest)) :=
  m_ci (va_runV (As := [.int a1]) (rest := rest) ⟨hx, hb, hml, hown, hts.1⟩ hM (⟨callB_of 1 hts.1 (tb_good q_317) rfl hcs.1 hcs.2.1 (hts.1 _ q_220) (hts.1 _ q_318) ⟨by decide, by decide, by decide +kernel⟩ ⟨hfr, hlo⟩, hts.1 _ q_319, hts.1 _ q_320⟩) ⟨blind, va_recv hK hP (ci := 2) rfl (wld_at (by decide) rfl), m_pre hts hK hZ hP hS⟩ rfl rfl hsz rfl (lv_room hre) hdg ⟨hcs.2.2.1, hcs.2.2.2⟩) hS kk
theorem gf_EC_149 {p : Program} {l : Launch} {e : Env} {R : Room} {s : State} {m : MethodId} {args : Array Value} {below : List Frame} {meth : Method} {c : Code} {H : Heap} {locs : List Loc} {cells slots : Nat} {Q : State → Prop} {cc : ByteArray} {pc : Nat} {ls : Array Slot} {rest : List Value} {x : Cx} {M : Mem} (hexec : p.tables.exec = Jvm.exec) (hb : c.code = cc) (hts : Tb args s) (hown : s.vm.findClass R_EC = some m.cls) (hK : va_K x.1 vwCl (tysx x) s) (hP : va_P x.1 vwCl (wld x M) H) (hdg : decode cc pc = .ok (.getfield 149, 3)) (kk : W p l e R s m args below meth c H locs cells slots Q (F0 m (pc + 3) ls (.ref (x.2.1 10) :: rest))) : W p l e R s m args below meth c H locs cells slots Q (F0 m pc ls (.ref (x.2.1 9) :: rest)) :=
  m_getN (ref := "EdgeCampaign$Findings") (C := R_FS) (T := T_FS) (N := 2) (ci := 2) hexec hb hts in_FS hown hK hP (by decide) rfl rfl 0 (by decide) (nf_36) rfl rfl hdg kk
theorem gf_EC_153 {p : Program} {l : Launch} {e : Env} {R : Room} {s : State} {m : MethodId} {args : Array Value} {below : List Frame} {meth : Method} {c : Code} {H : Heap} {locs : List Loc} {cells slots : Nat} {Q : State → Prop} {cc : ByteArray} {pc : Nat} {ls : Array Slot} {rest : List Value} {x : Cx} {M : Mem} {j : Nat} (hexec : p.tables.exec = Jvm.exec) (hb : c.code = cc) (hts : Tb args s) (hown : s.vm.findClass R_EC = some m.cls) (hK : va_K x.1 vwCl (tysx x) s) (hP : va_P x.1 vwCl (wld x M) H) (k : kd_fi j) (hdg : decode cc pc = .ok (.getfield 153, 3)) (kk : W p l e R s m args below meth c H locs cells slots Q (F0 m (pc + 3) ls (.int (M j 3) :: rest))) : W p l e R s m args below meth c H locs cells slots Q (F0 m pc ls (.ref (x.2.1 j) :: rest)) :=
  m_getN (ref := "EdgeCampaign$Finding") (C := R_FI) (T := T_FI) (N := 7) (ci := 1) hexec hb hts in_FI hown hK hP (lt_FI k) (ly_FI k) rfl 3 (by decide) (nf_37) rfl rfl hdg kk
theorem gf_EC_158 {p : Program} {l : Launch} {e : Env} {R : Room} {s : State} {m : MethodId} {args : Array Value} {below : List Frame} {meth : Method} {c : Code} {H : Heap} {locs : List Loc} {cells slots : Nat} {Q : State → Prop} {cc : ByteArray} {pc : Nat} {ls : Array Slot} {rest : List Value} {x : Cx} {M : Mem} {j : Nat} (hexec : p.tables.exec = Jvm.exec) (hb : c.code = cc) (hts : Tb args s) (hown : s.vm.findClass R_EC = some m.cls) (hK : va_K x.1 vwCl (tysx x) s) (hP : va_P x.1 vwCl (wld x M) H) (k : kd_fi j) (hdg : decode cc pc = .ok (.getfield 158, 3)) (kk : W p l e R s m args below meth c H locs cells slots Q (F0 m (pc + 3) ls (.int (M j 4) :: rest))) : W p l e R s m args below meth c H locs cells slots Q (F0 m pc ls (.ref (x.2.1 j) :: rest)) :=
  m_getN (ref := "EdgeCampaign$Finding") (C := R_FI) (T := T_FI) (N := 7) (ci := 1) hexec hb hts in_FI hown hK hP (lt_FI k) (ly_FI k) rfl 4 (by decide) (nf_38) rfl rfl hdg kk
theorem gf_EC_161 {p : Program} {l : Launch} {e : Env} {R : Room} {s : State} {m : MethodId} {args : Array Value} {below : List Frame} {meth : Method} {c : Code} {H : Heap} {locs : List Loc} {cells slots : Nat} {Q : State → Prop} {cc : ByteArray} {pc : Nat} {ls : Array Slot} {rest : List Value} {x : Cx} {M : Mem} {j : Nat} (hexec : p.tables.exec = Jvm.exec) (hb : c.code = cc) (hts : Tb args s) (hown : s.vm.findClass R_EC = some m.cls) (hK : va_K x.1 vwCl (tysx x) s) (hP : va_P x.1 vwCl (wld x M) H) (k : kd_fi j) (hdg : decode cc pc = .ok (.getfield 161, 3)) (kk : W p l e R s m args below meth c H locs cells slots Q (F0 m (pc + 3) ls (.int (M j 5) :: rest))) : W p l e R s m args below meth c H locs cells slots Q (F0 m pc ls (.ref (x.2.1 j) :: rest)) :=
  m_getN (ref := "EdgeCampaign$Finding") (C := R_FI) (T := T_FI) (N := 7) (ci := 1) hexec hb hts in_FI hown hK hP (lt_FI k) (ly_FI k) rfl 5 (by decide) (nf_39) rfl rfl hdg kk
theorem gf_EC_167 {p : Program} {l : Launch} {e : Env} {R : Room} {s : State} {m : MethodId} {args : Array Value} {below : List Frame} {meth : Method} {c : Code} {H : Heap} {locs : List Loc} {cells slots : Nat} {Q : State → Prop} {cc : ByteArray} {pc : Nat} {ls : Array Slot} {rest : List Value} {x : Cx} {M : Mem} {j : Nat} (hexec : p.tables.exec = Jvm.exec) (hb : c.code = cc) (hts : Tb args s) (hown : s.vm.findClass R_EC = some m.cls) (hK : va_K x.1 vwCl (tysx x) s) (hP : va_P x.1 vwCl (wld x M) H) (k : kd_fi j) (hdg : decode cc pc = .ok (.getfield 167, 3)) (kk : W p l e R s m args below meth c H locs cells slots Q (F0 m (pc + 3) ls (.int (M j 6) :: rest))) : W p l e R s m args below meth c H locs cells slots Q (F0 m pc ls (.ref (x.2.1 j) :: rest)) :=
  m_getN (ref := "EdgeCampaign$Finding") (C := R_FI) (T := T_FI) (N := 7) (ci := 1) hexec hb hts in_FI hown hK hP (lt_FI k) (ly_FI k) rfl 6 (by decide) (nf_40) rfl rfl hdg kk
theorem gf_EC_170 {p : Program} {l : Launch} {e : Env} {R : Room} {s : State} {m : MethodId} {args : Array Value} {below : List Frame} {meth : Method} {c : Code} {H : Heap} {locs : List Loc} {cells slots : Nat} {Q : State → Prop} {cc : ByteArray} {pc : Nat} {ls : Array Slot} {rest : List Value} {x : Cx} {M : Mem} {j : Nat} (hexec : p.tables.exec = Jvm.exec) (hb : c.code = cc) (hts : Tb args s) (hown : s.vm.findClass R_EC = some m.cls) (hK : va_K x.1 vwCl (tysx x) s) (hP : va_P x.1 vwCl (wld x M) H) (k : kd_fi j) (hdg : decode cc pc = .ok (.getfield 170, 3)) (kk : W p l e R s m args below meth c H locs cells slots Q (F0 m (pc + 3) ls (.ref (x.2.1 (2 * j - 186)) :: rest))) : W p l e R s m args below meth c H locs cells slots Q (F0 m pc ls (.ref (x.2.1 j) :: rest)) :=
  m_getN (ref := "EdgeCampaign$Finding") (C := R_FI) (T := T_FI) (N := 7) (ci := 1) hexec hb hts in_FI hown hK hP (lt_FI k) (ly_FI k) rfl 0 (by decide) (nf_41) rfl rfl hdg kk
theorem gf_EC_171 {p : Program} {l : Launch} {e : Env} {R : Room} {s : State} {m : MethodId} {args : Array Value} {below : List Frame} {meth : Method} {c : Code} {H : Heap} {locs : List Loc} {cells slots : Nat} {Q : State → Prop} {cc : ByteArray} {pc : Nat} {ls : Array Slot} {rest : List Value} {x : Cx} {M : Mem} {j : Nat} (hexec : p.tables.exec = Jvm.exec) (hb : c.code = cc) (hts : Tb args s) (hown : s.vm.findClass R_EC = some m.cls) (hK : va_K x.1 vwCl (tysx x) s) (hP : va_P x.1 vwCl (wld x M) H) (k : kd_fi j) (hdg : decode cc pc = .ok (.getfield 171, 3)) (kk : W p l e R s m args below meth c H locs cells slots Q (F0 m (pc + 3) ls (.ref (x.2.1 (2 * j - 184)) :: rest))) : W p l e R s m args below meth c H locs cells slots Q (F0 m pc ls (.ref (x.2.1 j) :: rest)) :=
  m_getN (ref := "EdgeCampaign$Finding") (C := R_FI) (T := T_FI) (N := 7) (ci := 1) hexec hb hts in_FI hown hK hP (lt_FI k) (ly_FI k) rfl 1 (by decide) (nf_42) rfl rfl hdg kk
theorem gf_EC_174 {p : Program} {l : Launch} {e : Env} {R : Room} {s : State} {m : MethodId} {args : Array Value} {below : List Frame} {meth : Method} {c : Code} {H : Heap} {locs : List Loc} {cells slots : Nat} {Q : State → Prop} {cc : ByteArray} {pc : Nat} {ls : Array Slot} {rest : List Value} {x : Cx} {M : Mem} (hexec : p.tables.exec = Jvm.exec) (hb : c.code = cc) (hts : Tb args s) (hown : s.vm.findClass R_EC = some m.cls) (hK : va_K x.1 vwCl (tysx x) s) (hP : va_P x.1 vwCl (wld x M) H) (hdg : decode cc pc = .ok (.getfield 174, 3)) (kk : W p l e R s m args below meth c H locs cells slots Q (F0 m (pc + 3) ls (.int (M 13 0) :: rest))) : W p l e R s m args below meth c H locs cells slots Q (F0 m pc ls (.ref (x.2.1 13) :: rest)) :=
  m_getN (ref := "EdgeCampaign$Trials") (C := R_TR) (T := T_TR) (N := 3) (ci := 9) hexec hb hts in_TR hown hK hP (by decide) rfl rfl 0 (by decide) (nf_43) rfl rfl hdg kk
theorem gf_EC_177 {p : Program} {l : Launch} {e : Env} {R : Room} {s : State} {m : MethodId} {args : Array Value} {below : List Frame} {meth : Method} {c : Code} {H : Heap} {locs : List Loc} {cells slots : Nat} {Q : State → Prop} {cc : ByteArray} {pc : Nat} {ls : Array Slot} {rest : List Value} {x : Cx} {M : Mem} (hexec : p.tables.exec = Jvm.exec) (hb : c.code = cc) (hts : Tb args s) (hown : s.vm.findClass R_EC = some m.cls) (hK : va_K x.1 vwCl (tysx x) s) (hP : va_P x.1 vwCl (wld x M) H) (hdg : decode cc pc = .ok (.getfield 177, 3)) (kk : W p l e R s m args below meth c H locs cells slots Q (F0 m (pc + 3) ls (.int (M 13 1) :: rest))) : W p l e R s m args below meth c H locs cells slots Q (F0 m pc ls (.ref (x.2.1 13) :: rest)) :=
  m_getN (ref := "EdgeCampaign$Trials") (C := R_TR) (T := T_TR) (N := 3) (ci := 9) hexec hb hts in_TR hown hK hP (by decide) rfl rfl 1 (by decide) (nf_44) rfl rfl hdg kk
theorem gf_EC_180 {p : Program} {l : Launch} {e : Env} {R : Room} {s : State} {m : MethodId} {args : Array Value} {below : List Frame} {meth : Method} {c : Code} {H : Heap} {locs : List Loc} {cells slots : Nat} {Q : State → Prop} {cc : ByteArray} {pc : Nat} {ls : Array Slot} {rest : List Value} {x : Cx} {M : Mem} (hexec : p.tables.exec = Jvm.exec) (hb : c.code = cc) (hts : Tb args s) (hown : s.vm.findClass R_EC = some m.cls) (hK : va_K x.1 vwCl (tysx x) s) (hP : va_P x.1 vwCl (wld x M) H) (hdg : decode cc pc = .ok (.getfield 180, 3)) (kk : W p l e R s m args below meth c H locs cells slots Q (F0 m (pc + 3) ls (.int (M 13 2) :: rest))) : W p l e R s m args below meth c H locs cells slots Q (F0 m pc ls (.ref (x.2.1 13) :: rest)) :=
  m_getN (ref := "EdgeCampaign$Trials") (C := R_TR) (T := T_TR) (N := 3) (ci := 9) hexec hb hts in_TR hown hK hP (by decide) rfl rfl 2 (by decide) (nf_45) rfl rfl hdg kk
theorem gf_EC_183 {p : Program} {l : Launch} {e : Env} {R : Room} {s : State} {m : MethodId} {args : Array Value} {below : List Frame} {meth : Method} {c : Code} {H : Heap} {locs : List Loc} {cells slots : Nat} {Q : State → Prop} {cc : ByteArray} {pc : Nat} {ls : Array Slot} {rest : List Value} {x : Cx} {M : Mem} (hexec : p.tables.exec = Jvm.exec) (hb : c.code = cc) (hts : Tb args s) (hown : s.vm.findClass R_EC = some m.cls) (hK : va_K x.1 vwCl (tysx x) s) (hP : va_P x.1 vwCl (wld x M) H) (hdg : decode cc pc = .ok (.getfield 183, 3)) (kk : W p l e R s m args below meth c H locs cells slots Q (F0 m (pc + 3) ls (.int (M 12 0) :: rest))) : W p l e R s m args below meth c H locs cells slots Q (F0 m pc ls (.ref (x.2.1 12) :: rest)) :=
  m_getN (ref := "EdgeCampaign$Generator") (C := R_GE) (T := T_GE) (N := 1) (ci := 3) hexec hb hts in_GE hown hK hP (by decide) rfl rfl 0 (by decide) (nf_46) rfl rfl hdg kk
theorem cl_MO_89 {p : Program} {l : Launch} {e : Env} {R : Room} {s : State} {m : MethodId} {args : Array Value} {below : List Frame} {meth : Method} {c : Code} {H : Heap} {locs : List Loc} {cells slots : Nat} {Q : State → Prop} {cc : ByteArray} {pc : Nat} {ls : Array Slot} {rest : List Value} {x : Cx} {M : Mem} {a1 : Int32} {a2 : Int32} {nL : Nat} {rm : Room} {out : Int32 × Mem} (hM : Ci l x y_MO_within (Cond.code y_MO_within b_MO_within 2 (some .boolean) :: tb) rm [.int a1, .int a2] M out) (hx : p.tables.exec = Jvm.exec) (hb : c.code = cc) (hml : c.maxLocals = nL) (hts : Tb args s) (hown : s.vm.findClass R_MO = some m.cls) (hK : va_K x.1 vwCl (tysx x) s) (hZ : Stc x s s.heap) (hP : va_P x.1 vwCl (wld x M) H) (hS : va_S (A0 x) s.heap H locs) (hsz : ls.size = nL) (hre : (rest.map fun v => v.category).sum ≤ 8) (hfr : rm.frames + 1 ≤ R.frames) (hlo : 8 + (2 + 11) + rm.locals ≤ R.locals) (hcs : rm.cells = 0 ∧ rm.slots = 0 ∧ cells ≤ R.cells ∧ slots ≤ R.slots) (hdg : decode cc pc = .ok (.invokestatic 89, 3)) (kk : ∀ (H1 : Heap) (locs1 : List Loc), va_P x.1 vwCl (wld x out.2) H1 → va_S (A0 x) s.heap H1 locs1 → W p l e R s m args below meth c H1 locs1 cells slots Q (F0 m (pc + 3) ls (.int out.1 :: rest))) : W p l e R s m args below meth c H locs cells slots Q (F0 m pc ls (.int a2 :: .int a1 :: rest)) :=
  m_ci (va_runS (As := [.int a1, .int a2]) (rest := rest) ⟨hx, hb, hml, hown, hts.1⟩ hM (⟨callB_of 2 hts.1 (tb_good q_321) rfl hcs.1 hcs.2.1 (hts.1 _ q_323) (hts.1 _ q_322) ⟨by decide, by decide, by decide +kernel⟩ ⟨hfr, hlo⟩, hts.1 _ q_324⟩) ⟨blind, m_pre hts hK hZ hP hS⟩ rfl rfl hsz rfl (lv_room hre) hdg ⟨hcs.2.2.1, hcs.2.2.2⟩) hS kk
theorem cl_MO_93 {p : Program} {l : Launch} {e : Env} {R : Room} {s : State} {m : MethodId} {args : Array Value} {below : List Frame} {meth : Method} {c : Code} {H : Heap} {locs : List Loc} {cells slots : Nat} {Q : State → Prop} {cc : ByteArray} {pc : Nat} {ls : Array Slot} {rest : List Value} {x : Cx} {M : Mem} {a1 : Int32} {a2 : Int32} {nL : Nat} {rm : Room} {out : Int32 × Mem} (hM : Ci l x y_MO_fits (Cond.code y_MO_fits b_MO_fits 2 (some .boolean) :: tb) rm [.int a1, .int a2] M out) (hx : p.tables.exec = Jvm.exec) (hb : c.code = cc) (hml : c.maxLocals = nL) (hts : Tb args s) (hown : s.vm.findClass R_MO = some m.cls) (hK : va_K x.1 vwCl (tysx x) s) (hZ : Stc x s s.heap) (hP : va_P x.1 vwCl (wld x M) H) (hS : va_S (A0 x) s.heap H locs) (hsz : ls.size = nL) (hre : (rest.map fun v => v.category).sum ≤ 8) (hfr : rm.frames + 1 ≤ R.frames) (hlo : 8 + (2 + 11) + rm.locals ≤ R.locals) (hcs : rm.cells = 0 ∧ rm.slots = 0 ∧ cells ≤ R.cells ∧ slots ≤ R.slots) (hdg : decode cc pc = .ok (.invokestatic 93, 3)) (kk : ∀ (H1 : Heap) (locs1 : List Loc), va_P x.1 vwCl (wld x out.2) H1 → va_S (A0 x) s.heap H1 locs1 → W p l e R s m args below meth c H1 locs1 cells slots Q (F0 m (pc + 3) ls (.int out.1 :: rest))) : W p l e R s m args below meth c H locs cells slots Q (F0 m pc ls (.int a2 :: .int a1 :: rest)) :=
  m_ci (va_runS (As := [.int a1, .int a2]) (rest := rest) ⟨hx, hb, hml, hown, hts.1⟩ hM (⟨callB_of 2 hts.1 (tb_good q_325) rfl hcs.1 hcs.2.1 (hts.1 _ q_323) (hts.1 _ q_326) ⟨by decide, by decide, by decide +kernel⟩ ⟨hfr, hlo⟩, hts.1 _ q_327⟩) ⟨blind, m_pre hts hK hZ hP hS⟩ rfl rfl hsz rfl (lv_room hre) hdg ⟨hcs.2.2.1, hcs.2.2.2⟩) hS kk
theorem gf_MO_96 {p : Program} {l : Launch} {e : Env} {R : Room} {s : State} {m : MethodId} {args : Array Value} {below : List Frame} {meth : Method} {c : Code} {H : Heap} {locs : List Loc} {cells slots : Nat} {Q : State → Prop} {cc : ByteArray} {pc : Nat} {ls : Array Slot} {rest : List Value} {x : Cx} {M : Mem} (hexec : p.tables.exec = Jvm.exec) (hb : c.code = cc) (hts : Tb args s) (hown : s.vm.findClass R_MO = some m.cls) (hK : va_K x.1 vwCl (tysx x) s) (hP : va_P x.1 vwCl (wld x M) H) (hdg : decode cc pc = .ok (.getfield 96, 3)) (kk : W p l e R s m args below meth c H locs cells slots Q (F0 m (pc + 3) ls (.int (M 26 0) :: rest))) : W p l e R s m args below meth c H locs cells slots Q (F0 m pc ls (.ref (x.2.1 26) :: rest)) :=
  m_get (ref := "EdgeCampaignModel") (C := R_MO) (T := T_MO) (N := 45) (ci := 11) hexec hb hts in_MO hown hK hP (by decide) rfl rfl 0 (by decide) q_328 rfl rfl hdg kk
theorem gf_MO_99 {p : Program} {l : Launch} {e : Env} {R : Room} {s : State} {m : MethodId} {args : Array Value} {below : List Frame} {meth : Method} {c : Code} {H : Heap} {locs : List Loc} {cells slots : Nat} {Q : State → Prop} {cc : ByteArray} {pc : Nat} {ls : Array Slot} {rest : List Value} {x : Cx} {M : Mem} (hexec : p.tables.exec = Jvm.exec) (hb : c.code = cc) (hts : Tb args s) (hown : s.vm.findClass R_MO = some m.cls) (hK : va_K x.1 vwCl (tysx x) s) (hP : va_P x.1 vwCl (wld x M) H) (hdg : decode cc pc = .ok (.getfield 99, 3)) (kk : W p l e R s m args below meth c H locs cells slots Q (F0 m (pc + 3) ls (.int (M 26 32) :: rest))) : W p l e R s m args below meth c H locs cells slots Q (F0 m pc ls (.ref (x.2.1 26) :: rest)) :=
  m_get (ref := "EdgeCampaignModel") (C := R_MO) (T := T_MO) (N := 45) (ci := 11) hexec hb hts in_MO hown hK hP (by decide) rfl rfl 32 (by decide) q_329 rfl rfl hdg kk
theorem gf_MO_7 {p : Program} {l : Launch} {e : Env} {R : Room} {s : State} {m : MethodId} {args : Array Value} {below : List Frame} {meth : Method} {c : Code} {H : Heap} {locs : List Loc} {cells slots : Nat} {Q : State → Prop} {cc : ByteArray} {pc : Nat} {ls : Array Slot} {rest : List Value} {x : Cx} {M : Mem} (hexec : p.tables.exec = Jvm.exec) (hb : c.code = cc) (hts : Tb args s) (hown : s.vm.findClass R_MO = some m.cls) (hK : va_K x.1 vwCl (tysx x) s) (hP : va_P x.1 vwCl (wld x M) H) (hdg : decode cc pc = .ok (.getfield 7, 3)) (kk : W p l e R s m args below meth c H locs cells slots Q (F0 m (pc + 3) ls (.ref (x.2.1 27) :: rest))) : W p l e R s m args below meth c H locs cells slots Q (F0 m pc ls (.ref (x.2.1 26) :: rest)) :=
  m_get (ref := "EdgeCampaignModel") (C := R_MO) (T := T_MO) (N := 45) (ci := 11) hexec hb hts in_MO hown hK hP (by decide) rfl rfl 1 (by decide) q_330 rfl rfl hdg kk
theorem gf_MO_13 {p : Program} {l : Launch} {e : Env} {R : Room} {s : State} {m : MethodId} {args : Array Value} {below : List Frame} {meth : Method} {c : Code} {H : Heap} {locs : List Loc} {cells slots : Nat} {Q : State → Prop} {cc : ByteArray} {pc : Nat} {ls : Array Slot} {rest : List Value} {x : Cx} {M : Mem} (hexec : p.tables.exec = Jvm.exec) (hb : c.code = cc) (hts : Tb args s) (hown : s.vm.findClass R_MO = some m.cls) (hK : va_K x.1 vwCl (tysx x) s) (hP : va_P x.1 vwCl (wld x M) H) (hdg : decode cc pc = .ok (.getfield 13, 3)) (kk : W p l e R s m args below meth c H locs cells slots Q (F0 m (pc + 3) ls (.ref (x.2.1 28) :: rest))) : W p l e R s m args below meth c H locs cells slots Q (F0 m pc ls (.ref (x.2.1 26) :: rest)) :=
  m_get (ref := "EdgeCampaignModel") (C := R_MO) (T := T_MO) (N := 45) (ci := 11) hexec hb hts in_MO hown hK hP (by decide) rfl rfl 2 (by decide) q_331 rfl rfl hdg kk
theorem gf_MO_16 {p : Program} {l : Launch} {e : Env} {R : Room} {s : State} {m : MethodId} {args : Array Value} {below : List Frame} {meth : Method} {c : Code} {H : Heap} {locs : List Loc} {cells slots : Nat} {Q : State → Prop} {cc : ByteArray} {pc : Nat} {ls : Array Slot} {rest : List Value} {x : Cx} {M : Mem} (hexec : p.tables.exec = Jvm.exec) (hb : c.code = cc) (hts : Tb args s) (hown : s.vm.findClass R_MO = some m.cls) (hK : va_K x.1 vwCl (tysx x) s) (hP : va_P x.1 vwCl (wld x M) H) (hdg : decode cc pc = .ok (.getfield 16, 3)) (kk : W p l e R s m args below meth c H locs cells slots Q (F0 m (pc + 3) ls (.ref (x.2.1 29) :: rest))) : W p l e R s m args below meth c H locs cells slots Q (F0 m pc ls (.ref (x.2.1 26) :: rest)) :=
  m_get (ref := "EdgeCampaignModel") (C := R_MO) (T := T_MO) (N := 45) (ci := 11) hexec hb hts in_MO hown hK hP (by decide) rfl rfl 3 (by decide) q_332 rfl rfl hdg kk
theorem pf_MO_96 {p : Program} {l : Launch} {e : Env} {R : Room} {s : State} {m : MethodId} {args : Array Value} {below : List Frame} {meth : Method} {c : Code} {H H0 : Heap} {locs : List Loc} {cells slots : Nat} {Q : State → Prop} {cc : ByteArray} {pc : Nat} {ls : Array Slot} {rest : List Value} {x : Cx} {M M1 : Mem} {v : Int32} (hexec : p.tables.exec = Jvm.exec) (hb : c.code = cc) (hts : Tb args s) (hown : s.vm.findClass R_MO = some m.cls) (hK : va_K x.1 vwCl (tysx x) s) (hJ : Inj x) (hP : va_P x.1 vwCl (wld x M) H) (hS : va_S (A0 x) H0 H locs) (hM : M1 = st M 26 0 v) (hdg : decode cc pc = .ok (.putfield 96, 3)) (kk : ∀ (H1 : Heap) (locs1 : List Loc), va_P x.1 vwCl (wld x M1) H1 → va_S (A0 x) H0 H1 locs1 → W p l e R s m args below meth c H1 locs1 cells slots Q (F0 m (pc + 3) ls rest)) : W p l e R s m args below meth c H locs cells slots Q (F0 m pc ls (.int v :: .ref (x.2.1 26) :: rest)) :=
  m_put (ref := "EdgeCampaignModel") (C := R_MO) (T := T_MO) (N := 45) (ci := 11) hexec hb hts in_MO t_MO ty_MO nm_MO hown hK hJ hP hS (by decide) rfl rfl 0 (by decide) q_328 rfl rfl (by decide +kernel) (Nat.le_of_ble_eq_true rfl) rfl hM hdg kk
theorem gf_MO_102 {p : Program} {l : Launch} {e : Env} {R : Room} {s : State} {m : MethodId} {args : Array Value} {below : List Frame} {meth : Method} {c : Code} {H : Heap} {locs : List Loc} {cells slots : Nat} {Q : State → Prop} {cc : ByteArray} {pc : Nat} {ls : Array Slot} {rest : List Value} {x : Cx} {M : Mem} (hexec : p.tables.exec = Jvm.exec) (hb : c.code = cc) (hts : Tb args s) (hown : s.vm.findClass R_MO = some m.cls) (hK : va_K x.1 vwCl (tysx x) s) (hP : va_P x.1 vwCl (wld x M) H) (hdg : decode cc pc = .ok (.getfield 102, 3)) (kk : W p l e R s m args below meth c H locs cells slots Q (F0 m (pc + 3) ls (.int (M 26 5) :: rest))) : W p l e R s m args below meth c H locs cells slots Q (F0 m pc ls (.ref (x.2.1 26) :: rest)) :=
  m_get (ref := "EdgeCampaignModel") (C := R_MO) (T := T_MO) (N := 45) (ci := 11) hexec hb hts in_MO hown hK hP (by decide) rfl rfl 5 (by decide) q_333 rfl rfl hdg kk
theorem gf_MO_19 {p : Program} {l : Launch} {e : Env} {R : Room} {s : State} {m : MethodId} {args : Array Value} {below : List Frame} {meth : Method} {c : Code} {H : Heap} {locs : List Loc} {cells slots : Nat} {Q : State → Prop} {cc : ByteArray} {pc : Nat} {ls : Array Slot} {rest : List Value} {x : Cx} {M : Mem} (hexec : p.tables.exec = Jvm.exec) (hb : c.code = cc) (hts : Tb args s) (hown : s.vm.findClass R_MO = some m.cls) (hK : va_K x.1 vwCl (tysx x) s) (hP : va_P x.1 vwCl (wld x M) H) (hdg : decode cc pc = .ok (.getfield 19, 3)) (kk : W p l e R s m args below meth c H locs cells slots Q (F0 m (pc + 3) ls (.ref (x.2.1 30) :: rest))) : W p l e R s m args below meth c H locs cells slots Q (F0 m pc ls (.ref (x.2.1 26) :: rest)) :=
  m_get (ref := "EdgeCampaignModel") (C := R_MO) (T := T_MO) (N := 45) (ci := 11) hexec hb hts in_MO hown hK hP (by decide) rfl rfl 4 (by decide) q_334 rfl rfl hdg kk
theorem pf_MO_102 {p : Program} {l : Launch} {e : Env} {R : Room} {s : State} {m : MethodId} {args : Array Value} {below : List Frame} {meth : Method} {c : Code} {H H0 : Heap} {locs : List Loc} {cells slots : Nat} {Q : State → Prop} {cc : ByteArray} {pc : Nat} {ls : Array Slot} {rest : List Value} {x : Cx} {M M1 : Mem} {v : Int32} (hexec : p.tables.exec = Jvm.exec) (hb : c.code = cc) (hts : Tb args s) (hown : s.vm.findClass R_MO = some m.cls) (hK : va_K x.1 vwCl (tysx x) s) (hJ : Inj x) (hP : va_P x.1 vwCl (wld x M) H) (hS : va_S (A0 x) H0 H locs) (hM : M1 = st M 26 5 v) (hdg : decode cc pc = .ok (.putfield 102, 3)) (kk : ∀ (H1 : Heap) (locs1 : List Loc), va_P x.1 vwCl (wld x M1) H1 → va_S (A0 x) H0 H1 locs1 → W p l e R s m args below meth c H1 locs1 cells slots Q (F0 m (pc + 3) ls rest)) : W p l e R s m args below meth c H locs cells slots Q (F0 m pc ls (.int v :: .ref (x.2.1 26) :: rest)) :=
  m_put (ref := "EdgeCampaignModel") (C := R_MO) (T := T_MO) (N := 45) (ci := 11) hexec hb hts in_MO t_MO ty_MO nm_MO hown hK hJ hP hS (by decide) rfl rfl 5 (by decide) q_333 rfl rfl (by decide +kernel) (Nat.le_of_ble_eq_true rfl) rfl hM hdg kk
theorem gf_MO_105 {p : Program} {l : Launch} {e : Env} {R : Room} {s : State} {m : MethodId} {args : Array Value} {below : List Frame} {meth : Method} {c : Code} {H : Heap} {locs : List Loc} {cells slots : Nat} {Q : State → Prop} {cc : ByteArray} {pc : Nat} {ls : Array Slot} {rest : List Value} {x : Cx} {M : Mem} (hexec : p.tables.exec = Jvm.exec) (hb : c.code = cc) (hts : Tb args s) (hown : s.vm.findClass R_MO = some m.cls) (hK : va_K x.1 vwCl (tysx x) s) (hP : va_P x.1 vwCl (wld x M) H) (hdg : decode cc pc = .ok (.getfield 105, 3)) (kk : W p l e R s m args below meth c H locs cells slots Q (F0 m (pc + 3) ls (.int (M 26 12) :: rest))) : W p l e R s m args below meth c H locs cells slots Q (F0 m pc ls (.ref (x.2.1 26) :: rest)) :=
  m_get (ref := "EdgeCampaignModel") (C := R_MO) (T := T_MO) (N := 45) (ci := 11) hexec hb hts in_MO hown hK hP (by decide) rfl rfl 12 (by decide) q_335 rfl rfl hdg kk
theorem pf_MO_105 {p : Program} {l : Launch} {e : Env} {R : Room} {s : State} {m : MethodId} {args : Array Value} {below : List Frame} {meth : Method} {c : Code} {H H0 : Heap} {locs : List Loc} {cells slots : Nat} {Q : State → Prop} {cc : ByteArray} {pc : Nat} {ls : Array Slot} {rest : List Value} {x : Cx} {M M1 : Mem} {v : Int32} (hexec : p.tables.exec = Jvm.exec) (hb : c.code = cc) (hts : Tb args s) (hown : s.vm.findClass R_MO = some m.cls) (hK : va_K x.1 vwCl (tysx x) s) (hJ : Inj x) (hP : va_P x.1 vwCl (wld x M) H) (hS : va_S (A0 x) H0 H locs) (hM : M1 = st M 26 12 v) (hdg : decode cc pc = .ok (.putfield 105, 3)) (kk : ∀ (H1 : Heap) (locs1 : List Loc), va_P x.1 vwCl (wld x M1) H1 → va_S (A0 x) H0 H1 locs1 → W p l e R s m args below meth c H1 locs1 cells slots Q (F0 m (pc + 3) ls rest)) : W p l e R s m args below meth c H locs cells slots Q (F0 m pc ls (.int v :: .ref (x.2.1 26) :: rest)) :=
  m_put (ref := "EdgeCampaignModel") (C := R_MO) (T := T_MO) (N := 45) (ci := 11) hexec hb hts in_MO t_MO ty_MO nm_MO hown hK hJ hP hS (by decide) rfl rfl 12 (by decide) q_335 rfl rfl (by decide +kernel) (Nat.le_of_ble_eq_true rfl) rfl hM hdg kk
theorem gf_MO_31 {p : Program} {l : Launch} {e : Env} {R : Room} {s : State} {m : MethodId} {args : Array Value} {below : List Frame} {meth : Method} {c : Code} {H : Heap} {locs : List Loc} {cells slots : Nat} {Q : State → Prop} {cc : ByteArray} {pc : Nat} {ls : Array Slot} {rest : List Value} {x : Cx} {M : Mem} (hexec : p.tables.exec = Jvm.exec) (hb : c.code = cc) (hts : Tb args s) (hown : s.vm.findClass R_MO = some m.cls) (hK : va_K x.1 vwCl (tysx x) s) (hP : va_P x.1 vwCl (wld x M) H) (hdg : decode cc pc = .ok (.getfield 31, 3)) (kk : W p l e R s m args below meth c H locs cells slots Q (F0 m (pc + 3) ls (.ref (x.2.1 34) :: rest))) : W p l e R s m args below meth c H locs cells slots Q (F0 m pc ls (.ref (x.2.1 26) :: rest)) :=
  m_get (ref := "EdgeCampaignModel") (C := R_MO) (T := T_MO) (N := 45) (ci := 11) hexec hb hts in_MO hown hK hP (by decide) rfl rfl 11 (by decide) q_336 rfl rfl hdg kk
theorem pf_MO_108 {p : Program} {l : Launch} {e : Env} {R : Room} {s : State} {m : MethodId} {args : Array Value} {below : List Frame} {meth : Method} {c : Code} {H H0 : Heap} {locs : List Loc} {cells slots : Nat} {Q : State → Prop} {cc : ByteArray} {pc : Nat} {ls : Array Slot} {rest : List Value} {x : Cx} {M M1 : Mem} {v : Int32} (hexec : p.tables.exec = Jvm.exec) (hb : c.code = cc) (hts : Tb args s) (hown : s.vm.findClass R_MO = some m.cls) (hK : va_K x.1 vwCl (tysx x) s) (hJ : Inj x) (hP : va_P x.1 vwCl (wld x M) H) (hS : va_S (A0 x) H0 H locs) (hM : M1 = st M 26 13 v) (hdg : decode cc pc = .ok (.putfield 108, 3)) (kk : ∀ (H1 : Heap) (locs1 : List Loc), va_P x.1 vwCl (wld x M1) H1 → va_S (A0 x) H0 H1 locs1 → W p l e R s m args below meth c H1 locs1 cells slots Q (F0 m (pc + 3) ls rest)) : W p l e R s m args below meth c H locs cells slots Q (F0 m pc ls (.int v :: .ref (x.2.1 26) :: rest)) :=
  m_put (ref := "EdgeCampaignModel") (C := R_MO) (T := T_MO) (N := 45) (ci := 11) hexec hb hts in_MO t_MO ty_MO nm_MO hown hK hJ hP hS (by decide) rfl rfl 13 (by decide) q_337 rfl rfl (by decide +kernel) (Nat.le_of_ble_eq_true rfl) rfl hM hdg kk
theorem pf_MO_114 {p : Program} {l : Launch} {e : Env} {R : Room} {s : State} {m : MethodId} {args : Array Value} {below : List Frame} {meth : Method} {c : Code} {H H0 : Heap} {locs : List Loc} {cells slots : Nat} {Q : State → Prop} {cc : ByteArray} {pc : Nat} {ls : Array Slot} {rest : List Value} {x : Cx} {M M1 : Mem} {v : Int32} (hexec : p.tables.exec = Jvm.exec) (hb : c.code = cc) (hts : Tb args s) (hown : s.vm.findClass R_MO = some m.cls) (hK : va_K x.1 vwCl (tysx x) s) (hJ : Inj x) (hP : va_P x.1 vwCl (wld x M) H) (hS : va_S (A0 x) H0 H locs) (hM : M1 = st M 26 16 v) (hdg : decode cc pc = .ok (.putfield 114, 3)) (kk : ∀ (H1 : Heap) (locs1 : List Loc), va_P x.1 vwCl (wld x M1) H1 → va_S (A0 x) H0 H1 locs1 → W p l e R s m args below meth c H1 locs1 cells slots Q (F0 m (pc + 3) ls rest)) : W p l e R s m args below meth c H locs cells slots Q (F0 m pc ls (.int v :: .ref (x.2.1 26) :: rest)) :=
  m_put (ref := "EdgeCampaignModel") (C := R_MO) (T := T_MO) (N := 45) (ci := 11) hexec hb hts in_MO t_MO ty_MO nm_MO hown hK hJ hP hS (by decide) rfl rfl 16 (by decide) q_338 rfl rfl (by decide +kernel) (Nat.le_of_ble_eq_true rfl) rfl hM hdg kk
theorem gf_MO_120 {p : Program} {l : Launch} {e : Env} {R : Room} {s : State} {m : MethodId} {args : Array Value} {below : List Frame} {meth : Method} {c : Code} {H : Heap} {locs : List Loc} {cells slots : Nat} {Q : State → Prop} {cc : ByteArray} {pc : Nat} {ls : Array Slot} {rest : List Value} {x : Cx} {M : Mem} (hexec : p.tables.exec = Jvm.exec) (hb : c.code = cc) (hts : Tb args s) (hown : s.vm.findClass R_MO = some m.cls) (hK : va_K x.1 vwCl (tysx x) s) (hP : va_P x.1 vwCl (wld x M) H) (hdg : decode cc pc = .ok (.getfield 120, 3)) (kk : W p l e R s m args below meth c H locs cells slots Q (F0 m (pc + 3) ls (.int (M 26 14) :: rest))) : W p l e R s m args below meth c H locs cells slots Q (F0 m pc ls (.ref (x.2.1 26) :: rest)) :=
  m_get (ref := "EdgeCampaignModel") (C := R_MO) (T := T_MO) (N := 45) (ci := 11) hexec hb hts in_MO hown hK hP (by decide) rfl rfl 14 (by decide) q_339 rfl rfl hdg kk
theorem gf_MO_25 {p : Program} {l : Launch} {e : Env} {R : Room} {s : State} {m : MethodId} {args : Array Value} {below : List Frame} {meth : Method} {c : Code} {H : Heap} {locs : List Loc} {cells slots : Nat} {Q : State → Prop} {cc : ByteArray} {pc : Nat} {ls : Array Slot} {rest : List Value} {x : Cx} {M : Mem} (hexec : p.tables.exec = Jvm.exec) (hb : c.code = cc) (hts : Tb args s) (hown : s.vm.findClass R_MO = some m.cls) (hK : va_K x.1 vwCl (tysx x) s) (hP : va_P x.1 vwCl (wld x M) H) (hdg : decode cc pc = .ok (.getfield 25, 3)) (kk : W p l e R s m args below meth c H locs cells slots Q (F0 m (pc + 3) ls (.ref (x.2.1 32) :: rest))) : W p l e R s m args below meth c H locs cells slots Q (F0 m pc ls (.ref (x.2.1 26) :: rest)) :=
  m_get (ref := "EdgeCampaignModel") (C := R_MO) (T := T_MO) (N := 45) (ci := 11) hexec hb hts in_MO hown hK hP (by decide) rfl rfl 9 (by decide) q_340 rfl rfl hdg kk
theorem gf_MO_108 {p : Program} {l : Launch} {e : Env} {R : Room} {s : State} {m : MethodId} {args : Array Value} {below : List Frame} {meth : Method} {c : Code} {H : Heap} {locs : List Loc} {cells slots : Nat} {Q : State → Prop} {cc : ByteArray} {pc : Nat} {ls : Array Slot} {rest : List Value} {x : Cx} {M : Mem} (hexec : p.tables.exec = Jvm.exec) (hb : c.code = cc) (hts : Tb args s) (hown : s.vm.findClass R_MO = some m.cls) (hK : va_K x.1 vwCl (tysx x) s) (hP : va_P x.1 vwCl (wld x M) H) (hdg : decode cc pc = .ok (.getfield 108, 3)) (kk : W p l e R s m args below meth c H locs cells slots Q (F0 m (pc + 3) ls (.int (M 26 13) :: rest))) : W p l e R s m args below meth c H locs cells slots Q (F0 m pc ls (.ref (x.2.1 26) :: rest)) :=
  m_get (ref := "EdgeCampaignModel") (C := R_MO) (T := T_MO) (N := 45) (ci := 11) hexec hb hts in_MO hown hK hP (by decide) rfl rfl 13 (by decide) q_337 rfl rfl hdg kk
theorem gf_MO_28 {p : Program} {l : Launch} {e : Env} {R : Room} {s : State} {m : MethodId} {args : Array Value} {below : List Frame} {meth : Method} {c : Code} {H : Heap} {locs : List Loc} {cells slots : Nat} {Q : State → Prop} {cc : ByteArray} {pc : Nat} {ls : Array Slot} {rest : List Value} {x : Cx} {M : Mem} (hexec : p.tables.exec = Jvm.exec) (hb : c.code = cc) (hts : Tb args s) (hown : s.vm.findClass R_MO = some m.cls) (hK : va_K x.1 vwCl (tysx x) s) (hP : va_P x.1 vwCl (wld x M) H) (hdg : decode cc pc = .ok (.getfield 28, 3)) (kk : W p l e R s m args below meth c H locs cells slots Q (F0 m (pc + 3) ls (.ref (x.2.1 33) :: rest))) : W p l e R s m args below meth c H locs cells slots Q (F0 m pc ls (.ref (x.2.1 26) :: rest)) :=
  m_get (ref := "EdgeCampaignModel") (C := R_MO) (T := T_MO) (N := 45) (ci := 11) hexec hb hts in_MO hown hK hP (by decide) rfl rfl 10 (by decide) q_341 rfl rfl hdg kk
theorem cl_MO_133 {p : Program} {l : Launch} {e : Env} {R : Room} {s : State} {m : MethodId} {args : Array Value} {below : List Frame} {meth : Method} {c : Code} {H : Heap} {locs : List Loc} {cells slots : Nat} {Q : State → Prop} {cc : ByteArray} {pc : Nat} {ls : Array Slot} {rest : List Value} {x : Cx} {M : Mem} {a1 : Int32} {a2 : Int32} {a3 : Int32} {nL : Nat} {rm : Room} {out : Mem} (hM : Cv l x y_MO_word (Cond.code y_MO_word b_MO_word 4 none :: tb) rm [.ref (x.2.1 26), .int a1, .int a2, .int a3] M out) (hx : p.tables.exec = Jvm.exec) (hb : c.code = cc) (hml : c.maxLocals = nL) (hts : Tb args s) (hown : s.vm.findClass R_MO = some m.cls) (hK : va_K x.1 vwCl (tysx x) s) (hZ : Stc x s s.heap) (hP : va_P x.1 vwCl (wld x M) H) (hS : va_S (A0 x) s.heap H locs) (hsz : ls.size = nL) (hre : (rest.map fun v => v.category).sum ≤ 8) (hfr : rm.frames + 1 ≤ R.frames) (hlo : 8 + (4 + 11) + rm.locals ≤ R.locals) (hcs : rm.cells = 0 ∧ rm.slots = 0 ∧ cells ≤ R.cells ∧ slots ≤ R.slots) (hdg : decode cc pc = .ok (.invokevirtual 133, 3)) (kk : ∀ (H1 : Heap) (locs1 : List Loc), va_P x.1 vwCl (wld x out) H1 → va_S (A0 x) s.heap H1 locs1 → W p l e R s m args below meth c H1 locs1 cells slots Q (F0 m (pc + 3) ls (rest))) : W p l e R s m args below meth c H locs cells slots Q (F0 m pc ls (.int a3 :: .int a2 :: .int a1 :: .ref (x.2.1 26) :: rest)) :=
  m_cv (va_runV (As := [.int a1, .int a2, .int a3]) (rest := rest) ⟨hx, hb, hml, hown, hts.1⟩ hM (⟨callB_of 3 hts.1 (tb_good q_342) rfl hcs.1 hcs.2.1 (hts.1 _ q_323) (hts.1 _ q_343) ⟨by decide, by decide, by decide +kernel⟩ ⟨hfr, hlo⟩, hts.1 _ q_344, hts.1 _ q_345⟩) ⟨blind, va_recv hK hP (ci := 11) rfl (wld_at (by decide) rfl), m_pre hts hK hZ hP hS⟩ rfl rfl hsz rfl (lv_room hre) hdg ⟨hcs.2.2.1, hcs.2.2.2⟩) hS kk
theorem gf_MO_130 {p : Program} {l : Launch} {e : Env} {R : Room} {s : State} {m : MethodId} {args : Array Value} {below : List Frame} {meth : Method} {c : Code} {H : Heap} {locs : List Loc} {cells slots : Nat} {Q : State → Prop} {cc : ByteArray} {pc : Nat} {ls : Array Slot} {rest : List Value} {x : Cx} {M : Mem} (hexec : p.tables.exec = Jvm.exec) (hb : c.code = cc) (hts : Tb args s) (hown : s.vm.findClass R_MO = some m.cls) (hK : va_K x.1 vwCl (tysx x) s) (hP : va_P x.1 vwCl (wld x M) H) (hdg : decode cc pc = .ok (.getfield 130, 3)) (kk : W p l e R s m args below meth c H locs cells slots Q (F0 m (pc + 3) ls (.int (M 26 8) :: rest))) : W p l e R s m args below meth c H locs cells slots Q (F0 m pc ls (.ref (x.2.1 26) :: rest)) :=
  m_get (ref := "EdgeCampaignModel") (C := R_MO) (T := T_MO) (N := 45) (ci := 11) hexec hb hts in_MO hown hK hP (by decide) rfl rfl 8 (by decide) q_346 rfl rfl hdg kk
theorem gf_MO_22 {p : Program} {l : Launch} {e : Env} {R : Room} {s : State} {m : MethodId} {args : Array Value} {below : List Frame} {meth : Method} {c : Code} {H : Heap} {locs : List Loc} {cells slots : Nat} {Q : State → Prop} {cc : ByteArray} {pc : Nat} {ls : Array Slot} {rest : List Value} {x : Cx} {M : Mem} (hexec : p.tables.exec = Jvm.exec) (hb : c.code = cc) (hts : Tb args s) (hown : s.vm.findClass R_MO = some m.cls) (hK : va_K x.1 vwCl (tysx x) s) (hP : va_P x.1 vwCl (wld x M) H) (hdg : decode cc pc = .ok (.getfield 22, 3)) (kk : W p l e R s m args below meth c H locs cells slots Q (F0 m (pc + 3) ls (.ref (x.2.1 31) :: rest))) : W p l e R s m args below meth c H locs cells slots Q (F0 m pc ls (.ref (x.2.1 26) :: rest)) :=
  m_get (ref := "EdgeCampaignModel") (C := R_MO) (T := T_MO) (N := 45) (ci := 11) hexec hb hts in_MO hown hK hP (by decide) rfl rfl 7 (by decide) q_347 rfl rfl hdg kk
theorem gf_MO_114 {p : Program} {l : Launch} {e : Env} {R : Room} {s : State} {m : MethodId} {args : Array Value} {below : List Frame} {meth : Method} {c : Code} {H : Heap} {locs : List Loc} {cells slots : Nat} {Q : State → Prop} {cc : ByteArray} {pc : Nat} {ls : Array Slot} {rest : List Value} {x : Cx} {M : Mem} (hexec : p.tables.exec = Jvm.exec) (hb : c.code = cc) (hts : Tb args s) (hown : s.vm.findClass R_MO = some m.cls) (hK : va_K x.1 vwCl (tysx x) s) (hP : va_P x.1 vwCl (wld x M) H) (hdg : decode cc pc = .ok (.getfield 114, 3)) (kk : W p l e R s m args below meth c H locs cells slots Q (F0 m (pc + 3) ls (.int (M 26 16) :: rest))) : W p l e R s m args below meth c H locs cells slots Q (F0 m pc ls (.ref (x.2.1 26) :: rest)) :=
  m_get (ref := "EdgeCampaignModel") (C := R_MO) (T := T_MO) (N := 45) (ci := 11) hexec hb hts in_MO hown hK hP (by decide) rfl rfl 16 (by decide) q_338 rfl rfl hdg kk
theorem cl_MO_127 {p : Program} {l : Launch} {e : Env} {R : Room} {s : State} {m : MethodId} {args : Array Value} {below : List Frame} {meth : Method} {c : Code} {H : Heap} {locs : List Loc} {cells slots : Nat} {Q : State → Prop} {cc : ByteArray} {pc : Nat} {ls : Array Slot} {rest : List Value} {x : Cx} {M : Mem} {a1 : Int32} {a2 : Int32} {a3 : Int32} {nL : Nat} {rm : Room} {out : Mem} (hM : Cv l x y_MO_work (Cond.code y_MO_work b_MO_work 4 none :: tb) rm [.ref (x.2.1 26), .int a1, .int a2, .int a3] M out) (hx : p.tables.exec = Jvm.exec) (hb : c.code = cc) (hml : c.maxLocals = nL) (hts : Tb args s) (hown : s.vm.findClass R_MO = some m.cls) (hK : va_K x.1 vwCl (tysx x) s) (hZ : Stc x s s.heap) (hP : va_P x.1 vwCl (wld x M) H) (hS : va_S (A0 x) s.heap H locs) (hsz : ls.size = nL) (hre : (rest.map fun v => v.category).sum ≤ 8) (hfr : rm.frames + 1 ≤ R.frames) (hlo : 8 + (4 + 11) + rm.locals ≤ R.locals) (hcs : rm.cells = 0 ∧ rm.slots = 0 ∧ cells ≤ R.cells ∧ slots ≤ R.slots) (hdg : decode cc pc = .ok (.invokevirtual 127, 3)) (kk : ∀ (H1 : Heap) (locs1 : List Loc), va_P x.1 vwCl (wld x out) H1 → va_S (A0 x) s.heap H1 locs1 → W p l e R s m args below meth c H1 locs1 cells slots Q (F0 m (pc + 3) ls (rest))) : W p l e R s m args below meth c H locs cells slots Q (F0 m pc ls (.int a3 :: .int a2 :: .int a1 :: .ref (x.2.1 26) :: rest)) :=
  m_cv (va_runV (As := [.int a1, .int a2, .int a3]) (rest := rest) ⟨hx, hb, hml, hown, hts.1⟩ hM (⟨callB_of 3 hts.1 (tb_good q_348) rfl hcs.1 hcs.2.1 (hts.1 _ q_323) (hts.1 _ q_349) ⟨by decide, by decide, by decide +kernel⟩ ⟨hfr, hlo⟩, hts.1 _ q_350, hts.1 _ q_351⟩) ⟨blind, va_recv hK hP (ci := 11) rfl (wld_at (by decide) rfl), m_pre hts hK hZ hP hS⟩ rfl rfl hsz rfl (lv_room hre) hdg ⟨hcs.2.2.1, hcs.2.2.2⟩) hS kk
theorem pf_MO_120 {p : Program} {l : Launch} {e : Env} {R : Room} {s : State} {m : MethodId} {args : Array Value} {below : List Frame} {meth : Method} {c : Code} {H H0 : Heap} {locs : List Loc} {cells slots : Nat} {Q : State → Prop} {cc : ByteArray} {pc : Nat} {ls : Array Slot} {rest : List Value} {x : Cx} {M M1 : Mem} {v : Int32} (hexec : p.tables.exec = Jvm.exec) (hb : c.code = cc) (hts : Tb args s) (hown : s.vm.findClass R_MO = some m.cls) (hK : va_K x.1 vwCl (tysx x) s) (hJ : Inj x) (hP : va_P x.1 vwCl (wld x M) H) (hS : va_S (A0 x) H0 H locs) (hM : M1 = st M 26 14 v) (hdg : decode cc pc = .ok (.putfield 120, 3)) (kk : ∀ (H1 : Heap) (locs1 : List Loc), va_P x.1 vwCl (wld x M1) H1 → va_S (A0 x) H0 H1 locs1 → W p l e R s m args below meth c H1 locs1 cells slots Q (F0 m (pc + 3) ls rest)) : W p l e R s m args below meth c H locs cells slots Q (F0 m pc ls (.int v :: .ref (x.2.1 26) :: rest)) :=
  m_put (ref := "EdgeCampaignModel") (C := R_MO) (T := T_MO) (N := 45) (ci := 11) hexec hb hts in_MO t_MO ty_MO nm_MO hown hK hJ hP hS (by decide) rfl rfl 14 (by decide) q_339 rfl rfl (by decide +kernel) (Nat.le_of_ble_eq_true rfl) rfl hM hdg kk
theorem gf_MO_111 {p : Program} {l : Launch} {e : Env} {R : Room} {s : State} {m : MethodId} {args : Array Value} {below : List Frame} {meth : Method} {c : Code} {H : Heap} {locs : List Loc} {cells slots : Nat} {Q : State → Prop} {cc : ByteArray} {pc : Nat} {ls : Array Slot} {rest : List Value} {x : Cx} {M : Mem} (hexec : p.tables.exec = Jvm.exec) (hb : c.code = cc) (hts : Tb args s) (hown : s.vm.findClass R_MO = some m.cls) (hK : va_K x.1 vwCl (tysx x) s) (hP : va_P x.1 vwCl (wld x M) H) (hdg : decode cc pc = .ok (.getfield 111, 3)) (kk : W p l e R s m args below meth c H locs cells slots Q (F0 m (pc + 3) ls (.int (M 26 15) :: rest))) : W p l e R s m args below meth c H locs cells slots Q (F0 m pc ls (.ref (x.2.1 26) :: rest)) :=
  m_get (ref := "EdgeCampaignModel") (C := R_MO) (T := T_MO) (N := 45) (ci := 11) hexec hb hts in_MO hown hK hP (by decide) rfl rfl 15 (by decide) q_352 rfl rfl hdg kk
theorem pf_MO_111 {p : Program} {l : Launch} {e : Env} {R : Room} {s : State} {m : MethodId} {args : Array Value} {below : List Frame} {meth : Method} {c : Code} {H H0 : Heap} {locs : List Loc} {cells slots : Nat} {Q : State → Prop} {cc : ByteArray} {pc : Nat} {ls : Array Slot} {rest : List Value} {x : Cx} {M M1 : Mem} {v : Int32} (hexec : p.tables.exec = Jvm.exec) (hb : c.code = cc) (hts : Tb args s) (hown : s.vm.findClass R_MO = some m.cls) (hK : va_K x.1 vwCl (tysx x) s) (hJ : Inj x) (hP : va_P x.1 vwCl (wld x M) H) (hS : va_S (A0 x) H0 H locs) (hM : M1 = st M 26 15 v) (hdg : decode cc pc = .ok (.putfield 111, 3)) (kk : ∀ (H1 : Heap) (locs1 : List Loc), va_P x.1 vwCl (wld x M1) H1 → va_S (A0 x) H0 H1 locs1 → W p l e R s m args below meth c H1 locs1 cells slots Q (F0 m (pc + 3) ls rest)) : W p l e R s m args below meth c H locs cells slots Q (F0 m pc ls (.int v :: .ref (x.2.1 26) :: rest)) :=
  m_put (ref := "EdgeCampaignModel") (C := R_MO) (T := T_MO) (N := 45) (ci := 11) hexec hb hts in_MO t_MO ty_MO nm_MO hown hK hJ hP hS (by decide) rfl rfl 15 (by decide) q_352 rfl rfl (by decide +kernel) (Nat.le_of_ble_eq_true rfl) rfl hM hdg kk
theorem cl_MO_123 {p : Program} {l : Launch} {e : Env} {R : Room} {s : State} {m : MethodId} {args : Array Value} {below : List Frame} {meth : Method} {c : Code} {H : Heap} {locs : List Loc} {cells slots : Nat} {Q : State → Prop} {cc : ByteArray} {pc : Nat} {ls : Array Slot} {rest : List Value} {x : Cx} {M : Mem} {a1 : Int32} {a2 : Int32} {a3 : Int32} {nL : Nat} {rm : Room} {out : Mem} (hM : Cv l x y_MO_jump (Cond.code y_MO_jump b_MO_jump 4 none :: tb) rm [.ref (x.2.1 26), .int a1, .int a2, .int a3] M out) (hx : p.tables.exec = Jvm.exec) (hb : c.code = cc) (hml : c.maxLocals = nL) (hts : Tb args s) (hown : s.vm.findClass R_MO = some m.cls) (hK : va_K x.1 vwCl (tysx x) s) (hZ : Stc x s s.heap) (hP : va_P x.1 vwCl (wld x M) H) (hS : va_S (A0 x) s.heap H locs) (hsz : ls.size = nL) (hre : (rest.map fun v => v.category).sum ≤ 8) (hfr : rm.frames + 1 ≤ R.frames) (hlo : 8 + (4 + 11) + rm.locals ≤ R.locals) (hcs : rm.cells = 0 ∧ rm.slots = 0 ∧ cells ≤ R.cells ∧ slots ≤ R.slots) (hdg : decode cc pc = .ok (.invokevirtual 123, 3)) (kk : ∀ (H1 : Heap) (locs1 : List Loc), va_P x.1 vwCl (wld x out) H1 → va_S (A0 x) s.heap H1 locs1 → W p l e R s m args below meth c H1 locs1 cells slots Q (F0 m (pc + 3) ls (rest))) : W p l e R s m args below meth c H locs cells slots Q (F0 m pc ls (.int a3 :: .int a2 :: .int a1 :: .ref (x.2.1 26) :: rest)) :=
  m_cv (va_runV (As := [.int a1, .int a2, .int a3]) (rest := rest) ⟨hx, hb, hml, hown, hts.1⟩ hM (⟨callB_of 3 hts.1 (tb_good q_353) rfl hcs.1 hcs.2.1 (hts.1 _ q_323) (hts.1 _ q_354) ⟨by decide, by decide, by decide +kernel⟩ ⟨hfr, hlo⟩, hts.1 _ q_355, hts.1 _ q_356⟩) ⟨blind, va_recv hK hP (ci := 11) rfl (wld_at (by decide) rfl), m_pre hts hK hZ hP hS⟩ rfl rfl hsz rfl (lv_room hre) hdg ⟨hcs.2.2.1, hcs.2.2.2⟩) hS kk
theorem gf_MO_34 {p : Program} {l : Launch} {e : Env} {R : Room} {s : State} {m : MethodId} {args : Array Value} {below : List Frame} {meth : Method} {c : Code} {H : Heap} {locs : List Loc} {cells slots : Nat} {Q : State → Prop} {cc : ByteArray} {pc : Nat} {ls : Array Slot} {rest : List Value} {x : Cx} {M : Mem} (hexec : p.tables.exec = Jvm.exec) (hb : c.code = cc) (hts : Tb args s) (hown : s.vm.findClass R_MO = some m.cls) (hK : va_K x.1 vwCl (tysx x) s) (hP : va_P x.1 vwCl (wld x M) H) (hdg : decode cc pc = .ok (.getfield 34, 3)) (kk : W p l e R s m args below meth c H locs cells slots Q (F0 m (pc + 3) ls (.ref (x.2.1 35) :: rest))) : W p l e R s m args below meth c H locs cells slots Q (F0 m pc ls (.ref (x.2.1 26) :: rest)) :=
  m_get (ref := "EdgeCampaignModel") (C := R_MO) (T := T_MO) (N := 45) (ci := 11) hexec hb hts in_MO hown hK hP (by decide) rfl rfl 17 (by decide) q_357 rfl rfl hdg kk
theorem cl_MO_117 {p : Program} {l : Launch} {e : Env} {R : Room} {s : State} {m : MethodId} {args : Array Value} {below : List Frame} {meth : Method} {c : Code} {H : Heap} {locs : List Loc} {cells slots : Nat} {Q : State → Prop} {cc : ByteArray} {pc : Nat} {ls : Array Slot} {rest : List Value} {x : Cx} {M : Mem}  {nL : Nat} {rm : Room} {out : Mem} (hM : Cv l x y_MO_step (Cond.code y_MO_step b_MO_step 4 none :: tb) rm [.ref (x.2.1 26)] M out) (hx : p.tables.exec = Jvm.exec) (hb : c.code = cc) (hml : c.maxLocals = nL) (hts : Tb args s) (hown : s.vm.findClass R_MO = some m.cls) (hK : va_K x.1 vwCl (tysx x) s) (hZ : Stc x s s.heap) (hP : va_P x.1 vwCl (wld x M) H) (hS : va_S (A0 x) s.heap H locs) (hsz : ls.size = nL) (hre : (rest.map fun v => v.category).sum ≤ 8) (hfr : rm.frames + 1 ≤ R.frames) (hlo : 8 + (4 + 11) + rm.locals ≤ R.locals) (hcs : rm.cells = 0 ∧ rm.slots = 0 ∧ cells ≤ R.cells ∧ slots ≤ R.slots) (hdg : decode cc pc = .ok (.invokevirtual 117, 3)) (kk : ∀ (H1 : Heap) (locs1 : List Loc), va_P x.1 vwCl (wld x out) H1 → va_S (A0 x) s.heap H1 locs1 → W p l e R s m args below meth c H1 locs1 cells slots Q (F0 m (pc + 3) ls (rest))) : W p l e R s m args below meth c H locs cells slots Q (F0 m pc ls (.ref (x.2.1 26) :: rest)) :=
  m_cv (va_runV (As := []) (rest := rest) ⟨hx, hb, hml, hown, hts.1⟩ hM (⟨callB_of 0 hts.1 (tb_good q_358) rfl hcs.1 hcs.2.1 (hts.1 _ q_323) (hts.1 _ q_359) ⟨by decide, by decide, by decide +kernel⟩ ⟨hfr, hlo⟩, hts.1 _ q_360, hts.1 _ q_361⟩) ⟨blind, va_recv hK hP (ci := 11) rfl (wld_at (by decide) rfl), m_pre hts hK hZ hP hS⟩ rfl rfl hsz rfl (lv_room hre) hdg ⟨hcs.2.2.1, hcs.2.2.2⟩) hS kk
theorem cl_MO_136 {p : Program} {l : Launch} {e : Env} {R : Room} {s : State} {m : MethodId} {args : Array Value} {below : List Frame} {meth : Method} {c : Code} {H : Heap} {locs : List Loc} {cells slots : Nat} {Q : State → Prop} {cc : ByteArray} {pc : Nat} {ls : Array Slot} {rest : List Value} {x : Cx} {M : Mem}  {nL : Nat} {rm : Room} {out : Mem} (hM : Cv l x y_MO_run (Cond.code y_MO_run b_MO_run 2 none :: tb) rm [.ref (x.2.1 26)] M out) (hx : p.tables.exec = Jvm.exec) (hb : c.code = cc) (hml : c.maxLocals = nL) (hts : Tb args s) (hown : s.vm.findClass R_MO = some m.cls) (hK : va_K x.1 vwCl (tysx x) s) (hZ : Stc x s s.heap) (hP : va_P x.1 vwCl (wld x M) H) (hS : va_S (A0 x) s.heap H locs) (hsz : ls.size = nL) (hre : (rest.map fun v => v.category).sum ≤ 8) (hfr : rm.frames + 1 ≤ R.frames) (hlo : 8 + (2 + 11) + rm.locals ≤ R.locals) (hcs : rm.cells = 0 ∧ rm.slots = 0 ∧ cells ≤ R.cells ∧ slots ≤ R.slots) (hdg : decode cc pc = .ok (.invokevirtual 136, 3)) (kk : ∀ (H1 : Heap) (locs1 : List Loc), va_P x.1 vwCl (wld x out) H1 → va_S (A0 x) s.heap H1 locs1 → W p l e R s m args below meth c H1 locs1 cells slots Q (F0 m (pc + 3) ls (rest))) : W p l e R s m args below meth c H locs cells slots Q (F0 m pc ls (.ref (x.2.1 26) :: rest)) :=
  m_cv (va_runV (As := []) (rest := rest) ⟨hx, hb, hml, hown, hts.1⟩ hM (⟨callB_of 0 hts.1 (tb_good q_362) rfl hcs.1 hcs.2.1 (hts.1 _ q_323) (hts.1 _ q_363) ⟨by decide, by decide, by decide +kernel⟩ ⟨hfr, hlo⟩, hts.1 _ q_364, hts.1 _ q_365⟩) ⟨blind, va_recv hK hP (ci := 11) rfl (wld_at (by decide) rfl), m_pre hts hK hZ hP hS⟩ rfl rfl hsz rfl (lv_room hre) hdg ⟨hcs.2.2.1, hcs.2.2.2⟩) hS kk
theorem gf_MO_40 {p : Program} {l : Launch} {e : Env} {R : Room} {s : State} {m : MethodId} {args : Array Value} {below : List Frame} {meth : Method} {c : Code} {H : Heap} {locs : List Loc} {cells slots : Nat} {Q : State → Prop} {cc : ByteArray} {pc : Nat} {ls : Array Slot} {rest : List Value} {x : Cx} {M : Mem} (hexec : p.tables.exec = Jvm.exec) (hb : c.code = cc) (hts : Tb args s) (hown : s.vm.findClass R_MO = some m.cls) (hK : va_K x.1 vwCl (tysx x) s) (hP : va_P x.1 vwCl (wld x M) H) (hdg : decode cc pc = .ok (.getfield 40, 3)) (kk : W p l e R s m args below meth c H locs cells slots Q (F0 m (pc + 3) ls (.ref (x.2.1 37) :: rest))) : W p l e R s m args below meth c H locs cells slots Q (F0 m pc ls (.ref (x.2.1 26) :: rest)) :=
  m_get (ref := "EdgeCampaignModel") (C := R_MO) (T := T_MO) (N := 45) (ci := 11) hexec hb hts in_MO hown hK hP (by decide) rfl rfl 20 (by decide) q_366 rfl rfl hdg kk
theorem pf_MO_130 {p : Program} {l : Launch} {e : Env} {R : Room} {s : State} {m : MethodId} {args : Array Value} {below : List Frame} {meth : Method} {c : Code} {H H0 : Heap} {locs : List Loc} {cells slots : Nat} {Q : State → Prop} {cc : ByteArray} {pc : Nat} {ls : Array Slot} {rest : List Value} {x : Cx} {M M1 : Mem} {v : Int32} (hexec : p.tables.exec = Jvm.exec) (hb : c.code = cc) (hts : Tb args s) (hown : s.vm.findClass R_MO = some m.cls) (hK : va_K x.1 vwCl (tysx x) s) (hJ : Inj x) (hP : va_P x.1 vwCl (wld x M) H) (hS : va_S (A0 x) H0 H locs) (hM : M1 = st M 26 8 v) (hdg : decode cc pc = .ok (.putfield 130, 3)) (kk : ∀ (H1 : Heap) (locs1 : List Loc), va_P x.1 vwCl (wld x M1) H1 → va_S (A0 x) H0 H1 locs1 → W p l e R s m args below meth c H1 locs1 cells slots Q (F0 m (pc + 3) ls rest)) : W p l e R s m args below meth c H locs cells slots Q (F0 m pc ls (.int v :: .ref (x.2.1 26) :: rest)) :=
  m_put (ref := "EdgeCampaignModel") (C := R_MO) (T := T_MO) (N := 45) (ci := 11) hexec hb hts in_MO t_MO ty_MO nm_MO hown hK hJ hP hS (by decide) rfl rfl 8 (by decide) q_346 rfl rfl (by decide +kernel) (Nat.le_of_ble_eq_true rfl) rfl hM hdg kk
theorem gf_MO_37 {p : Program} {l : Launch} {e : Env} {R : Room} {s : State} {m : MethodId} {args : Array Value} {below : List Frame} {meth : Method} {c : Code} {H : Heap} {locs : List Loc} {cells slots : Nat} {Q : State → Prop} {cc : ByteArray} {pc : Nat} {ls : Array Slot} {rest : List Value} {x : Cx} {M : Mem} (hexec : p.tables.exec = Jvm.exec) (hb : c.code = cc) (hts : Tb args s) (hown : s.vm.findClass R_MO = some m.cls) (hK : va_K x.1 vwCl (tysx x) s) (hP : va_P x.1 vwCl (wld x M) H) (hdg : decode cc pc = .ok (.getfield 37, 3)) (kk : W p l e R s m args below meth c H locs cells slots Q (F0 m (pc + 3) ls (.ref (x.2.1 36) :: rest))) : W p l e R s m args below meth c H locs cells slots Q (F0 m pc ls (.ref (x.2.1 26) :: rest)) :=
  m_get (ref := "EdgeCampaignModel") (C := R_MO) (T := T_MO) (N := 45) (ci := 11) hexec hb hts in_MO hown hK hP (by decide) rfl rfl 19 (by decide) q_367 rfl rfl hdg kk
theorem gf_MO_139 {p : Program} {l : Launch} {e : Env} {R : Room} {s : State} {m : MethodId} {args : Array Value} {below : List Frame} {meth : Method} {c : Code} {H : Heap} {locs : List Loc} {cells slots : Nat} {Q : State → Prop} {cc : ByteArray} {pc : Nat} {ls : Array Slot} {rest : List Value} {x : Cx} {M : Mem} (hexec : p.tables.exec = Jvm.exec) (hb : c.code = cc) (hts : Tb args s) (hown : s.vm.findClass R_MO = some m.cls) (hK : va_K x.1 vwCl (tysx x) s) (hP : va_P x.1 vwCl (wld x M) H) (hdg : decode cc pc = .ok (.getfield 139, 3)) (kk : W p l e R s m args below meth c H locs cells slots Q (F0 m (pc + 3) ls (.int (M 26 44) :: rest))) : W p l e R s m args below meth c H locs cells slots Q (F0 m pc ls (.ref (x.2.1 26) :: rest)) :=
  m_get (ref := "EdgeCampaignModel") (C := R_MO) (T := T_MO) (N := 45) (ci := 11) hexec hb hts in_MO hown hK hP (by decide) rfl rfl 44 (by decide) q_368 rfl rfl hdg kk
theorem gf_MO_82 {p : Program} {l : Launch} {e : Env} {R : Room} {s : State} {m : MethodId} {args : Array Value} {below : List Frame} {meth : Method} {c : Code} {H : Heap} {locs : List Loc} {cells slots : Nat} {Q : State → Prop} {cc : ByteArray} {pc : Nat} {ls : Array Slot} {rest : List Value} {x : Cx} {M : Mem} (hexec : p.tables.exec = Jvm.exec) (hb : c.code = cc) (hts : Tb args s) (hown : s.vm.findClass R_MO = some m.cls) (hK : va_K x.1 vwCl (tysx x) s) (hP : va_P x.1 vwCl (wld x M) H) (hdg : decode cc pc = .ok (.getfield 82, 3)) (kk : W p l e R s m args below meth c H locs cells slots Q (F0 m (pc + 3) ls (.ref (x.2.1 51) :: rest))) : W p l e R s m args below meth c H locs cells slots Q (F0 m pc ls (.ref (x.2.1 26) :: rest)) :=
  m_get (ref := "EdgeCampaignModel") (C := R_MO) (T := T_MO) (N := 45) (ci := 11) hexec hb hts in_MO hown hK hP (by decide) rfl rfl 43 (by decide) q_369 rfl rfl hdg kk
theorem gf_MO_145 {p : Program} {l : Launch} {e : Env} {R : Room} {s : State} {m : MethodId} {args : Array Value} {below : List Frame} {meth : Method} {c : Code} {H : Heap} {locs : List Loc} {cells slots : Nat} {Q : State → Prop} {cc : ByteArray} {pc : Nat} {ls : Array Slot} {rest : List Value} {x : Cx} {M : Mem} (hexec : p.tables.exec = Jvm.exec) (hb : c.code = cc) (hts : Tb args s) (hown : s.vm.findClass R_MO = some m.cls) (hK : va_K x.1 vwCl (tysx x) s) (hP : va_P x.1 vwCl (wld x M) H) (hdg : decode cc pc = .ok (.getfield 145, 3)) (kk : W p l e R s m args below meth c H locs cells slots Q (F0 m (pc + 3) ls (.int (M 26 18) :: rest))) : W p l e R s m args below meth c H locs cells slots Q (F0 m pc ls (.ref (x.2.1 26) :: rest)) :=
  m_get (ref := "EdgeCampaignModel") (C := R_MO) (T := T_MO) (N := 45) (ci := 11) hexec hb hts in_MO hown hK hP (by decide) rfl rfl 18 (by decide) q_370 rfl rfl hdg kk
theorem gf_MO_79 {p : Program} {l : Launch} {e : Env} {R : Room} {s : State} {m : MethodId} {args : Array Value} {below : List Frame} {meth : Method} {c : Code} {H : Heap} {locs : List Loc} {cells slots : Nat} {Q : State → Prop} {cc : ByteArray} {pc : Nat} {ls : Array Slot} {rest : List Value} {x : Cx} {M : Mem} (hexec : p.tables.exec = Jvm.exec) (hb : c.code = cc) (hts : Tb args s) (hown : s.vm.findClass R_MO = some m.cls) (hK : va_K x.1 vwCl (tysx x) s) (hP : va_P x.1 vwCl (wld x M) H) (hdg : decode cc pc = .ok (.getfield 79, 3)) (kk : W p l e R s m args below meth c H locs cells slots Q (F0 m (pc + 3) ls (.ref (x.2.1 50) :: rest))) : W p l e R s m args below meth c H locs cells slots Q (F0 m pc ls (.ref (x.2.1 26) :: rest)) :=
  m_get (ref := "EdgeCampaignModel") (C := R_MO) (T := T_MO) (N := 45) (ci := 11) hexec hb hts in_MO hown hK hP (by decide) rfl rfl 38 (by decide) q_371 rfl rfl hdg kk
theorem pf_MO_156 {p : Program} {l : Launch} {e : Env} {R : Room} {s : State} {m : MethodId} {args : Array Value} {below : List Frame} {meth : Method} {c : Code} {H H0 : Heap} {locs : List Loc} {cells slots : Nat} {Q : State → Prop} {cc : ByteArray} {pc : Nat} {ls : Array Slot} {rest : List Value} {x : Cx} {M M1 : Mem} {v : Int32} (hexec : p.tables.exec = Jvm.exec) (hb : c.code = cc) (hts : Tb args s) (hown : s.vm.findClass R_MO = some m.cls) (hK : va_K x.1 vwCl (tysx x) s) (hJ : Inj x) (hP : va_P x.1 vwCl (wld x M) H) (hS : va_S (A0 x) H0 H locs) (hM : M1 = st M 26 39 v) (hdg : decode cc pc = .ok (.putfield 156, 3)) (kk : ∀ (H1 : Heap) (locs1 : List Loc), va_P x.1 vwCl (wld x M1) H1 → va_S (A0 x) H0 H1 locs1 → W p l e R s m args below meth c H1 locs1 cells slots Q (F0 m (pc + 3) ls rest)) : W p l e R s m args below meth c H locs cells slots Q (F0 m pc ls (.int v :: .ref (x.2.1 26) :: rest)) :=
  m_put (ref := "EdgeCampaignModel") (C := R_MO) (T := T_MO) (N := 45) (ci := 11) hexec hb hts in_MO t_MO ty_MO nm_MO hown hK hJ hP hS (by decide) rfl rfl 39 (by decide) q_372 rfl rfl (by decide +kernel) (Nat.le_of_ble_eq_true rfl) rfl hM hdg kk
theorem gf_MO_76 {p : Program} {l : Launch} {e : Env} {R : Room} {s : State} {m : MethodId} {args : Array Value} {below : List Frame} {meth : Method} {c : Code} {H : Heap} {locs : List Loc} {cells slots : Nat} {Q : State → Prop} {cc : ByteArray} {pc : Nat} {ls : Array Slot} {rest : List Value} {x : Cx} {M : Mem} (hexec : p.tables.exec = Jvm.exec) (hb : c.code = cc) (hts : Tb args s) (hown : s.vm.findClass R_MO = some m.cls) (hK : va_K x.1 vwCl (tysx x) s) (hP : va_P x.1 vwCl (wld x M) H) (hdg : decode cc pc = .ok (.getfield 76, 3)) (kk : W p l e R s m args below meth c H locs cells slots Q (F0 m (pc + 3) ls (.ref (x.2.1 49) :: rest))) : W p l e R s m args below meth c H locs cells slots Q (F0 m pc ls (.ref (x.2.1 26) :: rest)) :=
  m_get (ref := "EdgeCampaignModel") (C := R_MO) (T := T_MO) (N := 45) (ci := 11) hexec hb hts in_MO hown hK hP (by decide) rfl rfl 37 (by decide) q_373 rfl rfl hdg kk
theorem gf_MO_156 {p : Program} {l : Launch} {e : Env} {R : Room} {s : State} {m : MethodId} {args : Array Value} {below : List Frame} {meth : Method} {c : Code} {H : Heap} {locs : List Loc} {cells slots : Nat} {Q : State → Prop} {cc : ByteArray} {pc : Nat} {ls : Array Slot} {rest : List Value} {x : Cx} {M : Mem} (hexec : p.tables.exec = Jvm.exec) (hb : c.code = cc) (hts : Tb args s) (hown : s.vm.findClass R_MO = some m.cls) (hK : va_K x.1 vwCl (tysx x) s) (hP : va_P x.1 vwCl (wld x M) H) (hdg : decode cc pc = .ok (.getfield 156, 3)) (kk : W p l e R s m args below meth c H locs cells slots Q (F0 m (pc + 3) ls (.int (M 26 39) :: rest))) : W p l e R s m args below meth c H locs cells slots Q (F0 m pc ls (.ref (x.2.1 26) :: rest)) :=
  m_get (ref := "EdgeCampaignModel") (C := R_MO) (T := T_MO) (N := 45) (ci := 11) hexec hb hts in_MO hown hK hP (by decide) rfl rfl 39 (by decide) q_372 rfl rfl hdg kk
theorem cl_MO_159 {p : Program} {l : Launch} {e : Env} {R : Room} {s : State} {m : MethodId} {args : Array Value} {below : List Frame} {meth : Method} {c : Code} {H : Heap} {locs : List Loc} {cells slots : Nat} {Q : State → Prop} {cc : ByteArray} {pc : Nat} {ls : Array Slot} {rest : List Value} {x : Cx} {M : Mem} {a1 : Int32} {nL : Nat} {rm : Room} {out : Int32 × Mem} (hM : Ci l x y_MO_top (Cond.code y_MO_top b_MO_top 6 (some .int) :: tb) rm [.ref (x.2.1 26), .int a1] M out) (hx : p.tables.exec = Jvm.exec) (hb : c.code = cc) (hml : c.maxLocals = nL) (hts : Tb args s) (hown : s.vm.findClass R_MO = some m.cls) (hK : va_K x.1 vwCl (tysx x) s) (hZ : Stc x s s.heap) (hP : va_P x.1 vwCl (wld x M) H) (hS : va_S (A0 x) s.heap H locs) (hsz : ls.size = nL) (hre : (rest.map fun v => v.category).sum ≤ 8) (hfr : rm.frames + 1 ≤ R.frames) (hlo : 8 + (6 + 11) + rm.locals ≤ R.locals) (hcs : rm.cells = 0 ∧ rm.slots = 0 ∧ cells ≤ R.cells ∧ slots ≤ R.slots) (hdg : decode cc pc = .ok (.invokevirtual 159, 3)) (kk : ∀ (H1 : Heap) (locs1 : List Loc), va_P x.1 vwCl (wld x out.2) H1 → va_S (A0 x) s.heap H1 locs1 → W p l e R s m args below meth c H1 locs1 cells slots Q (F0 m (pc + 3) ls (.int out.1 :: rest))) : W p l e R s m args below meth c H locs cells slots Q (F0 m pc ls (.int a1 :: .ref (x.2.1 26) :: rest)) :=
  m_ci (va_runV (As := [.int a1]) (rest := rest) ⟨hx, hb, hml, hown, hts.1⟩ hM (⟨callB_of 1 hts.1 (tb_good q_374) rfl hcs.1 hcs.2.1 (hts.1 _ q_323) (hts.1 _ q_375) ⟨by decide, by decide, by decide +kernel⟩ ⟨hfr, hlo⟩, hts.1 _ q_376, hts.1 _ q_377⟩) ⟨blind, va_recv hK hP (ci := 11) rfl (wld_at (by decide) rfl), m_pre hts hK hZ hP hS⟩ rfl rfl hsz rfl (lv_room hre) hdg ⟨hcs.2.2.1, hcs.2.2.2⟩) hS kk
theorem cl_MO_148 {p : Program} {l : Launch} {e : Env} {R : Room} {s : State} {m : MethodId} {args : Array Value} {below : List Frame} {meth : Method} {c : Code} {H : Heap} {locs : List Loc} {cells slots : Nat} {Q : State → Prop} {cc : ByteArray} {pc : Nat} {ls : Array Slot} {rest : List Value} {x : Cx} {M : Mem} {a1 : Int32} {nL : Nat} {rm : Room} {out : Mem} (hM : Cv l x y_MO_runEntry (Cond.code y_MO_runEntry b_MO_runEntry 3 none :: tb) rm [.ref (x.2.1 26), .int a1] M out) (hx : p.tables.exec = Jvm.exec) (hb : c.code = cc) (hml : c.maxLocals = nL) (hts : Tb args s) (hown : s.vm.findClass R_MO = some m.cls) (hK : va_K x.1 vwCl (tysx x) s) (hZ : Stc x s s.heap) (hP : va_P x.1 vwCl (wld x M) H) (hS : va_S (A0 x) s.heap H locs) (hsz : ls.size = nL) (hre : (rest.map fun v => v.category).sum ≤ 8) (hfr : rm.frames + 1 ≤ R.frames) (hlo : 8 + (3 + 11) + rm.locals ≤ R.locals) (hcs : rm.cells = 0 ∧ rm.slots = 0 ∧ cells ≤ R.cells ∧ slots ≤ R.slots) (hdg : decode cc pc = .ok (.invokevirtual 148, 3)) (kk : ∀ (H1 : Heap) (locs1 : List Loc), va_P x.1 vwCl (wld x out) H1 → va_S (A0 x) s.heap H1 locs1 → W p l e R s m args below meth c H1 locs1 cells slots Q (F0 m (pc + 3) ls (rest))) : W p l e R s m args below meth c H locs cells slots Q (F0 m pc ls (.int a1 :: .ref (x.2.1 26) :: rest)) :=
  m_cv (va_runV (As := [.int a1]) (rest := rest) ⟨hx, hb, hml, hown, hts.1⟩ hM (⟨callB_of 1 hts.1 (tb_good q_378) rfl hcs.1 hcs.2.1 (hts.1 _ q_323) (hts.1 _ q_379) ⟨by decide, by decide, by decide +kernel⟩ ⟨hfr, hlo⟩, hts.1 _ q_380, hts.1 _ q_381⟩) ⟨blind, va_recv hK hP (ci := 11) rfl (wld_at (by decide) rfl), m_pre hts hK hZ hP hS⟩ rfl rfl hsz rfl (lv_room hre) hdg ⟨hcs.2.2.1, hcs.2.2.2⟩) hS kk
theorem gf_MO_73 {p : Program} {l : Launch} {e : Env} {R : Room} {s : State} {m : MethodId} {args : Array Value} {below : List Frame} {meth : Method} {c : Code} {H : Heap} {locs : List Loc} {cells slots : Nat} {Q : State → Prop} {cc : ByteArray} {pc : Nat} {ls : Array Slot} {rest : List Value} {x : Cx} {M : Mem} (hexec : p.tables.exec = Jvm.exec) (hb : c.code = cc) (hts : Tb args s) (hown : s.vm.findClass R_MO = some m.cls) (hK : va_K x.1 vwCl (tysx x) s) (hP : va_P x.1 vwCl (wld x M) H) (hdg : decode cc pc = .ok (.getfield 73, 3)) (kk : W p l e R s m args below meth c H locs cells slots Q (F0 m (pc + 3) ls (.ref (x.2.1 48) :: rest))) : W p l e R s m args below meth c H locs cells slots Q (F0 m pc ls (.ref (x.2.1 26) :: rest)) :=
  m_get (ref := "EdgeCampaignModel") (C := R_MO) (T := T_MO) (N := 45) (ci := 11) hexec hb hts in_MO hown hK hP (by decide) rfl rfl 36 (by decide) q_382 rfl rfl hdg kk
theorem cl_MO_152 {p : Program} {l : Launch} {e : Env} {R : Room} {s : State} {m : MethodId} {args : Array Value} {below : List Frame} {meth : Method} {c : Code} {H : Heap} {locs : List Loc} {cells slots : Nat} {Q : State → Prop} {cc : ByteArray} {pc : Nat} {ls : Array Slot} {rest : List Value} {x : Cx} {M : Mem} {a1 : Int32} {nL : Nat} {rm : Room} {out : Int32 × Mem} (hM : Ci l x y_MO_bucket (Cond.code y_MO_bucket b_MO_bucket 1 (some .int) :: tb) rm [.int a1] M out) (hx : p.tables.exec = Jvm.exec) (hb : c.code = cc) (hml : c.maxLocals = nL) (hts : Tb args s) (hown : s.vm.findClass R_MO = some m.cls) (hK : va_K x.1 vwCl (tysx x) s) (hZ : Stc x s s.heap) (hP : va_P x.1 vwCl (wld x M) H) (hS : va_S (A0 x) s.heap H locs) (hsz : ls.size = nL) (hre : (rest.map fun v => v.category).sum ≤ 8) (hfr : rm.frames + 1 ≤ R.frames) (hlo : 8 + (1 + 11) + rm.locals ≤ R.locals) (hcs : rm.cells = 0 ∧ rm.slots = 0 ∧ cells ≤ R.cells ∧ slots ≤ R.slots) (hdg : decode cc pc = .ok (.invokestatic 152, 3)) (kk : ∀ (H1 : Heap) (locs1 : List Loc), va_P x.1 vwCl (wld x out.2) H1 → va_S (A0 x) s.heap H1 locs1 → W p l e R s m args below meth c H1 locs1 cells slots Q (F0 m (pc + 3) ls (.int out.1 :: rest))) : W p l e R s m args below meth c H locs cells slots Q (F0 m pc ls (.int a1 :: rest)) :=
  m_ci (va_runS (As := [.int a1]) (rest := rest) ⟨hx, hb, hml, hown, hts.1⟩ hM (⟨callB_of 1 hts.1 (tb_good q_383) rfl hcs.1 hcs.2.1 (hts.1 _ q_323) (hts.1 _ q_384) ⟨by decide, by decide, by decide +kernel⟩ ⟨hfr, hlo⟩, hts.1 _ q_385⟩) ⟨blind, m_pre hts hK hZ hP hS⟩ rfl rfl hsz rfl (lv_room hre) hdg ⟨hcs.2.2.1, hcs.2.2.2⟩) hS kk
theorem gf_MO_142 {p : Program} {l : Launch} {e : Env} {R : Room} {s : State} {m : MethodId} {args : Array Value} {below : List Frame} {meth : Method} {c : Code} {H : Heap} {locs : List Loc} {cells slots : Nat} {Q : State → Prop} {cc : ByteArray} {pc : Nat} {ls : Array Slot} {rest : List Value} {x : Cx} {M : Mem} (hexec : p.tables.exec = Jvm.exec) (hb : c.code = cc) (hts : Tb args s) (hown : s.vm.findClass R_MO = some m.cls) (hK : va_K x.1 vwCl (tysx x) s) (hP : va_P x.1 vwCl (wld x M) H) (hdg : decode cc pc = .ok (.getfield 142, 3)) (kk : W p l e R s m args below meth c H locs cells slots Q (F0 m (pc + 3) ls (.int (M 26 35) :: rest))) : W p l e R s m args below meth c H locs cells slots Q (F0 m pc ls (.ref (x.2.1 26) :: rest)) :=
  m_get (ref := "EdgeCampaignModel") (C := R_MO) (T := T_MO) (N := 45) (ci := 11) hexec hb hts in_MO hown hK hP (by decide) rfl rfl 35 (by decide) q_386 rfl rfl hdg kk
theorem pf_MO_142 {p : Program} {l : Launch} {e : Env} {R : Room} {s : State} {m : MethodId} {args : Array Value} {below : List Frame} {meth : Method} {c : Code} {H H0 : Heap} {locs : List Loc} {cells slots : Nat} {Q : State → Prop} {cc : ByteArray} {pc : Nat} {ls : Array Slot} {rest : List Value} {x : Cx} {M M1 : Mem} {v : Int32} (hexec : p.tables.exec = Jvm.exec) (hb : c.code = cc) (hts : Tb args s) (hown : s.vm.findClass R_MO = some m.cls) (hK : va_K x.1 vwCl (tysx x) s) (hJ : Inj x) (hP : va_P x.1 vwCl (wld x M) H) (hS : va_S (A0 x) H0 H locs) (hM : M1 = st M 26 35 v) (hdg : decode cc pc = .ok (.putfield 142, 3)) (kk : ∀ (H1 : Heap) (locs1 : List Loc), va_P x.1 vwCl (wld x M1) H1 → va_S (A0 x) H0 H1 locs1 → W p l e R s m args below meth c H1 locs1 cells slots Q (F0 m (pc + 3) ls rest)) : W p l e R s m args below meth c H locs cells slots Q (F0 m pc ls (.int v :: .ref (x.2.1 26) :: rest)) :=
  m_put (ref := "EdgeCampaignModel") (C := R_MO) (T := T_MO) (N := 45) (ci := 11) hexec hb hts in_MO t_MO ty_MO nm_MO hown hK hJ hP hS (by decide) rfl rfl 35 (by decide) q_386 rfl rfl (by decide +kernel) (Nat.le_of_ble_eq_true rfl) rfl hM hdg kk
theorem gf_MO_52 {p : Program} {l : Launch} {e : Env} {R : Room} {s : State} {m : MethodId} {args : Array Value} {below : List Frame} {meth : Method} {c : Code} {H : Heap} {locs : List Loc} {cells slots : Nat} {Q : State → Prop} {cc : ByteArray} {pc : Nat} {ls : Array Slot} {rest : List Value} {x : Cx} {M : Mem} (hexec : p.tables.exec = Jvm.exec) (hb : c.code = cc) (hts : Tb args s) (hown : s.vm.findClass R_MO = some m.cls) (hK : va_K x.1 vwCl (tysx x) s) (hP : va_P x.1 vwCl (wld x M) H) (hdg : decode cc pc = .ok (.getfield 52, 3)) (kk : W p l e R s m args below meth c H locs cells slots Q (F0 m (pc + 3) ls (.ref (x.2.1 41) :: rest))) : W p l e R s m args below meth c H locs cells slots Q (F0 m pc ls (.ref (x.2.1 26) :: rest)) :=
  m_get (ref := "EdgeCampaignModel") (C := R_MO) (T := T_MO) (N := 45) (ci := 11) hexec hb hts in_MO hown hK hP (by decide) rfl rfl 25 (by decide) q_387 rfl rfl hdg kk
theorem gf_MO_55 {p : Program} {l : Launch} {e : Env} {R : Room} {s : State} {m : MethodId} {args : Array Value} {below : List Frame} {meth : Method} {c : Code} {H : Heap} {locs : List Loc} {cells slots : Nat} {Q : State → Prop} {cc : ByteArray} {pc : Nat} {ls : Array Slot} {rest : List Value} {x : Cx} {M : Mem} (hexec : p.tables.exec = Jvm.exec) (hb : c.code = cc) (hts : Tb args s) (hown : s.vm.findClass R_MO = some m.cls) (hK : va_K x.1 vwCl (tysx x) s) (hP : va_P x.1 vwCl (wld x M) H) (hdg : decode cc pc = .ok (.getfield 55, 3)) (kk : W p l e R s m args below meth c H locs cells slots Q (F0 m (pc + 3) ls (.ref (x.2.1 42) :: rest))) : W p l e R s m args below meth c H locs cells slots Q (F0 m pc ls (.ref (x.2.1 26) :: rest)) :=
  m_get (ref := "EdgeCampaignModel") (C := R_MO) (T := T_MO) (N := 45) (ci := 11) hexec hb hts in_MO hown hK hP (by decide) rfl rfl 26 (by decide) q_388 rfl rfl hdg kk
theorem gf_MO_46 {p : Program} {l : Launch} {e : Env} {R : Room} {s : State} {m : MethodId} {args : Array Value} {below : List Frame} {meth : Method} {c : Code} {H : Heap} {locs : List Loc} {cells slots : Nat} {Q : State → Prop} {cc : ByteArray} {pc : Nat} {ls : Array Slot} {rest : List Value} {x : Cx} {M : Mem} (hexec : p.tables.exec = Jvm.exec) (hb : c.code = cc) (hts : Tb args s) (hown : s.vm.findClass R_MO = some m.cls) (hK : va_K x.1 vwCl (tysx x) s) (hP : va_P x.1 vwCl (wld x M) H) (hdg : decode cc pc = .ok (.getfield 46, 3)) (kk : W p l e R s m args below meth c H locs cells slots Q (F0 m (pc + 3) ls (.ref (x.2.1 39) :: rest))) : W p l e R s m args below meth c H locs cells slots Q (F0 m pc ls (.ref (x.2.1 26) :: rest)) :=
  m_get (ref := "EdgeCampaignModel") (C := R_MO) (T := T_MO) (N := 45) (ci := 11) hexec hb hts in_MO hown hK hP (by decide) rfl rfl 23 (by decide) q_389 rfl rfl hdg kk
theorem gf_MO_49 {p : Program} {l : Launch} {e : Env} {R : Room} {s : State} {m : MethodId} {args : Array Value} {below : List Frame} {meth : Method} {c : Code} {H : Heap} {locs : List Loc} {cells slots : Nat} {Q : State → Prop} {cc : ByteArray} {pc : Nat} {ls : Array Slot} {rest : List Value} {x : Cx} {M : Mem} (hexec : p.tables.exec = Jvm.exec) (hb : c.code = cc) (hts : Tb args s) (hown : s.vm.findClass R_MO = some m.cls) (hK : va_K x.1 vwCl (tysx x) s) (hP : va_P x.1 vwCl (wld x M) H) (hdg : decode cc pc = .ok (.getfield 49, 3)) (kk : W p l e R s m args below meth c H locs cells slots Q (F0 m (pc + 3) ls (.ref (x.2.1 40) :: rest))) : W p l e R s m args below meth c H locs cells slots Q (F0 m pc ls (.ref (x.2.1 26) :: rest)) :=
  m_get (ref := "EdgeCampaignModel") (C := R_MO) (T := T_MO) (N := 45) (ci := 11) hexec hb hts in_MO hown hK hP (by decide) rfl rfl 24 (by decide) q_390 rfl rfl hdg kk
theorem cl_MO_187 {p : Program} {l : Launch} {e : Env} {R : Room} {s : State} {m : MethodId} {args : Array Value} {below : List Frame} {meth : Method} {c : Code} {H : Heap} {locs : List Loc} {cells slots : Nat} {Q : State → Prop} {cc : ByteArray} {pc : Nat} {ls : Array Slot} {rest : List Value} {x : Cx} {M : Mem} {a1 : Int32} {nL : Nat} {rm : Room} {out : Int32 × Mem} (hM : Ci l x y_MO_signed (Cond.code y_MO_signed b_MO_signed 4 (some .boolean) :: tb) rm [.ref (x.2.1 26), .int a1] M out) (hx : p.tables.exec = Jvm.exec) (hb : c.code = cc) (hml : c.maxLocals = nL) (hts : Tb args s) (hown : s.vm.findClass R_MO = some m.cls) (hK : va_K x.1 vwCl (tysx x) s) (hZ : Stc x s s.heap) (hP : va_P x.1 vwCl (wld x M) H) (hS : va_S (A0 x) s.heap H locs) (hsz : ls.size = nL) (hre : (rest.map fun v => v.category).sum ≤ 8) (hfr : rm.frames + 1 ≤ R.frames) (hlo : 8 + (4 + 11) + rm.locals ≤ R.locals) (hcs : rm.cells = 0 ∧ rm.slots = 0 ∧ cells ≤ R.cells ∧ slots ≤ R.slots) (hdg : decode cc pc = .ok (.invokevirtual 187, 3)) (kk : ∀ (H1 : Heap) (locs1 : List Loc), va_P x.1 vwCl (wld x out.2) H1 → va_S (A0 x) s.heap H1 locs1 → W p l e R s m args below meth c H1 locs1 cells slots Q (F0 m (pc + 3) ls (.int out.1 :: rest))) : W p l e R s m args below meth c H locs cells slots Q (F0 m pc ls (.int a1 :: .ref (x.2.1 26) :: rest)) :=
  m_ci (va_runV (As := [.int a1]) (rest := rest) ⟨hx, hb, hml, hown, hts.1⟩ hM (⟨callB_of 1 hts.1 (tb_good q_391) rfl hcs.1 hcs.2.1 (hts.1 _ q_323) (hts.1 _ q_392) ⟨by decide, by decide, by decide +kernel⟩ ⟨hfr, hlo⟩, hts.1 _ q_393, hts.1 _ q_394⟩) ⟨blind, va_recv hK hP (ci := 11) rfl (wld_at (by decide) rfl), m_pre hts hK hZ hP hS⟩ rfl rfl hsz rfl (lv_room hre) hdg ⟨hcs.2.2.1, hcs.2.2.2⟩) hS kk
theorem gf_MO_67 {p : Program} {l : Launch} {e : Env} {R : Room} {s : State} {m : MethodId} {args : Array Value} {below : List Frame} {meth : Method} {c : Code} {H : Heap} {locs : List Loc} {cells slots : Nat} {Q : State → Prop} {cc : ByteArray} {pc : Nat} {ls : Array Slot} {rest : List Value} {x : Cx} {M : Mem} (hexec : p.tables.exec = Jvm.exec) (hb : c.code = cc) (hts : Tb args s) (hown : s.vm.findClass R_MO = some m.cls) (hK : va_K x.1 vwCl (tysx x) s) (hP : va_P x.1 vwCl (wld x M) H) (hdg : decode cc pc = .ok (.getfield 67, 3)) (kk : W p l e R s m args below meth c H locs cells slots Q (F0 m (pc + 3) ls (.ref (x.2.1 46) :: rest))) : W p l e R s m args below meth c H locs cells slots Q (F0 m pc ls (.ref (x.2.1 26) :: rest)) :=
  m_get (ref := "EdgeCampaignModel") (C := R_MO) (T := T_MO) (N := 45) (ci := 11) hexec hb hts in_MO hown hK hP (by decide) rfl rfl 30 (by decide) q_395 rfl rfl hdg kk
theorem gf_MO_70 {p : Program} {l : Launch} {e : Env} {R : Room} {s : State} {m : MethodId} {args : Array Value} {below : List Frame} {meth : Method} {c : Code} {H : Heap} {locs : List Loc} {cells slots : Nat} {Q : State → Prop} {cc : ByteArray} {pc : Nat} {ls : Array Slot} {rest : List Value} {x : Cx} {M : Mem} (hexec : p.tables.exec = Jvm.exec) (hb : c.code = cc) (hts : Tb args s) (hown : s.vm.findClass R_MO = some m.cls) (hK : va_K x.1 vwCl (tysx x) s) (hP : va_P x.1 vwCl (wld x M) H) (hdg : decode cc pc = .ok (.getfield 70, 3)) (kk : W p l e R s m args below meth c H locs cells slots Q (F0 m (pc + 3) ls (.ref (x.2.1 47) :: rest))) : W p l e R s m args below meth c H locs cells slots Q (F0 m pc ls (.ref (x.2.1 26) :: rest)) :=
  m_get (ref := "EdgeCampaignModel") (C := R_MO) (T := T_MO) (N := 45) (ci := 11) hexec hb hts in_MO hown hK hP (by decide) rfl rfl 31 (by decide) q_396 rfl rfl hdg kk
theorem cl_MO_198 {p : Program} {l : Launch} {e : Env} {R : Room} {s : State} {m : MethodId} {args : Array Value} {below : List Frame} {meth : Method} {c : Code} {H : Heap} {locs : List Loc} {cells slots : Nat} {Q : State → Prop} {cc : ByteArray} {pc : Nat} {ls : Array Slot} {rest : List Value} {x : Cx} {M : Mem} {a1 : Int32} {nL : Nat} {rm : Room} {out : Mem} (hM : Cv l x y_MO_adopt (Cond.code y_MO_adopt b_MO_adopt 3 none :: tb) rm [.ref (x.2.1 26), .int a1] M out) (hx : p.tables.exec = Jvm.exec) (hb : c.code = cc) (hml : c.maxLocals = nL) (hts : Tb args s) (hown : s.vm.findClass R_MO = some m.cls) (hK : va_K x.1 vwCl (tysx x) s) (hZ : Stc x s s.heap) (hP : va_P x.1 vwCl (wld x M) H) (hS : va_S (A0 x) s.heap H locs) (hsz : ls.size = nL) (hre : (rest.map fun v => v.category).sum ≤ 8) (hfr : rm.frames + 1 ≤ R.frames) (hlo : 8 + (3 + 11) + rm.locals ≤ R.locals) (hcs : rm.cells = 0 ∧ rm.slots = 0 ∧ cells ≤ R.cells ∧ slots ≤ R.slots) (hdg : decode cc pc = .ok (.invokevirtual 198, 3)) (kk : ∀ (H1 : Heap) (locs1 : List Loc), va_P x.1 vwCl (wld x out) H1 → va_S (A0 x) s.heap H1 locs1 → W p l e R s m args below meth c H1 locs1 cells slots Q (F0 m (pc + 3) ls (rest))) : W p l e R s m args below meth c H locs cells slots Q (F0 m pc ls (.int a1 :: .ref (x.2.1 26) :: rest)) :=
  m_cv (va_runV (As := [.int a1]) (rest := rest) ⟨hx, hb, hml, hown, hts.1⟩ hM (⟨callB_of 1 hts.1 (tb_good q_397) rfl hcs.1 hcs.2.1 (hts.1 _ q_323) (hts.1 _ q_398) ⟨by decide, by decide, by decide +kernel⟩ ⟨hfr, hlo⟩, hts.1 _ q_399, hts.1 _ q_400⟩) ⟨blind, va_recv hK hP (ci := 11) rfl (wld_at (by decide) rfl), m_pre hts hK hZ hP hS⟩ rfl rfl hsz rfl (lv_room hre) hdg ⟨hcs.2.2.1, hcs.2.2.2⟩) hS kk
theorem cl_MO_194 {p : Program} {l : Launch} {e : Env} {R : Room} {s : State} {m : MethodId} {args : Array Value} {below : List Frame} {meth : Method} {c : Code} {H : Heap} {locs : List Loc} {cells slots : Nat} {Q : State → Prop} {cc : ByteArray} {pc : Nat} {ls : Array Slot} {rest : List Value} {x : Cx} {M : Mem} {a1 : Int32} {a2 : Int32} {a3 : Int32} {a4 : Int32} {nL : Nat} {rm : Room} {out : Int32 × Mem} (hM : Ci l x y_MO_still (Cond.code y_MO_still b_MO_still 7 (some .boolean) :: tb) rm [.ref (x.2.1 26), .int a1, .int a2, .int a3, .int a4] M out) (hx : p.tables.exec = Jvm.exec) (hb : c.code = cc) (hml : c.maxLocals = nL) (hts : Tb args s) (hown : s.vm.findClass R_MO = some m.cls) (hK : va_K x.1 vwCl (tysx x) s) (hZ : Stc x s s.heap) (hP : va_P x.1 vwCl (wld x M) H) (hS : va_S (A0 x) s.heap H locs) (hsz : ls.size = nL) (hre : (rest.map fun v => v.category).sum ≤ 8) (hfr : rm.frames + 1 ≤ R.frames) (hlo : 8 + (7 + 11) + rm.locals ≤ R.locals) (hcs : rm.cells = 0 ∧ rm.slots = 0 ∧ cells ≤ R.cells ∧ slots ≤ R.slots) (hdg : decode cc pc = .ok (.invokevirtual 194, 3)) (kk : ∀ (H1 : Heap) (locs1 : List Loc), va_P x.1 vwCl (wld x out.2) H1 → va_S (A0 x) s.heap H1 locs1 → W p l e R s m args below meth c H1 locs1 cells slots Q (F0 m (pc + 3) ls (.int out.1 :: rest))) : W p l e R s m args below meth c H locs cells slots Q (F0 m pc ls (.int a4 :: .int a3 :: .int a2 :: .int a1 :: .ref (x.2.1 26) :: rest)) :=
  m_ci (va_runV (As := [.int a1, .int a2, .int a3, .int a4]) (rest := rest) ⟨hx, hb, hml, hown, hts.1⟩ hM (⟨callB_of 4 hts.1 (tb_good q_401) rfl hcs.1 hcs.2.1 (hts.1 _ q_323) (hts.1 _ q_402) ⟨by decide, by decide, by decide +kernel⟩ ⟨hfr, hlo⟩, hts.1 _ q_403, hts.1 _ q_404⟩) ⟨blind, va_recv hK hP (ci := 11) rfl (wld_at (by decide) rfl), m_pre hts hK hZ hP hS⟩ rfl rfl hsz rfl (lv_room hre) hdg ⟨hcs.2.2.1, hcs.2.2.2⟩) hS kk
theorem cl_MO_201 {p : Program} {l : Launch} {e : Env} {R : Room} {s : State} {m : MethodId} {args : Array Value} {below : List Frame} {meth : Method} {c : Code} {H : Heap} {locs : List Loc} {cells slots : Nat} {Q : State → Prop} {cc : ByteArray} {pc : Nat} {ls : Array Slot} {rest : List Value} {x : Cx} {M : Mem} {a1 : Int32} {a2 : Int32} {a3 : Int32} {nL : Nat} {rm : Room} {out : Int32 × Mem} (hM : Ci l x y_MO_part (Cond.code y_MO_part b_MO_part 6 (some .boolean) :: tb) rm [.ref (x.2.1 26), .int a1, .int a2, .int a3] M out) (hx : p.tables.exec = Jvm.exec) (hb : c.code = cc) (hml : c.maxLocals = nL) (hts : Tb args s) (hown : s.vm.findClass R_MO = some m.cls) (hK : va_K x.1 vwCl (tysx x) s) (hZ : Stc x s s.heap) (hP : va_P x.1 vwCl (wld x M) H) (hS : va_S (A0 x) s.heap H locs) (hsz : ls.size = nL) (hre : (rest.map fun v => v.category).sum ≤ 8) (hfr : rm.frames + 1 ≤ R.frames) (hlo : 8 + (6 + 11) + rm.locals ≤ R.locals) (hcs : rm.cells = 0 ∧ rm.slots = 0 ∧ cells ≤ R.cells ∧ slots ≤ R.slots) (hdg : decode cc pc = .ok (.invokevirtual 201, 3)) (kk : ∀ (H1 : Heap) (locs1 : List Loc), va_P x.1 vwCl (wld x out.2) H1 → va_S (A0 x) s.heap H1 locs1 → W p l e R s m args below meth c H1 locs1 cells slots Q (F0 m (pc + 3) ls (.int out.1 :: rest))) : W p l e R s m args below meth c H locs cells slots Q (F0 m pc ls (.int a3 :: .int a2 :: .int a1 :: .ref (x.2.1 26) :: rest)) :=
  m_ci (va_runV (As := [.int a1, .int a2, .int a3]) (rest := rest) ⟨hx, hb, hml, hown, hts.1⟩ hM (⟨callB_of 3 hts.1 (tb_good q_405) rfl hcs.1 hcs.2.1 (hts.1 _ q_323) (hts.1 _ q_406) ⟨by decide, by decide, by decide +kernel⟩ ⟨hfr, hlo⟩, hts.1 _ q_407, hts.1 _ q_408⟩) ⟨blind, va_recv hK hP (ci := 11) rfl (wld_at (by decide) rfl), m_pre hts hK hZ hP hS⟩ rfl rfl hsz rfl (lv_room hre) hdg ⟨hcs.2.2.1, hcs.2.2.2⟩) hS kk
theorem cl_MO_191 {p : Program} {l : Launch} {e : Env} {R : Room} {s : State} {m : MethodId} {args : Array Value} {below : List Frame} {meth : Method} {c : Code} {H : Heap} {locs : List Loc} {cells slots : Nat} {Q : State → Prop} {cc : ByteArray} {pc : Nat} {ls : Array Slot} {rest : List Value} {x : Cx} {M : Mem} {a1 : Int32} {nL : Nat} {rm : Room} {out : Mem} (hM : Cv l x y_MO_shorten (Cond.code y_MO_shorten b_MO_shorten 6 none :: tb) rm [.ref (x.2.1 26), .int a1] M out) (hx : p.tables.exec = Jvm.exec) (hb : c.code = cc) (hml : c.maxLocals = nL) (hts : Tb args s) (hown : s.vm.findClass R_MO = some m.cls) (hK : va_K x.1 vwCl (tysx x) s) (hZ : Stc x s s.heap) (hP : va_P x.1 vwCl (wld x M) H) (hS : va_S (A0 x) s.heap H locs) (hsz : ls.size = nL) (hre : (rest.map fun v => v.category).sum ≤ 8) (hfr : rm.frames + 1 ≤ R.frames) (hlo : 8 + (6 + 11) + rm.locals ≤ R.locals) (hcs : rm.cells = 0 ∧ rm.slots = 0 ∧ cells ≤ R.cells ∧ slots ≤ R.slots) (hdg : decode cc pc = .ok (.invokevirtual 191, 3)) (kk : ∀ (H1 : Heap) (locs1 : List Loc), va_P x.1 vwCl (wld x out) H1 → va_S (A0 x) s.heap H1 locs1 → W p l e R s m args below meth c H1 locs1 cells slots Q (F0 m (pc + 3) ls (rest))) : W p l e R s m args below meth c H locs cells slots Q (F0 m pc ls (.int a1 :: .ref (x.2.1 26) :: rest)) :=
  m_cv (va_runV (As := [.int a1]) (rest := rest) ⟨hx, hb, hml, hown, hts.1⟩ hM (⟨callB_of 1 hts.1 (tb_good q_409) rfl hcs.1 hcs.2.1 (hts.1 _ q_323) (hts.1 _ q_410) ⟨by decide, by decide, by decide +kernel⟩ ⟨hfr, hlo⟩, hts.1 _ q_411, hts.1 _ q_412⟩) ⟨blind, va_recv hK hP (ci := 11) rfl (wld_at (by decide) rfl), m_pre hts hK hZ hP hS⟩ rfl rfl hsz rfl (lv_room hre) hdg ⟨hcs.2.2.1, hcs.2.2.2⟩) hS kk
theorem gf_MO_184 {p : Program} {l : Launch} {e : Env} {R : Room} {s : State} {m : MethodId} {args : Array Value} {below : List Frame} {meth : Method} {c : Code} {H : Heap} {locs : List Loc} {cells slots : Nat} {Q : State → Prop} {cc : ByteArray} {pc : Nat} {ls : Array Slot} {rest : List Value} {x : Cx} {M : Mem} (hexec : p.tables.exec = Jvm.exec) (hb : c.code = cc) (hts : Tb args s) (hown : s.vm.findClass R_MO = some m.cls) (hK : va_K x.1 vwCl (tysx x) s) (hP : va_P x.1 vwCl (wld x M) H) (hdg : decode cc pc = .ok (.getfield 184, 3)) (kk : W p l e R s m args below meth c H locs cells slots Q (F0 m (pc + 3) ls (.int (M 26 22) :: rest))) : W p l e R s m args below meth c H locs cells slots Q (F0 m pc ls (.ref (x.2.1 26) :: rest)) :=
  m_get (ref := "EdgeCampaignModel") (C := R_MO) (T := T_MO) (N := 45) (ci := 11) hexec hb hts in_MO hown hK hP (by decide) rfl rfl 22 (by decide) q_413 rfl rfl hdg kk
theorem pf_MO_184 {p : Program} {l : Launch} {e : Env} {R : Room} {s : State} {m : MethodId} {args : Array Value} {below : List Frame} {meth : Method} {c : Code} {H H0 : Heap} {locs : List Loc} {cells slots : Nat} {Q : State → Prop} {cc : ByteArray} {pc : Nat} {ls : Array Slot} {rest : List Value} {x : Cx} {M M1 : Mem} {v : Int32} (hexec : p.tables.exec = Jvm.exec) (hb : c.code = cc) (hts : Tb args s) (hown : s.vm.findClass R_MO = some m.cls) (hK : va_K x.1 vwCl (tysx x) s) (hJ : Inj x) (hP : va_P x.1 vwCl (wld x M) H) (hS : va_S (A0 x) H0 H locs) (hM : M1 = st M 26 22 v) (hdg : decode cc pc = .ok (.putfield 184, 3)) (kk : ∀ (H1 : Heap) (locs1 : List Loc), va_P x.1 vwCl (wld x M1) H1 → va_S (A0 x) H0 H1 locs1 → W p l e R s m args below meth c H1 locs1 cells slots Q (F0 m (pc + 3) ls rest)) : W p l e R s m args below meth c H locs cells slots Q (F0 m pc ls (.int v :: .ref (x.2.1 26) :: rest)) :=
  m_put (ref := "EdgeCampaignModel") (C := R_MO) (T := T_MO) (N := 45) (ci := 11) hexec hb hts in_MO t_MO ty_MO nm_MO hown hK hJ hP hS (by decide) rfl rfl 22 (by decide) q_413 rfl rfl (by decide +kernel) (Nat.le_of_ble_eq_true rfl) rfl hM hdg kk
theorem gf_MO_58 {p : Program} {l : Launch} {e : Env} {R : Room} {s : State} {m : MethodId} {args : Array Value} {below : List Frame} {meth : Method} {c : Code} {H : Heap} {locs : List Loc} {cells slots : Nat} {Q : State → Prop} {cc : ByteArray} {pc : Nat} {ls : Array Slot} {rest : List Value} {x : Cx} {M : Mem} (hexec : p.tables.exec = Jvm.exec) (hb : c.code = cc) (hts : Tb args s) (hown : s.vm.findClass R_MO = some m.cls) (hK : va_K x.1 vwCl (tysx x) s) (hP : va_P x.1 vwCl (wld x M) H) (hdg : decode cc pc = .ok (.getfield 58, 3)) (kk : W p l e R s m args below meth c H locs cells slots Q (F0 m (pc + 3) ls (.ref (x.2.1 43) :: rest))) : W p l e R s m args below meth c H locs cells slots Q (F0 m pc ls (.ref (x.2.1 26) :: rest)) :=
  m_get (ref := "EdgeCampaignModel") (C := R_MO) (T := T_MO) (N := 45) (ci := 11) hexec hb hts in_MO hown hK hP (by decide) rfl rfl 27 (by decide) q_414 rfl rfl hdg kk
theorem gf_MO_64 {p : Program} {l : Launch} {e : Env} {R : Room} {s : State} {m : MethodId} {args : Array Value} {below : List Frame} {meth : Method} {c : Code} {H : Heap} {locs : List Loc} {cells slots : Nat} {Q : State → Prop} {cc : ByteArray} {pc : Nat} {ls : Array Slot} {rest : List Value} {x : Cx} {M : Mem} (hexec : p.tables.exec = Jvm.exec) (hb : c.code = cc) (hts : Tb args s) (hown : s.vm.findClass R_MO = some m.cls) (hK : va_K x.1 vwCl (tysx x) s) (hP : va_P x.1 vwCl (wld x M) H) (hdg : decode cc pc = .ok (.getfield 64, 3)) (kk : W p l e R s m args below meth c H locs cells slots Q (F0 m (pc + 3) ls (.ref (x.2.1 45) :: rest))) : W p l e R s m args below meth c H locs cells slots Q (F0 m pc ls (.ref (x.2.1 26) :: rest)) :=
  m_get (ref := "EdgeCampaignModel") (C := R_MO) (T := T_MO) (N := 45) (ci := 11) hexec hb hts in_MO hown hK hP (by decide) rfl rfl 29 (by decide) q_415 rfl rfl hdg kk
theorem gf_MO_61 {p : Program} {l : Launch} {e : Env} {R : Room} {s : State} {m : MethodId} {args : Array Value} {below : List Frame} {meth : Method} {c : Code} {H : Heap} {locs : List Loc} {cells slots : Nat} {Q : State → Prop} {cc : ByteArray} {pc : Nat} {ls : Array Slot} {rest : List Value} {x : Cx} {M : Mem} (hexec : p.tables.exec = Jvm.exec) (hb : c.code = cc) (hts : Tb args s) (hown : s.vm.findClass R_MO = some m.cls) (hK : va_K x.1 vwCl (tysx x) s) (hP : va_P x.1 vwCl (wld x M) H) (hdg : decode cc pc = .ok (.getfield 61, 3)) (kk : W p l e R s m args below meth c H locs cells slots Q (F0 m (pc + 3) ls (.ref (x.2.1 44) :: rest))) : W p l e R s m args below meth c H locs cells slots Q (F0 m pc ls (.ref (x.2.1 26) :: rest)) :=
  m_get (ref := "EdgeCampaignModel") (C := R_MO) (T := T_MO) (N := 45) (ci := 11) hexec hb hts in_MO hown hK hP (by decide) rfl rfl 28 (by decide) q_416 rfl rfl hdg kk
theorem gf_MO_178 {p : Program} {l : Launch} {e : Env} {R : Room} {s : State} {m : MethodId} {args : Array Value} {below : List Frame} {meth : Method} {c : Code} {H : Heap} {locs : List Loc} {cells slots : Nat} {Q : State → Prop} {cc : ByteArray} {pc : Nat} {ls : Array Slot} {rest : List Value} {x : Cx} {M : Mem} (hexec : p.tables.exec = Jvm.exec) (hb : c.code = cc) (hts : Tb args s) (hown : s.vm.findClass R_MO = some m.cls) (hK : va_K x.1 vwCl (tysx x) s) (hP : va_P x.1 vwCl (wld x M) H) (hdg : decode cc pc = .ok (.getfield 178, 3)) (kk : W p l e R s m args below meth c H locs cells slots Q (F0 m (pc + 3) ls (.int (M 26 34) :: rest))) : W p l e R s m args below meth c H locs cells slots Q (F0 m pc ls (.ref (x.2.1 26) :: rest)) :=
  m_get (ref := "EdgeCampaignModel") (C := R_MO) (T := T_MO) (N := 45) (ci := 11) hexec hb hts in_MO hown hK hP (by decide) rfl rfl 34 (by decide) q_417 rfl rfl hdg kk
theorem pf_MO_178 {p : Program} {l : Launch} {e : Env} {R : Room} {s : State} {m : MethodId} {args : Array Value} {below : List Frame} {meth : Method} {c : Code} {H H0 : Heap} {locs : List Loc} {cells slots : Nat} {Q : State → Prop} {cc : ByteArray} {pc : Nat} {ls : Array Slot} {rest : List Value} {x : Cx} {M M1 : Mem} {v : Int32} (hexec : p.tables.exec = Jvm.exec) (hb : c.code = cc) (hts : Tb args s) (hown : s.vm.findClass R_MO = some m.cls) (hK : va_K x.1 vwCl (tysx x) s) (hJ : Inj x) (hP : va_P x.1 vwCl (wld x M) H) (hS : va_S (A0 x) H0 H locs) (hM : M1 = st M 26 34 v) (hdg : decode cc pc = .ok (.putfield 178, 3)) (kk : ∀ (H1 : Heap) (locs1 : List Loc), va_P x.1 vwCl (wld x M1) H1 → va_S (A0 x) H0 H1 locs1 → W p l e R s m args below meth c H1 locs1 cells slots Q (F0 m (pc + 3) ls rest)) : W p l e R s m args below meth c H locs cells slots Q (F0 m pc ls (.int v :: .ref (x.2.1 26) :: rest)) :=
  m_put (ref := "EdgeCampaignModel") (C := R_MO) (T := T_MO) (N := 45) (ci := 11) hexec hb hts in_MO t_MO ty_MO nm_MO hown hK hJ hP hS (by decide) rfl rfl 34 (by decide) q_417 rfl rfl (by decide +kernel) (Nat.le_of_ble_eq_true rfl) rfl hM hdg kk
theorem pf_MO_212 {p : Program} {l : Launch} {e : Env} {R : Room} {s : State} {m : MethodId} {args : Array Value} {below : List Frame} {meth : Method} {c : Code} {H H0 : Heap} {locs : List Loc} {cells slots : Nat} {Q : State → Prop} {cc : ByteArray} {pc : Nat} {ls : Array Slot} {rest : List Value} {x : Cx} {M M1 : Mem} {v : Int32} (hexec : p.tables.exec = Jvm.exec) (hb : c.code = cc) (hts : Tb args s) (hown : s.vm.findClass R_MO = some m.cls) (hK : va_K x.1 vwCl (tysx x) s) (hJ : Inj x) (hP : va_P x.1 vwCl (wld x M) H) (hS : va_S (A0 x) H0 H locs) (hM : M1 = st M 26 42 v) (hdg : decode cc pc = .ok (.putfield 212, 3)) (kk : ∀ (H1 : Heap) (locs1 : List Loc), va_P x.1 vwCl (wld x M1) H1 → va_S (A0 x) H0 H1 locs1 → W p l e R s m args below meth c H1 locs1 cells slots Q (F0 m (pc + 3) ls rest)) : W p l e R s m args below meth c H locs cells slots Q (F0 m pc ls (.int v :: .ref (x.2.1 26) :: rest)) :=
  m_put (ref := "EdgeCampaignModel") (C := R_MO) (T := T_MO) (N := 45) (ci := 11) hexec hb hts in_MO t_MO ty_MO nm_MO hown hK hJ hP hS (by decide) rfl rfl 42 (by decide) q_418 rfl rfl (by decide +kernel) (Nat.le_of_ble_eq_true rfl) rfl hM hdg kk
theorem gf_MO_43 {p : Program} {l : Launch} {e : Env} {R : Room} {s : State} {m : MethodId} {args : Array Value} {below : List Frame} {meth : Method} {c : Code} {H : Heap} {locs : List Loc} {cells slots : Nat} {Q : State → Prop} {cc : ByteArray} {pc : Nat} {ls : Array Slot} {rest : List Value} {x : Cx} {M : Mem} (hexec : p.tables.exec = Jvm.exec) (hb : c.code = cc) (hts : Tb args s) (hown : s.vm.findClass R_MO = some m.cls) (hK : va_K x.1 vwCl (tysx x) s) (hP : va_P x.1 vwCl (wld x M) H) (hdg : decode cc pc = .ok (.getfield 43, 3)) (kk : W p l e R s m args below meth c H locs cells slots Q (F0 m (pc + 3) ls (.ref (x.2.1 38) :: rest))) : W p l e R s m args below meth c H locs cells slots Q (F0 m pc ls (.ref (x.2.1 26) :: rest)) :=
  m_get (ref := "EdgeCampaignModel") (C := R_MO) (T := T_MO) (N := 45) (ci := 11) hexec hb hts in_MO hown hK hP (by decide) rfl rfl 21 (by decide) q_419 rfl rfl hdg kk
theorem pf_MO_215 {p : Program} {l : Launch} {e : Env} {R : Room} {s : State} {m : MethodId} {args : Array Value} {below : List Frame} {meth : Method} {c : Code} {H H0 : Heap} {locs : List Loc} {cells slots : Nat} {Q : State → Prop} {cc : ByteArray} {pc : Nat} {ls : Array Slot} {rest : List Value} {x : Cx} {M M1 : Mem} {v : Int32} (hexec : p.tables.exec = Jvm.exec) (hb : c.code = cc) (hts : Tb args s) (hown : s.vm.findClass R_MO = some m.cls) (hK : va_K x.1 vwCl (tysx x) s) (hJ : Inj x) (hP : va_P x.1 vwCl (wld x M) H) (hS : va_S (A0 x) H0 H locs) (hM : M1 = st M 26 41 v) (hdg : decode cc pc = .ok (.putfield 215, 3)) (kk : ∀ (H1 : Heap) (locs1 : List Loc), va_P x.1 vwCl (wld x M1) H1 → va_S (A0 x) H0 H1 locs1 → W p l e R s m args below meth c H1 locs1 cells slots Q (F0 m (pc + 3) ls rest)) : W p l e R s m args below meth c H locs cells slots Q (F0 m pc ls (.int v :: .ref (x.2.1 26) :: rest)) :=
  m_put (ref := "EdgeCampaignModel") (C := R_MO) (T := T_MO) (N := 45) (ci := 11) hexec hb hts in_MO t_MO ty_MO nm_MO hown hK hJ hP hS (by decide) rfl rfl 41 (by decide) q_420 rfl rfl (by decide +kernel) (Nat.le_of_ble_eq_true rfl) rfl hM hdg kk
theorem pf_MO_209 {p : Program} {l : Launch} {e : Env} {R : Room} {s : State} {m : MethodId} {args : Array Value} {below : List Frame} {meth : Method} {c : Code} {H H0 : Heap} {locs : List Loc} {cells slots : Nat} {Q : State → Prop} {cc : ByteArray} {pc : Nat} {ls : Array Slot} {rest : List Value} {x : Cx} {M M1 : Mem} {v : Int32} (hexec : p.tables.exec = Jvm.exec) (hb : c.code = cc) (hts : Tb args s) (hown : s.vm.findClass R_MO = some m.cls) (hK : va_K x.1 vwCl (tysx x) s) (hJ : Inj x) (hP : va_P x.1 vwCl (wld x M) H) (hS : va_S (A0 x) H0 H locs) (hM : M1 = st M 26 40 v) (hdg : decode cc pc = .ok (.putfield 209, 3)) (kk : ∀ (H1 : Heap) (locs1 : List Loc), va_P x.1 vwCl (wld x M1) H1 → va_S (A0 x) H0 H1 locs1 → W p l e R s m args below meth c H1 locs1 cells slots Q (F0 m (pc + 3) ls rest)) : W p l e R s m args below meth c H locs cells slots Q (F0 m pc ls (.int v :: .ref (x.2.1 26) :: rest)) :=
  m_put (ref := "EdgeCampaignModel") (C := R_MO) (T := T_MO) (N := 45) (ci := 11) hexec hb hts in_MO t_MO ty_MO nm_MO hown hK hJ hP hS (by decide) rfl rfl 40 (by decide) q_421 rfl rfl (by decide +kernel) (Nat.le_of_ble_eq_true rfl) rfl hM hdg kk
theorem cl_MO_162 {p : Program} {l : Launch} {e : Env} {R : Room} {s : State} {m : MethodId} {args : Array Value} {below : List Frame} {meth : Method} {c : Code} {H : Heap} {locs : List Loc} {cells slots : Nat} {Q : State → Prop} {cc : ByteArray} {pc : Nat} {ls : Array Slot} {rest : List Value} {x : Cx} {M : Mem}  {nL : Nat} {rm : Room} {out : Mem} (hM : Cv l x y_MO_survey (Cond.code y_MO_survey b_MO_survey 3 none :: tb) rm [.ref (x.2.1 26)] M out) (hx : p.tables.exec = Jvm.exec) (hb : c.code = cc) (hml : c.maxLocals = nL) (hts : Tb args s) (hown : s.vm.findClass R_MO = some m.cls) (hK : va_K x.1 vwCl (tysx x) s) (hZ : Stc x s s.heap) (hP : va_P x.1 vwCl (wld x M) H) (hS : va_S (A0 x) s.heap H locs) (hsz : ls.size = nL) (hre : (rest.map fun v => v.category).sum ≤ 8) (hfr : rm.frames + 1 ≤ R.frames) (hlo : 8 + (3 + 11) + rm.locals ≤ R.locals) (hcs : rm.cells = 0 ∧ rm.slots = 0 ∧ cells ≤ R.cells ∧ slots ≤ R.slots) (hdg : decode cc pc = .ok (.invokevirtual 162, 3)) (kk : ∀ (H1 : Heap) (locs1 : List Loc), va_P x.1 vwCl (wld x out) H1 → va_S (A0 x) s.heap H1 locs1 → W p l e R s m args below meth c H1 locs1 cells slots Q (F0 m (pc + 3) ls (rest))) : W p l e R s m args below meth c H locs cells slots Q (F0 m pc ls (.ref (x.2.1 26) :: rest)) :=
  m_cv (va_runV (As := []) (rest := rest) ⟨hx, hb, hml, hown, hts.1⟩ hM (⟨callB_of 0 hts.1 (tb_good q_422) rfl hcs.1 hcs.2.1 (hts.1 _ q_323) (hts.1 _ q_423) ⟨by decide, by decide, by decide +kernel⟩ ⟨hfr, hlo⟩, hts.1 _ q_424, hts.1 _ q_425⟩) ⟨blind, va_recv hK hP (ci := 11) rfl (wld_at (by decide) rfl), m_pre hts hK hZ hP hS⟩ rfl rfl hsz rfl (lv_room hre) hdg ⟨hcs.2.2.1, hcs.2.2.2⟩) hS kk
theorem cl_MO_206 {p : Program} {l : Launch} {e : Env} {R : Room} {s : State} {m : MethodId} {args : Array Value} {below : List Frame} {meth : Method} {c : Code} {H : Heap} {locs : List Loc} {cells slots : Nat} {Q : State → Prop} {cc : ByteArray} {pc : Nat} {ls : Array Slot} {rest : List Value} {x : Cx} {M : Mem} {a1 : Int32} {nL : Nat} {rm : Room} {out : Int32 × Mem} (hM : Ci l x y_MO_edgesOf (Cond.code y_MO_edgesOf b_MO_edgesOf 4 (some .int) :: tb) rm [.ref (x.2.1 26), .int a1] M out) (hx : p.tables.exec = Jvm.exec) (hb : c.code = cc) (hml : c.maxLocals = nL) (hts : Tb args s) (hown : s.vm.findClass R_MO = some m.cls) (hK : va_K x.1 vwCl (tysx x) s) (hZ : Stc x s s.heap) (hP : va_P x.1 vwCl (wld x M) H) (hS : va_S (A0 x) s.heap H locs) (hsz : ls.size = nL) (hre : (rest.map fun v => v.category).sum ≤ 8) (hfr : rm.frames + 1 ≤ R.frames) (hlo : 8 + (4 + 11) + rm.locals ≤ R.locals) (hcs : rm.cells = 0 ∧ rm.slots = 0 ∧ cells ≤ R.cells ∧ slots ≤ R.slots) (hdg : decode cc pc = .ok (.invokevirtual 206, 3)) (kk : ∀ (H1 : Heap) (locs1 : List Loc), va_P x.1 vwCl (wld x out.2) H1 → va_S (A0 x) s.heap H1 locs1 → W p l e R s m args below meth c H1 locs1 cells slots Q (F0 m (pc + 3) ls (.int out.1 :: rest))) : W p l e R s m args below meth c H locs cells slots Q (F0 m pc ls (.int a1 :: .ref (x.2.1 26) :: rest)) :=
  m_ci (va_runV (As := [.int a1]) (rest := rest) ⟨hx, hb, hml, hown, hts.1⟩ hM (⟨callB_of 1 hts.1 (tb_good q_426) rfl hcs.1 hcs.2.1 (hts.1 _ q_323) (hts.1 _ q_427) ⟨by decide, by decide, by decide +kernel⟩ ⟨hfr, hlo⟩, hts.1 _ q_428, hts.1 _ q_429⟩) ⟨blind, va_recv hK hP (ci := 11) rfl (wld_at (by decide) rfl), m_pre hts hK hZ hP hS⟩ rfl rfl hsz rfl (lv_room hre) hdg ⟨hcs.2.2.1, hcs.2.2.2⟩) hS kk
theorem pf_MO_145 {p : Program} {l : Launch} {e : Env} {R : Room} {s : State} {m : MethodId} {args : Array Value} {below : List Frame} {meth : Method} {c : Code} {H H0 : Heap} {locs : List Loc} {cells slots : Nat} {Q : State → Prop} {cc : ByteArray} {pc : Nat} {ls : Array Slot} {rest : List Value} {x : Cx} {M M1 : Mem} {v : Int32} (hexec : p.tables.exec = Jvm.exec) (hb : c.code = cc) (hts : Tb args s) (hown : s.vm.findClass R_MO = some m.cls) (hK : va_K x.1 vwCl (tysx x) s) (hJ : Inj x) (hP : va_P x.1 vwCl (wld x M) H) (hS : va_S (A0 x) H0 H locs) (hM : M1 = st M 26 18 v) (hdg : decode cc pc = .ok (.putfield 145, 3)) (kk : ∀ (H1 : Heap) (locs1 : List Loc), va_P x.1 vwCl (wld x M1) H1 → va_S (A0 x) H0 H1 locs1 → W p l e R s m args below meth c H1 locs1 cells slots Q (F0 m (pc + 3) ls rest)) : W p l e R s m args below meth c H locs cells slots Q (F0 m pc ls (.int v :: .ref (x.2.1 26) :: rest)) :=
  m_put (ref := "EdgeCampaignModel") (C := R_MO) (T := T_MO) (N := 45) (ci := 11) hexec hb hts in_MO t_MO ty_MO nm_MO hown hK hJ hP hS (by decide) rfl rfl 18 (by decide) q_370 rfl rfl (by decide +kernel) (Nat.le_of_ble_eq_true rfl) rfl hM hdg kk
theorem cl_MO_181 {p : Program} {l : Launch} {e : Env} {R : Room} {s : State} {m : MethodId} {args : Array Value} {below : List Frame} {meth : Method} {c : Code} {H : Heap} {locs : List Loc} {cells slots : Nat} {Q : State → Prop} {cc : ByteArray} {pc : Nat} {ls : Array Slot} {rest : List Value} {x : Cx} {M : Mem} {a1 : Int32} {nL : Nat} {rm : Room} {out : Mem} (hM : Cv l x y_MO_takeUp (Cond.code y_MO_takeUp b_MO_takeUp 4 none :: tb) rm [.ref (x.2.1 26), .int a1] M out) (hx : p.tables.exec = Jvm.exec) (hb : c.code = cc) (hml : c.maxLocals = nL) (hts : Tb args s) (hown : s.vm.findClass R_MO = some m.cls) (hK : va_K x.1 vwCl (tysx x) s) (hZ : Stc x s s.heap) (hP : va_P x.1 vwCl (wld x M) H) (hS : va_S (A0 x) s.heap H locs) (hsz : ls.size = nL) (hre : (rest.map fun v => v.category).sum ≤ 8) (hfr : rm.frames + 1 ≤ R.frames) (hlo : 8 + (4 + 11) + rm.locals ≤ R.locals) (hcs : rm.cells = 0 ∧ rm.slots = 0 ∧ cells ≤ R.cells ∧ slots ≤ R.slots) (hdg : decode cc pc = .ok (.invokevirtual 181, 3)) (kk : ∀ (H1 : Heap) (locs1 : List Loc), va_P x.1 vwCl (wld x out) H1 → va_S (A0 x) s.heap H1 locs1 → W p l e R s m args below meth c H1 locs1 cells slots Q (F0 m (pc + 3) ls (rest))) : W p l e R s m args below meth c H locs cells slots Q (F0 m pc ls (.int a1 :: .ref (x.2.1 26) :: rest)) :=
  m_cv (va_runV (As := [.int a1]) (rest := rest) ⟨hx, hb, hml, hown, hts.1⟩ hM (⟨callB_of 1 hts.1 (tb_good q_430) rfl hcs.1 hcs.2.1 (hts.1 _ q_323) (hts.1 _ q_431) ⟨by decide, by decide, by decide +kernel⟩ ⟨hfr, hlo⟩, hts.1 _ q_432, hts.1 _ q_433⟩) ⟨blind, va_recv hK hP (ci := 11) rfl (wld_at (by decide) rfl), m_pre hts hK hZ hP hS⟩ rfl rfl hsz rfl (lv_room hre) hdg ⟨hcs.2.2.1, hcs.2.2.2⟩) hS kk
theorem pf_MO_168 {p : Program} {l : Launch} {e : Env} {R : Room} {s : State} {m : MethodId} {args : Array Value} {below : List Frame} {meth : Method} {c : Code} {H H0 : Heap} {locs : List Loc} {cells slots : Nat} {Q : State → Prop} {cc : ByteArray} {pc : Nat} {ls : Array Slot} {rest : List Value} {x : Cx} {M M1 : Mem} {v : Int32} (hexec : p.tables.exec = Jvm.exec) (hb : c.code = cc) (hts : Tb args s) (hown : s.vm.findClass R_MO = some m.cls) (hK : va_K x.1 vwCl (tysx x) s) (hJ : Inj x) (hP : va_P x.1 vwCl (wld x M) H) (hS : va_S (A0 x) H0 H locs) (hM : M1 = st M 26 33 v) (hdg : decode cc pc = .ok (.putfield 168, 3)) (kk : ∀ (H1 : Heap) (locs1 : List Loc), va_P x.1 vwCl (wld x M1) H1 → va_S (A0 x) H0 H1 locs1 → W p l e R s m args below meth c H1 locs1 cells slots Q (F0 m (pc + 3) ls rest)) : W p l e R s m args below meth c H locs cells slots Q (F0 m pc ls (.int v :: .ref (x.2.1 26) :: rest)) :=
  m_put (ref := "EdgeCampaignModel") (C := R_MO) (T := T_MO) (N := 45) (ci := 11) hexec hb hts in_MO t_MO ty_MO nm_MO hown hK hJ hP hS (by decide) rfl rfl 33 (by decide) q_434 rfl rfl (by decide +kernel) (Nat.le_of_ble_eq_true rfl) rfl hM hdg kk
theorem cl_MO_171 {p : Program} {l : Launch} {e : Env} {R : Room} {s : State} {m : MethodId} {args : Array Value} {below : List Frame} {meth : Method} {c : Code} {H : Heap} {locs : List Loc} {cells slots : Nat} {Q : State → Prop} {cc : ByteArray} {pc : Nat} {ls : Array Slot} {rest : List Value} {x : Cx} {M : Mem}  {nL : Nat} {rm : Room} {out : Int32 × Mem} (hM : Ci l x y_MO_newPair (Cond.code y_MO_newPair b_MO_newPair 3 (some .boolean) :: tb) rm [.ref (x.2.1 26)] M out) (hx : p.tables.exec = Jvm.exec) (hb : c.code = cc) (hml : c.maxLocals = nL) (hts : Tb args s) (hown : s.vm.findClass R_MO = some m.cls) (hK : va_K x.1 vwCl (tysx x) s) (hZ : Stc x s s.heap) (hP : va_P x.1 vwCl (wld x M) H) (hS : va_S (A0 x) s.heap H locs) (hsz : ls.size = nL) (hre : (rest.map fun v => v.category).sum ≤ 8) (hfr : rm.frames + 1 ≤ R.frames) (hlo : 8 + (3 + 11) + rm.locals ≤ R.locals) (hcs : rm.cells = 0 ∧ rm.slots = 0 ∧ cells ≤ R.cells ∧ slots ≤ R.slots) (hdg : decode cc pc = .ok (.invokevirtual 171, 3)) (kk : ∀ (H1 : Heap) (locs1 : List Loc), va_P x.1 vwCl (wld x out.2) H1 → va_S (A0 x) s.heap H1 locs1 → W p l e R s m args below meth c H1 locs1 cells slots Q (F0 m (pc + 3) ls (.int out.1 :: rest))) : W p l e R s m args below meth c H locs cells slots Q (F0 m pc ls (.ref (x.2.1 26) :: rest)) :=
  m_ci (va_runV (As := []) (rest := rest) ⟨hx, hb, hml, hown, hts.1⟩ hM (⟨callB_of 0 hts.1 (tb_good q_435) rfl hcs.1 hcs.2.1 (hts.1 _ q_323) (hts.1 _ q_436) ⟨by decide, by decide, by decide +kernel⟩ ⟨hfr, hlo⟩, hts.1 _ q_437, hts.1 _ q_438⟩) ⟨blind, va_recv hK hP (ci := 11) rfl (wld_at (by decide) rfl), m_pre hts hK hZ hP hS⟩ rfl rfl hsz rfl (lv_room hre) hdg ⟨hcs.2.2.1, hcs.2.2.2⟩) hS kk
theorem cl_MO_175 {p : Program} {l : Launch} {e : Env} {R : Room} {s : State} {m : MethodId} {args : Array Value} {below : List Frame} {meth : Method} {c : Code} {H : Heap} {locs : List Loc} {cells slots : Nat} {Q : State → Prop} {cc : ByteArray} {pc : Nat} {ls : Array Slot} {rest : List Value} {x : Cx} {M : Mem}  {nL : Nat} {rm : Room} {out : Mem} (hM : Cv l x y_MO_trapped (Cond.code y_MO_trapped b_MO_trapped 3 none :: tb) rm [.ref (x.2.1 26)] M out) (hx : p.tables.exec = Jvm.exec) (hb : c.code = cc) (hml : c.maxLocals = nL) (hts : Tb args s) (hown : s.vm.findClass R_MO = some m.cls) (hK : va_K x.1 vwCl (tysx x) s) (hZ : Stc x s s.heap) (hP : va_P x.1 vwCl (wld x M) H) (hS : va_S (A0 x) s.heap H locs) (hsz : ls.size = nL) (hre : (rest.map fun v => v.category).sum ≤ 8) (hfr : rm.frames + 1 ≤ R.frames) (hlo : 8 + (3 + 11) + rm.locals ≤ R.locals) (hcs : rm.cells = 0 ∧ rm.slots = 0 ∧ cells ≤ R.cells ∧ slots ≤ R.slots) (hdg : decode cc pc = .ok (.invokevirtual 175, 3)) (kk : ∀ (H1 : Heap) (locs1 : List Loc), va_P x.1 vwCl (wld x out) H1 → va_S (A0 x) s.heap H1 locs1 → W p l e R s m args below meth c H1 locs1 cells slots Q (F0 m (pc + 3) ls (rest))) : W p l e R s m args below meth c H locs cells slots Q (F0 m pc ls (.ref (x.2.1 26) :: rest)) :=
  m_cv (va_runV (As := []) (rest := rest) ⟨hx, hb, hml, hown, hts.1⟩ hM (⟨callB_of 0 hts.1 (tb_good q_439) rfl hcs.1 hcs.2.1 (hts.1 _ q_323) (hts.1 _ q_440) ⟨by decide, by decide, by decide +kernel⟩ ⟨hfr, hlo⟩, hts.1 _ q_441, hts.1 _ q_442⟩) ⟨blind, va_recv hK hP (ci := 11) rfl (wld_at (by decide) rfl), m_pre hts hK hZ hP hS⟩ rfl rfl hsz rfl (lv_room hre) hdg ⟨hcs.2.2.1, hcs.2.2.2⟩) hS kk
theorem cl_MO_165 {p : Program} {l : Launch} {e : Env} {R : Room} {s : State} {m : MethodId} {args : Array Value} {below : List Frame} {meth : Method} {c : Code} {H : Heap} {locs : List Loc} {cells slots : Nat} {Q : State → Prop} {cc : ByteArray} {pc : Nat} {ls : Array Slot} {rest : List Value} {x : Cx} {M : Mem}  {nL : Nat} {rm : Room} {out : Mem} (hM : Cv l x y_MO_runCurrent (Cond.code y_MO_runCurrent b_MO_runCurrent 2 none :: tb) rm [.ref (x.2.1 26)] M out) (hx : p.tables.exec = Jvm.exec) (hb : c.code = cc) (hml : c.maxLocals = nL) (hts : Tb args s) (hown : s.vm.findClass R_MO = some m.cls) (hK : va_K x.1 vwCl (tysx x) s) (hZ : Stc x s s.heap) (hP : va_P x.1 vwCl (wld x M) H) (hS : va_S (A0 x) s.heap H locs) (hsz : ls.size = nL) (hre : (rest.map fun v => v.category).sum ≤ 8) (hfr : rm.frames + 1 ≤ R.frames) (hlo : 8 + (2 + 11) + rm.locals ≤ R.locals) (hcs : rm.cells = 0 ∧ rm.slots = 0 ∧ cells ≤ R.cells ∧ slots ≤ R.slots) (hdg : decode cc pc = .ok (.invokevirtual 165, 3)) (kk : ∀ (H1 : Heap) (locs1 : List Loc), va_P x.1 vwCl (wld x out) H1 → va_S (A0 x) s.heap H1 locs1 → W p l e R s m args below meth c H1 locs1 cells slots Q (F0 m (pc + 3) ls (rest))) : W p l e R s m args below meth c H locs cells slots Q (F0 m pc ls (.ref (x.2.1 26) :: rest)) :=
  m_cv (va_runV (As := []) (rest := rest) ⟨hx, hb, hml, hown, hts.1⟩ hM (⟨callB_of 0 hts.1 (tb_good q_443) rfl hcs.1 hcs.2.1 (hts.1 _ q_323) (hts.1 _ q_444) ⟨by decide, by decide, by decide +kernel⟩ ⟨hfr, hlo⟩, hts.1 _ q_445, hts.1 _ q_446⟩) ⟨blind, va_recv hK hP (ci := 11) rfl (wld_at (by decide) rfl), m_pre hts hK hZ hP hS⟩ rfl rfl hsz rfl (lv_room hre) hdg ⟨hcs.2.2.1, hcs.2.2.2⟩) hS kk
theorem pf_MO_99 {p : Program} {l : Launch} {e : Env} {R : Room} {s : State} {m : MethodId} {args : Array Value} {below : List Frame} {meth : Method} {c : Code} {H H0 : Heap} {locs : List Loc} {cells slots : Nat} {Q : State → Prop} {cc : ByteArray} {pc : Nat} {ls : Array Slot} {rest : List Value} {x : Cx} {M M1 : Mem} {v : Int32} (hexec : p.tables.exec = Jvm.exec) (hb : c.code = cc) (hts : Tb args s) (hown : s.vm.findClass R_MO = some m.cls) (hK : va_K x.1 vwCl (tysx x) s) (hJ : Inj x) (hP : va_P x.1 vwCl (wld x M) H) (hS : va_S (A0 x) H0 H locs) (hM : M1 = st M 26 32 v) (hdg : decode cc pc = .ok (.putfield 99, 3)) (kk : ∀ (H1 : Heap) (locs1 : List Loc), va_P x.1 vwCl (wld x M1) H1 → va_S (A0 x) H0 H1 locs1 → W p l e R s m args below meth c H1 locs1 cells slots Q (F0 m (pc + 3) ls rest)) : W p l e R s m args below meth c H locs cells slots Q (F0 m pc ls (.int v :: .ref (x.2.1 26) :: rest)) :=
  m_put (ref := "EdgeCampaignModel") (C := R_MO) (T := T_MO) (N := 45) (ci := 11) hexec hb hts in_MO t_MO ty_MO nm_MO hown hK hJ hP hS (by decide) rfl rfl 32 (by decide) q_329 rfl rfl (by decide +kernel) (Nat.le_of_ble_eq_true rfl) rfl hM hdg kk
theorem gf_MO_168 {p : Program} {l : Launch} {e : Env} {R : Room} {s : State} {m : MethodId} {args : Array Value} {below : List Frame} {meth : Method} {c : Code} {H : Heap} {locs : List Loc} {cells slots : Nat} {Q : State → Prop} {cc : ByteArray} {pc : Nat} {ls : Array Slot} {rest : List Value} {x : Cx} {M : Mem} (hexec : p.tables.exec = Jvm.exec) (hb : c.code = cc) (hts : Tb args s) (hown : s.vm.findClass R_MO = some m.cls) (hK : va_K x.1 vwCl (tysx x) s) (hP : va_P x.1 vwCl (wld x M) H) (hdg : decode cc pc = .ok (.getfield 168, 3)) (kk : W p l e R s m args below meth c H locs cells slots Q (F0 m (pc + 3) ls (.int (M 26 33) :: rest))) : W p l e R s m args below meth c H locs cells slots Q (F0 m pc ls (.ref (x.2.1 26) :: rest)) :=
  m_get (ref := "EdgeCampaignModel") (C := R_MO) (T := T_MO) (N := 45) (ci := 11) hexec hb hts in_MO hown hK hP (by decide) rfl rfl 33 (by decide) q_434 rfl rfl hdg kk
theorem gf_MO_85 {p : Program} {l : Launch} {e : Env} {R : Room} {s : State} {m : MethodId} {args : Array Value} {below : List Frame} {meth : Method} {c : Code} {H : Heap} {locs : List Loc} {cells slots : Nat} {Q : State → Prop} {cc : ByteArray} {pc : Nat} {ls : Array Slot} {rest : List Value} {x : Cx} {M : Mem} (hexec : p.tables.exec = Jvm.exec) (hb : c.code = cc) (hts : Tb args s) (hown : s.vm.findClass R_MO = some m.cls) (hK : va_K x.1 vwCl (tysx x) s) (hP : va_P x.1 vwCl (wld x M) H) (hdg : decode cc pc = .ok (.getfield 85, 3)) (kk : W p l e R s m args below meth c H locs cells slots Q (F0 m (pc + 3) ls (.int (M 26 6) :: rest))) : W p l e R s m args below meth c H locs cells slots Q (F0 m pc ls (.ref (x.2.1 26) :: rest)) :=
  m_get (ref := "EdgeCampaignModel") (C := R_MO) (T := T_MO) (N := 45) (ci := 11) hexec hb hts in_MO hown hK hP (by decide) rfl rfl 6 (by decide) q_447 rfl rfl hdg kk
theorem pf_MO_85 {p : Program} {l : Launch} {e : Env} {R : Room} {s : State} {m : MethodId} {args : Array Value} {below : List Frame} {meth : Method} {c : Code} {H H0 : Heap} {locs : List Loc} {cells slots : Nat} {Q : State → Prop} {cc : ByteArray} {pc : Nat} {ls : Array Slot} {rest : List Value} {x : Cx} {M M1 : Mem} {v : Int32} (hexec : p.tables.exec = Jvm.exec) (hb : c.code = cc) (hts : Tb args s) (hown : s.vm.findClass R_MO = some m.cls) (hK : va_K x.1 vwCl (tysx x) s) (hJ : Inj x) (hP : va_P x.1 vwCl (wld x M) H) (hS : va_S (A0 x) H0 H locs) (hM : M1 = st M 26 6 v) (hdg : decode cc pc = .ok (.putfield 85, 3)) (kk : ∀ (H1 : Heap) (locs1 : List Loc), va_P x.1 vwCl (wld x M1) H1 → va_S (A0 x) H0 H1 locs1 → W p l e R s m args below meth c H1 locs1 cells slots Q (F0 m (pc + 3) ls rest)) : W p l e R s m args below meth c H locs cells slots Q (F0 m pc ls (.int v :: .ref (x.2.1 26) :: rest)) :=
  m_put (ref := "EdgeCampaignModel") (C := R_MO) (T := T_MO) (N := 45) (ci := 11) hexec hb hts in_MO t_MO ty_MO nm_MO hown hK hJ hP hS (by decide) rfl rfl 6 (by decide) q_447 rfl rfl (by decide +kernel) (Nat.le_of_ble_eq_true rfl) rfl hM hdg kk
theorem gf_MO_209 {p : Program} {l : Launch} {e : Env} {R : Room} {s : State} {m : MethodId} {args : Array Value} {below : List Frame} {meth : Method} {c : Code} {H : Heap} {locs : List Loc} {cells slots : Nat} {Q : State → Prop} {cc : ByteArray} {pc : Nat} {ls : Array Slot} {rest : List Value} {x : Cx} {M : Mem} (hexec : p.tables.exec = Jvm.exec) (hb : c.code = cc) (hts : Tb args s) (hown : s.vm.findClass R_MO = some m.cls) (hK : va_K x.1 vwCl (tysx x) s) (hP : va_P x.1 vwCl (wld x M) H) (hdg : decode cc pc = .ok (.getfield 209, 3)) (kk : W p l e R s m args below meth c H locs cells slots Q (F0 m (pc + 3) ls (.int (M 26 40) :: rest))) : W p l e R s m args below meth c H locs cells slots Q (F0 m pc ls (.ref (x.2.1 26) :: rest)) :=
  m_get (ref := "EdgeCampaignModel") (C := R_MO) (T := T_MO) (N := 45) (ci := 11) hexec hb hts in_MO hown hK hP (by decide) rfl rfl 40 (by decide) q_421 rfl rfl hdg kk
theorem pf_MO_139 {p : Program} {l : Launch} {e : Env} {R : Room} {s : State} {m : MethodId} {args : Array Value} {below : List Frame} {meth : Method} {c : Code} {H H0 : Heap} {locs : List Loc} {cells slots : Nat} {Q : State → Prop} {cc : ByteArray} {pc : Nat} {ls : Array Slot} {rest : List Value} {x : Cx} {M M1 : Mem} {v : Int32} (hexec : p.tables.exec = Jvm.exec) (hb : c.code = cc) (hts : Tb args s) (hown : s.vm.findClass R_MO = some m.cls) (hK : va_K x.1 vwCl (tysx x) s) (hJ : Inj x) (hP : va_P x.1 vwCl (wld x M) H) (hS : va_S (A0 x) H0 H locs) (hM : M1 = st M 26 44 v) (hdg : decode cc pc = .ok (.putfield 139, 3)) (kk : ∀ (H1 : Heap) (locs1 : List Loc), va_P x.1 vwCl (wld x M1) H1 → va_S (A0 x) H0 H1 locs1 → W p l e R s m args below meth c H1 locs1 cells slots Q (F0 m (pc + 3) ls rest)) : W p l e R s m args below meth c H locs cells slots Q (F0 m pc ls (.int v :: .ref (x.2.1 26) :: rest)) :=
  m_put (ref := "EdgeCampaignModel") (C := R_MO) (T := T_MO) (N := 45) (ci := 11) hexec hb hts in_MO t_MO ty_MO nm_MO hown hK hJ hP hS (by decide) rfl rfl 44 (by decide) q_368 rfl rfl (by decide +kernel) (Nat.le_of_ble_eq_true rfl) rfl hM hdg kk
theorem cl_MO_235 {p : Program} {l : Launch} {e : Env} {R : Room} {s : State} {m : MethodId} {args : Array Value} {below : List Frame} {meth : Method} {c : Code} {H : Heap} {locs : List Loc} {cells slots : Nat} {Q : State → Prop} {cc : ByteArray} {pc : Nat} {ls : Array Slot} {rest : List Value} {x : Cx} {M : Mem} {a1 : Int32} {nL : Nat} {rm : Room} {out : Int32 × Mem} (hM : Ci l x y_MO_draw (Cond.code y_MO_draw b_MO_draw 2 (some .int) :: tb) rm [.ref (x.2.1 26), .int a1] M out) (hx : p.tables.exec = Jvm.exec) (hb : c.code = cc) (hml : c.maxLocals = nL) (hts : Tb args s) (hown : s.vm.findClass R_MO = some m.cls) (hK : va_K x.1 vwCl (tysx x) s) (hZ : Stc x s s.heap) (hP : va_P x.1 vwCl (wld x M) H) (hS : va_S (A0 x) s.heap H locs) (hsz : ls.size = nL) (hre : (rest.map fun v => v.category).sum ≤ 8) (hfr : rm.frames + 1 ≤ R.frames) (hlo : 8 + (2 + 11) + rm.locals ≤ R.locals) (hcs : rm.cells = 0 ∧ rm.slots = 0 ∧ cells ≤ R.cells ∧ slots ≤ R.slots) (hdg : decode cc pc = .ok (.invokevirtual 235, 3)) (kk : ∀ (H1 : Heap) (locs1 : List Loc), va_P x.1 vwCl (wld x out.2) H1 → va_S (A0 x) s.heap H1 locs1 → W p l e R s m args below meth c H1 locs1 cells slots Q (F0 m (pc + 3) ls (.int out.1 :: rest))) : W p l e R s m args below meth c H locs cells slots Q (F0 m pc ls (.int a1 :: .ref (x.2.1 26) :: rest)) :=
  m_ci (va_runV (As := [.int a1]) (rest := rest) ⟨hx, hb, hml, hown, hts.1⟩ hM (⟨callB_of 1 hts.1 (tb_good q_449) rfl hcs.1 hcs.2.1 (hts.1 _ q_323) (hts.1 _ q_450) ⟨by decide, by decide, by decide +kernel⟩ ⟨hfr, hlo⟩, hts.1 _ q_451, hts.1 _ q_452⟩) ⟨blind, va_recv hK hP (ci := 11) rfl (wld_at (by decide) rfl), m_pre hts hK hZ hP hS⟩ rfl rfl hsz rfl (lv_room hre) hdg ⟨hcs.2.2.1, hcs.2.2.2⟩) hS kk
theorem cl_MO_241 {p : Program} {l : Launch} {e : Env} {R : Room} {s : State} {m : MethodId} {args : Array Value} {below : List Frame} {meth : Method} {c : Code} {H : Heap} {locs : List Loc} {cells slots : Nat} {Q : State → Prop} {cc : ByteArray} {pc : Nat} {ls : Array Slot} {rest : List Value} {x : Cx} {M : Mem} {a1 : Int32} {nL : Nat} {rm : Room} {out : Mem} (hM : Cv l x y_MO_change (Cond.code y_MO_change b_MO_change 4 none :: tb) rm [.ref (x.2.1 26), .int a1] M out) (hx : p.tables.exec = Jvm.exec) (hb : c.code = cc) (hml : c.maxLocals = nL) (hts : Tb args s) (hown : s.vm.findClass R_MO = some m.cls) (hK : va_K x.1 vwCl (tysx x) s) (hZ : Stc x s s.heap) (hP : va_P x.1 vwCl (wld x M) H) (hS : va_S (A0 x) s.heap H locs) (hsz : ls.size = nL) (hre : (rest.map fun v => v.category).sum ≤ 8) (hfr : rm.frames + 1 ≤ R.frames) (hlo : 8 + (4 + 11) + rm.locals ≤ R.locals) (hcs : rm.cells = 0 ∧ rm.slots = 0 ∧ cells ≤ R.cells ∧ slots ≤ R.slots) (hdg : decode cc pc = .ok (.invokevirtual 241, 3)) (kk : ∀ (H1 : Heap) (locs1 : List Loc), va_P x.1 vwCl (wld x out) H1 → va_S (A0 x) s.heap H1 locs1 → W p l e R s m args below meth c H1 locs1 cells slots Q (F0 m (pc + 3) ls (rest))) : W p l e R s m args below meth c H locs cells slots Q (F0 m pc ls (.int a1 :: .ref (x.2.1 26) :: rest)) :=
  m_cv (va_runV (As := [.int a1]) (rest := rest) ⟨hx, hb, hml, hown, hts.1⟩ hM (⟨callB_of 1 hts.1 (tb_good q_453) rfl hcs.1 hcs.2.1 (hts.1 _ q_323) (hts.1 _ q_454) ⟨by decide, by decide, by decide +kernel⟩ ⟨hfr, hlo⟩, hts.1 _ q_455, hts.1 _ q_456⟩) ⟨blind, va_recv hK hP (ci := 11) rfl (wld_at (by decide) rfl), m_pre hts hK hZ hP hS⟩ rfl rfl hsz rfl (lv_room hre) hdg ⟨hcs.2.2.1, hcs.2.2.2⟩) hS kk
theorem cl_MO_238 {p : Program} {l : Launch} {e : Env} {R : Room} {s : State} {m : MethodId} {args : Array Value} {below : List Frame} {meth : Method} {c : Code} {H : Heap} {locs : List Loc} {cells slots : Nat} {Q : State → Prop} {cc : ByteArray} {pc : Nat} {ls : Array Slot} {rest : List Value} {x : Cx} {M : Mem}  {nL : Nat} {rm : Room} {out : Mem} (hM : Cv l x y_MO_putIn (Cond.code y_MO_putIn b_MO_putIn 4 none :: tb) rm [.ref (x.2.1 26)] M out) (hx : p.tables.exec = Jvm.exec) (hb : c.code = cc) (hml : c.maxLocals = nL) (hts : Tb args s) (hown : s.vm.findClass R_MO = some m.cls) (hK : va_K x.1 vwCl (tysx x) s) (hZ : Stc x s s.heap) (hP : va_P x.1 vwCl (wld x M) H) (hS : va_S (A0 x) s.heap H locs) (hsz : ls.size = nL) (hre : (rest.map fun v => v.category).sum ≤ 8) (hfr : rm.frames + 1 ≤ R.frames) (hlo : 8 + (4 + 11) + rm.locals ≤ R.locals) (hcs : rm.cells = 0 ∧ rm.slots = 0 ∧ cells ≤ R.cells ∧ slots ≤ R.slots) (hdg : decode cc pc = .ok (.invokevirtual 238, 3)) (kk : ∀ (H1 : Heap) (locs1 : List Loc), va_P x.1 vwCl (wld x out) H1 → va_S (A0 x) s.heap H1 locs1 → W p l e R s m args below meth c H1 locs1 cells slots Q (F0 m (pc + 3) ls (rest))) : W p l e R s m args below meth c H locs cells slots Q (F0 m pc ls (.ref (x.2.1 26) :: rest)) :=
  m_cv (va_runV (As := []) (rest := rest) ⟨hx, hb, hml, hown, hts.1⟩ hM (⟨callB_of 0 hts.1 (tb_good q_457) rfl hcs.1 hcs.2.1 (hts.1 _ q_323) (hts.1 _ q_458) ⟨by decide, by decide, by decide +kernel⟩ ⟨hfr, hlo⟩, hts.1 _ q_459, hts.1 _ q_460⟩) ⟨blind, va_recv hK hP (ci := 11) rfl (wld_at (by decide) rfl), m_pre hts hK hZ hP hS⟩ rfl rfl hsz rfl (lv_room hre) hdg ⟨hcs.2.2.1, hcs.2.2.2⟩) hS kk
theorem cl_MO_232 {p : Program} {l : Launch} {e : Env} {R : Room} {s : State} {m : MethodId} {args : Array Value} {below : List Frame} {meth : Method} {c : Code} {H : Heap} {locs : List Loc} {cells slots : Nat} {Q : State → Prop} {cc : ByteArray} {pc : Nat} {ls : Array Slot} {rest : List Value} {x : Cx} {M : Mem}  {nL : Nat} {rm : Room} {out : Mem} (hM : Cv l x y_MO_takeNext (Cond.code y_MO_takeNext b_MO_takeNext 6 none :: tb) rm [.ref (x.2.1 26)] M out) (hx : p.tables.exec = Jvm.exec) (hb : c.code = cc) (hml : c.maxLocals = nL) (hts : Tb args s) (hown : s.vm.findClass R_MO = some m.cls) (hK : va_K x.1 vwCl (tysx x) s) (hZ : Stc x s s.heap) (hP : va_P x.1 vwCl (wld x M) H) (hS : va_S (A0 x) s.heap H locs) (hsz : ls.size = nL) (hre : (rest.map fun v => v.category).sum ≤ 8) (hfr : rm.frames + 1 ≤ R.frames) (hlo : 8 + (6 + 11) + rm.locals ≤ R.locals) (hcs : rm.cells = 0 ∧ rm.slots = 0 ∧ cells ≤ R.cells ∧ slots ≤ R.slots) (hdg : decode cc pc = .ok (.invokevirtual 232, 3)) (kk : ∀ (H1 : Heap) (locs1 : List Loc), va_P x.1 vwCl (wld x out) H1 → va_S (A0 x) s.heap H1 locs1 → W p l e R s m args below meth c H1 locs1 cells slots Q (F0 m (pc + 3) ls (rest))) : W p l e R s m args below meth c H locs cells slots Q (F0 m pc ls (.ref (x.2.1 26) :: rest)) :=
  m_cv (va_runV (As := []) (rest := rest) ⟨hx, hb, hml, hown, hts.1⟩ hM (⟨callB_of 0 hts.1 (tb_good q_461) rfl hcs.1 hcs.2.1 (hts.1 _ q_323) (hts.1 _ q_462) ⟨by decide, by decide, by decide +kernel⟩ ⟨hfr, hlo⟩, hts.1 _ q_463, hts.1 _ q_464⟩) ⟨blind, va_recv hK hP (ci := 11) rfl (wld_at (by decide) rfl), m_pre hts hK hZ hP hS⟩ rfl rfl hsz rfl (lv_room hre) hdg ⟨hcs.2.2.1, hcs.2.2.2⟩) hS kk
theorem gf_MO_215 {p : Program} {l : Launch} {e : Env} {R : Room} {s : State} {m : MethodId} {args : Array Value} {below : List Frame} {meth : Method} {c : Code} {H : Heap} {locs : List Loc} {cells slots : Nat} {Q : State → Prop} {cc : ByteArray} {pc : Nat} {ls : Array Slot} {rest : List Value} {x : Cx} {M : Mem} (hexec : p.tables.exec = Jvm.exec) (hb : c.code = cc) (hts : Tb args s) (hown : s.vm.findClass R_MO = some m.cls) (hK : va_K x.1 vwCl (tysx x) s) (hP : va_P x.1 vwCl (wld x M) H) (hdg : decode cc pc = .ok (.getfield 215, 3)) (kk : W p l e R s m args below meth c H locs cells slots Q (F0 m (pc + 3) ls (.int (M 26 41) :: rest))) : W p l e R s m args below meth c H locs cells slots Q (F0 m pc ls (.ref (x.2.1 26) :: rest)) :=
  m_get (ref := "EdgeCampaignModel") (C := R_MO) (T := T_MO) (N := 45) (ci := 11) hexec hb hts in_MO hown hK hP (by decide) rfl rfl 41 (by decide) q_420 rfl rfl hdg kk
theorem cl_MO_228 {p : Program} {l : Launch} {e : Env} {R : Room} {s : State} {m : MethodId} {args : Array Value} {below : List Frame} {meth : Method} {c : Code} {H : Heap} {locs : List Loc} {cells slots : Nat} {Q : State → Prop} {cc : ByteArray} {pc : Nat} {ls : Array Slot} {rest : List Value} {x : Cx} {M : Mem}  {nL : Nat} {rm : Room} {out : Int32 × Mem} (hM : Ci l x y_MO_execute (Cond.code y_MO_execute b_MO_execute 4 (some .int) :: tb) rm [.ref (x.2.1 26)] M out) (hx : p.tables.exec = Jvm.exec) (hb : c.code = cc) (hml : c.maxLocals = nL) (hts : Tb args s) (hown : s.vm.findClass R_MO = some m.cls) (hK : va_K x.1 vwCl (tysx x) s) (hZ : Stc x s s.heap) (hP : va_P x.1 vwCl (wld x M) H) (hS : va_S (A0 x) s.heap H locs) (hsz : ls.size = nL) (hre : (rest.map fun v => v.category).sum ≤ 8) (hfr : rm.frames + 1 ≤ R.frames) (hlo : 8 + (4 + 11) + rm.locals ≤ R.locals) (hcs : rm.cells = 0 ∧ rm.slots = 0 ∧ cells ≤ R.cells ∧ slots ≤ R.slots) (hdg : decode cc pc = .ok (.invokevirtual 228, 3)) (kk : ∀ (H1 : Heap) (locs1 : List Loc), va_P x.1 vwCl (wld x out.2) H1 → va_S (A0 x) s.heap H1 locs1 → W p l e R s m args below meth c H1 locs1 cells slots Q (F0 m (pc + 3) ls (.int out.1 :: rest))) : W p l e R s m args below meth c H locs cells slots Q (F0 m pc ls (.ref (x.2.1 26) :: rest)) :=
  m_ci (va_runV (As := []) (rest := rest) ⟨hx, hb, hml, hown, hts.1⟩ hM (⟨callB_of 0 hts.1 (tb_good q_465) rfl hcs.1 hcs.2.1 (hts.1 _ q_323) (hts.1 _ q_466) ⟨by decide, by decide, by decide +kernel⟩ ⟨hfr, hlo⟩, hts.1 _ q_467, hts.1 _ q_468⟩) ⟨blind, va_recv hK hP (ci := 11) rfl (wld_at (by decide) rfl), m_pre hts hK hZ hP hS⟩ rfl rfl hsz rfl (lv_room hre) hdg ⟨hcs.2.2.1, hcs.2.2.2⟩) hS kk
theorem gf_MO_212 {p : Program} {l : Launch} {e : Env} {R : Room} {s : State} {m : MethodId} {args : Array Value} {below : List Frame} {meth : Method} {c : Code} {H : Heap} {locs : List Loc} {cells slots : Nat} {Q : State → Prop} {cc : ByteArray} {pc : Nat} {ls : Array Slot} {rest : List Value} {x : Cx} {M : Mem} (hexec : p.tables.exec = Jvm.exec) (hb : c.code = cc) (hts : Tb args s) (hown : s.vm.findClass R_MO = some m.cls) (hK : va_K x.1 vwCl (tysx x) s) (hP : va_P x.1 vwCl (wld x M) H) (hdg : decode cc pc = .ok (.getfield 212, 3)) (kk : W p l e R s m args below meth c H locs cells slots Q (F0 m (pc + 3) ls (.int (M 26 42) :: rest))) : W p l e R s m args below meth c H locs cells slots Q (F0 m pc ls (.ref (x.2.1 26) :: rest)) :=
  m_get (ref := "EdgeCampaignModel") (C := R_MO) (T := T_MO) (N := 45) (ci := 11) hexec hb hts in_MO hown hK hP (by decide) rfl rfl 42 (by decide) q_418 rfl rfl hdg kk
theorem cl_MO_225 {p : Program} {l : Launch} {e : Env} {R : Room} {s : State} {m : MethodId} {args : Array Value} {below : List Frame} {meth : Method} {c : Code} {H : Heap} {locs : List Loc} {cells slots : Nat} {Q : State → Prop} {cc : ByteArray} {pc : Nat} {ls : Array Slot} {rest : List Value} {x : Cx} {M : Mem} {a1 : Int32} {nL : Nat} {rm : Room} {out : Mem} (hM : Cv l x y_MO_crossed (Cond.code y_MO_crossed b_MO_crossed 6 none :: tb) rm [.ref (x.2.1 26), .int a1] M out) (hx : p.tables.exec = Jvm.exec) (hb : c.code = cc) (hml : c.maxLocals = nL) (hts : Tb args s) (hown : s.vm.findClass R_MO = some m.cls) (hK : va_K x.1 vwCl (tysx x) s) (hZ : Stc x s s.heap) (hP : va_P x.1 vwCl (wld x M) H) (hS : va_S (A0 x) s.heap H locs) (hsz : ls.size = nL) (hre : (rest.map fun v => v.category).sum ≤ 8) (hfr : rm.frames + 1 ≤ R.frames) (hlo : 8 + (6 + 11) + rm.locals ≤ R.locals) (hcs : rm.cells = 0 ∧ rm.slots = 0 ∧ cells ≤ R.cells ∧ slots ≤ R.slots) (hdg : decode cc pc = .ok (.invokevirtual 225, 3)) (kk : ∀ (H1 : Heap) (locs1 : List Loc), va_P x.1 vwCl (wld x out) H1 → va_S (A0 x) s.heap H1 locs1 → W p l e R s m args below meth c H1 locs1 cells slots Q (F0 m (pc + 3) ls (rest))) : W p l e R s m args below meth c H locs cells slots Q (F0 m pc ls (.int a1 :: .ref (x.2.1 26) :: rest)) :=
  m_cv (va_runV (As := [.int a1]) (rest := rest) ⟨hx, hb, hml, hown, hts.1⟩ hM (⟨callB_of 1 hts.1 (tb_good q_469) rfl hcs.1 hcs.2.1 (hts.1 _ q_323) (hts.1 _ q_470) ⟨by decide, by decide, by decide +kernel⟩ ⟨hfr, hlo⟩, hts.1 _ q_471, hts.1 _ q_472⟩) ⟨blind, va_recv hK hP (ci := 11) rfl (wld_at (by decide) rfl), m_pre hts hK hZ hP hS⟩ rfl rfl hsz rfl (lv_room hre) hdg ⟨hcs.2.2.1, hcs.2.2.2⟩) hS kk
theorem cl_MO_222 {p : Program} {l : Launch} {e : Env} {R : Room} {s : State} {m : MethodId} {args : Array Value} {below : List Frame} {meth : Method} {c : Code} {H : Heap} {locs : List Loc} {cells slots : Nat} {Q : State → Prop} {cc : ByteArray} {pc : Nat} {ls : Array Slot} {rest : List Value} {x : Cx} {M : Mem}  {nL : Nat} {rm : Room} {out : Mem} (hM : Cv l x y_MO_mixed (Cond.code y_MO_mixed b_MO_mixed 4 none :: tb) rm [.ref (x.2.1 26)] M out) (hx : p.tables.exec = Jvm.exec) (hb : c.code = cc) (hml : c.maxLocals = nL) (hts : Tb args s) (hown : s.vm.findClass R_MO = some m.cls) (hK : va_K x.1 vwCl (tysx x) s) (hZ : Stc x s s.heap) (hP : va_P x.1 vwCl (wld x M) H) (hS : va_S (A0 x) s.heap H locs) (hsz : ls.size = nL) (hre : (rest.map fun v => v.category).sum ≤ 8) (hfr : rm.frames + 1 ≤ R.frames) (hlo : 8 + (4 + 11) + rm.locals ≤ R.locals) (hcs : rm.cells = 0 ∧ rm.slots = 0 ∧ cells ≤ R.cells ∧ slots ≤ R.slots) (hdg : decode cc pc = .ok (.invokevirtual 222, 3)) (kk : ∀ (H1 : Heap) (locs1 : List Loc), va_P x.1 vwCl (wld x out) H1 → va_S (A0 x) s.heap H1 locs1 → W p l e R s m args below meth c H1 locs1 cells slots Q (F0 m (pc + 3) ls (rest))) : W p l e R s m args below meth c H locs cells slots Q (F0 m pc ls (.ref (x.2.1 26) :: rest)) :=
  m_cv (va_runV (As := []) (rest := rest) ⟨hx, hb, hml, hown, hts.1⟩ hM (⟨callB_of 0 hts.1 (tb_good q_473) rfl hcs.1 hcs.2.1 (hts.1 _ q_323) (hts.1 _ q_474) ⟨by decide, by decide, by decide +kernel⟩ ⟨hfr, hlo⟩, hts.1 _ q_475, hts.1 _ q_476⟩) ⟨blind, va_recv hK hP (ci := 11) rfl (wld_at (by decide) rfl), m_pre hts hK hZ hP hS⟩ rfl rfl hsz rfl (lv_room hre) hdg ⟨hcs.2.2.1, hcs.2.2.2⟩) hS kk
theorem cl_MO_218 {p : Program} {l : Launch} {e : Env} {R : Room} {s : State} {m : MethodId} {args : Array Value} {below : List Frame} {meth : Method} {c : Code} {H : Heap} {locs : List Loc} {cells slots : Nat} {Q : State → Prop} {cc : ByteArray} {pc : Nat} {ls : Array Slot} {rest : List Value} {x : Cx} {M : Mem} {a1 : Int32} {a2 : Int32} {nL : Nat} {rm : Room} {out : Mem} (hM : Cv l x y_MO_plain (Cond.code y_MO_plain b_MO_plain 5 none :: tb) rm [.ref (x.2.1 26), .int a1, .int a2] M out) (hx : p.tables.exec = Jvm.exec) (hb : c.code = cc) (hml : c.maxLocals = nL) (hts : Tb args s) (hown : s.vm.findClass R_MO = some m.cls) (hK : va_K x.1 vwCl (tysx x) s) (hZ : Stc x s s.heap) (hP : va_P x.1 vwCl (wld x M) H) (hS : va_S (A0 x) s.heap H locs) (hsz : ls.size = nL) (hre : (rest.map fun v => v.category).sum ≤ 8) (hfr : rm.frames + 1 ≤ R.frames) (hlo : 8 + (5 + 11) + rm.locals ≤ R.locals) (hcs : rm.cells = 0 ∧ rm.slots = 0 ∧ cells ≤ R.cells ∧ slots ≤ R.slots) (hdg : decode cc pc = .ok (.invokevirtual 218, 3)) (kk : ∀ (H1 : Heap) (locs1 : List Loc), va_P x.1 vwCl (wld x out) H1 → va_S (A0 x) s.heap H1 locs1 → W p l e R s m args below meth c H1 locs1 cells slots Q (F0 m (pc + 3) ls (rest))) : W p l e R s m args below meth c H locs cells slots Q (F0 m pc ls (.int a2 :: .int a1 :: .ref (x.2.1 26) :: rest)) :=
  m_cv (va_runV (As := [.int a1, .int a2]) (rest := rest) ⟨hx, hb, hml, hown, hts.1⟩ hM (⟨callB_of 2 hts.1 (tb_good q_477) rfl hcs.1 hcs.2.1 (hts.1 _ q_323) (hts.1 _ q_478) ⟨by decide, by decide, by decide +kernel⟩ ⟨hfr, hlo⟩, hts.1 _ q_479, hts.1 _ q_480⟩) ⟨blind, va_recv hK hP (ci := 11) rfl (wld_at (by decide) rfl), m_pre hts hK hZ hP hS⟩ rfl rfl hsz rfl (lv_room hre) hdg ⟨hcs.2.2.1, hcs.2.2.2⟩) hS kk
theorem cl_MO_244 {p : Program} {l : Launch} {e : Env} {R : Room} {s : State} {m : MethodId} {args : Array Value} {below : List Frame} {meth : Method} {c : Code} {H : Heap} {locs : List Loc} {cells slots : Nat} {Q : State → Prop} {cc : ByteArray} {pc : Nat} {ls : Array Slot} {rest : List Value} {x : Cx} {M : Mem}  {nL : Nat} {rm : Room} {out : Mem} (hM : Cv l x y_MO_trial (Cond.code y_MO_trial b_MO_trial 5 none :: tb) rm [.ref (x.2.1 26)] M out) (hx : p.tables.exec = Jvm.exec) (hb : c.code = cc) (hml : c.maxLocals = nL) (hts : Tb args s) (hown : s.vm.findClass R_MO = some m.cls) (hK : va_K x.1 vwCl (tysx x) s) (hZ : Stc x s s.heap) (hP : va_P x.1 vwCl (wld x M) H) (hS : va_S (A0 x) s.heap H locs) (hsz : ls.size = nL) (hre : (rest.map fun v => v.category).sum ≤ 8) (hfr : rm.frames + 1 ≤ R.frames) (hlo : 8 + (5 + 11) + rm.locals ≤ R.locals) (hcs : rm.cells = 0 ∧ rm.slots = 0 ∧ cells ≤ R.cells ∧ slots ≤ R.slots) (hdg : decode cc pc = .ok (.invokevirtual 244, 3)) (kk : ∀ (H1 : Heap) (locs1 : List Loc), va_P x.1 vwCl (wld x out) H1 → va_S (A0 x) s.heap H1 locs1 → W p l e R s m args below meth c H1 locs1 cells slots Q (F0 m (pc + 3) ls (rest))) : W p l e R s m args below meth c H locs cells slots Q (F0 m pc ls (.ref (x.2.1 26) :: rest)) :=
  m_cv (va_runV (As := []) (rest := rest) ⟨hx, hb, hml, hown, hts.1⟩ hM (⟨callB_of 0 hts.1 (tb_good q_481) rfl hcs.1 hcs.2.1 (hts.1 _ q_323) (hts.1 _ q_482) ⟨by decide, by decide, by decide +kernel⟩ ⟨hfr, hlo⟩, hts.1 _ q_483, hts.1 _ q_484⟩) ⟨blind, va_recv hK hP (ci := 11) rfl (wld_at (by decide) rfl), m_pre hts hK hZ hP hS⟩ rfl rfl hsz rfl (lv_room hre) hdg ⟨hcs.2.2.1, hcs.2.2.2⟩) hS kk
theorem cl_MO_247 {p : Program} {l : Launch} {e : Env} {R : Room} {s : State} {m : MethodId} {args : Array Value} {below : List Frame} {meth : Method} {c : Code} {H : Heap} {locs : List Loc} {cells slots : Nat} {Q : State → Prop} {cc : ByteArray} {pc : Nat} {ls : Array Slot} {rest : List Value} {x : Cx} {M : Mem}  {nL : Nat} {rm : Room} {out : Int32 × Mem} (hM : Ci l x y_MO_seenEdges (Cond.code y_MO_seenEdges b_MO_seenEdges 3 (some .int) :: tb) rm [.ref (x.2.1 26)] M out) (hx : p.tables.exec = Jvm.exec) (hb : c.code = cc) (hml : c.maxLocals = nL) (hts : Tb args s) (hown : s.vm.findClass R_MO = some m.cls) (hK : va_K x.1 vwCl (tysx x) s) (hZ : Stc x s s.heap) (hP : va_P x.1 vwCl (wld x M) H) (hS : va_S (A0 x) s.heap H locs) (hsz : ls.size = nL) (hre : (rest.map fun v => v.category).sum ≤ 8) (hfr : rm.frames + 1 ≤ R.frames) (hlo : 8 + (3 + 11) + rm.locals ≤ R.locals) (hcs : rm.cells = 0 ∧ rm.slots = 0 ∧ cells ≤ R.cells ∧ slots ≤ R.slots) (hdg : decode cc pc = .ok (.invokevirtual 247, 3)) (kk : ∀ (H1 : Heap) (locs1 : List Loc), va_P x.1 vwCl (wld x out.2) H1 → va_S (A0 x) s.heap H1 locs1 → W p l e R s m args below meth c H1 locs1 cells slots Q (F0 m (pc + 3) ls (.int out.1 :: rest))) : W p l e R s m args below meth c H locs cells slots Q (F0 m pc ls (.ref (x.2.1 26) :: rest)) :=
  m_ci (va_runV (As := []) (rest := rest) ⟨hx, hb, hml, hown, hts.1⟩ hM (⟨callB_of 0 hts.1 (tb_good q_485) rfl hcs.1 hcs.2.1 (hts.1 _ q_323) (hts.1 _ q_486) ⟨by decide, by decide, by decide +kernel⟩ ⟨hfr, hlo⟩, hts.1 _ q_487, hts.1 _ q_488⟩) ⟨blind, va_recv hK hP (ci := 11) rfl (wld_at (by decide) rfl), m_pre hts hK hZ hP hS⟩ rfl rfl hsz rfl (lv_room hre) hdg ⟨hcs.2.2.1, hcs.2.2.2⟩) hS kk
theorem cl_MO_250 {p : Program} {l : Launch} {e : Env} {R : Room} {s : State} {m : MethodId} {args : Array Value} {below : List Frame} {meth : Method} {c : Code} {H : Heap} {locs : List Loc} {cells slots : Nat} {Q : State → Prop} {cc : ByteArray} {pc : Nat} {ls : Array Slot} {rest : List Value} {x : Cx} {M : Mem}  {nL : Nat} {rm : Room} {out : Int32 × Mem} (hM : Ci l x y_MO_seenPairs (Cond.code y_MO_seenPairs b_MO_seenPairs 4 (some .int) :: tb) rm [.ref (x.2.1 26)] M out) (hx : p.tables.exec = Jvm.exec) (hb : c.code = cc) (hml : c.maxLocals = nL) (hts : Tb args s) (hown : s.vm.findClass R_MO = some m.cls) (hK : va_K x.1 vwCl (tysx x) s) (hZ : Stc x s s.heap) (hP : va_P x.1 vwCl (wld x M) H) (hS : va_S (A0 x) s.heap H locs) (hsz : ls.size = nL) (hre : (rest.map fun v => v.category).sum ≤ 8) (hfr : rm.frames + 1 ≤ R.frames) (hlo : 8 + (4 + 11) + rm.locals ≤ R.locals) (hcs : rm.cells = 0 ∧ rm.slots = 0 ∧ cells ≤ R.cells ∧ slots ≤ R.slots) (hdg : decode cc pc = .ok (.invokevirtual 250, 3)) (kk : ∀ (H1 : Heap) (locs1 : List Loc), va_P x.1 vwCl (wld x out.2) H1 → va_S (A0 x) s.heap H1 locs1 → W p l e R s m args below meth c H1 locs1 cells slots Q (F0 m (pc + 3) ls (.int out.1 :: rest))) : W p l e R s m args below meth c H locs cells slots Q (F0 m pc ls (.ref (x.2.1 26) :: rest)) :=
  m_ci (va_runV (As := []) (rest := rest) ⟨hx, hb, hml, hown, hts.1⟩ hM (⟨callB_of 0 hts.1 (tb_good q_489) rfl hcs.1 hcs.2.1 (hts.1 _ q_323) (hts.1 _ q_490) ⟨by decide, by decide, by decide +kernel⟩ ⟨hfr, hlo⟩, hts.1 _ q_491, hts.1 _ q_492⟩) ⟨blind, va_recv hK hP (ci := 11) rfl (wld_at (by decide) rfl), m_pre hts hK hZ hP hS⟩ rfl rfl hsz rfl (lv_room hre) hdg ⟨hcs.2.2.1, hcs.2.2.2⟩) hS kk
end
section
theorem d_JA_fill_0 : decode b_JA_fill 0 = .ok (.iconst 0, 1) := by decide +kernel
theorem d_JA_fill_1 : decode b_JA_fill 1 = .ok (.istore_n 2, 1) := by decide +kernel
theorem d_JA_fill_2 : decode b_JA_fill 2 = .ok (.aload_n 0, 1) := by decide +kernel
theorem d_JA_fill_3 : decode b_JA_fill 3 = .ok (.arraylength, 1) := by decide +kernel
theorem d_JA_fill_4 : decode b_JA_fill 4 = .ok (.istore_n 3, 1) := by decide +kernel
theorem d_JA_fill_5 : decode b_JA_fill 5 = .ok (.iload_n 2, 1) := by decide +kernel
theorem d_JA_fill_6 : decode b_JA_fill 6 = .ok (.iload_n 3, 1) := by decide +kernel
theorem d_JA_fill_7 : decode b_JA_fill 7 = .ok (.if_icmp .ge 13, 3) := by decide +kernel
theorem d_JA_fill_10 : decode b_JA_fill 10 = .ok (.aload_n 0, 1) := by decide +kernel
theorem d_JA_fill_11 : decode b_JA_fill 11 = .ok (.iload_n 2, 1) := by decide +kernel
theorem d_JA_fill_12 : decode b_JA_fill 12 = .ok (.iload_n 1, 1) := by decide +kernel
theorem d_JA_fill_13 : decode b_JA_fill 13 = .ok (.iastore, 1) := by decide +kernel
theorem d_JA_fill_14 : decode b_JA_fill 14 = .ok (.iinc 2 1, 3) := by decide +kernel
theorem d_JA_fill_17 : decode b_JA_fill 17 = .ok (.goto (-12), 3) := by decide +kernel
theorem d_JA_fill_20 : decode b_JA_fill 20 = .ok (.return_, 1) := by decide +kernel
noncomputable def l_JA_fill_5 (j0 : Nat) (a1 : Int32) (v22 : Int32) (v23 : Int32) (M24 : Mem) : Option ((Int32 × Mem) ⊕ (Mem)) :=
  if v22 ≤ v23 then (some (.inr M24)) else (ck v23 4 (nx (st M24 j0 v23.toNatClampNeg a1) (fun M26 => nx (v23 + (1 : Int32)) (fun v27 => some (.inl (v27, M26))))))
noncomputable def s_JA_fill (j0 : Nat) (a1 : Int32) (M : Mem) : Option (Mem) :=
  nx ((0 : Int32)) (fun v21 => nx ((4 : Int32)) (fun v22 => lp (fun q : Int32 × Mem => l_JA_fill_5 j0 a1 v22 q.1 q.2) (v21, M)))
set_option maxHeartbeats 4000000 in
set_option maxRecDepth 100000 in
theorem c_JA_fill (l : Launch) (x : Cx) (hJ : Inj x) (j0 : Nat) (k0 : AR x j0 4) (a1 : Int32) {M : Mem} {out : Mem} (h : s_JA_fill j0 a1 M = some out) : Cv l x y_JA_fill (Cond.code y_JA_fill b_JA_fill 4 none :: tb) r_JA_fill [.ref (x.2.1 j0), .int a1] M out := by
  refine ofCv (cc := b_JA_fill) (maxL := 4) (by decide) rfl (rfl) (Nat.le_of_ble_eq_true rfl) ?_
  intro p e s m args below meth c Q G0 ls g hx hb hml hown hts hK hZ hP hS hl hret
  have hown : s.vm.findClass R_JA = some m.cls := hown
  have hl : lv_has ls 4 [(0, .ref (x.2.1 j0)), (1, .int a1)] := hl
  obtain ⟨H, eH⟩ : ∃ z, z = s.heap := ⟨_, rfl⟩
  obtain ⟨locs, eL⟩ : ∃ z, z = ([] : List Loc) := ⟨_, rfl⟩
  rw [← eH] at hP
  have hS : va_S (A0 x) s.heap H locs := by rw [eH, eL]; exact hS
  rw [← eL]
  have key : W p l e r_JA_fill s m args below meth c H locs 0 0 Q (F0 m 0 ls []) := by
    clear eH eL
    unfold s_JA_fill at h
    refine lv_iconst (v := (0 : Int32)) hx hb d_JA_fill_0 (by decide) ?_
    obtain ⟨v21, ev21, h⟩ := nx_e h
    refine tp_i ev21 ?_
    refine lv_istore_n hx hb d_JA_fill_1 rfl hl (by decide) rfl (fun ls hl => ?_)
    have hl : lv_has ls 4 [(2, .int v21), (0, .ref (x.2.1 j0)), (1, .int a1)] := hl
    refine lv_aload_n hx hb d_JA_fill_2 rfl (lv_at hl 1 rfl) ?_
    refine m_alen hx hb hK hP k0 (v := (4 : Int32)) rfl d_JA_fill_3 ?_
    obtain ⟨v22, ev22, h⟩ := nx_e h
    refine tp_i ev22 ?_
    refine lv_istore_n hx hb d_JA_fill_4 rfl hl (by decide) rfl (fun ls hl => ?_)
    have hl : lv_has ls 4 [(3, .int v22), (2, .int v21), (0, .ref (x.2.1 j0)), (1, .int a1)] := hl
    obtain ⟨P5, eP5⟩ : ∃ P : (Int32 × Mem) → Prop, P = (fun q => ∀ (H : Heap) (locs : List Loc) (ls : Array Slot), va_P x.1 vwCl (wld x (q.2)) H → va_S (A0 x) s.heap H locs → lv_has ls 4 [(0, .ref (x.2.1 j0)), (1, .int a1), (2, .int (q.1)), (3, .int v22)] → W p l e r_JA_fill s m args below meth c H locs 0 0 Q (F0 m 5 ls [])) := ⟨_, rfl⟩
    have L5 : P5 (v21, M) := by
      refine lp_walk (G := G0) ?_ h g
      intro q res h g
      obtain ⟨v23, M24⟩ := q
      rw [eP5]
      intro H locs ls hP hS hl
      have hP : va_P x.1 vwCl (wld x M24) H := hP
      have hl : lv_has ls 4 [(0, .ref (x.2.1 j0)), (1, .int a1), (2, .int v23), (3, .int v22)] := hl
      have h : l_JA_fill_5 j0 a1 v22 v23 M24 = some res := h
      unfold l_JA_fill_5 at h
      refine lv_iload_n hx hb d_JA_fill_5 rfl (lv_at hl 2 rfl) ?_
      refine lv_iload_n hx hb d_JA_fill_6 rfl (lv_at hl 3 rfl) ?_
      refine lv_icmp_ge (tgt := 20) hx hb d_JA_fill_7 rfl (fun hc => ?_) (fun hc => ?_)
      · have h := if_p hc h
        obtain rfl := Option.some.inj h
        exact hret d_JA_fill_20 g hP hS
      · have h := if_m hc h
        refine lv_aload_n hx hb d_JA_fill_10 rfl (lv_at hl 0 rfl) ?_
        refine lv_iload_n hx hb d_JA_fill_11 rfl (lv_at hl 2 rfl) ?_
        refine lv_iload_n hx hb d_JA_fill_12 rfl (lv_at hl 1 rfl) ?_
        obtain ⟨b25, h⟩ := ck_e h
        obtain ⟨M26, eM26, h⟩ := nx_e h
        refine m_ast hx hb hK hJ hP hS k0 b25 eM26 d_JA_fill_13 (fun H locs hP hS => ?_)
        obtain ⟨v27, ev27, h⟩ := nx_e h
        refine lv_iinc (k := 2) hx hb d_JA_fill_14 hl rfl (iinc_v (k := (1 : Int32)) (by decide) ev27) (by decide) rfl (fun ls hl => ?_)
        have hl : lv_has ls 4 [(2, .int v27), (0, .ref (x.2.1 j0)), (1, .int a1), (3, .int v22)] := hl
        refine lv_goto (tgt := 5) hx hb d_JA_fill_17 rfl ?_
        obtain rfl := Option.some.inj h
        have g : P5 (v27, M26) := g
        rw [eP5] at g
        exact g H locs ls hP hS (lv_sub hl [1, 2, 0, 3] rfl)
    rw [eP5] at L5
    exact L5 H locs ls hP hS (lv_sub hl [2, 3, 1, 0] rfl)
  rw [eH] at key
  exact key
end
section
theorem d_IN_append_0 : decode b_IN_append 0 = .ok (.iload_n 1, 1) := by decide +kernel
theorem d_IN_append_1 : decode b_IN_append 1 = .ok (.ifCond .lt 19, 3) := by decide +kernel
theorem d_IN_append_4 : decode b_IN_append 4 = .ok (.iload_n 1, 1) := by decide +kernel
theorem d_IN_append_5 : decode b_IN_append 5 = .ok (.sipush 255, 3) := by decide +kernel
theorem d_IN_append_8 : decode b_IN_append 8 = .ok (.if_icmp .gt 12, 3) := by decide +kernel
theorem d_IN_append_11 : decode b_IN_append 11 = .ok (.aload_n 0, 1) := by decide +kernel
theorem d_IN_append_12 : decode b_IN_append 12 = .ok (.getfield 15, 3) := by decide +kernel
theorem d_IN_append_15 : decode b_IN_append 15 = .ok (.bipush 6, 2) := by decide +kernel
theorem d_IN_append_17 : decode b_IN_append 17 = .ok (.if_icmp .lt 5, 3) := by decide +kernel
theorem d_IN_append_20 : decode b_IN_append 20 = .ok (.iconst 0, 1) := by decide +kernel
theorem d_IN_append_21 : decode b_IN_append 21 = .ok (.ireturn, 1) := by decide +kernel
theorem d_IN_append_22 : decode b_IN_append 22 = .ok (.aload_n 0, 1) := by decide +kernel
theorem d_IN_append_23 : decode b_IN_append 23 = .ok (.getfield 11, 3) := by decide +kernel
theorem d_IN_append_26 : decode b_IN_append 26 = .ok (.aload_n 0, 1) := by decide +kernel
theorem d_IN_append_27 : decode b_IN_append 27 = .ok (.getfield 15, 3) := by decide +kernel
theorem d_IN_append_30 : decode b_IN_append 30 = .ok (.iload_n 1, 1) := by decide +kernel
theorem d_IN_append_31 : decode b_IN_append 31 = .ok (.iastore, 1) := by decide +kernel
theorem d_IN_append_32 : decode b_IN_append 32 = .ok (.aload_n 0, 1) := by decide +kernel
theorem d_IN_append_33 : decode b_IN_append 33 = .ok (.dup, 1) := by decide +kernel
theorem d_IN_append_34 : decode b_IN_append 34 = .ok (.getfield 15, 3) := by decide +kernel
theorem d_IN_append_37 : decode b_IN_append 37 = .ok (.iconst 1, 1) := by decide +kernel
theorem d_IN_append_38 : decode b_IN_append 38 = .ok (.iadd, 1) := by decide +kernel
theorem d_IN_append_39 : decode b_IN_append 39 = .ok (.putfield 15, 3) := by decide +kernel
theorem d_IN_append_42 : decode b_IN_append 42 = .ok (.iconst 1, 1) := by decide +kernel
theorem d_IN_append_43 : decode b_IN_append 43 = .ok (.ireturn, 1) := by decide +kernel
noncomputable def s_IN_append (j0 : Nat) (a1 : Int32) (M : Mem) : Option (Int32 × Mem) :=
  if a1 < 0 then (some ((0 : Int32), M)) else (if (255 : Int32) < a1 then (some ((0 : Int32), M)) else (if (M j0 1) < (6 : Int32) then (ck (M j0 1) 6 (nx (st M (j0 + 1) (M j0 1).toNatClampNeg a1) (fun M22 => nx (st M22 j0 1 ((M22 j0 1) + (1 : Int32))) (fun M23 => some ((1 : Int32), M23))))) else (some ((0 : Int32), M))))
set_option maxHeartbeats 4000000 in
set_option maxRecDepth 100000 in
theorem c_IN_append (l : Launch) (x : Cx) (hJ : Inj x) (j0 : Nat) (k0 : kd_in j0) (a1 : Int32) {M : Mem} {out : Int32 × Mem} (h : s_IN_append j0 a1 M = some out) : Ci l x y_IN_append (Cond.code y_IN_append b_IN_append 2 (some .boolean) :: tb) r_IN_append [.ref (x.2.1 j0), .int a1] M out := by
  refine ofCz (cc := b_IN_append) (maxL := 2) (by decide) rfl (rfl) (Nat.le_of_ble_eq_true rfl) ?_
  intro p e s m args below meth c Q G0 ls g hx hb hml hown hts hK hZ hP hS hl hret
  have hown : s.vm.findClass R_IN = some m.cls := hown
  have hl : lv_has ls 2 [(0, .ref (x.2.1 j0)), (1, .int a1)] := hl
  obtain ⟨H, eH⟩ : ∃ z, z = s.heap := ⟨_, rfl⟩
  obtain ⟨locs, eL⟩ : ∃ z, z = ([] : List Loc) := ⟨_, rfl⟩
  rw [← eH] at hP
  have hS : va_S (A0 x) s.heap H locs := by rw [eH, eL]; exact hS
  rw [← eL]
  have key : W p l e r_IN_append s m args below meth c H locs 0 0 Q (F0 m 0 ls []) := by
    clear eH eL
    unfold s_IN_append at h
    refine lv_iload_n hx hb d_IN_append_0 rfl (lv_at hl 1 rfl) ?_
    refine lv_if_lt (tgt := 20) hx hb d_IN_append_1 rfl (fun hc => ?_) (fun hc => ?_)
    · have h := if_p hc h
      refine lv_iconst (v := (0 : Int32)) hx hb d_IN_append_20 (by decide) ?_
      obtain rfl := Option.some.inj h
      exact hret (by decide) d_IN_append_21 g hP hS
    · have h := if_m hc h
      refine lv_iload_n hx hb d_IN_append_4 rfl (lv_at hl 1 rfl) ?_
      refine lv_sipush (v := (255 : Int32)) hx hb d_IN_append_5 (by decide) ?_
      refine lv_icmp_gt (tgt := 20) hx hb d_IN_append_8 rfl (fun hc => ?_) (fun hc => ?_)
      · have h := if_p hc h
        refine lv_iconst (v := (0 : Int32)) hx hb d_IN_append_20 (by decide) ?_
        obtain rfl := Option.some.inj h
        exact hret (by decide) d_IN_append_21 g hP hS
      · have h := if_m hc h
        refine lv_aload_n hx hb d_IN_append_11 rfl (lv_at hl 0 rfl) ?_
        refine gf_IN_15 hx hb hts hown hK hP k0 d_IN_append_12 ?_
        refine lv_bipush (v := (6 : Int32)) hx hb d_IN_append_15 (by decide) ?_
        refine lv_icmp_lt (tgt := 22) hx hb d_IN_append_17 rfl (fun hc => ?_) (fun hc => ?_)
        · have h := if_p hc h
          refine lv_aload_n hx hb d_IN_append_22 rfl (lv_at hl 0 rfl) ?_
          refine gf_IN_11 hx hb hts hown hK hP k0 d_IN_append_23 ?_
          refine lv_aload_n hx hb d_IN_append_26 rfl (lv_at hl 0 rfl) ?_
          refine gf_IN_15 hx hb hts hown hK hP k0 d_IN_append_27 ?_
          refine lv_iload_n hx hb d_IN_append_30 rfl (lv_at hl 1 rfl) ?_
          obtain ⟨b21, h⟩ := ck_e h
          obtain ⟨M22, eM22, h⟩ := nx_e h
          refine m_ast hx hb hK hJ hP hS (ar_IN_bytes k0) b21 eM22 d_IN_append_31 (fun H locs hP hS => ?_)
          refine lv_aload_n hx hb d_IN_append_32 rfl (lv_at hl 0 rfl) ?_
          refine lv_dup hx hb d_IN_append_33 rfl ?_
          refine gf_IN_15 hx hb hts hown hK hP k0 d_IN_append_34 ?_
          refine lv_iconst (v := (1 : Int32)) hx hb d_IN_append_37 (by decide) ?_
          refine lv_iadd hx hb d_IN_append_38 ?_
          obtain ⟨M23, eM23, h⟩ := nx_e h
          refine pf_IN_15 hx hb hts hown hK hJ hP hS k0 eM23 d_IN_append_39 (fun H locs hP hS => ?_)
          refine lv_iconst (v := (1 : Int32)) hx hb d_IN_append_42 (by decide) ?_
          obtain rfl := Option.some.inj h
          exact hret (by decide) d_IN_append_43 g hP hS
        · have h := if_m hc h
          refine lv_iconst (v := (0 : Int32)) hx hb d_IN_append_20 (by decide) ?_
          obtain rfl := Option.some.inj h
          exact hret (by decide) d_IN_append_21 g hP hS
  rw [eH] at key
  exact key
theorem d_IN_at_0 : decode b_IN_at 0 = .ok (.iload_n 1, 1) := by decide +kernel
theorem d_IN_at_1 : decode b_IN_at 1 = .ok (.ifCond .lt 20, 3) := by decide +kernel
theorem d_IN_at_4 : decode b_IN_at 4 = .ok (.iload_n 1, 1) := by decide +kernel
theorem d_IN_at_5 : decode b_IN_at 5 = .ok (.aload_n 0, 1) := by decide +kernel
theorem d_IN_at_6 : decode b_IN_at 6 = .ok (.getfield 15, 3) := by decide +kernel
theorem d_IN_at_9 : decode b_IN_at 9 = .ok (.if_icmp .ge 12, 3) := by decide +kernel
theorem d_IN_at_12 : decode b_IN_at 12 = .ok (.aload_n 0, 1) := by decide +kernel
theorem d_IN_at_13 : decode b_IN_at 13 = .ok (.getfield 11, 3) := by decide +kernel
theorem d_IN_at_16 : decode b_IN_at 16 = .ok (.iload_n 1, 1) := by decide +kernel
theorem d_IN_at_17 : decode b_IN_at 17 = .ok (.iaload, 1) := by decide +kernel
theorem d_IN_at_18 : decode b_IN_at 18 = .ok (.goto 4, 3) := by decide +kernel
theorem d_IN_at_21 : decode b_IN_at 21 = .ok (.iconst (-1), 1) := by decide +kernel
theorem d_IN_at_22 : decode b_IN_at 22 = .ok (.ireturn, 1) := by decide +kernel
noncomputable def s_IN_at (j0 : Nat) (a1 : Int32) (M : Mem) : Option (Int32 × Mem) :=
  if a1 < 0 then (some ((-1 : Int32), M)) else (if (M j0 1) ≤ a1 then (some ((-1 : Int32), M)) else (ck a1 6 (some (M (j0 + 1) a1.toNatClampNeg, M))))
set_option maxHeartbeats 4000000 in
set_option maxRecDepth 100000 in
theorem c_IN_at (l : Launch) (x : Cx) (hJ : Inj x) (j0 : Nat) (k0 : kd_in j0) (a1 : Int32) {M : Mem} {out : Int32 × Mem} (h : s_IN_at j0 a1 M = some out) : Ci l x y_IN_at (Cond.code y_IN_at b_IN_at 2 (some .int) :: tb) r_IN_at [.ref (x.2.1 j0), .int a1] M out := by
  refine ofCi (cc := b_IN_at) (maxL := 2) (by decide) rfl (rfl) (Nat.le_of_ble_eq_true rfl) ?_
  intro p e s m args below meth c Q G0 ls g hx hb hml hown hts hK hZ hP hS hl hret
  have hown : s.vm.findClass R_IN = some m.cls := hown
  have hl : lv_has ls 2 [(0, .ref (x.2.1 j0)), (1, .int a1)] := hl
  obtain ⟨H, eH⟩ : ∃ z, z = s.heap := ⟨_, rfl⟩
  obtain ⟨locs, eL⟩ : ∃ z, z = ([] : List Loc) := ⟨_, rfl⟩
  rw [← eH] at hP
  have hS : va_S (A0 x) s.heap H locs := by rw [eH, eL]; exact hS
  rw [← eL]
  have key : W p l e r_IN_at s m args below meth c H locs 0 0 Q (F0 m 0 ls []) := by
    clear eH eL
    unfold s_IN_at at h
    refine lv_iload_n hx hb d_IN_at_0 rfl (lv_at hl 1 rfl) ?_
    refine lv_if_lt (tgt := 21) hx hb d_IN_at_1 rfl (fun hc => ?_) (fun hc => ?_)
    · have h := if_p hc h
      refine lv_iconst (v := (-1 : Int32)) hx hb d_IN_at_21 (by decide) ?_
      obtain rfl := Option.some.inj h
      exact hret d_IN_at_22 g hP hS
    · have h := if_m hc h
      refine lv_iload_n hx hb d_IN_at_4 rfl (lv_at hl 1 rfl) ?_
      refine lv_aload_n hx hb d_IN_at_5 rfl (lv_at hl 0 rfl) ?_
      refine gf_IN_15 hx hb hts hown hK hP k0 d_IN_at_6 ?_
      refine lv_icmp_ge (tgt := 21) hx hb d_IN_at_9 rfl (fun hc => ?_) (fun hc => ?_)
      · have h := if_p hc h
        refine lv_iconst (v := (-1 : Int32)) hx hb d_IN_at_21 (by decide) ?_
        obtain rfl := Option.some.inj h
        exact hret d_IN_at_22 g hP hS
      · have h := if_m hc h
        refine lv_aload_n hx hb d_IN_at_12 rfl (lv_at hl 0 rfl) ?_
        refine gf_IN_11 hx hb hts hown hK hP k0 d_IN_at_13 ?_
        refine lv_iload_n hx hb d_IN_at_16 rfl (lv_at hl 1 rfl) ?_
        obtain ⟨b21, h⟩ := ck_e h
        refine m_ald hx hb hK hP (ar_IN_bytes k0) b21 d_IN_at_17 ?_
        refine lv_goto (tgt := 22) hx hb d_IN_at_18 rfl ?_
        obtain rfl := Option.some.inj h
        exact hret d_IN_at_22 g hP hS
  rw [eH] at key
  exact key
theorem d_IN_appendPart_0 : decode b_IN_appendPart 0 = .ok (.iload_n 3, 1) := by decide +kernel
theorem d_IN_appendPart_1 : decode b_IN_appendPart 1 = .ok (.aload_n 1, 1) := by decide +kernel
theorem d_IN_appendPart_2 : decode b_IN_appendPart 2 = .ok (.getfield 15, 3) := by decide +kernel
theorem d_IN_appendPart_5 : decode b_IN_appendPart 5 = .ok (.invokestatic 19, 3) := by decide +kernel
theorem d_IN_appendPart_8 : decode b_IN_appendPart 8 = .ok (.istore 4, 2) := by decide +kernel
theorem d_IN_appendPart_10 : decode b_IN_appendPart 10 = .ok (.iload_n 2, 1) := by decide +kernel
theorem d_IN_appendPart_11 : decode b_IN_appendPart 11 = .ok (.istore 5, 2) := by decide +kernel
theorem d_IN_appendPart_13 : decode b_IN_appendPart 13 = .ok (.iload 5, 2) := by decide +kernel
theorem d_IN_appendPart_15 : decode b_IN_appendPart 15 = .ok (.iload 4, 2) := by decide +kernel
theorem d_IN_appendPart_17 : decode b_IN_appendPart 17 = .ok (.if_icmp .ge 20, 3) := by decide +kernel
theorem d_IN_appendPart_20 : decode b_IN_appendPart 20 = .ok (.aload_n 0, 1) := by decide +kernel
theorem d_IN_appendPart_21 : decode b_IN_appendPart 21 = .ok (.aload_n 1, 1) := by decide +kernel
theorem d_IN_appendPart_22 : decode b_IN_appendPart 22 = .ok (.iload 5, 2) := by decide +kernel
theorem d_IN_appendPart_24 : decode b_IN_appendPart 24 = .ok (.invokevirtual 25, 3) := by decide +kernel
theorem d_IN_appendPart_27 : decode b_IN_appendPart 27 = .ok (.invokevirtual 29, 3) := by decide +kernel
theorem d_IN_appendPart_30 : decode b_IN_appendPart 30 = .ok (.pop, 1) := by decide +kernel
theorem d_IN_appendPart_31 : decode b_IN_appendPart 31 = .ok (.iinc 5 1, 3) := by decide +kernel
theorem d_IN_appendPart_34 : decode b_IN_appendPart 34 = .ok (.goto (-21), 3) := by decide +kernel
theorem d_IN_appendPart_37 : decode b_IN_appendPart 37 = .ok (.return_, 1) := by decide +kernel
noncomputable def l_IN_appendPart_13 (j0 : Nat) (j1 : Nat) (v21 : Int32) (v22 : Int32) (M23 : Mem) : Option ((Int32 × Mem) ⊕ (Mem)) :=
  if v21 ≤ v22 then (some (.inr M23)) else (bi (s_IN_at j1 v22 M23) (fun r26 M24 => bi (s_IN_append j0 r26 M24) (fun r29 M27 => nx (v22 + (1 : Int32)) (fun v30 => some (.inl (v30, M27))))))
noncomputable def s_IN_appendPart (j0 : Nat) (j1 : Nat) (a2 : Int32) (a3 : Int32) (M : Mem) : Option (Mem) :=
  nx (if (M j1 1) < a3 then (M j1 1) else a3) (fun v21 => lp (fun q : Int32 × Mem => l_IN_appendPart_13 j0 j1 v21 q.1 q.2) (a2, M))
set_option maxHeartbeats 4000000 in
set_option maxRecDepth 100000 in
theorem c_IN_appendPart (l : Launch) (x : Cx) (hJ : Inj x) (j0 : Nat) (k0 : kd_in j0) (j1 : Nat) (k1 : kd_in j1) (a2 : Int32) (a3 : Int32) {M : Mem} {out : Mem} (h : s_IN_appendPart j0 j1 a2 a3 M = some out) : Cv l x y_IN_appendPart (Cond.code y_IN_appendPart b_IN_appendPart 6 none :: tb) r_IN_appendPart [.ref (x.2.1 j0), .ref (x.2.1 j1), .int a2, .int a3] M out := by
  refine ofCv (cc := b_IN_appendPart) (maxL := 6) (by decide) rfl (rfl) (Nat.le_of_ble_eq_true rfl) ?_
  intro p e s m args below meth c Q G0 ls g hx hb hml hown hts hK hZ hP hS hl hret
  have hown : s.vm.findClass R_IN = some m.cls := hown
  have hl : lv_has ls 6 [(0, .ref (x.2.1 j0)), (1, .ref (x.2.1 j1)), (2, .int a2), (3, .int a3)] := hl
  obtain ⟨H, eH⟩ : ∃ z, z = s.heap := ⟨_, rfl⟩
  obtain ⟨locs, eL⟩ : ∃ z, z = ([] : List Loc) := ⟨_, rfl⟩
  rw [← eH] at hP
  have hS : va_S (A0 x) s.heap H locs := by rw [eH, eL]; exact hS
  rw [← eL]
  have key : W p l e r_IN_appendPart s m args below meth c H locs 0 0 Q (F0 m 0 ls []) := by
    clear eH eL
    unfold s_IN_appendPart at h
    refine lv_iload_n hx hb d_IN_appendPart_0 rfl (lv_at hl 3 rfl) ?_
    refine lv_aload_n hx hb d_IN_appendPart_1 rfl (lv_at hl 1 rfl) ?_
    refine gf_IN_15 hx hb hts hown hK hP k1 d_IN_appendPart_2 ?_
    refine va_mmin hx hb (hml.trans hl.1.symm) hown (hts.1 _ q_92) (hts.1 _ q_93) (hts.1 _ q_94) (hts.1 _ q_95) (Nat.le_of_ble_eq_true rfl) (Nat.le_of_ble_eq_true rfl) (Nat.zero_le _) (Nat.zero_le _) d_IN_appendPart_5 ?_
    obtain ⟨v21, ev21, h⟩ := nx_e h
    refine tp_i ev21 ?_
    refine lv_istore hx hb d_IN_appendPart_8 hl (by decide) rfl (fun ls hl => ?_)
    have hl : lv_has ls 6 [(4, .int v21), (0, .ref (x.2.1 j0)), (1, .ref (x.2.1 j1)), (2, .int a2), (3, .int a3)] := hl
    refine lv_iload_n hx hb d_IN_appendPart_10 rfl (lv_at hl 3 rfl) ?_
    refine lv_istore hx hb d_IN_appendPart_11 hl (by decide) rfl (fun ls hl => ?_)
    have hl : lv_has ls 6 [(5, .int a2), (4, .int v21), (0, .ref (x.2.1 j0)), (1, .ref (x.2.1 j1)), (2, .int a2), (3, .int a3)] := hl
    obtain ⟨P13, eP13⟩ : ∃ P : (Int32 × Mem) → Prop, P = (fun q => ∀ (H : Heap) (locs : List Loc) (ls : Array Slot), va_P x.1 vwCl (wld x (q.2)) H → va_S (A0 x) s.heap H locs → lv_has ls 6 [(0, .ref (x.2.1 j0)), (1, .ref (x.2.1 j1)), (4, .int v21), (5, .int (q.1))] → W p l e r_IN_appendPart s m args below meth c H locs 0 0 Q (F0 m 13 ls [])) := ⟨_, rfl⟩
    have L13 : P13 (a2, M) := by
      refine lp_walk (G := G0) ?_ h g
      intro q res h g
      obtain ⟨v22, M23⟩ := q
      rw [eP13]
      intro H locs ls hP hS hl
      have hP : va_P x.1 vwCl (wld x M23) H := hP
      have hl : lv_has ls 6 [(0, .ref (x.2.1 j0)), (1, .ref (x.2.1 j1)), (4, .int v21), (5, .int v22)] := hl
      have h : l_IN_appendPart_13 j0 j1 v21 v22 M23 = some res := h
      unfold l_IN_appendPart_13 at h
      refine lv_iload hx hb d_IN_appendPart_13 (lv_at hl 3 rfl) ?_
      refine lv_iload hx hb d_IN_appendPart_15 (lv_at hl 2 rfl) ?_
      refine lv_icmp_ge (tgt := 37) hx hb d_IN_appendPart_17 rfl (fun hc => ?_) (fun hc => ?_)
      · have h := if_p hc h
        obtain rfl := Option.some.inj h
        exact hret d_IN_appendPart_37 g hP hS
      · have h := if_m hc h
        refine lv_aload_n hx hb d_IN_appendPart_20 rfl (lv_at hl 0 rfl) ?_
        refine lv_aload_n hx hb d_IN_appendPart_21 rfl (lv_at hl 1 rfl) ?_
        refine lv_iload hx hb d_IN_appendPart_22 (lv_at hl 3 rfl) ?_
        obtain ⟨r26, M24, c25, h⟩ := bi_e h
        refine cl_IN_25 (rest := [.ref (x.2.1 j0)]) (R := r_IN_appendPart) (c_IN_at l x hJ j1 k1 v22 c25) k1 hx hb hml hts hown hK hZ hP hS hl.1 (Nat.le_of_ble_eq_true rfl) (Nat.le_of_ble_eq_true rfl) (Nat.le_of_ble_eq_true rfl) ⟨rfl, rfl, Nat.zero_le _, Nat.zero_le _⟩ d_IN_appendPart_24 (fun H locs hP hS => ?_)
        obtain ⟨r29, M27, c28, h⟩ := bi_e h
        refine cl_IN_29 (rest := []) (R := r_IN_appendPart) (c_IN_append l x hJ j0 k0 r26 c28) k0 hx hb hml hts hown hK hZ hP hS hl.1 (Nat.le_of_ble_eq_true rfl) (Nat.le_of_ble_eq_true rfl) (Nat.le_of_ble_eq_true rfl) ⟨rfl, rfl, Nat.zero_le _, Nat.zero_le _⟩ d_IN_appendPart_27 (fun H locs hP hS => ?_)
        refine lv_pop hx hb d_IN_appendPart_30 rfl ?_
        obtain ⟨v30, ev30, h⟩ := nx_e h
        refine lv_iinc (k := 3) hx hb d_IN_appendPart_31 hl rfl (iinc_v (k := (1 : Int32)) (by decide) ev30) (by decide) rfl (fun ls hl => ?_)
        have hl : lv_has ls 6 [(5, .int v30), (0, .ref (x.2.1 j0)), (1, .ref (x.2.1 j1)), (4, .int v21)] := hl
        refine lv_goto (tgt := 13) hx hb d_IN_appendPart_34 rfl ?_
        obtain rfl := Option.some.inj h
        have g : P13 (v30, M27) := g
        rw [eP13] at g
        exact g H locs ls hP hS (lv_sub hl [1, 2, 3, 0] rfl)
    rw [eP13] at L13
    exact L13 H locs ls hP hS (lv_sub hl [2, 3, 1, 0] rfl)
  rw [eH] at key
  exact key
theorem d_IN_copy_0 : decode b_IN_copy 0 = .ok (.aload_n 0, 1) := by decide +kernel
theorem d_IN_copy_1 : decode b_IN_copy 1 = .ok (.iconst 0, 1) := by decide +kernel
theorem d_IN_copy_2 : decode b_IN_copy 2 = .ok (.putfield 15, 3) := by decide +kernel
theorem d_IN_copy_5 : decode b_IN_copy 5 = .ok (.aload_n 0, 1) := by decide +kernel
theorem d_IN_copy_6 : decode b_IN_copy 6 = .ok (.aload_n 1, 1) := by decide +kernel
theorem d_IN_copy_7 : decode b_IN_copy 7 = .ok (.iconst 0, 1) := by decide +kernel
theorem d_IN_copy_8 : decode b_IN_copy 8 = .ok (.aload_n 1, 1) := by decide +kernel
theorem d_IN_copy_9 : decode b_IN_copy 9 = .ok (.getfield 15, 3) := by decide +kernel
theorem d_IN_copy_12 : decode b_IN_copy 12 = .ok (.invokevirtual 33, 3) := by decide +kernel
theorem d_IN_copy_15 : decode b_IN_copy 15 = .ok (.return_, 1) := by decide +kernel
noncomputable def s_IN_copy (j0 : Nat) (j1 : Nat) (M : Mem) : Option (Mem) :=
  nx (st M j0 1 (0 : Int32)) (fun M21 => bv (s_IN_appendPart j0 j1 (0 : Int32) (M21 j1 1) M21) (fun M22 => some M22))
set_option maxHeartbeats 4000000 in
set_option maxRecDepth 100000 in
theorem c_IN_copy (l : Launch) (x : Cx) (hJ : Inj x) (j0 : Nat) (k0 : kd_in j0) (j1 : Nat) (k1 : kd_in j1) {M : Mem} {out : Mem} (h : s_IN_copy j0 j1 M = some out) : Cv l x y_IN_copy (Cond.code y_IN_copy b_IN_copy 2 none :: tb) r_IN_copy [.ref (x.2.1 j0), .ref (x.2.1 j1)] M out := by
  refine ofCv (cc := b_IN_copy) (maxL := 2) (by decide) rfl (rfl) (Nat.le_of_ble_eq_true rfl) ?_
  intro p e s m args below meth c Q G0 ls g hx hb hml hown hts hK hZ hP hS hl hret
  have hown : s.vm.findClass R_IN = some m.cls := hown
  have hl : lv_has ls 2 [(0, .ref (x.2.1 j0)), (1, .ref (x.2.1 j1))] := hl
  obtain ⟨H, eH⟩ : ∃ z, z = s.heap := ⟨_, rfl⟩
  obtain ⟨locs, eL⟩ : ∃ z, z = ([] : List Loc) := ⟨_, rfl⟩
  rw [← eH] at hP
  have hS : va_S (A0 x) s.heap H locs := by rw [eH, eL]; exact hS
  rw [← eL]
  have key : W p l e r_IN_copy s m args below meth c H locs 0 0 Q (F0 m 0 ls []) := by
    clear eH eL
    unfold s_IN_copy at h
    refine lv_aload_n hx hb d_IN_copy_0 rfl (lv_at hl 0 rfl) ?_
    refine lv_iconst (v := (0 : Int32)) hx hb d_IN_copy_1 (by decide) ?_
    obtain ⟨M21, eM21, h⟩ := nx_e h
    refine pf_IN_15 hx hb hts hown hK hJ hP hS k0 eM21 d_IN_copy_2 (fun H locs hP hS => ?_)
    refine lv_aload_n hx hb d_IN_copy_5 rfl (lv_at hl 0 rfl) ?_
    refine lv_aload_n hx hb d_IN_copy_6 rfl (lv_at hl 1 rfl) ?_
    refine lv_iconst (v := (0 : Int32)) hx hb d_IN_copy_7 (by decide) ?_
    refine lv_aload_n hx hb d_IN_copy_8 rfl (lv_at hl 1 rfl) ?_
    refine gf_IN_15 hx hb hts hown hK hP k1 d_IN_copy_9 ?_
    obtain ⟨M22, c23, h⟩ := bv_e h
    refine cl_IN_33 (rest := []) (R := r_IN_copy) (c_IN_appendPart l x hJ j0 k0 j1 k1 (0 : Int32) (M21 j1 1) c23) k0 hx hb hml hts hown hK hZ hP hS hl.1 (Nat.le_of_ble_eq_true rfl) (Nat.le_of_ble_eq_true rfl) (Nat.le_of_ble_eq_true rfl) ⟨rfl, rfl, Nat.zero_le _, Nat.zero_le _⟩ d_IN_copy_12 (fun H locs hP hS => ?_)
    obtain rfl := Option.some.inj h
    exact hret d_IN_copy_15 g hP hS
  rw [eH] at key
  exact key
theorem d_IN_cutTo_0 : decode b_IN_cutTo 0 = .ok (.aload_n 0, 1) := by decide +kernel
theorem d_IN_cutTo_1 : decode b_IN_cutTo 1 = .ok (.iconst 0, 1) := by decide +kernel
theorem d_IN_cutTo_2 : decode b_IN_cutTo 2 = .ok (.aload_n 0, 1) := by decide +kernel
theorem d_IN_cutTo_3 : decode b_IN_cutTo 3 = .ok (.getfield 15, 3) := by decide +kernel
theorem d_IN_cutTo_6 : decode b_IN_cutTo 6 = .ok (.iload_n 1, 1) := by decide +kernel
theorem d_IN_cutTo_7 : decode b_IN_cutTo 7 = .ok (.invokestatic 19, 3) := by decide +kernel
theorem d_IN_cutTo_10 : decode b_IN_cutTo 10 = .ok (.invokestatic 37, 3) := by decide +kernel
theorem d_IN_cutTo_13 : decode b_IN_cutTo 13 = .ok (.putfield 15, 3) := by decide +kernel
theorem d_IN_cutTo_16 : decode b_IN_cutTo 16 = .ok (.return_, 1) := by decide +kernel
noncomputable def s_IN_cutTo (j0 : Nat) (a1 : Int32) (M : Mem) : Option (Mem) :=
  nx (st M j0 1 (if (0 : Int32) < (if a1 < (M j0 1) then a1 else (M j0 1)) then (if a1 < (M j0 1) then a1 else (M j0 1)) else (0 : Int32))) (fun M21 => some M21)
set_option maxHeartbeats 4000000 in
set_option maxRecDepth 100000 in
theorem c_IN_cutTo (l : Launch) (x : Cx) (hJ : Inj x) (j0 : Nat) (k0 : kd_in j0) (a1 : Int32) {M : Mem} {out : Mem} (h : s_IN_cutTo j0 a1 M = some out) : Cv l x y_IN_cutTo (Cond.code y_IN_cutTo b_IN_cutTo 2 none :: tb) r_IN_cutTo [.ref (x.2.1 j0), .int a1] M out := by
  refine ofCv (cc := b_IN_cutTo) (maxL := 2) (by decide) rfl (rfl) (Nat.le_of_ble_eq_true rfl) ?_
  intro p e s m args below meth c Q G0 ls g hx hb hml hown hts hK hZ hP hS hl hret
  have hown : s.vm.findClass R_IN = some m.cls := hown
  have hl : lv_has ls 2 [(0, .ref (x.2.1 j0)), (1, .int a1)] := hl
  obtain ⟨H, eH⟩ : ∃ z, z = s.heap := ⟨_, rfl⟩
  obtain ⟨locs, eL⟩ : ∃ z, z = ([] : List Loc) := ⟨_, rfl⟩
  rw [← eH] at hP
  have hS : va_S (A0 x) s.heap H locs := by rw [eH, eL]; exact hS
  rw [← eL]
  have key : W p l e r_IN_cutTo s m args below meth c H locs 0 0 Q (F0 m 0 ls []) := by
    clear eH eL
    unfold s_IN_cutTo at h
    refine lv_aload_n hx hb d_IN_cutTo_0 rfl (lv_at hl 0 rfl) ?_
    refine lv_iconst (v := (0 : Int32)) hx hb d_IN_cutTo_1 (by decide) ?_
    refine lv_aload_n hx hb d_IN_cutTo_2 rfl (lv_at hl 0 rfl) ?_
    refine gf_IN_15 hx hb hts hown hK hP k0 d_IN_cutTo_3 ?_
    refine lv_iload_n hx hb d_IN_cutTo_6 rfl (lv_at hl 1 rfl) ?_
    refine va_mmin hx hb (hml.trans hl.1.symm) hown (hts.1 _ q_92) (hts.1 _ q_93) (hts.1 _ q_94) (hts.1 _ q_95) (Nat.le_of_ble_eq_true rfl) (Nat.le_of_ble_eq_true rfl) (Nat.zero_le _) (Nat.zero_le _) d_IN_cutTo_7 ?_
    refine va_mmax hx hb (hml.trans hl.1.symm) hown (hts.1 _ q_155) (hts.1 _ q_156) (hts.1 _ q_94) (hts.1 _ q_157) (Nat.le_of_ble_eq_true rfl) (Nat.le_of_ble_eq_true rfl) (Nat.zero_le _) (Nat.zero_le _) d_IN_cutTo_10 ?_
    obtain ⟨M21, eM21, h⟩ := nx_e h
    refine pf_IN_15 hx hb hts hown hK hJ hP hS k0 eM21 d_IN_cutTo_13 (fun H locs hP hS => ?_)
    obtain rfl := Option.some.inj h
    exact hret d_IN_cutTo_16 g hP hS
  rw [eH] at key
  exact key
theorem d_IN_put_0 : decode b_IN_put 0 = .ok (.iload_n 1, 1) := by decide +kernel
theorem d_IN_put_1 : decode b_IN_put 1 = .ok (.ifCond .lt 22, 3) := by decide +kernel
theorem d_IN_put_4 : decode b_IN_put 4 = .ok (.iload_n 1, 1) := by decide +kernel
theorem d_IN_put_5 : decode b_IN_put 5 = .ok (.aload_n 0, 1) := by decide +kernel
theorem d_IN_put_6 : decode b_IN_put 6 = .ok (.getfield 15, 3) := by decide +kernel
theorem d_IN_put_9 : decode b_IN_put 9 = .ok (.if_icmp .ge 14, 3) := by decide +kernel
theorem d_IN_put_12 : decode b_IN_put 12 = .ok (.aload_n 0, 1) := by decide +kernel
theorem d_IN_put_13 : decode b_IN_put 13 = .ok (.getfield 11, 3) := by decide +kernel
theorem d_IN_put_16 : decode b_IN_put 16 = .ok (.iload_n 1, 1) := by decide +kernel
theorem d_IN_put_17 : decode b_IN_put 17 = .ok (.iload_n 2, 1) := by decide +kernel
theorem d_IN_put_18 : decode b_IN_put 18 = .ok (.sipush 255, 3) := by decide +kernel
theorem d_IN_put_21 : decode b_IN_put 21 = .ok (.iand, 1) := by decide +kernel
theorem d_IN_put_22 : decode b_IN_put 22 = .ok (.iastore, 1) := by decide +kernel
theorem d_IN_put_23 : decode b_IN_put 23 = .ok (.return_, 1) := by decide +kernel
noncomputable def s_IN_put (j0 : Nat) (a1 : Int32) (a2 : Int32) (M : Mem) : Option (Mem) :=
  if a1 < 0 then (some M) else (if (M j0 1) ≤ a1 then (some M) else (ck a1 6 (nx (st M (j0 + 1) a1.toNatClampNeg (a2 &&& (255 : Int32))) (fun M22 => some M22))))
set_option maxHeartbeats 4000000 in
set_option maxRecDepth 100000 in
theorem c_IN_put (l : Launch) (x : Cx) (hJ : Inj x) (j0 : Nat) (k0 : kd_in j0) (a1 : Int32) (a2 : Int32) {M : Mem} {out : Mem} (h : s_IN_put j0 a1 a2 M = some out) : Cv l x y_IN_put (Cond.code y_IN_put b_IN_put 3 none :: tb) r_IN_put [.ref (x.2.1 j0), .int a1, .int a2] M out := by
  refine ofCv (cc := b_IN_put) (maxL := 3) (by decide) rfl (rfl) (Nat.le_of_ble_eq_true rfl) ?_
  intro p e s m args below meth c Q G0 ls g hx hb hml hown hts hK hZ hP hS hl hret
  have hown : s.vm.findClass R_IN = some m.cls := hown
  have hl : lv_has ls 3 [(0, .ref (x.2.1 j0)), (1, .int a1), (2, .int a2)] := hl
  obtain ⟨H, eH⟩ : ∃ z, z = s.heap := ⟨_, rfl⟩
  obtain ⟨locs, eL⟩ : ∃ z, z = ([] : List Loc) := ⟨_, rfl⟩
  rw [← eH] at hP
  have hS : va_S (A0 x) s.heap H locs := by rw [eH, eL]; exact hS
  rw [← eL]
  have key : W p l e r_IN_put s m args below meth c H locs 0 0 Q (F0 m 0 ls []) := by
    clear eH eL
    unfold s_IN_put at h
    refine lv_iload_n hx hb d_IN_put_0 rfl (lv_at hl 1 rfl) ?_
    refine lv_if_lt (tgt := 23) hx hb d_IN_put_1 rfl (fun hc => ?_) (fun hc => ?_)
    · have h := if_p hc h
      obtain rfl := Option.some.inj h
      exact hret d_IN_put_23 g hP hS
    · have h := if_m hc h
      refine lv_iload_n hx hb d_IN_put_4 rfl (lv_at hl 1 rfl) ?_
      refine lv_aload_n hx hb d_IN_put_5 rfl (lv_at hl 0 rfl) ?_
      refine gf_IN_15 hx hb hts hown hK hP k0 d_IN_put_6 ?_
      refine lv_icmp_ge (tgt := 23) hx hb d_IN_put_9 rfl (fun hc => ?_) (fun hc => ?_)
      · have h := if_p hc h
        obtain rfl := Option.some.inj h
        exact hret d_IN_put_23 g hP hS
      · have h := if_m hc h
        refine lv_aload_n hx hb d_IN_put_12 rfl (lv_at hl 0 rfl) ?_
        refine gf_IN_11 hx hb hts hown hK hP k0 d_IN_put_13 ?_
        refine lv_iload_n hx hb d_IN_put_16 rfl (lv_at hl 1 rfl) ?_
        refine lv_iload_n hx hb d_IN_put_17 rfl (lv_at hl 2 rfl) ?_
        refine lv_sipush (v := (255 : Int32)) hx hb d_IN_put_18 (by decide) ?_
        refine lv_iand hx hb d_IN_put_21 ?_
        obtain ⟨b21, h⟩ := ck_e h
        obtain ⟨M22, eM22, h⟩ := nx_e h
        refine m_ast hx hb hK hJ hP hS (ar_IN_bytes k0) b21 eM22 d_IN_put_22 (fun H locs hP hS => ?_)
        obtain rfl := Option.some.inj h
        exact hret d_IN_put_23 g hP hS
  rw [eH] at key
  exact key
theorem d_IN_turnBit_0 : decode b_IN_turnBit 0 = .ok (.aload_n 0, 1) := by decide +kernel
theorem d_IN_turnBit_1 : decode b_IN_turnBit 1 = .ok (.iload_n 1, 1) := by decide +kernel
theorem d_IN_turnBit_2 : decode b_IN_turnBit 2 = .ok (.aload_n 0, 1) := by decide +kernel
theorem d_IN_turnBit_3 : decode b_IN_turnBit 3 = .ok (.iload_n 1, 1) := by decide +kernel
theorem d_IN_turnBit_4 : decode b_IN_turnBit 4 = .ok (.invokevirtual 25, 3) := by decide +kernel
theorem d_IN_turnBit_7 : decode b_IN_turnBit 7 = .ok (.iconst 1, 1) := by decide +kernel
theorem d_IN_turnBit_8 : decode b_IN_turnBit 8 = .ok (.iload_n 2, 1) := by decide +kernel
theorem d_IN_turnBit_9 : decode b_IN_turnBit 9 = .ok (.ishl, 1) := by decide +kernel
theorem d_IN_turnBit_10 : decode b_IN_turnBit 10 = .ok (.ixor, 1) := by decide +kernel
theorem d_IN_turnBit_11 : decode b_IN_turnBit 11 = .ok (.invokevirtual 40, 3) := by decide +kernel
theorem d_IN_turnBit_14 : decode b_IN_turnBit 14 = .ok (.return_, 1) := by decide +kernel
noncomputable def s_IN_turnBit (j0 : Nat) (a1 : Int32) (a2 : Int32) (M : Mem) : Option (Mem) :=
  bi (s_IN_at j0 a1 M) (fun r23 M21 => bv (s_IN_put j0 a1 (r23 ^^^ ((1 : Int32) <<< (a2 &&& 31))) M21) (fun M24 => some M24))
set_option maxHeartbeats 4000000 in
set_option maxRecDepth 100000 in
theorem c_IN_turnBit (l : Launch) (x : Cx) (hJ : Inj x) (j0 : Nat) (k0 : kd_in j0) (a1 : Int32) (a2 : Int32) {M : Mem} {out : Mem} (h : s_IN_turnBit j0 a1 a2 M = some out) : Cv l x y_IN_turnBit (Cond.code y_IN_turnBit b_IN_turnBit 3 none :: tb) r_IN_turnBit [.ref (x.2.1 j0), .int a1, .int a2] M out := by
  refine ofCv (cc := b_IN_turnBit) (maxL := 3) (by decide) rfl (rfl) (Nat.le_of_ble_eq_true rfl) ?_
  intro p e s m args below meth c Q G0 ls g hx hb hml hown hts hK hZ hP hS hl hret
  have hown : s.vm.findClass R_IN = some m.cls := hown
  have hl : lv_has ls 3 [(0, .ref (x.2.1 j0)), (1, .int a1), (2, .int a2)] := hl
  obtain ⟨H, eH⟩ : ∃ z, z = s.heap := ⟨_, rfl⟩
  obtain ⟨locs, eL⟩ : ∃ z, z = ([] : List Loc) := ⟨_, rfl⟩
  rw [← eH] at hP
  have hS : va_S (A0 x) s.heap H locs := by rw [eH, eL]; exact hS
  rw [← eL]
  have key : W p l e r_IN_turnBit s m args below meth c H locs 0 0 Q (F0 m 0 ls []) := by
    clear eH eL
    unfold s_IN_turnBit at h
    refine lv_aload_n hx hb d_IN_turnBit_0 rfl (lv_at hl 0 rfl) ?_
    refine lv_iload_n hx hb d_IN_turnBit_1 rfl (lv_at hl 1 rfl) ?_
    refine lv_aload_n hx hb d_IN_turnBit_2 rfl (lv_at hl 0 rfl) ?_
    refine lv_iload_n hx hb d_IN_turnBit_3 rfl (lv_at hl 1 rfl) ?_
    obtain ⟨r23, M21, c22, h⟩ := bi_e h
    refine cl_IN_25 (rest := [.int a1, .ref (x.2.1 j0)]) (R := r_IN_turnBit) (c_IN_at l x hJ j0 k0 a1 c22) k0 hx hb hml hts hown hK hZ hP hS hl.1 (Nat.le_of_ble_eq_true rfl) (Nat.le_of_ble_eq_true rfl) (Nat.le_of_ble_eq_true rfl) ⟨rfl, rfl, Nat.zero_le _, Nat.zero_le _⟩ d_IN_turnBit_4 (fun H locs hP hS => ?_)
    refine lv_iconst (v := (1 : Int32)) hx hb d_IN_turnBit_7 (by decide) ?_
    refine lv_iload_n hx hb d_IN_turnBit_8 rfl (lv_at hl 2 rfl) ?_
    refine lv_ishl hx hb d_IN_turnBit_9 ?_
    refine lv_ixor hx hb d_IN_turnBit_10 ?_
    obtain ⟨M24, c25, h⟩ := bv_e h
    refine cl_IN_40 (rest := []) (R := r_IN_turnBit) (c_IN_put l x hJ j0 k0 a1 (r23 ^^^ ((1 : Int32) <<< (a2 &&& 31))) c25) k0 hx hb hml hts hown hK hZ hP hS hl.1 (Nat.le_of_ble_eq_true rfl) (Nat.le_of_ble_eq_true rfl) (Nat.le_of_ble_eq_true rfl) ⟨rfl, rfl, Nat.zero_le _, Nat.zero_le _⟩ d_IN_turnBit_11 (fun H locs hP hS => ?_)
    obtain rfl := Option.some.inj h
    exact hret d_IN_turnBit_14 g hP hS
  rw [eH] at key
  exact key
theorem d_IN_addTo_0 : decode b_IN_addTo 0 = .ok (.aload_n 0, 1) := by decide +kernel
theorem d_IN_addTo_1 : decode b_IN_addTo 1 = .ok (.iload_n 1, 1) := by decide +kernel
theorem d_IN_addTo_2 : decode b_IN_addTo 2 = .ok (.aload_n 0, 1) := by decide +kernel
theorem d_IN_addTo_3 : decode b_IN_addTo 3 = .ok (.iload_n 1, 1) := by decide +kernel
theorem d_IN_addTo_4 : decode b_IN_addTo 4 = .ok (.invokevirtual 25, 3) := by decide +kernel
theorem d_IN_addTo_7 : decode b_IN_addTo 7 = .ok (.iload_n 2, 1) := by decide +kernel
theorem d_IN_addTo_8 : decode b_IN_addTo 8 = .ok (.iadd, 1) := by decide +kernel
theorem d_IN_addTo_9 : decode b_IN_addTo 9 = .ok (.invokevirtual 40, 3) := by decide +kernel
theorem d_IN_addTo_12 : decode b_IN_addTo 12 = .ok (.return_, 1) := by decide +kernel
noncomputable def s_IN_addTo (j0 : Nat) (a1 : Int32) (a2 : Int32) (M : Mem) : Option (Mem) :=
  bi (s_IN_at j0 a1 M) (fun r23 M21 => bv (s_IN_put j0 a1 (r23 + a2) M21) (fun M24 => some M24))
set_option maxHeartbeats 4000000 in
set_option maxRecDepth 100000 in
theorem c_IN_addTo (l : Launch) (x : Cx) (hJ : Inj x) (j0 : Nat) (k0 : kd_in j0) (a1 : Int32) (a2 : Int32) {M : Mem} {out : Mem} (h : s_IN_addTo j0 a1 a2 M = some out) : Cv l x y_IN_addTo (Cond.code y_IN_addTo b_IN_addTo 3 none :: tb) r_IN_addTo [.ref (x.2.1 j0), .int a1, .int a2] M out := by
  refine ofCv (cc := b_IN_addTo) (maxL := 3) (by decide) rfl (rfl) (Nat.le_of_ble_eq_true rfl) ?_
  intro p e s m args below meth c Q G0 ls g hx hb hml hown hts hK hZ hP hS hl hret
  have hown : s.vm.findClass R_IN = some m.cls := hown
  have hl : lv_has ls 3 [(0, .ref (x.2.1 j0)), (1, .int a1), (2, .int a2)] := hl
  obtain ⟨H, eH⟩ : ∃ z, z = s.heap := ⟨_, rfl⟩
  obtain ⟨locs, eL⟩ : ∃ z, z = ([] : List Loc) := ⟨_, rfl⟩
  rw [← eH] at hP
  have hS : va_S (A0 x) s.heap H locs := by rw [eH, eL]; exact hS
  rw [← eL]
  have key : W p l e r_IN_addTo s m args below meth c H locs 0 0 Q (F0 m 0 ls []) := by
    clear eH eL
    unfold s_IN_addTo at h
    refine lv_aload_n hx hb d_IN_addTo_0 rfl (lv_at hl 0 rfl) ?_
    refine lv_iload_n hx hb d_IN_addTo_1 rfl (lv_at hl 1 rfl) ?_
    refine lv_aload_n hx hb d_IN_addTo_2 rfl (lv_at hl 0 rfl) ?_
    refine lv_iload_n hx hb d_IN_addTo_3 rfl (lv_at hl 1 rfl) ?_
    obtain ⟨r23, M21, c22, h⟩ := bi_e h
    refine cl_IN_25 (rest := [.int a1, .ref (x.2.1 j0)]) (R := r_IN_addTo) (c_IN_at l x hJ j0 k0 a1 c22) k0 hx hb hml hts hown hK hZ hP hS hl.1 (Nat.le_of_ble_eq_true rfl) (Nat.le_of_ble_eq_true rfl) (Nat.le_of_ble_eq_true rfl) ⟨rfl, rfl, Nat.zero_le _, Nat.zero_le _⟩ d_IN_addTo_4 (fun H locs hP hS => ?_)
    refine lv_iload_n hx hb d_IN_addTo_7 rfl (lv_at hl 2 rfl) ?_
    refine lv_iadd hx hb d_IN_addTo_8 ?_
    obtain ⟨M24, c25, h⟩ := bv_e h
    refine cl_IN_40 (rest := []) (R := r_IN_addTo) (c_IN_put l x hJ j0 k0 a1 (r23 + a2) c25) k0 hx hb hml hts hown hK hZ hP hS hl.1 (Nat.le_of_ble_eq_true rfl) (Nat.le_of_ble_eq_true rfl) (Nat.le_of_ble_eq_true rfl) ⟨rfl, rfl, Nat.zero_le _, Nat.zero_le _⟩ d_IN_addTo_9 (fun H locs hP hS => ?_)
    obtain rfl := Option.some.inj h
    exact hret d_IN_addTo_12 g hP hS
  rw [eH] at key
  exact key
theorem d_IN_insert_0 : decode b_IN_insert 0 = .ok (.iload_n 1, 1) := by decide +kernel
theorem d_IN_insert_1 : decode b_IN_insert 1 = .ok (.ifCond .lt 19, 3) := by decide +kernel
theorem d_IN_insert_4 : decode b_IN_insert 4 = .ok (.iload_n 1, 1) := by decide +kernel
theorem d_IN_insert_5 : decode b_IN_insert 5 = .ok (.aload_n 0, 1) := by decide +kernel
theorem d_IN_insert_6 : decode b_IN_insert 6 = .ok (.getfield 15, 3) := by decide +kernel
theorem d_IN_insert_9 : decode b_IN_insert 9 = .ok (.if_icmp .gt 11, 3) := by decide +kernel
theorem d_IN_insert_12 : decode b_IN_insert 12 = .ok (.aload_n 0, 1) := by decide +kernel
theorem d_IN_insert_13 : decode b_IN_insert 13 = .ok (.iload_n 2, 1) := by decide +kernel
theorem d_IN_insert_14 : decode b_IN_insert 14 = .ok (.invokevirtual 29, 3) := by decide +kernel
theorem d_IN_insert_17 : decode b_IN_insert 17 = .ok (.ifCond .ne 4, 3) := by decide +kernel
theorem d_IN_insert_20 : decode b_IN_insert 20 = .ok (.return_, 1) := by decide +kernel
theorem d_IN_insert_21 : decode b_IN_insert 21 = .ok (.aload_n 0, 1) := by decide +kernel
theorem d_IN_insert_22 : decode b_IN_insert 22 = .ok (.getfield 15, 3) := by decide +kernel
theorem d_IN_insert_25 : decode b_IN_insert 25 = .ok (.iconst 1, 1) := by decide +kernel
theorem d_IN_insert_26 : decode b_IN_insert 26 = .ok (.isub, 1) := by decide +kernel
theorem d_IN_insert_27 : decode b_IN_insert 27 = .ok (.istore_n 3, 1) := by decide +kernel
theorem d_IN_insert_28 : decode b_IN_insert 28 = .ok (.iload_n 3, 1) := by decide +kernel
theorem d_IN_insert_29 : decode b_IN_insert 29 = .ok (.iload_n 1, 1) := by decide +kernel
theorem d_IN_insert_30 : decode b_IN_insert 30 = .ok (.if_icmp .le 23, 3) := by decide +kernel
theorem d_IN_insert_33 : decode b_IN_insert 33 = .ok (.aload_n 0, 1) := by decide +kernel
theorem d_IN_insert_34 : decode b_IN_insert 34 = .ok (.getfield 11, 3) := by decide +kernel
theorem d_IN_insert_37 : decode b_IN_insert 37 = .ok (.iload_n 3, 1) := by decide +kernel
theorem d_IN_insert_38 : decode b_IN_insert 38 = .ok (.aload_n 0, 1) := by decide +kernel
theorem d_IN_insert_39 : decode b_IN_insert 39 = .ok (.getfield 11, 3) := by decide +kernel
theorem d_IN_insert_42 : decode b_IN_insert 42 = .ok (.iload_n 3, 1) := by decide +kernel
theorem d_IN_insert_43 : decode b_IN_insert 43 = .ok (.iconst 1, 1) := by decide +kernel
theorem d_IN_insert_44 : decode b_IN_insert 44 = .ok (.isub, 1) := by decide +kernel
theorem d_IN_insert_45 : decode b_IN_insert 45 = .ok (.iaload, 1) := by decide +kernel
theorem d_IN_insert_46 : decode b_IN_insert 46 = .ok (.iastore, 1) := by decide +kernel
theorem d_IN_insert_47 : decode b_IN_insert 47 = .ok (.iinc 3 (-1), 3) := by decide +kernel
theorem d_IN_insert_50 : decode b_IN_insert 50 = .ok (.goto (-22), 3) := by decide +kernel
theorem d_IN_insert_53 : decode b_IN_insert 53 = .ok (.aload_n 0, 1) := by decide +kernel
theorem d_IN_insert_54 : decode b_IN_insert 54 = .ok (.getfield 11, 3) := by decide +kernel
theorem d_IN_insert_57 : decode b_IN_insert 57 = .ok (.iload_n 1, 1) := by decide +kernel
theorem d_IN_insert_58 : decode b_IN_insert 58 = .ok (.iload_n 2, 1) := by decide +kernel
theorem d_IN_insert_59 : decode b_IN_insert 59 = .ok (.iastore, 1) := by decide +kernel
theorem d_IN_insert_60 : decode b_IN_insert 60 = .ok (.return_, 1) := by decide +kernel
noncomputable def j_IN_insert_53 (j21 : Nat) (a23 : Int32) (a24 : Int32) (M25 : Mem) : Option (Mem) :=
  ck a23 6 (nx (st M25 (j21 + 1) a23.toNatClampNeg a24) (fun M27 => some M27))
noncomputable def l_IN_insert_28 (j0 : Nat) (a1 : Int32) (a2 : Int32) (v32 : Int32) (M33 : Mem) : Option ((Int32 × Mem) ⊕ (Mem)) :=
  if v32 ≤ a1 then (jw1 (j_IN_insert_53 j0 a1 a2 M33)) else (ck (v32 - (1 : Int32)) 6 (ck v32 6 (nx (st M33 (j0 + 1) v32.toNatClampNeg (M33 (j0 + 1) (v32 - (1 : Int32)).toNatClampNeg)) (fun M36 => nx (v32 + (-1 : Int32)) (fun v37 => some (.inl (v37, M36)))))))
noncomputable def s_IN_insert (j0 : Nat) (a1 : Int32) (a2 : Int32) (M : Mem) : Option (Mem) :=
  if a1 < 0 then (some M) else (if (M j0 1) < a1 then (some M) else (bi (s_IN_append j0 a2 M) (fun r30 M28 => if r30 = 0 then (some M28) else (nx ((M28 j0 1) - (1 : Int32)) (fun v31 => lp (fun q : Int32 × Mem => l_IN_insert_28 j0 a1 a2 q.1 q.2) (v31, M28))))))
set_option maxHeartbeats 4000000 in
set_option maxRecDepth 100000 in
theorem c_IN_insert (l : Launch) (x : Cx) (hJ : Inj x) (j0 : Nat) (k0 : kd_in j0) (a1 : Int32) (a2 : Int32) {M : Mem} {out : Mem} (h : s_IN_insert j0 a1 a2 M = some out) : Cv l x y_IN_insert (Cond.code y_IN_insert b_IN_insert 4 none :: tb) r_IN_insert [.ref (x.2.1 j0), .int a1, .int a2] M out := by
  refine ofCv (cc := b_IN_insert) (maxL := 4) (by decide) rfl (rfl) (Nat.le_of_ble_eq_true rfl) ?_
  intro p e s m args below meth c Q G0 ls g hx hb hml hown hts hK hZ hP hS hl hret
  have hown : s.vm.findClass R_IN = some m.cls := hown
  have hl : lv_has ls 4 [(0, .ref (x.2.1 j0)), (1, .int a1), (2, .int a2)] := hl
  obtain ⟨H, eH⟩ : ∃ z, z = s.heap := ⟨_, rfl⟩
  obtain ⟨locs, eL⟩ : ∃ z, z = ([] : List Loc) := ⟨_, rfl⟩
  rw [← eH] at hP
  have hS : va_S (A0 x) s.heap H locs := by rw [eH, eL]; exact hS
  rw [← eL]
  have key : W p l e r_IN_insert s m args below meth c H locs 0 0 Q (F0 m 0 ls []) := by
    clear eH eL
    unfold s_IN_insert at h
    have J53 : ∀ (j21 : Nat) (a23 : Int32) (a24 : Int32) (M25 : Mem) (k22 : kd_in j21) (res : Mem) (h : j_IN_insert_53 j21 a23 a24 M25 = some res) (g : G0 res) (H : Heap) (locs : List Loc) (ls : Array Slot) (hP : va_P x.1 vwCl (wld x M25) H) (hS : va_S (A0 x) s.heap H locs) (hl : lv_has ls 4 [(0, .ref (x.2.1 j21)), (1, .int a23), (2, .int a24)]), W p l e r_IN_insert s m args below meth c H locs 0 0 Q (F0 m 53 ls []) := by
      intro j21 a23 a24 M25 k22 res h g H locs ls hP hS hl
      unfold j_IN_insert_53 at h
      refine lv_aload_n hx hb d_IN_insert_53 rfl (lv_at hl 0 rfl) ?_
      refine gf_IN_11 hx hb hts hown hK hP k22 d_IN_insert_54 ?_
      refine lv_iload_n hx hb d_IN_insert_57 rfl (lv_at hl 1 rfl) ?_
      refine lv_iload_n hx hb d_IN_insert_58 rfl (lv_at hl 2 rfl) ?_
      obtain ⟨b26, h⟩ := ck_e h
      obtain ⟨M27, eM27, h⟩ := nx_e h
      refine m_ast hx hb hK hJ hP hS (ar_IN_bytes k22) b26 eM27 d_IN_insert_59 (fun H locs hP hS => ?_)
      obtain rfl := Option.some.inj h
      exact hret d_IN_insert_60 g hP hS
    refine lv_iload_n hx hb d_IN_insert_0 rfl (lv_at hl 1 rfl) ?_
    refine lv_if_lt (tgt := 20) hx hb d_IN_insert_1 rfl (fun hc => ?_) (fun hc => ?_)
    · have h := if_p hc h
      obtain rfl := Option.some.inj h
      exact hret d_IN_insert_20 g hP hS
    · have h := if_m hc h
      refine lv_iload_n hx hb d_IN_insert_4 rfl (lv_at hl 1 rfl) ?_
      refine lv_aload_n hx hb d_IN_insert_5 rfl (lv_at hl 0 rfl) ?_
      refine gf_IN_15 hx hb hts hown hK hP k0 d_IN_insert_6 ?_
      refine lv_icmp_gt (tgt := 20) hx hb d_IN_insert_9 rfl (fun hc => ?_) (fun hc => ?_)
      · have h := if_p hc h
        obtain rfl := Option.some.inj h
        exact hret d_IN_insert_20 g hP hS
      · have h := if_m hc h
        refine lv_aload_n hx hb d_IN_insert_12 rfl (lv_at hl 0 rfl) ?_
        refine lv_iload_n hx hb d_IN_insert_13 rfl (lv_at hl 2 rfl) ?_
        obtain ⟨r30, M28, c29, h⟩ := bi_e h
        refine cl_IN_29 (rest := []) (R := r_IN_insert) (c_IN_append l x hJ j0 k0 a2 c29) k0 hx hb hml hts hown hK hZ hP hS hl.1 (Nat.le_of_ble_eq_true rfl) (Nat.le_of_ble_eq_true rfl) (Nat.le_of_ble_eq_true rfl) ⟨rfl, rfl, Nat.zero_le _, Nat.zero_le _⟩ d_IN_insert_14 (fun H locs hP hS => ?_)
        refine lv_if_ne (tgt := 21) hx hb d_IN_insert_17 rfl (fun hc => ?_) (fun hc => ?_)
        · have h := if_m hc h
          refine lv_aload_n hx hb d_IN_insert_21 rfl (lv_at hl 0 rfl) ?_
          refine gf_IN_15 hx hb hts hown hK hP k0 d_IN_insert_22 ?_
          refine lv_iconst (v := (1 : Int32)) hx hb d_IN_insert_25 (by decide) ?_
          refine lv_isub hx hb d_IN_insert_26 ?_
          obtain ⟨v31, ev31, h⟩ := nx_e h
          refine tp_i ev31 ?_
          refine lv_istore_n hx hb d_IN_insert_27 rfl hl (by decide) rfl (fun ls hl => ?_)
          have hl : lv_has ls 4 [(3, .int v31), (0, .ref (x.2.1 j0)), (1, .int a1), (2, .int a2)] := hl
          obtain ⟨P28, eP28⟩ : ∃ P : (Int32 × Mem) → Prop, P = (fun q => ∀ (H : Heap) (locs : List Loc) (ls : Array Slot), va_P x.1 vwCl (wld x (q.2)) H → va_S (A0 x) s.heap H locs → lv_has ls 4 [(0, .ref (x.2.1 j0)), (1, .int a1), (2, .int a2), (3, .int (q.1))] → W p l e r_IN_insert s m args below meth c H locs 0 0 Q (F0 m 28 ls [])) := ⟨_, rfl⟩
          have L28 : P28 (v31, M28) := by
            refine lp_walk (G := G0) ?_ h g
            intro q res h g
            obtain ⟨v32, M33⟩ := q
            rw [eP28]
            intro H locs ls hP hS hl
            have hP : va_P x.1 vwCl (wld x M33) H := hP
            have hl : lv_has ls 4 [(0, .ref (x.2.1 j0)), (1, .int a1), (2, .int a2), (3, .int v32)] := hl
            have h : l_IN_insert_28 j0 a1 a2 v32 M33 = some res := h
            unfold l_IN_insert_28 at h
            refine lv_iload_n hx hb d_IN_insert_28 rfl (lv_at hl 3 rfl) ?_
            refine lv_iload_n hx hb d_IN_insert_29 rfl (lv_at hl 1 rfl) ?_
            refine lv_icmp_le (tgt := 53) hx hb d_IN_insert_30 rfl (fun hc => ?_) (fun hc => ?_)
            · have h := if_p hc h
              obtain ⟨res2, hres, h2⟩ := jw1_e h
              clear h
              subst hres
              have h := h2
              exact J53 j0 a1 a2 M33 k0 _ h g H locs ls hP hS (lv_sub hl [0, 1, 2] rfl)
            · have h := if_m hc h
              refine lv_aload_n hx hb d_IN_insert_33 rfl (lv_at hl 0 rfl) ?_
              refine gf_IN_11 hx hb hts hown hK hP k0 d_IN_insert_34 ?_
              refine lv_iload_n hx hb d_IN_insert_37 rfl (lv_at hl 3 rfl) ?_
              refine lv_aload_n hx hb d_IN_insert_38 rfl (lv_at hl 0 rfl) ?_
              refine gf_IN_11 hx hb hts hown hK hP k0 d_IN_insert_39 ?_
              refine lv_iload_n hx hb d_IN_insert_42 rfl (lv_at hl 3 rfl) ?_
              refine lv_iconst (v := (1 : Int32)) hx hb d_IN_insert_43 (by decide) ?_
              refine lv_isub hx hb d_IN_insert_44 ?_
              obtain ⟨b34, h⟩ := ck_e h
              refine m_ald hx hb hK hP (ar_IN_bytes k0) b34 d_IN_insert_45 ?_
              obtain ⟨b35, h⟩ := ck_e h
              obtain ⟨M36, eM36, h⟩ := nx_e h
              refine m_ast hx hb hK hJ hP hS (ar_IN_bytes k0) b35 eM36 d_IN_insert_46 (fun H locs hP hS => ?_)
              obtain ⟨v37, ev37, h⟩ := nx_e h
              refine lv_iinc (k := 3) hx hb d_IN_insert_47 hl rfl (iinc_v (k := (-1 : Int32)) (by decide) ev37) (by decide) rfl (fun ls hl => ?_)
              have hl : lv_has ls 4 [(3, .int v37), (0, .ref (x.2.1 j0)), (1, .int a1), (2, .int a2)] := hl
              refine lv_goto (tgt := 28) hx hb d_IN_insert_50 rfl ?_
              obtain rfl := Option.some.inj h
              have g : P28 (v37, M36) := g
              rw [eP28] at g
              exact g H locs ls hP hS (lv_sub hl [1, 2, 3, 0] rfl)
          rw [eP28] at L28
          exact L28 H locs ls hP hS (lv_sub hl [1, 2, 3, 0] rfl)
        · have h := if_p hc h
          obtain rfl := Option.some.inj h
          exact hret d_IN_insert_20 g hP hS
  rw [eH] at key
  exact key
theorem d_IN_takeOut_0 : decode b_IN_takeOut 0 = .ok (.iload_n 1, 1) := by decide +kernel
theorem d_IN_takeOut_1 : decode b_IN_takeOut 1 = .ok (.ifCond .lt 11, 3) := by decide +kernel
theorem d_IN_takeOut_4 : decode b_IN_takeOut 4 = .ok (.iload_n 1, 1) := by decide +kernel
theorem d_IN_takeOut_5 : decode b_IN_takeOut 5 = .ok (.aload_n 0, 1) := by decide +kernel
theorem d_IN_takeOut_6 : decode b_IN_takeOut 6 = .ok (.getfield 15, 3) := by decide +kernel
theorem d_IN_takeOut_9 : decode b_IN_takeOut 9 = .ok (.if_icmp .lt 4, 3) := by decide +kernel
theorem d_IN_takeOut_12 : decode b_IN_takeOut 12 = .ok (.return_, 1) := by decide +kernel
theorem d_IN_takeOut_13 : decode b_IN_takeOut 13 = .ok (.iload_n 1, 1) := by decide +kernel
theorem d_IN_takeOut_14 : decode b_IN_takeOut 14 = .ok (.istore_n 2, 1) := by decide +kernel
theorem d_IN_takeOut_15 : decode b_IN_takeOut 15 = .ok (.iload_n 2, 1) := by decide +kernel
theorem d_IN_takeOut_16 : decode b_IN_takeOut 16 = .ok (.aload_n 0, 1) := by decide +kernel
theorem d_IN_takeOut_17 : decode b_IN_takeOut 17 = .ok (.getfield 15, 3) := by decide +kernel
theorem d_IN_takeOut_20 : decode b_IN_takeOut 20 = .ok (.iconst 1, 1) := by decide +kernel
theorem d_IN_takeOut_21 : decode b_IN_takeOut 21 = .ok (.isub, 1) := by decide +kernel
theorem d_IN_takeOut_22 : decode b_IN_takeOut 22 = .ok (.if_icmp .ge 23, 3) := by decide +kernel
theorem d_IN_takeOut_25 : decode b_IN_takeOut 25 = .ok (.aload_n 0, 1) := by decide +kernel
theorem d_IN_takeOut_26 : decode b_IN_takeOut 26 = .ok (.getfield 11, 3) := by decide +kernel
theorem d_IN_takeOut_29 : decode b_IN_takeOut 29 = .ok (.iload_n 2, 1) := by decide +kernel
theorem d_IN_takeOut_30 : decode b_IN_takeOut 30 = .ok (.aload_n 0, 1) := by decide +kernel
theorem d_IN_takeOut_31 : decode b_IN_takeOut 31 = .ok (.getfield 11, 3) := by decide +kernel
theorem d_IN_takeOut_34 : decode b_IN_takeOut 34 = .ok (.iload_n 2, 1) := by decide +kernel
theorem d_IN_takeOut_35 : decode b_IN_takeOut 35 = .ok (.iconst 1, 1) := by decide +kernel
theorem d_IN_takeOut_36 : decode b_IN_takeOut 36 = .ok (.iadd, 1) := by decide +kernel
theorem d_IN_takeOut_37 : decode b_IN_takeOut 37 = .ok (.iaload, 1) := by decide +kernel
theorem d_IN_takeOut_38 : decode b_IN_takeOut 38 = .ok (.iastore, 1) := by decide +kernel
theorem d_IN_takeOut_39 : decode b_IN_takeOut 39 = .ok (.iinc 2 1, 3) := by decide +kernel
theorem d_IN_takeOut_42 : decode b_IN_takeOut 42 = .ok (.goto (-27), 3) := by decide +kernel
theorem d_IN_takeOut_45 : decode b_IN_takeOut 45 = .ok (.aload_n 0, 1) := by decide +kernel
theorem d_IN_takeOut_46 : decode b_IN_takeOut 46 = .ok (.dup, 1) := by decide +kernel
theorem d_IN_takeOut_47 : decode b_IN_takeOut 47 = .ok (.getfield 15, 3) := by decide +kernel
theorem d_IN_takeOut_50 : decode b_IN_takeOut 50 = .ok (.iconst 1, 1) := by decide +kernel
theorem d_IN_takeOut_51 : decode b_IN_takeOut 51 = .ok (.isub, 1) := by decide +kernel
theorem d_IN_takeOut_52 : decode b_IN_takeOut 52 = .ok (.putfield 15, 3) := by decide +kernel
theorem d_IN_takeOut_55 : decode b_IN_takeOut 55 = .ok (.return_, 1) := by decide +kernel
noncomputable def j_IN_takeOut_45 (j21 : Nat) (M23 : Mem) : Option (Mem) :=
  nx (st M23 j21 1 ((M23 j21 1) - (1 : Int32))) (fun M24 => some M24)
noncomputable def l_IN_takeOut_15 (j0 : Nat) (v25 : Int32) (M26 : Mem) : Option ((Int32 × Mem) ⊕ (Mem)) :=
  if ((M26 j0 1) - (1 : Int32)) ≤ v25 then (jw1 (j_IN_takeOut_45 j0 M26)) else (ck (v25 + (1 : Int32)) 6 (ck v25 6 (nx (st M26 (j0 + 1) v25.toNatClampNeg (M26 (j0 + 1) (v25 + (1 : Int32)).toNatClampNeg)) (fun M29 => nx (v25 + (1 : Int32)) (fun v30 => some (.inl (v30, M29)))))))
noncomputable def s_IN_takeOut (j0 : Nat) (a1 : Int32) (M : Mem) : Option (Mem) :=
  if a1 < 0 then (some M) else (if a1 < (M j0 1) then (lp (fun q : Int32 × Mem => l_IN_takeOut_15 j0 q.1 q.2) (a1, M)) else (some M))
set_option maxHeartbeats 4000000 in
set_option maxRecDepth 100000 in
theorem c_IN_takeOut (l : Launch) (x : Cx) (hJ : Inj x) (j0 : Nat) (k0 : kd_in j0) (a1 : Int32) {M : Mem} {out : Mem} (h : s_IN_takeOut j0 a1 M = some out) : Cv l x y_IN_takeOut (Cond.code y_IN_takeOut b_IN_takeOut 3 none :: tb) r_IN_takeOut [.ref (x.2.1 j0), .int a1] M out := by
  refine ofCv (cc := b_IN_takeOut) (maxL := 3) (by decide) rfl (rfl) (Nat.le_of_ble_eq_true rfl) ?_
  intro p e s m args below meth c Q G0 ls g hx hb hml hown hts hK hZ hP hS hl hret
  have hown : s.vm.findClass R_IN = some m.cls := hown
  have hl : lv_has ls 3 [(0, .ref (x.2.1 j0)), (1, .int a1)] := hl
  obtain ⟨H, eH⟩ : ∃ z, z = s.heap := ⟨_, rfl⟩
  obtain ⟨locs, eL⟩ : ∃ z, z = ([] : List Loc) := ⟨_, rfl⟩
  rw [← eH] at hP
  have hS : va_S (A0 x) s.heap H locs := by rw [eH, eL]; exact hS
  rw [← eL]
  have key : W p l e r_IN_takeOut s m args below meth c H locs 0 0 Q (F0 m 0 ls []) := by
    clear eH eL
    unfold s_IN_takeOut at h
    have J45 : ∀ (j21 : Nat) (M23 : Mem) (k22 : kd_in j21) (res : Mem) (h : j_IN_takeOut_45 j21 M23 = some res) (g : G0 res) (H : Heap) (locs : List Loc) (ls : Array Slot) (hP : va_P x.1 vwCl (wld x M23) H) (hS : va_S (A0 x) s.heap H locs) (hl : lv_has ls 3 [(0, .ref (x.2.1 j21))]), W p l e r_IN_takeOut s m args below meth c H locs 0 0 Q (F0 m 45 ls []) := by
      intro j21 M23 k22 res h g H locs ls hP hS hl
      unfold j_IN_takeOut_45 at h
      refine lv_aload_n hx hb d_IN_takeOut_45 rfl (lv_at hl 0 rfl) ?_
      refine lv_dup hx hb d_IN_takeOut_46 rfl ?_
      refine gf_IN_15 hx hb hts hown hK hP k22 d_IN_takeOut_47 ?_
      refine lv_iconst (v := (1 : Int32)) hx hb d_IN_takeOut_50 (by decide) ?_
      refine lv_isub hx hb d_IN_takeOut_51 ?_
      obtain ⟨M24, eM24, h⟩ := nx_e h
      refine pf_IN_15 hx hb hts hown hK hJ hP hS k22 eM24 d_IN_takeOut_52 (fun H locs hP hS => ?_)
      obtain rfl := Option.some.inj h
      exact hret d_IN_takeOut_55 g hP hS
    refine lv_iload_n hx hb d_IN_takeOut_0 rfl (lv_at hl 1 rfl) ?_
    refine lv_if_lt (tgt := 12) hx hb d_IN_takeOut_1 rfl (fun hc => ?_) (fun hc => ?_)
    · have h := if_p hc h
      obtain rfl := Option.some.inj h
      exact hret d_IN_takeOut_12 g hP hS
    · have h := if_m hc h
      refine lv_iload_n hx hb d_IN_takeOut_4 rfl (lv_at hl 1 rfl) ?_
      refine lv_aload_n hx hb d_IN_takeOut_5 rfl (lv_at hl 0 rfl) ?_
      refine gf_IN_15 hx hb hts hown hK hP k0 d_IN_takeOut_6 ?_
      refine lv_icmp_lt (tgt := 13) hx hb d_IN_takeOut_9 rfl (fun hc => ?_) (fun hc => ?_)
      · have h := if_p hc h
        refine lv_iload_n hx hb d_IN_takeOut_13 rfl (lv_at hl 1 rfl) ?_
        refine lv_istore_n hx hb d_IN_takeOut_14 rfl hl (by decide) rfl (fun ls hl => ?_)
        have hl : lv_has ls 3 [(2, .int a1), (0, .ref (x.2.1 j0)), (1, .int a1)] := hl
        obtain ⟨P15, eP15⟩ : ∃ P : (Int32 × Mem) → Prop, P = (fun q => ∀ (H : Heap) (locs : List Loc) (ls : Array Slot), va_P x.1 vwCl (wld x (q.2)) H → va_S (A0 x) s.heap H locs → lv_has ls 3 [(0, .ref (x.2.1 j0)), (2, .int (q.1))] → W p l e r_IN_takeOut s m args below meth c H locs 0 0 Q (F0 m 15 ls [])) := ⟨_, rfl⟩
        have L15 : P15 (a1, M) := by
          refine lp_walk (G := G0) ?_ h g
          intro q res h g
          obtain ⟨v25, M26⟩ := q
          rw [eP15]
          intro H locs ls hP hS hl
          have hP : va_P x.1 vwCl (wld x M26) H := hP
          have hl : lv_has ls 3 [(0, .ref (x.2.1 j0)), (2, .int v25)] := hl
          have h : l_IN_takeOut_15 j0 v25 M26 = some res := h
          unfold l_IN_takeOut_15 at h
          refine lv_iload_n hx hb d_IN_takeOut_15 rfl (lv_at hl 1 rfl) ?_
          refine lv_aload_n hx hb d_IN_takeOut_16 rfl (lv_at hl 0 rfl) ?_
          refine gf_IN_15 hx hb hts hown hK hP k0 d_IN_takeOut_17 ?_
          refine lv_iconst (v := (1 : Int32)) hx hb d_IN_takeOut_20 (by decide) ?_
          refine lv_isub hx hb d_IN_takeOut_21 ?_
          refine lv_icmp_ge (tgt := 45) hx hb d_IN_takeOut_22 rfl (fun hc => ?_) (fun hc => ?_)
          · have h := if_p hc h
            obtain ⟨res2, hres, h2⟩ := jw1_e h
            clear h
            subst hres
            have h := h2
            exact J45 j0 M26 k0 _ h g H locs ls hP hS (lv_sub hl [0] rfl)
          · have h := if_m hc h
            refine lv_aload_n hx hb d_IN_takeOut_25 rfl (lv_at hl 0 rfl) ?_
            refine gf_IN_11 hx hb hts hown hK hP k0 d_IN_takeOut_26 ?_
            refine lv_iload_n hx hb d_IN_takeOut_29 rfl (lv_at hl 1 rfl) ?_
            refine lv_aload_n hx hb d_IN_takeOut_30 rfl (lv_at hl 0 rfl) ?_
            refine gf_IN_11 hx hb hts hown hK hP k0 d_IN_takeOut_31 ?_
            refine lv_iload_n hx hb d_IN_takeOut_34 rfl (lv_at hl 1 rfl) ?_
            refine lv_iconst (v := (1 : Int32)) hx hb d_IN_takeOut_35 (by decide) ?_
            refine lv_iadd hx hb d_IN_takeOut_36 ?_
            obtain ⟨b27, h⟩ := ck_e h
            refine m_ald hx hb hK hP (ar_IN_bytes k0) b27 d_IN_takeOut_37 ?_
            obtain ⟨b28, h⟩ := ck_e h
            obtain ⟨M29, eM29, h⟩ := nx_e h
            refine m_ast hx hb hK hJ hP hS (ar_IN_bytes k0) b28 eM29 d_IN_takeOut_38 (fun H locs hP hS => ?_)
            obtain ⟨v30, ev30, h⟩ := nx_e h
            refine lv_iinc (k := 1) hx hb d_IN_takeOut_39 hl rfl (iinc_v (k := (1 : Int32)) (by decide) ev30) (by decide) rfl (fun ls hl => ?_)
            have hl : lv_has ls 3 [(2, .int v30), (0, .ref (x.2.1 j0))] := hl
            refine lv_goto (tgt := 15) hx hb d_IN_takeOut_42 rfl ?_
            obtain rfl := Option.some.inj h
            have g : P15 (v30, M29) := g
            rw [eP15] at g
            exact g H locs ls hP hS (lv_sub hl [1, 0] rfl)
        rw [eP15] at L15
        exact L15 H locs ls hP hS (lv_sub hl [1, 0] rfl)
      · have h := if_m hc h
        obtain rfl := Option.some.inj h
        exact hret d_IN_takeOut_12 g hP hS
  rw [eH] at key
  exact key
end
section
theorem d_PR_isRegister_0 : decode b_PR_isRegister 0 = .ok (.iload_n 0, 1) := by decide +kernel
theorem d_PR_isRegister_1 : decode b_PR_isRegister 1 = .ok (.ifCond .lt 12, 3) := by decide +kernel
theorem d_PR_isRegister_4 : decode b_PR_isRegister 4 = .ok (.iload_n 0, 1) := by decide +kernel
theorem d_PR_isRegister_5 : decode b_PR_isRegister 5 = .ok (.iconst 4, 1) := by decide +kernel
theorem d_PR_isRegister_6 : decode b_PR_isRegister 6 = .ok (.if_icmp .ge 7, 3) := by decide +kernel
theorem d_PR_isRegister_9 : decode b_PR_isRegister 9 = .ok (.iconst 1, 1) := by decide +kernel
theorem d_PR_isRegister_10 : decode b_PR_isRegister 10 = .ok (.goto 4, 3) := by decide +kernel
theorem d_PR_isRegister_13 : decode b_PR_isRegister 13 = .ok (.iconst 0, 1) := by decide +kernel
theorem d_PR_isRegister_14 : decode b_PR_isRegister 14 = .ok (.ireturn, 1) := by decide +kernel
noncomputable def s_PR_isRegister (a0 : Int32) (M : Mem) : Option (Int32 × Mem) :=
  if a0 < 0 then (some ((0 : Int32), M)) else (if (4 : Int32) ≤ a0 then (some ((0 : Int32), M)) else (some ((1 : Int32), M)))
set_option maxHeartbeats 4000000 in
set_option maxRecDepth 100000 in
theorem c_PR_isRegister (l : Launch) (x : Cx) (hJ : Inj x) (a0 : Int32) {M : Mem} {out : Int32 × Mem} (h : s_PR_isRegister a0 M = some out) : Ci l x y_PR_isRegister (Cond.code y_PR_isRegister b_PR_isRegister 1 (some .boolean) :: tb) r_PR_isRegister [.int a0] M out := by
  refine ofCz (cc := b_PR_isRegister) (maxL := 1) (by decide) rfl (rfl) (Nat.le_of_ble_eq_true rfl) ?_
  intro p e s m args below meth c Q G0 ls g hx hb hml hown hts hK hZ hP hS hl hret
  have hown : s.vm.findClass R_PR = some m.cls := hown
  have hl : lv_has ls 1 [(0, .int a0)] := hl
  obtain ⟨H, eH⟩ : ∃ z, z = s.heap := ⟨_, rfl⟩
  obtain ⟨locs, eL⟩ : ∃ z, z = ([] : List Loc) := ⟨_, rfl⟩
  rw [← eH] at hP
  have hS : va_S (A0 x) s.heap H locs := by rw [eH, eL]; exact hS
  rw [← eL]
  have key : W p l e r_PR_isRegister s m args below meth c H locs 0 0 Q (F0 m 0 ls []) := by
    clear eH eL
    unfold s_PR_isRegister at h
    refine lv_iload_n hx hb d_PR_isRegister_0 rfl (lv_at hl 0 rfl) ?_
    refine lv_if_lt (tgt := 13) hx hb d_PR_isRegister_1 rfl (fun hc => ?_) (fun hc => ?_)
    · have h := if_p hc h
      refine lv_iconst (v := (0 : Int32)) hx hb d_PR_isRegister_13 (by decide) ?_
      obtain rfl := Option.some.inj h
      exact hret (by decide) d_PR_isRegister_14 g hP hS
    · have h := if_m hc h
      refine lv_iload_n hx hb d_PR_isRegister_4 rfl (lv_at hl 0 rfl) ?_
      refine lv_iconst (v := (4 : Int32)) hx hb d_PR_isRegister_5 (by decide) ?_
      refine lv_icmp_ge (tgt := 13) hx hb d_PR_isRegister_6 rfl (fun hc => ?_) (fun hc => ?_)
      · have h := if_p hc h
        refine lv_iconst (v := (0 : Int32)) hx hb d_PR_isRegister_13 (by decide) ?_
        obtain rfl := Option.some.inj h
        exact hret (by decide) d_PR_isRegister_14 g hP hS
      · have h := if_m hc h
        refine lv_iconst (v := (1 : Int32)) hx hb d_PR_isRegister_9 (by decide) ?_
        refine lv_goto (tgt := 14) hx hb d_PR_isRegister_10 rfl ?_
        obtain rfl := Option.some.inj h
        exact hret (by decide) d_PR_isRegister_14 g hP hS
  rw [eH] at key
  exact key
theorem d_PR_isPlace_0 : decode b_PR_isPlace 0 = .ok (.iload_n 0, 1) := by decide +kernel
theorem d_PR_isPlace_1 : decode b_PR_isPlace 1 = .ok (.ifCond .lt 13, 3) := by decide +kernel
theorem d_PR_isPlace_4 : decode b_PR_isPlace 4 = .ok (.iload_n 0, 1) := by decide +kernel
theorem d_PR_isPlace_5 : decode b_PR_isPlace 5 = .ok (.bipush 24, 2) := by decide +kernel
theorem d_PR_isPlace_7 : decode b_PR_isPlace 7 = .ok (.if_icmp .ge 7, 3) := by decide +kernel
theorem d_PR_isPlace_10 : decode b_PR_isPlace 10 = .ok (.iconst 1, 1) := by decide +kernel
theorem d_PR_isPlace_11 : decode b_PR_isPlace 11 = .ok (.goto 4, 3) := by decide +kernel
theorem d_PR_isPlace_14 : decode b_PR_isPlace 14 = .ok (.iconst 0, 1) := by decide +kernel
theorem d_PR_isPlace_15 : decode b_PR_isPlace 15 = .ok (.ireturn, 1) := by decide +kernel
noncomputable def s_PR_isPlace (a0 : Int32) (M : Mem) : Option (Int32 × Mem) :=
  if a0 < 0 then (some ((0 : Int32), M)) else (if (24 : Int32) ≤ a0 then (some ((0 : Int32), M)) else (some ((1 : Int32), M)))
set_option maxHeartbeats 4000000 in
set_option maxRecDepth 100000 in
theorem c_PR_isPlace (l : Launch) (x : Cx) (hJ : Inj x) (a0 : Int32) {M : Mem} {out : Int32 × Mem} (h : s_PR_isPlace a0 M = some out) : Ci l x y_PR_isPlace (Cond.code y_PR_isPlace b_PR_isPlace 1 (some .boolean) :: tb) r_PR_isPlace [.int a0] M out := by
  refine ofCz (cc := b_PR_isPlace) (maxL := 1) (by decide) rfl (rfl) (Nat.le_of_ble_eq_true rfl) ?_
  intro p e s m args below meth c Q G0 ls g hx hb hml hown hts hK hZ hP hS hl hret
  have hown : s.vm.findClass R_PR = some m.cls := hown
  have hl : lv_has ls 1 [(0, .int a0)] := hl
  obtain ⟨H, eH⟩ : ∃ z, z = s.heap := ⟨_, rfl⟩
  obtain ⟨locs, eL⟩ : ∃ z, z = ([] : List Loc) := ⟨_, rfl⟩
  rw [← eH] at hP
  have hS : va_S (A0 x) s.heap H locs := by rw [eH, eL]; exact hS
  rw [← eL]
  have key : W p l e r_PR_isPlace s m args below meth c H locs 0 0 Q (F0 m 0 ls []) := by
    clear eH eL
    unfold s_PR_isPlace at h
    refine lv_iload_n hx hb d_PR_isPlace_0 rfl (lv_at hl 0 rfl) ?_
    refine lv_if_lt (tgt := 14) hx hb d_PR_isPlace_1 rfl (fun hc => ?_) (fun hc => ?_)
    · have h := if_p hc h
      refine lv_iconst (v := (0 : Int32)) hx hb d_PR_isPlace_14 (by decide) ?_
      obtain rfl := Option.some.inj h
      exact hret (by decide) d_PR_isPlace_15 g hP hS
    · have h := if_m hc h
      refine lv_iload_n hx hb d_PR_isPlace_4 rfl (lv_at hl 0 rfl) ?_
      refine lv_bipush (v := (24 : Int32)) hx hb d_PR_isPlace_5 (by decide) ?_
      refine lv_icmp_ge (tgt := 14) hx hb d_PR_isPlace_7 rfl (fun hc => ?_) (fun hc => ?_)
      · have h := if_p hc h
        refine lv_iconst (v := (0 : Int32)) hx hb d_PR_isPlace_14 (by decide) ?_
        obtain rfl := Option.some.inj h
        exact hret (by decide) d_PR_isPlace_15 g hP hS
      · have h := if_m hc h
        refine lv_iconst (v := (1 : Int32)) hx hb d_PR_isPlace_10 (by decide) ?_
        refine lv_goto (tgt := 15) hx hb d_PR_isPlace_11 rfl ?_
        obtain rfl := Option.some.inj h
        exact hret (by decide) d_PR_isPlace_15 g hP hS
  rw [eH] at key
  exact key
theorem d_PR_fits_0 : decode b_PR_fits 0 = .ok (.iload_n 0, 1) := by decide +kernel
theorem d_PR_fits_1 : decode b_PR_fits 1 = .ok (.tableswitch 109 0 15 #[97, 93, 79, 79, 79, 79, 86, 86, 86, 86, 97, 79, 93, 79, 79, 97], 79) := by decide +kernel
theorem d_PR_fits_80 : decode b_PR_fits 80 = .ok (.iload_n 1, 1) := by decide +kernel
theorem d_PR_fits_81 : decode b_PR_fits 81 = .ok (.invokestatic 23, 3) := by decide +kernel
theorem d_PR_fits_84 : decode b_PR_fits 84 = .ok (.goto 27, 3) := by decide +kernel
theorem d_PR_fits_87 : decode b_PR_fits 87 = .ok (.iload_n 1, 1) := by decide +kernel
theorem d_PR_fits_88 : decode b_PR_fits 88 = .ok (.invokestatic 31, 3) := by decide +kernel
theorem d_PR_fits_91 : decode b_PR_fits 91 = .ok (.goto 20, 3) := by decide +kernel
theorem d_PR_fits_94 : decode b_PR_fits 94 = .ok (.iconst 1, 1) := by decide +kernel
theorem d_PR_fits_95 : decode b_PR_fits 95 = .ok (.goto 16, 3) := by decide +kernel
theorem d_PR_fits_98 : decode b_PR_fits 98 = .ok (.iload_n 1, 1) := by decide +kernel
theorem d_PR_fits_99 : decode b_PR_fits 99 = .ok (.ifCond .ne 7, 3) := by decide +kernel
theorem d_PR_fits_102 : decode b_PR_fits 102 = .ok (.iconst 1, 1) := by decide +kernel
theorem d_PR_fits_103 : decode b_PR_fits 103 = .ok (.goto 8, 3) := by decide +kernel
theorem d_PR_fits_106 : decode b_PR_fits 106 = .ok (.iconst 0, 1) := by decide +kernel
theorem d_PR_fits_107 : decode b_PR_fits 107 = .ok (.goto 4, 3) := by decide +kernel
theorem d_PR_fits_110 : decode b_PR_fits 110 = .ok (.iconst 0, 1) := by decide +kernel
theorem d_PR_fits_111 : decode b_PR_fits 111 = .ok (.ireturn, 1) := by decide +kernel
noncomputable def j_PR_fits_98 (a21 : Int32) (M22 : Mem) : Option (Int32 × Mem) :=
  if a21 = 0 then (some ((1 : Int32), M22)) else (some ((0 : Int32), M22))
noncomputable def j_PR_fits_87 (a23 : Int32) (M24 : Mem) : Option (Int32 × Mem) :=
  bi (s_PR_isPlace a23 M24) (fun r27 M25 => cb r27 (some (r27, M25)))
noncomputable def j_PR_fits_80 (a29 : Int32) (M30 : Mem) : Option (Int32 × Mem) :=
  bi (s_PR_isRegister a29 M30) (fun r33 M31 => cb r33 (some (r33, M31)))
noncomputable def s_PR_fits (a0 : Int32) (a1 : Int32) (M : Mem) : Option (Int32 × Mem) :=
  if a0 = (0 : Int32) then (j_PR_fits_98 a1 M) else (if a0 = (1 : Int32) then (some ((1 : Int32), M)) else (if a0 = (2 : Int32) then (j_PR_fits_80 a1 M) else (if a0 = (3 : Int32) then (j_PR_fits_80 a1 M) else (if a0 = (4 : Int32) then (j_PR_fits_80 a1 M) else (if a0 = (5 : Int32) then (j_PR_fits_80 a1 M) else (if a0 = (6 : Int32) then (j_PR_fits_87 a1 M) else (if a0 = (7 : Int32) then (j_PR_fits_87 a1 M) else (if a0 = (8 : Int32) then (j_PR_fits_87 a1 M) else (if a0 = (9 : Int32) then (j_PR_fits_87 a1 M) else (if a0 = (10 : Int32) then (j_PR_fits_98 a1 M) else (if a0 = (11 : Int32) then (j_PR_fits_80 a1 M) else (if a0 = (12 : Int32) then (some ((1 : Int32), M)) else (if a0 = (13 : Int32) then (j_PR_fits_80 a1 M) else (if a0 = (14 : Int32) then (j_PR_fits_80 a1 M) else (if a0 = (15 : Int32) then (j_PR_fits_98 a1 M) else (some ((0 : Int32), M)))))))))))))))))
set_option maxHeartbeats 4000000 in
set_option maxRecDepth 100000 in
theorem c_PR_fits (l : Launch) (x : Cx) (hJ : Inj x) (a0 : Int32) (a1 : Int32) {M : Mem} {out : Int32 × Mem} (h : s_PR_fits a0 a1 M = some out) : Ci l x y_PR_fits (Cond.code y_PR_fits b_PR_fits 2 (some .boolean) :: tb) r_PR_fits [.int a0, .int a1] M out := by
  refine ofCz (cc := b_PR_fits) (maxL := 2) (by decide) rfl (rfl) (Nat.le_of_ble_eq_true rfl) ?_
  intro p e s m args below meth c Q G0 ls g hx hb hml hown hts hK hZ hP hS hl hret
  have hown : s.vm.findClass R_PR = some m.cls := hown
  have hl : lv_has ls 2 [(0, .int a0), (1, .int a1)] := hl
  obtain ⟨H, eH⟩ : ∃ z, z = s.heap := ⟨_, rfl⟩
  obtain ⟨locs, eL⟩ : ∃ z, z = ([] : List Loc) := ⟨_, rfl⟩
  rw [← eH] at hP
  have hS : va_S (A0 x) s.heap H locs := by rw [eH, eL]; exact hS
  rw [← eL]
  have key : W p l e r_PR_fits s m args below meth c H locs 0 0 Q (F0 m 0 ls []) := by
    clear eH eL
    unfold s_PR_fits at h
    have J98 : ∀ (a21 : Int32) (M22 : Mem)  (res : Int32 × Mem) (h : j_PR_fits_98 a21 M22 = some res) (g : G0 res) (H : Heap) (locs : List Loc) (ls : Array Slot) (hP : va_P x.1 vwCl (wld x M22) H) (hS : va_S (A0 x) s.heap H locs) (hl : lv_has ls 2 [(1, .int a21)]), W p l e r_PR_fits s m args below meth c H locs 0 0 Q (F0 m 98 ls []) := by
      intro a21 M22 res h g H locs ls hP hS hl
      unfold j_PR_fits_98 at h
      refine lv_iload_n hx hb d_PR_fits_98 rfl (lv_at hl 0 rfl) ?_
      refine lv_if_ne (tgt := 106) hx hb d_PR_fits_99 rfl (fun hc => ?_) (fun hc => ?_)
      · have h := if_m hc h
        refine lv_iconst (v := (0 : Int32)) hx hb d_PR_fits_106 (by decide) ?_
        refine lv_goto (tgt := 111) hx hb d_PR_fits_107 rfl ?_
        obtain rfl := Option.some.inj h
        exact hret (by decide) d_PR_fits_111 g hP hS
      · have h := if_p hc h
        refine lv_iconst (v := (1 : Int32)) hx hb d_PR_fits_102 (by decide) ?_
        refine lv_goto (tgt := 111) hx hb d_PR_fits_103 rfl ?_
        obtain rfl := Option.some.inj h
        exact hret (by decide) d_PR_fits_111 g hP hS
    have J87 : ∀ (a23 : Int32) (M24 : Mem)  (res : Int32 × Mem) (h : j_PR_fits_87 a23 M24 = some res) (g : G0 res) (H : Heap) (locs : List Loc) (ls : Array Slot) (hP : va_P x.1 vwCl (wld x M24) H) (hS : va_S (A0 x) s.heap H locs) (hl : lv_has ls 2 [(1, .int a23)]), W p l e r_PR_fits s m args below meth c H locs 0 0 Q (F0 m 87 ls []) := by
      intro a23 M24 res h g H locs ls hP hS hl
      unfold j_PR_fits_87 at h
      refine lv_iload_n hx hb d_PR_fits_87 rfl (lv_at hl 0 rfl) ?_
      obtain ⟨r27, M25, c26, h⟩ := bi_e h
      refine cl_PR_31 (rest := []) (R := r_PR_fits) (c_PR_isPlace l x hJ a23 c26) hx hb hml hts hown hK hZ hP hS hl.1 (Nat.le_of_ble_eq_true rfl) (Nat.le_of_ble_eq_true rfl) (Nat.le_of_ble_eq_true rfl) ⟨rfl, rfl, Nat.zero_le _, Nat.zero_le _⟩ d_PR_fits_88 (fun H locs hP hS => ?_)
      refine lv_goto (tgt := 111) hx hb d_PR_fits_91 rfl ?_
      obtain ⟨b28, h⟩ := cb_e h
      obtain rfl := Option.some.inj h
      exact hret b28 d_PR_fits_111 g hP hS
    have J80 : ∀ (a29 : Int32) (M30 : Mem)  (res : Int32 × Mem) (h : j_PR_fits_80 a29 M30 = some res) (g : G0 res) (H : Heap) (locs : List Loc) (ls : Array Slot) (hP : va_P x.1 vwCl (wld x M30) H) (hS : va_S (A0 x) s.heap H locs) (hl : lv_has ls 2 [(1, .int a29)]), W p l e r_PR_fits s m args below meth c H locs 0 0 Q (F0 m 80 ls []) := by
      intro a29 M30 res h g H locs ls hP hS hl
      unfold j_PR_fits_80 at h
      refine lv_iload_n hx hb d_PR_fits_80 rfl (lv_at hl 0 rfl) ?_
      obtain ⟨r33, M31, c32, h⟩ := bi_e h
      refine cl_PR_23 (rest := []) (R := r_PR_fits) (c_PR_isRegister l x hJ a29 c32) hx hb hml hts hown hK hZ hP hS hl.1 (Nat.le_of_ble_eq_true rfl) (Nat.le_of_ble_eq_true rfl) (Nat.le_of_ble_eq_true rfl) ⟨rfl, rfl, Nat.zero_le _, Nat.zero_le _⟩ d_PR_fits_81 (fun H locs hP hS => ?_)
      refine lv_goto (tgt := 111) hx hb d_PR_fits_84 rfl ?_
      obtain ⟨b34, h⟩ := cb_e h
      obtain rfl := Option.some.inj h
      exact hret b34 d_PR_fits_111 g hP hS
    refine lv_iload_n hx hb d_PR_fits_0 rfl (lv_at hl 0 rfl) ?_
    by_cases n35 : a0 = (0 : Int32)
    · have h := if_p n35 h
      refine sw_in (k := (0 : Int32)) (tgt := 98) hx hb n35 d_PR_fits_1 (by decide) (by decide) rfl rfl ?_
      exact J98 a1 M _ h g H locs ls hP hS (lv_sub hl [1] rfl)
    have h := if_m n35 h
    by_cases n36 : a0 = (1 : Int32)
    · have h := if_p n36 h
      refine sw_in (k := (1 : Int32)) (tgt := 94) hx hb n36 d_PR_fits_1 (by decide) (by decide) rfl rfl ?_
      refine lv_iconst (v := (1 : Int32)) hx hb d_PR_fits_94 (by decide) ?_
      refine lv_goto (tgt := 111) hx hb d_PR_fits_95 rfl ?_
      obtain rfl := Option.some.inj h
      exact hret (by decide) d_PR_fits_111 g hP hS
    have h := if_m n36 h
    by_cases n37 : a0 = (2 : Int32)
    · have h := if_p n37 h
      refine sw_in (k := (2 : Int32)) (tgt := 80) hx hb n37 d_PR_fits_1 (by decide) (by decide) rfl rfl ?_
      exact J80 a1 M _ h g H locs ls hP hS (lv_sub hl [1] rfl)
    have h := if_m n37 h
    by_cases n38 : a0 = (3 : Int32)
    · have h := if_p n38 h
      refine sw_in (k := (3 : Int32)) (tgt := 80) hx hb n38 d_PR_fits_1 (by decide) (by decide) rfl rfl ?_
      exact J80 a1 M _ h g H locs ls hP hS (lv_sub hl [1] rfl)
    have h := if_m n38 h
    by_cases n39 : a0 = (4 : Int32)
    · have h := if_p n39 h
      refine sw_in (k := (4 : Int32)) (tgt := 80) hx hb n39 d_PR_fits_1 (by decide) (by decide) rfl rfl ?_
      exact J80 a1 M _ h g H locs ls hP hS (lv_sub hl [1] rfl)
    have h := if_m n39 h
    by_cases n40 : a0 = (5 : Int32)
    · have h := if_p n40 h
      refine sw_in (k := (5 : Int32)) (tgt := 80) hx hb n40 d_PR_fits_1 (by decide) (by decide) rfl rfl ?_
      exact J80 a1 M _ h g H locs ls hP hS (lv_sub hl [1] rfl)
    have h := if_m n40 h
    by_cases n41 : a0 = (6 : Int32)
    · have h := if_p n41 h
      refine sw_in (k := (6 : Int32)) (tgt := 87) hx hb n41 d_PR_fits_1 (by decide) (by decide) rfl rfl ?_
      exact J87 a1 M _ h g H locs ls hP hS (lv_sub hl [1] rfl)
    have h := if_m n41 h
    by_cases n42 : a0 = (7 : Int32)
    · have h := if_p n42 h
      refine sw_in (k := (7 : Int32)) (tgt := 87) hx hb n42 d_PR_fits_1 (by decide) (by decide) rfl rfl ?_
      exact J87 a1 M _ h g H locs ls hP hS (lv_sub hl [1] rfl)
    have h := if_m n42 h
    by_cases n43 : a0 = (8 : Int32)
    · have h := if_p n43 h
      refine sw_in (k := (8 : Int32)) (tgt := 87) hx hb n43 d_PR_fits_1 (by decide) (by decide) rfl rfl ?_
      exact J87 a1 M _ h g H locs ls hP hS (lv_sub hl [1] rfl)
    have h := if_m n43 h
    by_cases n44 : a0 = (9 : Int32)
    · have h := if_p n44 h
      refine sw_in (k := (9 : Int32)) (tgt := 87) hx hb n44 d_PR_fits_1 (by decide) (by decide) rfl rfl ?_
      exact J87 a1 M _ h g H locs ls hP hS (lv_sub hl [1] rfl)
    have h := if_m n44 h
    by_cases n45 : a0 = (10 : Int32)
    · have h := if_p n45 h
      refine sw_in (k := (10 : Int32)) (tgt := 98) hx hb n45 d_PR_fits_1 (by decide) (by decide) rfl rfl ?_
      exact J98 a1 M _ h g H locs ls hP hS (lv_sub hl [1] rfl)
    have h := if_m n45 h
    by_cases n46 : a0 = (11 : Int32)
    · have h := if_p n46 h
      refine sw_in (k := (11 : Int32)) (tgt := 80) hx hb n46 d_PR_fits_1 (by decide) (by decide) rfl rfl ?_
      exact J80 a1 M _ h g H locs ls hP hS (lv_sub hl [1] rfl)
    have h := if_m n46 h
    by_cases n47 : a0 = (12 : Int32)
    · have h := if_p n47 h
      refine sw_in (k := (12 : Int32)) (tgt := 94) hx hb n47 d_PR_fits_1 (by decide) (by decide) rfl rfl ?_
      refine lv_iconst (v := (1 : Int32)) hx hb d_PR_fits_94 (by decide) ?_
      refine lv_goto (tgt := 111) hx hb d_PR_fits_95 rfl ?_
      obtain rfl := Option.some.inj h
      exact hret (by decide) d_PR_fits_111 g hP hS
    have h := if_m n47 h
    by_cases n48 : a0 = (13 : Int32)
    · have h := if_p n48 h
      refine sw_in (k := (13 : Int32)) (tgt := 80) hx hb n48 d_PR_fits_1 (by decide) (by decide) rfl rfl ?_
      exact J80 a1 M _ h g H locs ls hP hS (lv_sub hl [1] rfl)
    have h := if_m n48 h
    by_cases n49 : a0 = (14 : Int32)
    · have h := if_p n49 h
      refine sw_in (k := (14 : Int32)) (tgt := 80) hx hb n49 d_PR_fits_1 (by decide) (by decide) rfl rfl ?_
      exact J80 a1 M _ h g H locs ls hP hS (lv_sub hl [1] rfl)
    have h := if_m n49 h
    by_cases n50 : a0 = (15 : Int32)
    · have h := if_p n50 h
      refine sw_in (k := (15 : Int32)) (tgt := 98) hx hb n50 d_PR_fits_1 (by decide) (by decide) rfl rfl ?_
      exact J98 a1 M _ h g H locs ls hP hS (lv_sub hl [1] rfl)
    have h := if_m n50 h
    have b0 := sw_ne (k := (0 : Int32)) (z := 0) (by decide) n35
    have b1 := sw_ne (k := (1 : Int32)) (z := 1) (by decide) n36
    have b2 := sw_ne (k := (2 : Int32)) (z := 2) (by decide) n37
    have b3 := sw_ne (k := (3 : Int32)) (z := 3) (by decide) n38
    have b4 := sw_ne (k := (4 : Int32)) (z := 4) (by decide) n39
    have b5 := sw_ne (k := (5 : Int32)) (z := 5) (by decide) n40
    have b6 := sw_ne (k := (6 : Int32)) (z := 6) (by decide) n41
    have b7 := sw_ne (k := (7 : Int32)) (z := 7) (by decide) n42
    have b8 := sw_ne (k := (8 : Int32)) (z := 8) (by decide) n43
    have b9 := sw_ne (k := (9 : Int32)) (z := 9) (by decide) n44
    have b10 := sw_ne (k := (10 : Int32)) (z := 10) (by decide) n45
    have b11 := sw_ne (k := (11 : Int32)) (z := 11) (by decide) n46
    have b12 := sw_ne (k := (12 : Int32)) (z := 12) (by decide) n47
    have b13 := sw_ne (k := (13 : Int32)) (z := 13) (by decide) n48
    have b14 := sw_ne (k := (14 : Int32)) (z := 14) (by decide) n49
    have b15 := sw_ne (k := (15 : Int32)) (z := 15) (by decide) n50
    refine lv_tableOut (tgt := 110) hx hb d_PR_fits_1 (by omega) rfl ?_
    refine lv_iconst (v := (0 : Int32)) hx hb d_PR_fits_110 (by decide) ?_
    obtain rfl := Option.some.inj h
    exact hret (by decide) d_PR_fits_111 g hP hS
  rw [eH] at key
  exact key
theorem d_PR_append_0 : decode b_PR_append 0 = .ok (.aload_n 0, 1) := by decide +kernel
theorem d_PR_append_1 : decode b_PR_append 1 = .ok (.getfield 19, 3) := by decide +kernel
theorem d_PR_append_4 : decode b_PR_append 4 = .ok (.bipush 24, 2) := by decide +kernel
theorem d_PR_append_6 : decode b_PR_append 6 = .ok (.if_icmp .ge 18, 3) := by decide +kernel
theorem d_PR_append_9 : decode b_PR_append 9 = .ok (.iload_n 2, 1) := by decide +kernel
theorem d_PR_append_10 : decode b_PR_append 10 = .ok (.invokestatic 23, 3) := by decide +kernel
theorem d_PR_append_13 : decode b_PR_append 13 = .ok (.ifCond .eq 11, 3) := by decide +kernel
theorem d_PR_append_16 : decode b_PR_append 16 = .ok (.iload_n 1, 1) := by decide +kernel
theorem d_PR_append_17 : decode b_PR_append 17 = .ok (.iload_n 3, 1) := by decide +kernel
theorem d_PR_append_18 : decode b_PR_append 18 = .ok (.invokestatic 27, 3) := by decide +kernel
theorem d_PR_append_21 : decode b_PR_append 21 = .ok (.ifCond .ne 5, 3) := by decide +kernel
theorem d_PR_append_24 : decode b_PR_append 24 = .ok (.iconst 0, 1) := by decide +kernel
theorem d_PR_append_25 : decode b_PR_append 25 = .ok (.ireturn, 1) := by decide +kernel
theorem d_PR_append_26 : decode b_PR_append 26 = .ok (.aload_n 0, 1) := by decide +kernel
theorem d_PR_append_27 : decode b_PR_append 27 = .ok (.getfield 9, 3) := by decide +kernel
theorem d_PR_append_30 : decode b_PR_append 30 = .ok (.aload_n 0, 1) := by decide +kernel
theorem d_PR_append_31 : decode b_PR_append 31 = .ok (.getfield 19, 3) := by decide +kernel
theorem d_PR_append_34 : decode b_PR_append 34 = .ok (.iload_n 1, 1) := by decide +kernel
theorem d_PR_append_35 : decode b_PR_append 35 = .ok (.iastore, 1) := by decide +kernel
theorem d_PR_append_36 : decode b_PR_append 36 = .ok (.aload_n 0, 1) := by decide +kernel
theorem d_PR_append_37 : decode b_PR_append 37 = .ok (.getfield 13, 3) := by decide +kernel
theorem d_PR_append_40 : decode b_PR_append 40 = .ok (.aload_n 0, 1) := by decide +kernel
theorem d_PR_append_41 : decode b_PR_append 41 = .ok (.getfield 19, 3) := by decide +kernel
theorem d_PR_append_44 : decode b_PR_append 44 = .ok (.iload_n 2, 1) := by decide +kernel
theorem d_PR_append_45 : decode b_PR_append 45 = .ok (.iastore, 1) := by decide +kernel
theorem d_PR_append_46 : decode b_PR_append 46 = .ok (.aload_n 0, 1) := by decide +kernel
theorem d_PR_append_47 : decode b_PR_append 47 = .ok (.getfield 16, 3) := by decide +kernel
theorem d_PR_append_50 : decode b_PR_append 50 = .ok (.aload_n 0, 1) := by decide +kernel
theorem d_PR_append_51 : decode b_PR_append 51 = .ok (.getfield 19, 3) := by decide +kernel
theorem d_PR_append_54 : decode b_PR_append 54 = .ok (.iload_n 3, 1) := by decide +kernel
theorem d_PR_append_55 : decode b_PR_append 55 = .ok (.iastore, 1) := by decide +kernel
theorem d_PR_append_56 : decode b_PR_append 56 = .ok (.aload_n 0, 1) := by decide +kernel
theorem d_PR_append_57 : decode b_PR_append 57 = .ok (.dup, 1) := by decide +kernel
theorem d_PR_append_58 : decode b_PR_append 58 = .ok (.getfield 19, 3) := by decide +kernel
theorem d_PR_append_61 : decode b_PR_append 61 = .ok (.iconst 1, 1) := by decide +kernel
theorem d_PR_append_62 : decode b_PR_append 62 = .ok (.iadd, 1) := by decide +kernel
theorem d_PR_append_63 : decode b_PR_append 63 = .ok (.putfield 19, 3) := by decide +kernel
theorem d_PR_append_66 : decode b_PR_append 66 = .ok (.iconst 1, 1) := by decide +kernel
theorem d_PR_append_67 : decode b_PR_append 67 = .ok (.ireturn, 1) := by decide +kernel
noncomputable def s_PR_append (a1 : Int32) (a2 : Int32) (a3 : Int32) (M : Mem) : Option (Int32 × Mem) :=
  if (24 : Int32) ≤ (M 1 3) then (some ((0 : Int32), M)) else (bi (s_PR_isRegister a2 M) (fun r23 M21 => if r23 = 0 then (some ((0 : Int32), M21)) else (bi (s_PR_fits a1 a3 M21) (fun r26 M24 => if r26 = 0 then (some ((0 : Int32), M24)) else (ck (M24 1 3) 24 (nx (st M24 2 (M24 1 3).toNatClampNeg a1) (fun M28 => ck (M28 1 3) 24 (nx (st M28 3 (M28 1 3).toNatClampNeg a2) (fun M30 => ck (M30 1 3) 24 (nx (st M30 4 (M30 1 3).toNatClampNeg a3) (fun M32 => nx (st M32 1 3 ((M32 1 3) + (1 : Int32))) (fun M33 => some ((1 : Int32), M33)))))))))))))
set_option maxHeartbeats 4000000 in
set_option maxRecDepth 100000 in
theorem c_PR_append (l : Launch) (x : Cx) (hJ : Inj x) (a1 : Int32) (a2 : Int32) (a3 : Int32) {M : Mem} {out : Int32 × Mem} (h : s_PR_append a1 a2 a3 M = some out) : Ci l x y_PR_append (Cond.code y_PR_append b_PR_append 4 (some .boolean) :: tb) r_PR_append [.ref (x.2.1 1), .int a1, .int a2, .int a3] M out := by
  refine ofCz (cc := b_PR_append) (maxL := 4) (by decide) rfl (rfl) (Nat.le_of_ble_eq_true rfl) ?_
  intro p e s m args below meth c Q G0 ls g hx hb hml hown hts hK hZ hP hS hl hret
  have hown : s.vm.findClass R_PR = some m.cls := hown
  have hl : lv_has ls 4 [(0, .ref (x.2.1 1)), (1, .int a1), (2, .int a2), (3, .int a3)] := hl
  obtain ⟨H, eH⟩ : ∃ z, z = s.heap := ⟨_, rfl⟩
  obtain ⟨locs, eL⟩ : ∃ z, z = ([] : List Loc) := ⟨_, rfl⟩
  rw [← eH] at hP
  have hS : va_S (A0 x) s.heap H locs := by rw [eH, eL]; exact hS
  rw [← eL]
  have key : W p l e r_PR_append s m args below meth c H locs 0 0 Q (F0 m 0 ls []) := by
    clear eH eL
    unfold s_PR_append at h
    refine lv_aload_n hx hb d_PR_append_0 rfl (lv_at hl 0 rfl) ?_
    refine gf_PR_19 hx hb hts hown hK hP d_PR_append_1 ?_
    refine lv_bipush (v := (24 : Int32)) hx hb d_PR_append_4 (by decide) ?_
    refine lv_icmp_ge (tgt := 24) hx hb d_PR_append_6 rfl (fun hc => ?_) (fun hc => ?_)
    · have h := if_p hc h
      refine lv_iconst (v := (0 : Int32)) hx hb d_PR_append_24 (by decide) ?_
      obtain rfl := Option.some.inj h
      exact hret (by decide) d_PR_append_25 g hP hS
    · have h := if_m hc h
      refine lv_iload_n hx hb d_PR_append_9 rfl (lv_at hl 2 rfl) ?_
      obtain ⟨r23, M21, c22, h⟩ := bi_e h
      refine cl_PR_23 (rest := []) (R := r_PR_append) (c_PR_isRegister l x hJ a2 c22) hx hb hml hts hown hK hZ hP hS hl.1 (Nat.le_of_ble_eq_true rfl) (Nat.le_of_ble_eq_true rfl) (Nat.le_of_ble_eq_true rfl) ⟨rfl, rfl, Nat.zero_le _, Nat.zero_le _⟩ d_PR_append_10 (fun H locs hP hS => ?_)
      refine lv_if_eq (tgt := 24) hx hb d_PR_append_13 rfl (fun hc => ?_) (fun hc => ?_)
      · have h := if_p hc h
        refine lv_iconst (v := (0 : Int32)) hx hb d_PR_append_24 (by decide) ?_
        obtain rfl := Option.some.inj h
        exact hret (by decide) d_PR_append_25 g hP hS
      · have h := if_m hc h
        refine lv_iload_n hx hb d_PR_append_16 rfl (lv_at hl 1 rfl) ?_
        refine lv_iload_n hx hb d_PR_append_17 rfl (lv_at hl 3 rfl) ?_
        obtain ⟨r26, M24, c25, h⟩ := bi_e h
        refine cl_PR_27 (rest := []) (R := r_PR_append) (c_PR_fits l x hJ a1 a3 c25) hx hb hml hts hown hK hZ hP hS hl.1 (Nat.le_of_ble_eq_true rfl) (Nat.le_of_ble_eq_true rfl) (Nat.le_of_ble_eq_true rfl) ⟨rfl, rfl, Nat.zero_le _, Nat.zero_le _⟩ d_PR_append_18 (fun H locs hP hS => ?_)
        refine lv_if_ne (tgt := 26) hx hb d_PR_append_21 rfl (fun hc => ?_) (fun hc => ?_)
        · have h := if_m hc h
          refine lv_aload_n hx hb d_PR_append_26 rfl (lv_at hl 0 rfl) ?_
          refine gf_PR_9 hx hb hts hown hK hP d_PR_append_27 ?_
          refine lv_aload_n hx hb d_PR_append_30 rfl (lv_at hl 0 rfl) ?_
          refine gf_PR_19 hx hb hts hown hK hP d_PR_append_31 ?_
          refine lv_iload_n hx hb d_PR_append_34 rfl (lv_at hl 1 rfl) ?_
          obtain ⟨b27, h⟩ := ck_e h
          obtain ⟨M28, eM28, h⟩ := nx_e h
          refine m_ast hx hb hK hJ hP hS ar_PR_ops b27 eM28 d_PR_append_35 (fun H locs hP hS => ?_)
          refine lv_aload_n hx hb d_PR_append_36 rfl (lv_at hl 0 rfl) ?_
          refine gf_PR_13 hx hb hts hown hK hP d_PR_append_37 ?_
          refine lv_aload_n hx hb d_PR_append_40 rfl (lv_at hl 0 rfl) ?_
          refine gf_PR_19 hx hb hts hown hK hP d_PR_append_41 ?_
          refine lv_iload_n hx hb d_PR_append_44 rfl (lv_at hl 2 rfl) ?_
          obtain ⟨b29, h⟩ := ck_e h
          obtain ⟨M30, eM30, h⟩ := nx_e h
          refine m_ast hx hb hK hJ hP hS ar_PR_as b29 eM30 d_PR_append_45 (fun H locs hP hS => ?_)
          refine lv_aload_n hx hb d_PR_append_46 rfl (lv_at hl 0 rfl) ?_
          refine gf_PR_16 hx hb hts hown hK hP d_PR_append_47 ?_
          refine lv_aload_n hx hb d_PR_append_50 rfl (lv_at hl 0 rfl) ?_
          refine gf_PR_19 hx hb hts hown hK hP d_PR_append_51 ?_
          refine lv_iload_n hx hb d_PR_append_54 rfl (lv_at hl 3 rfl) ?_
          obtain ⟨b31, h⟩ := ck_e h
          obtain ⟨M32, eM32, h⟩ := nx_e h
          refine m_ast hx hb hK hJ hP hS ar_PR_bs b31 eM32 d_PR_append_55 (fun H locs hP hS => ?_)
          refine lv_aload_n hx hb d_PR_append_56 rfl (lv_at hl 0 rfl) ?_
          refine lv_dup hx hb d_PR_append_57 rfl ?_
          refine gf_PR_19 hx hb hts hown hK hP d_PR_append_58 ?_
          refine lv_iconst (v := (1 : Int32)) hx hb d_PR_append_61 (by decide) ?_
          refine lv_iadd hx hb d_PR_append_62 ?_
          obtain ⟨M33, eM33, h⟩ := nx_e h
          refine pf_PR_19 hx hb hts hown hK hJ hP hS eM33 d_PR_append_63 (fun H locs hP hS => ?_)
          refine lv_iconst (v := (1 : Int32)) hx hb d_PR_append_66 (by decide) ?_
          obtain rfl := Option.some.inj h
          exact hret (by decide) d_PR_append_67 g hP hS
        · have h := if_p hc h
          refine lv_iconst (v := (0 : Int32)) hx hb d_PR_append_24 (by decide) ?_
          obtain rfl := Option.some.inj h
          exact hret (by decide) d_PR_append_25 g hP hS
  rw [eH] at key
  exact key
theorem d_PR_has_0 : decode b_PR_has 0 = .ok (.iload_n 1, 1) := by decide +kernel
theorem d_PR_has_1 : decode b_PR_has 1 = .ok (.ifCond .lt 15, 3) := by decide +kernel
theorem d_PR_has_4 : decode b_PR_has 4 = .ok (.iload_n 1, 1) := by decide +kernel
theorem d_PR_has_5 : decode b_PR_has 5 = .ok (.aload_n 0, 1) := by decide +kernel
theorem d_PR_has_6 : decode b_PR_has 6 = .ok (.getfield 19, 3) := by decide +kernel
theorem d_PR_has_9 : decode b_PR_has 9 = .ok (.if_icmp .ge 7, 3) := by decide +kernel
theorem d_PR_has_12 : decode b_PR_has 12 = .ok (.iconst 1, 1) := by decide +kernel
theorem d_PR_has_13 : decode b_PR_has 13 = .ok (.goto 4, 3) := by decide +kernel
theorem d_PR_has_16 : decode b_PR_has 16 = .ok (.iconst 0, 1) := by decide +kernel
theorem d_PR_has_17 : decode b_PR_has 17 = .ok (.ireturn, 1) := by decide +kernel
noncomputable def s_PR_has (a1 : Int32) (M : Mem) : Option (Int32 × Mem) :=
  if a1 < 0 then (some ((0 : Int32), M)) else (if (M 1 3) ≤ a1 then (some ((0 : Int32), M)) else (some ((1 : Int32), M)))
set_option maxHeartbeats 4000000 in
set_option maxRecDepth 100000 in
theorem c_PR_has (l : Launch) (x : Cx) (hJ : Inj x) (a1 : Int32) {M : Mem} {out : Int32 × Mem} (h : s_PR_has a1 M = some out) : Ci l x y_PR_has (Cond.code y_PR_has b_PR_has 2 (some .boolean) :: tb) r_PR_has [.ref (x.2.1 1), .int a1] M out := by
  refine ofCz (cc := b_PR_has) (maxL := 2) (by decide) rfl (rfl) (Nat.le_of_ble_eq_true rfl) ?_
  intro p e s m args below meth c Q G0 ls g hx hb hml hown hts hK hZ hP hS hl hret
  have hown : s.vm.findClass R_PR = some m.cls := hown
  have hl : lv_has ls 2 [(0, .ref (x.2.1 1)), (1, .int a1)] := hl
  obtain ⟨H, eH⟩ : ∃ z, z = s.heap := ⟨_, rfl⟩
  obtain ⟨locs, eL⟩ : ∃ z, z = ([] : List Loc) := ⟨_, rfl⟩
  rw [← eH] at hP
  have hS : va_S (A0 x) s.heap H locs := by rw [eH, eL]; exact hS
  rw [← eL]
  have key : W p l e r_PR_has s m args below meth c H locs 0 0 Q (F0 m 0 ls []) := by
    clear eH eL
    unfold s_PR_has at h
    refine lv_iload_n hx hb d_PR_has_0 rfl (lv_at hl 1 rfl) ?_
    refine lv_if_lt (tgt := 16) hx hb d_PR_has_1 rfl (fun hc => ?_) (fun hc => ?_)
    · have h := if_p hc h
      refine lv_iconst (v := (0 : Int32)) hx hb d_PR_has_16 (by decide) ?_
      obtain rfl := Option.some.inj h
      exact hret (by decide) d_PR_has_17 g hP hS
    · have h := if_m hc h
      refine lv_iload_n hx hb d_PR_has_4 rfl (lv_at hl 1 rfl) ?_
      refine lv_aload_n hx hb d_PR_has_5 rfl (lv_at hl 0 rfl) ?_
      refine gf_PR_19 hx hb hts hown hK hP d_PR_has_6 ?_
      refine lv_icmp_ge (tgt := 16) hx hb d_PR_has_9 rfl (fun hc => ?_) (fun hc => ?_)
      · have h := if_p hc h
        refine lv_iconst (v := (0 : Int32)) hx hb d_PR_has_16 (by decide) ?_
        obtain rfl := Option.some.inj h
        exact hret (by decide) d_PR_has_17 g hP hS
      · have h := if_m hc h
        refine lv_iconst (v := (1 : Int32)) hx hb d_PR_has_12 (by decide) ?_
        refine lv_goto (tgt := 17) hx hb d_PR_has_13 rfl ?_
        obtain rfl := Option.some.inj h
        exact hret (by decide) d_PR_has_17 g hP hS
  rw [eH] at key
  exact key
theorem d_PR_isJump_0 : decode b_PR_isJump 0 = .ok (.iload_n 0, 1) := by decide +kernel
theorem d_PR_isJump_1 : decode b_PR_isJump 1 = .ok (.bipush 6, 2) := by decide +kernel
theorem d_PR_isJump_3 : decode b_PR_isJump 3 = .ok (.if_icmp .lt 13, 3) := by decide +kernel
theorem d_PR_isJump_6 : decode b_PR_isJump 6 = .ok (.iload_n 0, 1) := by decide +kernel
theorem d_PR_isJump_7 : decode b_PR_isJump 7 = .ok (.bipush 10, 2) := by decide +kernel
theorem d_PR_isJump_9 : decode b_PR_isJump 9 = .ok (.if_icmp .gt 7, 3) := by decide +kernel
theorem d_PR_isJump_12 : decode b_PR_isJump 12 = .ok (.iconst 1, 1) := by decide +kernel
theorem d_PR_isJump_13 : decode b_PR_isJump 13 = .ok (.goto 4, 3) := by decide +kernel
theorem d_PR_isJump_16 : decode b_PR_isJump 16 = .ok (.iconst 0, 1) := by decide +kernel
theorem d_PR_isJump_17 : decode b_PR_isJump 17 = .ok (.ireturn, 1) := by decide +kernel
noncomputable def s_PR_isJump (a0 : Int32) (M : Mem) : Option (Int32 × Mem) :=
  if a0 < (6 : Int32) then (some ((0 : Int32), M)) else (if (10 : Int32) < a0 then (some ((0 : Int32), M)) else (some ((1 : Int32), M)))
set_option maxHeartbeats 4000000 in
set_option maxRecDepth 100000 in
theorem c_PR_isJump (l : Launch) (x : Cx) (hJ : Inj x) (a0 : Int32) {M : Mem} {out : Int32 × Mem} (h : s_PR_isJump a0 M = some out) : Ci l x y_PR_isJump (Cond.code y_PR_isJump b_PR_isJump 1 (some .boolean) :: tb) r_PR_isJump [.int a0] M out := by
  refine ofCz (cc := b_PR_isJump) (maxL := 1) (by decide) rfl (rfl) (Nat.le_of_ble_eq_true rfl) ?_
  intro p e s m args below meth c Q G0 ls g hx hb hml hown hts hK hZ hP hS hl hret
  have hown : s.vm.findClass R_PR = some m.cls := hown
  have hl : lv_has ls 1 [(0, .int a0)] := hl
  obtain ⟨H, eH⟩ : ∃ z, z = s.heap := ⟨_, rfl⟩
  obtain ⟨locs, eL⟩ : ∃ z, z = ([] : List Loc) := ⟨_, rfl⟩
  rw [← eH] at hP
  have hS : va_S (A0 x) s.heap H locs := by rw [eH, eL]; exact hS
  rw [← eL]
  have key : W p l e r_PR_isJump s m args below meth c H locs 0 0 Q (F0 m 0 ls []) := by
    clear eH eL
    unfold s_PR_isJump at h
    refine lv_iload_n hx hb d_PR_isJump_0 rfl (lv_at hl 0 rfl) ?_
    refine lv_bipush (v := (6 : Int32)) hx hb d_PR_isJump_1 (by decide) ?_
    refine lv_icmp_lt (tgt := 16) hx hb d_PR_isJump_3 rfl (fun hc => ?_) (fun hc => ?_)
    · have h := if_p hc h
      refine lv_iconst (v := (0 : Int32)) hx hb d_PR_isJump_16 (by decide) ?_
      obtain rfl := Option.some.inj h
      exact hret (by decide) d_PR_isJump_17 g hP hS
    · have h := if_m hc h
      refine lv_iload_n hx hb d_PR_isJump_6 rfl (lv_at hl 0 rfl) ?_
      refine lv_bipush (v := (10 : Int32)) hx hb d_PR_isJump_7 (by decide) ?_
      refine lv_icmp_gt (tgt := 16) hx hb d_PR_isJump_9 rfl (fun hc => ?_) (fun hc => ?_)
      · have h := if_p hc h
        refine lv_iconst (v := (0 : Int32)) hx hb d_PR_isJump_16 (by decide) ?_
        obtain rfl := Option.some.inj h
        exact hret (by decide) d_PR_isJump_17 g hP hS
      · have h := if_m hc h
        refine lv_iconst (v := (1 : Int32)) hx hb d_PR_isJump_12 (by decide) ?_
        refine lv_goto (tgt := 17) hx hb d_PR_isJump_13 rfl ?_
        obtain rfl := Option.some.inj h
        exact hret (by decide) d_PR_isJump_17 g hP hS
  rw [eH] at key
  exact key
theorem d_EN_cost_0 : decode b_EN_cost 0 = .ok (.aload_n 0, 1) := by decide +kernel
theorem d_EN_cost_1 : decode b_EN_cost 1 = .ok (.getfield 16, 3) := by decide +kernel
theorem d_EN_cost_4 : decode b_EN_cost 4 = .ok (.iconst 1, 1) := by decide +kernel
theorem d_EN_cost_5 : decode b_EN_cost 5 = .ok (.aload_n 0, 1) := by decide +kernel
theorem d_EN_cost_6 : decode b_EN_cost 6 = .ok (.getfield 10, 3) := by decide +kernel
theorem d_EN_cost_9 : decode b_EN_cost 9 = .ok (.getfield 20, 3) := by decide +kernel
theorem d_EN_cost_12 : decode b_EN_cost 12 = .ok (.iadd, 1) := by decide +kernel
theorem d_EN_cost_13 : decode b_EN_cost 13 = .ok (.imul, 1) := by decide +kernel
theorem d_EN_cost_14 : decode b_EN_cost 14 = .ok (.ireturn, 1) := by decide +kernel
noncomputable def s_EN_cost (j0 : Nat) (M : Mem) : Option (Int32 × Mem) :=
  some ((M j0 1) * ((1 : Int32) + (M (2 * j0 - 186) 1)), M)
set_option maxHeartbeats 4000000 in
set_option maxRecDepth 100000 in
theorem c_EN_cost (l : Launch) (x : Cx) (hJ : Inj x) (j0 : Nat) (k0 : kd_en j0) {M : Mem} {out : Int32 × Mem} (h : s_EN_cost j0 M = some out) : Ci l x y_EN_cost (Cond.code y_EN_cost b_EN_cost 1 (some .int) :: tb) r_EN_cost [.ref (x.2.1 j0)] M out := by
  refine ofCi (cc := b_EN_cost) (maxL := 1) (by decide) rfl (rfl) (Nat.le_of_ble_eq_true rfl) ?_
  intro p e s m args below meth c Q G0 ls g hx hb hml hown hts hK hZ hP hS hl hret
  have hown : s.vm.findClass R_EN = some m.cls := hown
  have hl : lv_has ls 1 [(0, .ref (x.2.1 j0))] := hl
  obtain ⟨H, eH⟩ : ∃ z, z = s.heap := ⟨_, rfl⟩
  obtain ⟨locs, eL⟩ : ∃ z, z = ([] : List Loc) := ⟨_, rfl⟩
  rw [← eH] at hP
  have hS : va_S (A0 x) s.heap H locs := by rw [eH, eL]; exact hS
  rw [← eL]
  have key : W p l e r_EN_cost s m args below meth c H locs 0 0 Q (F0 m 0 ls []) := by
    clear eH eL
    unfold s_EN_cost at h
    refine lv_aload_n hx hb d_EN_cost_0 rfl (lv_at hl 0 rfl) ?_
    refine gf_EN_16 hx hb hts hown hK hP k0 d_EN_cost_1 ?_
    refine lv_iconst (v := (1 : Int32)) hx hb d_EN_cost_4 (by decide) ?_
    refine lv_aload_n hx hb d_EN_cost_5 rfl (lv_at hl 0 rfl) ?_
    refine gf_EN_10 hx hb hts hown hK hP k0 d_EN_cost_6 ?_
    refine gf_EN_20 hx hb hts hown hK hP (kd_EN_input k0) d_EN_cost_9 ?_
    refine lv_iadd hx hb d_EN_cost_12 ?_
    refine lv_imul hx hb d_EN_cost_13 ?_
    obtain rfl := Option.some.inj h
    exact hret d_EN_cost_14 g hP hS
  rw [eH] at key
  exact key
theorem d_GE_draw_0 : decode b_GE_draw 0 = .ok (.aload_n 0, 1) := by decide +kernel
theorem d_GE_draw_1 : decode b_GE_draw 1 = .ok (.dup, 1) := by decide +kernel
theorem d_GE_draw_2 : decode b_GE_draw 2 = .ok (.getfield 7, 3) := by decide +kernel
theorem d_GE_draw_5 : decode b_GE_draw 5 = .ok (.aload_n 0, 1) := by decide +kernel
theorem d_GE_draw_6 : decode b_GE_draw 6 = .ok (.getfield 7, 3) := by decide +kernel
theorem d_GE_draw_9 : decode b_GE_draw 9 = .ok (.bipush 13, 2) := by decide +kernel
theorem d_GE_draw_11 : decode b_GE_draw 11 = .ok (.ishl, 1) := by decide +kernel
theorem d_GE_draw_12 : decode b_GE_draw 12 = .ok (.ixor, 1) := by decide +kernel
theorem d_GE_draw_13 : decode b_GE_draw 13 = .ok (.putfield 7, 3) := by decide +kernel
theorem d_GE_draw_16 : decode b_GE_draw 16 = .ok (.aload_n 0, 1) := by decide +kernel
theorem d_GE_draw_17 : decode b_GE_draw 17 = .ok (.dup, 1) := by decide +kernel
theorem d_GE_draw_18 : decode b_GE_draw 18 = .ok (.getfield 7, 3) := by decide +kernel
theorem d_GE_draw_21 : decode b_GE_draw 21 = .ok (.aload_n 0, 1) := by decide +kernel
theorem d_GE_draw_22 : decode b_GE_draw 22 = .ok (.getfield 7, 3) := by decide +kernel
theorem d_GE_draw_25 : decode b_GE_draw 25 = .ok (.bipush 17, 2) := by decide +kernel
theorem d_GE_draw_27 : decode b_GE_draw 27 = .ok (.iushr, 1) := by decide +kernel
theorem d_GE_draw_28 : decode b_GE_draw 28 = .ok (.ixor, 1) := by decide +kernel
theorem d_GE_draw_29 : decode b_GE_draw 29 = .ok (.putfield 7, 3) := by decide +kernel
theorem d_GE_draw_32 : decode b_GE_draw 32 = .ok (.aload_n 0, 1) := by decide +kernel
theorem d_GE_draw_33 : decode b_GE_draw 33 = .ok (.dup, 1) := by decide +kernel
theorem d_GE_draw_34 : decode b_GE_draw 34 = .ok (.getfield 7, 3) := by decide +kernel
theorem d_GE_draw_37 : decode b_GE_draw 37 = .ok (.aload_n 0, 1) := by decide +kernel
theorem d_GE_draw_38 : decode b_GE_draw 38 = .ok (.getfield 7, 3) := by decide +kernel
theorem d_GE_draw_41 : decode b_GE_draw 41 = .ok (.iconst 5, 1) := by decide +kernel
theorem d_GE_draw_42 : decode b_GE_draw 42 = .ok (.ishl, 1) := by decide +kernel
theorem d_GE_draw_43 : decode b_GE_draw 43 = .ok (.ixor, 1) := by decide +kernel
theorem d_GE_draw_44 : decode b_GE_draw 44 = .ok (.putfield 7, 3) := by decide +kernel
theorem d_GE_draw_47 : decode b_GE_draw 47 = .ok (.iload_n 1, 1) := by decide +kernel
theorem d_GE_draw_48 : decode b_GE_draw 48 = .ok (.ifCond .le 15, 3) := by decide +kernel
theorem d_GE_draw_51 : decode b_GE_draw 51 = .ok (.aload_n 0, 1) := by decide +kernel
theorem d_GE_draw_52 : decode b_GE_draw 52 = .ok (.getfield 7, 3) := by decide +kernel
theorem d_GE_draw_55 : decode b_GE_draw 55 = .ok (.ldc 13, 2) := by decide +kernel
theorem d_GE_draw_57 : decode b_GE_draw 57 = .ok (.iand, 1) := by decide +kernel
theorem d_GE_draw_58 : decode b_GE_draw 58 = .ok (.iload_n 1, 1) := by decide +kernel
theorem d_GE_draw_59 : decode b_GE_draw 59 = .ok (.irem, 1) := by decide +kernel
theorem d_GE_draw_60 : decode b_GE_draw 60 = .ok (.goto 4, 3) := by decide +kernel
theorem d_GE_draw_63 : decode b_GE_draw 63 = .ok (.iconst 0, 1) := by decide +kernel
theorem d_GE_draw_64 : decode b_GE_draw 64 = .ok (.ireturn, 1) := by decide +kernel
noncomputable def s_GE_draw (a1 : Int32) (M : Mem) : Option (Int32 × Mem) :=
  nx (st M 12 0 ((M 12 0) ^^^ ((M 12 0) <<< ((13 : Int32) &&& 31)))) (fun M21 => nx (st M21 12 0 ((M21 12 0) ^^^ (((M21 12 0).toUInt32 >>> ((17 : Int32).toUInt32 &&& Int32.toUInt32 31)).toInt32))) (fun M22 => nx (st M22 12 0 ((M22 12 0) ^^^ ((M22 12 0) <<< ((5 : Int32) &&& 31)))) (fun M23 => if a1 ≤ 0 then (some ((0 : Int32), M23)) else (cz a1 (some (((M23 12 0) &&& (2147483647 : Int32)) - ((M23 12 0) &&& (2147483647 : Int32)) / a1 * a1, M23))))))
set_option maxHeartbeats 4000000 in
set_option maxRecDepth 100000 in
theorem c_GE_draw (l : Launch) (x : Cx) (hJ : Inj x) (a1 : Int32) {M : Mem} {out : Int32 × Mem} (h : s_GE_draw a1 M = some out) : Ci l x y_GE_draw (Cond.code y_GE_draw b_GE_draw 2 (some .int) :: tb) r_GE_draw [.ref (x.2.1 12), .int a1] M out := by
  refine ofCi (cc := b_GE_draw) (maxL := 2) (by decide) rfl (rfl) (Nat.le_of_ble_eq_true rfl) ?_
  intro p e s m args below meth c Q G0 ls g hx hb hml hown hts hK hZ hP hS hl hret
  have hown : s.vm.findClass R_GE = some m.cls := hown
  have hl : lv_has ls 2 [(0, .ref (x.2.1 12)), (1, .int a1)] := hl
  obtain ⟨H, eH⟩ : ∃ z, z = s.heap := ⟨_, rfl⟩
  obtain ⟨locs, eL⟩ : ∃ z, z = ([] : List Loc) := ⟨_, rfl⟩
  rw [← eH] at hP
  have hS : va_S (A0 x) s.heap H locs := by rw [eH, eL]; exact hS
  rw [← eL]
  have key : W p l e r_GE_draw s m args below meth c H locs 0 0 Q (F0 m 0 ls []) := by
    clear eH eL
    unfold s_GE_draw at h
    refine lv_aload_n hx hb d_GE_draw_0 rfl (lv_at hl 0 rfl) ?_
    refine lv_dup hx hb d_GE_draw_1 rfl ?_
    refine gf_GE_7 hx hb hts hown hK hP d_GE_draw_2 ?_
    refine lv_aload_n hx hb d_GE_draw_5 rfl (lv_at hl 0 rfl) ?_
    refine gf_GE_7 hx hb hts hown hK hP d_GE_draw_6 ?_
    refine lv_bipush (v := (13 : Int32)) hx hb d_GE_draw_9 (by decide) ?_
    refine lv_ishl hx hb d_GE_draw_11 ?_
    refine lv_ixor hx hb d_GE_draw_12 ?_
    obtain ⟨M21, eM21, h⟩ := nx_e h
    refine pf_GE_7 hx hb hts hown hK hJ hP hS eM21 d_GE_draw_13 (fun H locs hP hS => ?_)
    refine lv_aload_n hx hb d_GE_draw_16 rfl (lv_at hl 0 rfl) ?_
    refine lv_dup hx hb d_GE_draw_17 rfl ?_
    refine gf_GE_7 hx hb hts hown hK hP d_GE_draw_18 ?_
    refine lv_aload_n hx hb d_GE_draw_21 rfl (lv_at hl 0 rfl) ?_
    refine gf_GE_7 hx hb hts hown hK hP d_GE_draw_22 ?_
    refine lv_bipush (v := (17 : Int32)) hx hb d_GE_draw_25 (by decide) ?_
    refine lv_iushr hx hb d_GE_draw_27 rfl ?_
    refine lv_ixor hx hb d_GE_draw_28 ?_
    obtain ⟨M22, eM22, h⟩ := nx_e h
    refine pf_GE_7 hx hb hts hown hK hJ hP hS eM22 d_GE_draw_29 (fun H locs hP hS => ?_)
    refine lv_aload_n hx hb d_GE_draw_32 rfl (lv_at hl 0 rfl) ?_
    refine lv_dup hx hb d_GE_draw_33 rfl ?_
    refine gf_GE_7 hx hb hts hown hK hP d_GE_draw_34 ?_
    refine lv_aload_n hx hb d_GE_draw_37 rfl (lv_at hl 0 rfl) ?_
    refine gf_GE_7 hx hb hts hown hK hP d_GE_draw_38 ?_
    refine lv_iconst (v := (5 : Int32)) hx hb d_GE_draw_41 (by decide) ?_
    refine lv_ishl hx hb d_GE_draw_42 ?_
    refine lv_ixor hx hb d_GE_draw_43 ?_
    obtain ⟨M23, eM23, h⟩ := nx_e h
    refine pf_GE_7 hx hb hts hown hK hJ hP hS eM23 d_GE_draw_44 (fun H locs hP hS => ?_)
    refine lv_iload_n hx hb d_GE_draw_47 rfl (lv_at hl 1 rfl) ?_
    refine lv_if_le (tgt := 63) hx hb d_GE_draw_48 rfl (fun hc => ?_) (fun hc => ?_)
    · have h := if_p hc h
      refine lv_iconst (v := (0 : Int32)) hx hb d_GE_draw_63 (by decide) ?_
      obtain rfl := Option.some.inj h
      exact hret d_GE_draw_64 g hP hS
    · have h := if_m hc h
      refine lv_aload_n hx hb d_GE_draw_51 rfl (lv_at hl 0 rfl) ?_
      refine gf_GE_7 hx hb hts hown hK hP d_GE_draw_52 ?_
      refine lv_ldc hx hb hown (hts.1 _ q_254) d_GE_draw_55 ?_
      refine lv_iand hx hb d_GE_draw_57 ?_
      refine lv_iload_n hx hb d_GE_draw_58 rfl (lv_at hl 1 rfl) ?_
      obtain ⟨z24, h⟩ := cz_e h
      refine lv_irem hx hb d_GE_draw_59 z24 ?_
      refine lv_goto (tgt := 64) hx hb d_GE_draw_60 rfl ?_
      obtain rfl := Option.some.inj h
      exact hret d_GE_draw_64 g hP hS
  rw [eH] at key
  exact key
end
section
theorem d_RU_reset_0 : decode b_RU_reset 0 = .ok (.iconst 0, 1) := by decide +kernel
theorem d_RU_reset_1 : decode b_RU_reset 1 = .ok (.istore_n 1, 1) := by decide +kernel
theorem d_RU_reset_2 : decode b_RU_reset 2 = .ok (.iload_n 1, 1) := by decide +kernel
theorem d_RU_reset_3 : decode b_RU_reset 3 = .ok (.aload_n 0, 1) := by decide +kernel
theorem d_RU_reset_4 : decode b_RU_reset 4 = .ok (.getfield 50, 3) := by decide +kernel
theorem d_RU_reset_7 : decode b_RU_reset 7 = .ok (.if_icmp .ge 21, 3) := by decide +kernel
theorem d_RU_reset_10 : decode b_RU_reset 10 = .ok (.aload_n 0, 1) := by decide +kernel
theorem d_RU_reset_11 : decode b_RU_reset 11 = .ok (.getfield 23, 3) := by decide +kernel
theorem d_RU_reset_14 : decode b_RU_reset 14 = .ok (.aload_n 0, 1) := by decide +kernel
theorem d_RU_reset_15 : decode b_RU_reset 15 = .ok (.getfield 26, 3) := by decide +kernel
theorem d_RU_reset_18 : decode b_RU_reset 18 = .ok (.iload_n 1, 1) := by decide +kernel
theorem d_RU_reset_19 : decode b_RU_reset 19 = .ok (.iaload, 1) := by decide +kernel
theorem d_RU_reset_20 : decode b_RU_reset 20 = .ok (.iconst 0, 1) := by decide +kernel
theorem d_RU_reset_21 : decode b_RU_reset 21 = .ok (.iastore, 1) := by decide +kernel
theorem d_RU_reset_22 : decode b_RU_reset 22 = .ok (.iinc 1 1, 3) := by decide +kernel
theorem d_RU_reset_25 : decode b_RU_reset 25 = .ok (.goto (-23), 3) := by decide +kernel
theorem d_RU_reset_28 : decode b_RU_reset 28 = .ok (.aload_n 0, 1) := by decide +kernel
theorem d_RU_reset_29 : decode b_RU_reset 29 = .ok (.getfield 11, 3) := by decide +kernel
theorem d_RU_reset_32 : decode b_RU_reset 32 = .ok (.iconst 0, 1) := by decide +kernel
theorem d_RU_reset_33 : decode b_RU_reset 33 = .ok (.invokestatic 53, 3) := by decide +kernel
theorem d_RU_reset_36 : decode b_RU_reset 36 = .ok (.aload_n 0, 1) := by decide +kernel
theorem d_RU_reset_37 : decode b_RU_reset 37 = .ok (.getfield 17, 3) := by decide +kernel
theorem d_RU_reset_40 : decode b_RU_reset 40 = .ok (.iconst 0, 1) := by decide +kernel
theorem d_RU_reset_41 : decode b_RU_reset 41 = .ok (.invokestatic 53, 3) := by decide +kernel
theorem d_RU_reset_44 : decode b_RU_reset 44 = .ok (.aload_n 0, 1) := by decide +kernel
theorem d_RU_reset_45 : decode b_RU_reset 45 = .ok (.iconst 0, 1) := by decide +kernel
theorem d_RU_reset_46 : decode b_RU_reset 46 = .ok (.putfield 50, 3) := by decide +kernel
theorem d_RU_reset_49 : decode b_RU_reset 49 = .ok (.aload_n 0, 1) := by decide +kernel
theorem d_RU_reset_50 : decode b_RU_reset 50 = .ok (.iconst 0, 1) := by decide +kernel
theorem d_RU_reset_51 : decode b_RU_reset 51 = .ok (.putfield 47, 3) := by decide +kernel
theorem d_RU_reset_54 : decode b_RU_reset 54 = .ok (.aload_n 0, 1) := by decide +kernel
theorem d_RU_reset_55 : decode b_RU_reset 55 = .ok (.iconst 0, 1) := by decide +kernel
theorem d_RU_reset_56 : decode b_RU_reset 56 = .ok (.putfield 36, 3) := by decide +kernel
theorem d_RU_reset_59 : decode b_RU_reset 59 = .ok (.aload_n 0, 1) := by decide +kernel
theorem d_RU_reset_60 : decode b_RU_reset 60 = .ok (.iconst 0, 1) := by decide +kernel
theorem d_RU_reset_61 : decode b_RU_reset 61 = .ok (.putfield 59, 3) := by decide +kernel
theorem d_RU_reset_64 : decode b_RU_reset 64 = .ok (.aload_n 0, 1) := by decide +kernel
theorem d_RU_reset_65 : decode b_RU_reset 65 = .ok (.iconst 0, 1) := by decide +kernel
theorem d_RU_reset_66 : decode b_RU_reset 66 = .ok (.putfield 62, 3) := by decide +kernel
theorem d_RU_reset_69 : decode b_RU_reset 69 = .ok (.aload_n 0, 1) := by decide +kernel
theorem d_RU_reset_70 : decode b_RU_reset 70 = .ok (.iconst (-1), 1) := by decide +kernel
theorem d_RU_reset_71 : decode b_RU_reset 71 = .ok (.putfield 32, 3) := by decide +kernel
theorem d_RU_reset_74 : decode b_RU_reset 74 = .ok (.return_, 1) := by decide +kernel
noncomputable def j_RU_reset_28 (j21 : Nat) (M23 : Mem) : Option (Mem) :=
  bv (s_JA_fill (j21 + 1) (0 : Int32) M23) (fun M24 => bv (s_JA_fill (j21 + 2) (0 : Int32) M24) (fun M26 => nx (st M26 j21 5 (0 : Int32)) (fun M28 => nx (st M28 j21 6 (0 : Int32)) (fun M29 => nx (st M29 j21 7 (0 : Int32)) (fun M30 => nx (st M30 j21 8 (0 : Int32)) (fun M31 => nx (st M31 j21 9 (0 : Int32)) (fun M32 => nx (st M32 j21 10 (-1 : Int32)) (fun M33 => some M33))))))))
noncomputable def l_RU_reset_2 (j0 : Nat) (v35 : Int32) (M36 : Mem) : Option ((Int32 × Mem) ⊕ (Mem)) :=
  if (M36 j0 5) ≤ v35 then (jw1 (j_RU_reset_28 j0 M36)) else (ck v35 64 (ck (M36 (j0 + 5) v35.toNatClampNeg) 576 (nx (st M36 (j0 + 4) (M36 (j0 + 5) v35.toNatClampNeg).toNatClampNeg (0 : Int32)) (fun M39 => nx (v35 + (1 : Int32)) (fun v40 => some (.inl (v40, M39)))))))
noncomputable def s_RU_reset (j0 : Nat) (M : Mem) : Option (Mem) :=
  nx ((0 : Int32)) (fun v34 => lp (fun q : Int32 × Mem => l_RU_reset_2 j0 q.1 q.2) (v34, M))
set_option maxHeartbeats 4000000 in
set_option maxRecDepth 100000 in
theorem c_RU_reset (l : Launch) (x : Cx) (hJ : Inj x) (j0 : Nat) (k0 : kd_run j0) {M : Mem} {out : Mem} (h : s_RU_reset j0 M = some out) : Cv l x y_RU_reset (Cond.code y_RU_reset b_RU_reset 2 none :: tb) r_RU_reset [.ref (x.2.1 j0)] M out := by
  refine ofCv (cc := b_RU_reset) (maxL := 2) (by decide) rfl (rfl) (Nat.le_of_ble_eq_true rfl) ?_
  intro p e s m args below meth c Q G0 ls g hx hb hml hown hts hK hZ hP hS hl hret
  have hown : s.vm.findClass R_RU = some m.cls := hown
  have hl : lv_has ls 2 [(0, .ref (x.2.1 j0))] := hl
  obtain ⟨H, eH⟩ : ∃ z, z = s.heap := ⟨_, rfl⟩
  obtain ⟨locs, eL⟩ : ∃ z, z = ([] : List Loc) := ⟨_, rfl⟩
  rw [← eH] at hP
  have hS : va_S (A0 x) s.heap H locs := by rw [eH, eL]; exact hS
  rw [← eL]
  have key : W p l e r_RU_reset s m args below meth c H locs 0 0 Q (F0 m 0 ls []) := by
    clear eH eL
    unfold s_RU_reset at h
    have J28 : ∀ (j21 : Nat) (M23 : Mem) (k22 : kd_run j21) (res : Mem) (h : j_RU_reset_28 j21 M23 = some res) (g : G0 res) (H : Heap) (locs : List Loc) (ls : Array Slot) (hP : va_P x.1 vwCl (wld x M23) H) (hS : va_S (A0 x) s.heap H locs) (hl : lv_has ls 2 [(0, .ref (x.2.1 j21))]), W p l e r_RU_reset s m args below meth c H locs 0 0 Q (F0 m 28 ls []) := by
      intro j21 M23 k22 res h g H locs ls hP hS hl
      unfold j_RU_reset_28 at h
      refine lv_aload_n hx hb d_RU_reset_28 rfl (lv_at hl 0 rfl) ?_
      refine gf_RU_11 hx hb hts hown hK hP k22 d_RU_reset_29 ?_
      refine lv_iconst (v := (0 : Int32)) hx hb d_RU_reset_32 (by decide) ?_
      obtain ⟨M24, c25, h⟩ := bv_e h
      refine cl_RU_53 (rest := []) (R := r_RU_reset) (c_JA_fill l x hJ (j21 + 1) (ar_RU_registers k22) (0 : Int32) c25) hx hb hml hts hown hK hZ hP hS hl.1 (Nat.le_of_ble_eq_true rfl) (Nat.le_of_ble_eq_true rfl) (Nat.le_of_ble_eq_true rfl) ⟨rfl, rfl, Nat.zero_le _, Nat.zero_le _⟩ d_RU_reset_33 (fun H locs hP hS => ?_)
      refine lv_aload_n hx hb d_RU_reset_36 rfl (lv_at hl 0 rfl) ?_
      refine gf_RU_17 hx hb hts hown hK hP k22 d_RU_reset_37 ?_
      refine lv_iconst (v := (0 : Int32)) hx hb d_RU_reset_40 (by decide) ?_
      obtain ⟨M26, c27, h⟩ := bv_e h
      refine cl_RU_53 (rest := []) (R := r_RU_reset) (c_JA_fill l x hJ (j21 + 2) (ar_RU_memory k22) (0 : Int32) c27) hx hb hml hts hown hK hZ hP hS hl.1 (Nat.le_of_ble_eq_true rfl) (Nat.le_of_ble_eq_true rfl) (Nat.le_of_ble_eq_true rfl) ⟨rfl, rfl, Nat.zero_le _, Nat.zero_le _⟩ d_RU_reset_41 (fun H locs hP hS => ?_)
      refine lv_aload_n hx hb d_RU_reset_44 rfl (lv_at hl 0 rfl) ?_
      refine lv_iconst (v := (0 : Int32)) hx hb d_RU_reset_45 (by decide) ?_
      obtain ⟨M28, eM28, h⟩ := nx_e h
      refine pf_RU_50 hx hb hts hown hK hJ hP hS k22 eM28 d_RU_reset_46 (fun H locs hP hS => ?_)
      refine lv_aload_n hx hb d_RU_reset_49 rfl (lv_at hl 0 rfl) ?_
      refine lv_iconst (v := (0 : Int32)) hx hb d_RU_reset_50 (by decide) ?_
      obtain ⟨M29, eM29, h⟩ := nx_e h
      refine pf_RU_47 hx hb hts hown hK hJ hP hS k22 eM29 d_RU_reset_51 (fun H locs hP hS => ?_)
      refine lv_aload_n hx hb d_RU_reset_54 rfl (lv_at hl 0 rfl) ?_
      refine lv_iconst (v := (0 : Int32)) hx hb d_RU_reset_55 (by decide) ?_
      obtain ⟨M30, eM30, h⟩ := nx_e h
      refine pf_RU_36 hx hb hts hown hK hJ hP hS k22 eM30 d_RU_reset_56 (fun H locs hP hS => ?_)
      refine lv_aload_n hx hb d_RU_reset_59 rfl (lv_at hl 0 rfl) ?_
      refine lv_iconst (v := (0 : Int32)) hx hb d_RU_reset_60 (by decide) ?_
      obtain ⟨M31, eM31, h⟩ := nx_e h
      refine pf_RU_59 hx hb hts hown hK hJ hP hS k22 eM31 d_RU_reset_61 (fun H locs hP hS => ?_)
      refine lv_aload_n hx hb d_RU_reset_64 rfl (lv_at hl 0 rfl) ?_
      refine lv_iconst (v := (0 : Int32)) hx hb d_RU_reset_65 (by decide) ?_
      obtain ⟨M32, eM32, h⟩ := nx_e h
      refine pf_RU_62 hx hb hts hown hK hJ hP hS k22 eM32 d_RU_reset_66 (fun H locs hP hS => ?_)
      refine lv_aload_n hx hb d_RU_reset_69 rfl (lv_at hl 0 rfl) ?_
      refine lv_iconst (v := (-1 : Int32)) hx hb d_RU_reset_70 (by decide) ?_
      obtain ⟨M33, eM33, h⟩ := nx_e h
      refine pf_RU_32 hx hb hts hown hK hJ hP hS k22 eM33 d_RU_reset_71 (fun H locs hP hS => ?_)
      obtain rfl := Option.some.inj h
      exact hret d_RU_reset_74 g hP hS
    refine lv_iconst (v := (0 : Int32)) hx hb d_RU_reset_0 (by decide) ?_
    obtain ⟨v34, ev34, h⟩ := nx_e h
    refine tp_i ev34 ?_
    refine lv_istore_n hx hb d_RU_reset_1 rfl hl (by decide) rfl (fun ls hl => ?_)
    have hl : lv_has ls 2 [(1, .int v34), (0, .ref (x.2.1 j0))] := hl
    obtain ⟨P2, eP2⟩ : ∃ P : (Int32 × Mem) → Prop, P = (fun q => ∀ (H : Heap) (locs : List Loc) (ls : Array Slot), va_P x.1 vwCl (wld x (q.2)) H → va_S (A0 x) s.heap H locs → lv_has ls 2 [(0, .ref (x.2.1 j0)), (1, .int (q.1))] → W p l e r_RU_reset s m args below meth c H locs 0 0 Q (F0 m 2 ls [])) := ⟨_, rfl⟩
    have L2 : P2 (v34, M) := by
      refine lp_walk (G := G0) ?_ h g
      intro q res h g
      obtain ⟨v35, M36⟩ := q
      rw [eP2]
      intro H locs ls hP hS hl
      have hP : va_P x.1 vwCl (wld x M36) H := hP
      have hl : lv_has ls 2 [(0, .ref (x.2.1 j0)), (1, .int v35)] := hl
      have h : l_RU_reset_2 j0 v35 M36 = some res := h
      unfold l_RU_reset_2 at h
      refine lv_iload_n hx hb d_RU_reset_2 rfl (lv_at hl 1 rfl) ?_
      refine lv_aload_n hx hb d_RU_reset_3 rfl (lv_at hl 0 rfl) ?_
      refine gf_RU_50 hx hb hts hown hK hP k0 d_RU_reset_4 ?_
      refine lv_icmp_ge (tgt := 28) hx hb d_RU_reset_7 rfl (fun hc => ?_) (fun hc => ?_)
      · have h := if_p hc h
        obtain ⟨res2, hres, h2⟩ := jw1_e h
        clear h
        subst hres
        have h := h2
        exact J28 j0 M36 k0 _ h g H locs ls hP hS (lv_sub hl [0] rfl)
      · have h := if_m hc h
        refine lv_aload_n hx hb d_RU_reset_10 rfl (lv_at hl 0 rfl) ?_
        refine gf_RU_23 hx hb hts hown hK hP k0 d_RU_reset_11 ?_
        refine lv_aload_n hx hb d_RU_reset_14 rfl (lv_at hl 0 rfl) ?_
        refine gf_RU_26 hx hb hts hown hK hP k0 d_RU_reset_15 ?_
        refine lv_iload_n hx hb d_RU_reset_18 rfl (lv_at hl 1 rfl) ?_
        obtain ⟨b37, h⟩ := ck_e h
        refine m_ald hx hb hK hP (ar_RU_edges k0) b37 d_RU_reset_19 ?_
        refine lv_iconst (v := (0 : Int32)) hx hb d_RU_reset_20 (by decide) ?_
        obtain ⟨b38, h⟩ := ck_e h
        obtain ⟨M39, eM39, h⟩ := nx_e h
        refine m_ast hx hb hK hJ hP hS (ar_RU_times k0) b38 eM39 d_RU_reset_21 (fun H locs hP hS => ?_)
        obtain ⟨v40, ev40, h⟩ := nx_e h
        refine lv_iinc (k := 1) hx hb d_RU_reset_22 hl rfl (iinc_v (k := (1 : Int32)) (by decide) ev40) (by decide) rfl (fun ls hl => ?_)
        have hl : lv_has ls 2 [(1, .int v40), (0, .ref (x.2.1 j0))] := hl
        refine lv_goto (tgt := 2) hx hb d_RU_reset_25 rfl ?_
        obtain rfl := Option.some.inj h
        have g : P2 (v40, M39) := g
        rw [eP2] at g
        exact g H locs ls hP hS (lv_sub hl [1, 0] rfl)
    rw [eP2] at L2
    exact L2 H locs ls hP hS (lv_sub hl [1, 0] rfl)
  rw [eH] at key
  exact key
theorem d_RU_goInto_0 : decode b_RU_goInto 0 = .ok (.aload_n 0, 1) := by decide +kernel
theorem d_RU_goInto_1 : decode b_RU_goInto 1 = .ok (.getfield 47, 3) := by decide +kernel
theorem d_RU_goInto_4 : decode b_RU_goInto 4 = .ok (.iconst 3, 1) := by decide +kernel
theorem d_RU_goInto_5 : decode b_RU_goInto 5 = .ok (.if_icmp .lt 11, 3) := by decide +kernel
theorem d_RU_goInto_8 : decode b_RU_goInto 8 = .ok (.aload_n 0, 1) := by decide +kernel
theorem d_RU_goInto_9 : decode b_RU_goInto 9 = .ok (.iconst 4, 1) := by decide +kernel
theorem d_RU_goInto_10 : decode b_RU_goInto 10 = .ok (.putfield 32, 3) := by decide +kernel
theorem d_RU_goInto_13 : decode b_RU_goInto 13 = .ok (.goto 33, 3) := by decide +kernel
theorem d_RU_goInto_16 : decode b_RU_goInto 16 = .ok (.aload_n 0, 1) := by decide +kernel
theorem d_RU_goInto_17 : decode b_RU_goInto 17 = .ok (.getfield 20, 3) := by decide +kernel
theorem d_RU_goInto_20 : decode b_RU_goInto 20 = .ok (.aload_n 0, 1) := by decide +kernel
theorem d_RU_goInto_21 : decode b_RU_goInto 21 = .ok (.getfield 47, 3) := by decide +kernel
theorem d_RU_goInto_24 : decode b_RU_goInto 24 = .ok (.aload_n 0, 1) := by decide +kernel
theorem d_RU_goInto_25 : decode b_RU_goInto 25 = .ok (.getfield 59, 3) := by decide +kernel
theorem d_RU_goInto_28 : decode b_RU_goInto 28 = .ok (.iconst 1, 1) := by decide +kernel
theorem d_RU_goInto_29 : decode b_RU_goInto 29 = .ok (.iadd, 1) := by decide +kernel
theorem d_RU_goInto_30 : decode b_RU_goInto 30 = .ok (.iastore, 1) := by decide +kernel
theorem d_RU_goInto_31 : decode b_RU_goInto 31 = .ok (.aload_n 0, 1) := by decide +kernel
theorem d_RU_goInto_32 : decode b_RU_goInto 32 = .ok (.dup, 1) := by decide +kernel
theorem d_RU_goInto_33 : decode b_RU_goInto 33 = .ok (.getfield 47, 3) := by decide +kernel
theorem d_RU_goInto_36 : decode b_RU_goInto 36 = .ok (.iconst 1, 1) := by decide +kernel
theorem d_RU_goInto_37 : decode b_RU_goInto 37 = .ok (.iadd, 1) := by decide +kernel
theorem d_RU_goInto_38 : decode b_RU_goInto 38 = .ok (.putfield 47, 3) := by decide +kernel
theorem d_RU_goInto_41 : decode b_RU_goInto 41 = .ok (.aload_n 0, 1) := by decide +kernel
theorem d_RU_goInto_42 : decode b_RU_goInto 42 = .ok (.iload_n 1, 1) := by decide +kernel
theorem d_RU_goInto_43 : decode b_RU_goInto 43 = .ok (.putfield 36, 3) := by decide +kernel
theorem d_RU_goInto_46 : decode b_RU_goInto 46 = .ok (.return_, 1) := by decide +kernel
noncomputable def s_RU_goInto (j0 : Nat) (a1 : Int32) (M : Mem) : Option (Mem) :=
  if (M j0 6) < (3 : Int32) then (ck (M j0 6) 3 (nx (st M (j0 + 3) (M j0 6).toNatClampNeg ((M j0 8) + (1 : Int32))) (fun M22 => nx (st M22 j0 6 ((M22 j0 6) + (1 : Int32))) (fun M23 => nx (st M23 j0 7 a1) (fun M24 => some M24))))) else (nx (st M j0 10 (4 : Int32)) (fun M25 => some M25))
set_option maxHeartbeats 4000000 in
set_option maxRecDepth 100000 in
theorem c_RU_goInto (l : Launch) (x : Cx) (hJ : Inj x) (j0 : Nat) (k0 : kd_run j0) (a1 : Int32) {M : Mem} {out : Mem} (h : s_RU_goInto j0 a1 M = some out) : Cv l x y_RU_goInto (Cond.code y_RU_goInto b_RU_goInto 2 none :: tb) r_RU_goInto [.ref (x.2.1 j0), .int a1] M out := by
  refine ofCv (cc := b_RU_goInto) (maxL := 2) (by decide) rfl (rfl) (Nat.le_of_ble_eq_true rfl) ?_
  intro p e s m args below meth c Q G0 ls g hx hb hml hown hts hK hZ hP hS hl hret
  have hown : s.vm.findClass R_RU = some m.cls := hown
  have hl : lv_has ls 2 [(0, .ref (x.2.1 j0)), (1, .int a1)] := hl
  obtain ⟨H, eH⟩ : ∃ z, z = s.heap := ⟨_, rfl⟩
  obtain ⟨locs, eL⟩ : ∃ z, z = ([] : List Loc) := ⟨_, rfl⟩
  rw [← eH] at hP
  have hS : va_S (A0 x) s.heap H locs := by rw [eH, eL]; exact hS
  rw [← eL]
  have key : W p l e r_RU_goInto s m args below meth c H locs 0 0 Q (F0 m 0 ls []) := by
    clear eH eL
    unfold s_RU_goInto at h
    refine lv_aload_n hx hb d_RU_goInto_0 rfl (lv_at hl 0 rfl) ?_
    refine gf_RU_47 hx hb hts hown hK hP k0 d_RU_goInto_1 ?_
    refine lv_iconst (v := (3 : Int32)) hx hb d_RU_goInto_4 (by decide) ?_
    refine lv_icmp_lt (tgt := 16) hx hb d_RU_goInto_5 rfl (fun hc => ?_) (fun hc => ?_)
    · have h := if_p hc h
      refine lv_aload_n hx hb d_RU_goInto_16 rfl (lv_at hl 0 rfl) ?_
      refine gf_RU_20 hx hb hts hown hK hP k0 d_RU_goInto_17 ?_
      refine lv_aload_n hx hb d_RU_goInto_20 rfl (lv_at hl 0 rfl) ?_
      refine gf_RU_47 hx hb hts hown hK hP k0 d_RU_goInto_21 ?_
      refine lv_aload_n hx hb d_RU_goInto_24 rfl (lv_at hl 0 rfl) ?_
      refine gf_RU_59 hx hb hts hown hK hP k0 d_RU_goInto_25 ?_
      refine lv_iconst (v := (1 : Int32)) hx hb d_RU_goInto_28 (by decide) ?_
      refine lv_iadd hx hb d_RU_goInto_29 ?_
      obtain ⟨b21, h⟩ := ck_e h
      obtain ⟨M22, eM22, h⟩ := nx_e h
      refine m_ast hx hb hK hJ hP hS (ar_RU_stack k0) b21 eM22 d_RU_goInto_30 (fun H locs hP hS => ?_)
      refine lv_aload_n hx hb d_RU_goInto_31 rfl (lv_at hl 0 rfl) ?_
      refine lv_dup hx hb d_RU_goInto_32 rfl ?_
      refine gf_RU_47 hx hb hts hown hK hP k0 d_RU_goInto_33 ?_
      refine lv_iconst (v := (1 : Int32)) hx hb d_RU_goInto_36 (by decide) ?_
      refine lv_iadd hx hb d_RU_goInto_37 ?_
      obtain ⟨M23, eM23, h⟩ := nx_e h
      refine pf_RU_47 hx hb hts hown hK hJ hP hS k0 eM23 d_RU_goInto_38 (fun H locs hP hS => ?_)
      refine lv_aload_n hx hb d_RU_goInto_41 rfl (lv_at hl 0 rfl) ?_
      refine lv_iload_n hx hb d_RU_goInto_42 rfl (lv_at hl 1 rfl) ?_
      obtain ⟨M24, eM24, h⟩ := nx_e h
      refine pf_RU_36 hx hb hts hown hK hJ hP hS k0 eM24 d_RU_goInto_43 (fun H locs hP hS => ?_)
      obtain rfl := Option.some.inj h
      exact hret d_RU_goInto_46 g hP hS
    · have h := if_m hc h
      refine lv_aload_n hx hb d_RU_goInto_8 rfl (lv_at hl 0 rfl) ?_
      refine lv_iconst (v := (4 : Int32)) hx hb d_RU_goInto_9 (by decide) ?_
      obtain ⟨M25, eM25, h⟩ := nx_e h
      refine pf_RU_32 hx hb hts hown hK hJ hP hS k0 eM25 d_RU_goInto_10 (fun H locs hP hS => ?_)
      refine lv_goto (tgt := 46) hx hb d_RU_goInto_13 rfl ?_
      obtain rfl := Option.some.inj h
      exact hret d_RU_goInto_46 g hP hS
  rw [eH] at key
  exact key
theorem d_RU_goBack_0 : decode b_RU_goBack 0 = .ok (.aload_n 0, 1) := by decide +kernel
theorem d_RU_goBack_1 : decode b_RU_goBack 1 = .ok (.getfield 47, 3) := by decide +kernel
theorem d_RU_goBack_4 : decode b_RU_goBack 4 = .ok (.ifCond .gt 11, 3) := by decide +kernel
theorem d_RU_goBack_7 : decode b_RU_goBack 7 = .ok (.aload_n 0, 1) := by decide +kernel
theorem d_RU_goBack_8 : decode b_RU_goBack 8 = .ok (.iconst 0, 1) := by decide +kernel
theorem d_RU_goBack_9 : decode b_RU_goBack 9 = .ok (.putfield 32, 3) := by decide +kernel
theorem d_RU_goBack_12 : decode b_RU_goBack 12 = .ok (.goto 26, 3) := by decide +kernel
theorem d_RU_goBack_15 : decode b_RU_goBack 15 = .ok (.aload_n 0, 1) := by decide +kernel
theorem d_RU_goBack_16 : decode b_RU_goBack 16 = .ok (.dup, 1) := by decide +kernel
theorem d_RU_goBack_17 : decode b_RU_goBack 17 = .ok (.getfield 47, 3) := by decide +kernel
theorem d_RU_goBack_20 : decode b_RU_goBack 20 = .ok (.iconst 1, 1) := by decide +kernel
theorem d_RU_goBack_21 : decode b_RU_goBack 21 = .ok (.isub, 1) := by decide +kernel
theorem d_RU_goBack_22 : decode b_RU_goBack 22 = .ok (.putfield 47, 3) := by decide +kernel
theorem d_RU_goBack_25 : decode b_RU_goBack 25 = .ok (.aload_n 0, 1) := by decide +kernel
theorem d_RU_goBack_26 : decode b_RU_goBack 26 = .ok (.aload_n 0, 1) := by decide +kernel
theorem d_RU_goBack_27 : decode b_RU_goBack 27 = .ok (.getfield 20, 3) := by decide +kernel
theorem d_RU_goBack_30 : decode b_RU_goBack 30 = .ok (.aload_n 0, 1) := by decide +kernel
theorem d_RU_goBack_31 : decode b_RU_goBack 31 = .ok (.getfield 47, 3) := by decide +kernel
theorem d_RU_goBack_34 : decode b_RU_goBack 34 = .ok (.iaload, 1) := by decide +kernel
theorem d_RU_goBack_35 : decode b_RU_goBack 35 = .ok (.putfield 36, 3) := by decide +kernel
theorem d_RU_goBack_38 : decode b_RU_goBack 38 = .ok (.return_, 1) := by decide +kernel
noncomputable def s_RU_goBack (j0 : Nat) (M : Mem) : Option (Mem) :=
  if 0 < (M j0 6) then (nx (st M j0 6 ((M j0 6) - (1 : Int32))) (fun M21 => ck (M21 j0 6) 3 (nx (st M21 j0 7 (M21 (j0 + 3) (M21 j0 6).toNatClampNeg)) (fun M23 => some M23)))) else (nx (st M j0 10 (0 : Int32)) (fun M24 => some M24))
set_option maxHeartbeats 4000000 in
set_option maxRecDepth 100000 in
theorem c_RU_goBack (l : Launch) (x : Cx) (hJ : Inj x) (j0 : Nat) (k0 : kd_run j0) {M : Mem} {out : Mem} (h : s_RU_goBack j0 M = some out) : Cv l x y_RU_goBack (Cond.code y_RU_goBack b_RU_goBack 1 none :: tb) r_RU_goBack [.ref (x.2.1 j0)] M out := by
  refine ofCv (cc := b_RU_goBack) (maxL := 1) (by decide) rfl (rfl) (Nat.le_of_ble_eq_true rfl) ?_
  intro p e s m args below meth c Q G0 ls g hx hb hml hown hts hK hZ hP hS hl hret
  have hown : s.vm.findClass R_RU = some m.cls := hown
  have hl : lv_has ls 1 [(0, .ref (x.2.1 j0))] := hl
  obtain ⟨H, eH⟩ : ∃ z, z = s.heap := ⟨_, rfl⟩
  obtain ⟨locs, eL⟩ : ∃ z, z = ([] : List Loc) := ⟨_, rfl⟩
  rw [← eH] at hP
  have hS : va_S (A0 x) s.heap H locs := by rw [eH, eL]; exact hS
  rw [← eL]
  have key : W p l e r_RU_goBack s m args below meth c H locs 0 0 Q (F0 m 0 ls []) := by
    clear eH eL
    unfold s_RU_goBack at h
    refine lv_aload_n hx hb d_RU_goBack_0 rfl (lv_at hl 0 rfl) ?_
    refine gf_RU_47 hx hb hts hown hK hP k0 d_RU_goBack_1 ?_
    refine lv_if_gt (tgt := 15) hx hb d_RU_goBack_4 rfl (fun hc => ?_) (fun hc => ?_)
    · have h := if_p hc h
      refine lv_aload_n hx hb d_RU_goBack_15 rfl (lv_at hl 0 rfl) ?_
      refine lv_dup hx hb d_RU_goBack_16 rfl ?_
      refine gf_RU_47 hx hb hts hown hK hP k0 d_RU_goBack_17 ?_
      refine lv_iconst (v := (1 : Int32)) hx hb d_RU_goBack_20 (by decide) ?_
      refine lv_isub hx hb d_RU_goBack_21 ?_
      obtain ⟨M21, eM21, h⟩ := nx_e h
      refine pf_RU_47 hx hb hts hown hK hJ hP hS k0 eM21 d_RU_goBack_22 (fun H locs hP hS => ?_)
      refine lv_aload_n hx hb d_RU_goBack_25 rfl (lv_at hl 0 rfl) ?_
      refine lv_aload_n hx hb d_RU_goBack_26 rfl (lv_at hl 0 rfl) ?_
      refine gf_RU_20 hx hb hts hown hK hP k0 d_RU_goBack_27 ?_
      refine lv_aload_n hx hb d_RU_goBack_30 rfl (lv_at hl 0 rfl) ?_
      refine gf_RU_47 hx hb hts hown hK hP k0 d_RU_goBack_31 ?_
      obtain ⟨b22, h⟩ := ck_e h
      refine m_ald hx hb hK hP (ar_RU_stack k0) b22 d_RU_goBack_34 ?_
      obtain ⟨M23, eM23, h⟩ := nx_e h
      refine pf_RU_36 hx hb hts hown hK hJ hP hS k0 eM23 d_RU_goBack_35 (fun H locs hP hS => ?_)
      obtain rfl := Option.some.inj h
      exact hret d_RU_goBack_38 g hP hS
    · have h := if_m hc h
      refine lv_aload_n hx hb d_RU_goBack_7 rfl (lv_at hl 0 rfl) ?_
      refine lv_iconst (v := (0 : Int32)) hx hb d_RU_goBack_8 (by decide) ?_
      obtain ⟨M24, eM24, h⟩ := nx_e h
      refine pf_RU_32 hx hb hts hown hK hJ hP hS k0 eM24 d_RU_goBack_9 (fun H locs hP hS => ?_)
      refine lv_goto (tgt := 38) hx hb d_RU_goBack_12 rfl ?_
      obtain rfl := Option.some.inj h
      exact hret d_RU_goBack_38 g hP hS
  rw [eH] at key
  exact key
theorem d_RU_divide_0 : decode b_RU_divide 0 = .ok (.aload_n 0, 1) := by decide +kernel
theorem d_RU_divide_1 : decode b_RU_divide 1 = .ok (.getfield 11, 3) := by decide +kernel
theorem d_RU_divide_4 : decode b_RU_divide 4 = .ok (.iload_n 2, 1) := by decide +kernel
theorem d_RU_divide_5 : decode b_RU_divide 5 = .ok (.iaload, 1) := by decide +kernel
theorem d_RU_divide_6 : decode b_RU_divide 6 = .ok (.ifCond .ne 11, 3) := by decide +kernel
theorem d_RU_divide_9 : decode b_RU_divide 9 = .ok (.aload_n 0, 1) := by decide +kernel
theorem d_RU_divide_10 : decode b_RU_divide 10 = .ok (.iconst 2, 1) := by decide +kernel
theorem d_RU_divide_11 : decode b_RU_divide 11 = .ok (.putfield 32, 3) := by decide +kernel
theorem d_RU_divide_14 : decode b_RU_divide 14 = .ok (.goto 18, 3) := by decide +kernel
theorem d_RU_divide_17 : decode b_RU_divide 17 = .ok (.aload_n 0, 1) := by decide +kernel
theorem d_RU_divide_18 : decode b_RU_divide 18 = .ok (.getfield 11, 3) := by decide +kernel
theorem d_RU_divide_21 : decode b_RU_divide 21 = .ok (.iload_n 1, 1) := by decide +kernel
theorem d_RU_divide_22 : decode b_RU_divide 22 = .ok (.dup2, 1) := by decide +kernel
theorem d_RU_divide_23 : decode b_RU_divide 23 = .ok (.iaload, 1) := by decide +kernel
theorem d_RU_divide_24 : decode b_RU_divide 24 = .ok (.aload_n 0, 1) := by decide +kernel
theorem d_RU_divide_25 : decode b_RU_divide 25 = .ok (.getfield 11, 3) := by decide +kernel
theorem d_RU_divide_28 : decode b_RU_divide 28 = .ok (.iload_n 2, 1) := by decide +kernel
theorem d_RU_divide_29 : decode b_RU_divide 29 = .ok (.iaload, 1) := by decide +kernel
theorem d_RU_divide_30 : decode b_RU_divide 30 = .ok (.idiv, 1) := by decide +kernel
theorem d_RU_divide_31 : decode b_RU_divide 31 = .ok (.iastore, 1) := by decide +kernel
theorem d_RU_divide_32 : decode b_RU_divide 32 = .ok (.return_, 1) := by decide +kernel
noncomputable def s_RU_divide (j0 : Nat) (a1 : Int32) (a2 : Int32) (M : Mem) : Option (Mem) :=
  ck a2 4 (if (M (j0 + 1) a2.toNatClampNeg) = 0 then (nx (st M j0 10 (2 : Int32)) (fun M27 => some M27)) else (ck a1 4 (ck a2 4 (cz (M (j0 + 1) a2.toNatClampNeg) (ck a1 4 (nx (st M (j0 + 1) a1.toNatClampNeg ((M (j0 + 1) a1.toNatClampNeg) / (M (j0 + 1) a2.toNatClampNeg))) (fun M26 => some M26)))))))
set_option maxHeartbeats 4000000 in
set_option maxRecDepth 100000 in
theorem c_RU_divide (l : Launch) (x : Cx) (hJ : Inj x) (j0 : Nat) (k0 : kd_run j0) (a1 : Int32) (a2 : Int32) {M : Mem} {out : Mem} (h : s_RU_divide j0 a1 a2 M = some out) : Cv l x y_RU_divide (Cond.code y_RU_divide b_RU_divide 3 none :: tb) r_RU_divide [.ref (x.2.1 j0), .int a1, .int a2] M out := by
  refine ofCv (cc := b_RU_divide) (maxL := 3) (by decide) rfl (rfl) (Nat.le_of_ble_eq_true rfl) ?_
  intro p e s m args below meth c Q G0 ls g hx hb hml hown hts hK hZ hP hS hl hret
  have hown : s.vm.findClass R_RU = some m.cls := hown
  have hl : lv_has ls 3 [(0, .ref (x.2.1 j0)), (1, .int a1), (2, .int a2)] := hl
  obtain ⟨H, eH⟩ : ∃ z, z = s.heap := ⟨_, rfl⟩
  obtain ⟨locs, eL⟩ : ∃ z, z = ([] : List Loc) := ⟨_, rfl⟩
  rw [← eH] at hP
  have hS : va_S (A0 x) s.heap H locs := by rw [eH, eL]; exact hS
  rw [← eL]
  have key : W p l e r_RU_divide s m args below meth c H locs 0 0 Q (F0 m 0 ls []) := by
    clear eH eL
    unfold s_RU_divide at h
    refine lv_aload_n hx hb d_RU_divide_0 rfl (lv_at hl 0 rfl) ?_
    refine gf_RU_11 hx hb hts hown hK hP k0 d_RU_divide_1 ?_
    refine lv_iload_n hx hb d_RU_divide_4 rfl (lv_at hl 2 rfl) ?_
    obtain ⟨b21, h⟩ := ck_e h
    refine m_ald hx hb hK hP (ar_RU_registers k0) b21 d_RU_divide_5 ?_
    refine lv_if_ne (tgt := 17) hx hb d_RU_divide_6 rfl (fun hc => ?_) (fun hc => ?_)
    · have h := if_m hc h
      refine lv_aload_n hx hb d_RU_divide_17 rfl (lv_at hl 0 rfl) ?_
      refine gf_RU_11 hx hb hts hown hK hP k0 d_RU_divide_18 ?_
      refine lv_iload_n hx hb d_RU_divide_21 rfl (lv_at hl 1 rfl) ?_
      refine lv_dup2_11 hx hb d_RU_divide_22 rfl rfl ?_
      obtain ⟨b22, h⟩ := ck_e h
      refine m_ald hx hb hK hP (ar_RU_registers k0) b22 d_RU_divide_23 ?_
      refine lv_aload_n hx hb d_RU_divide_24 rfl (lv_at hl 0 rfl) ?_
      refine gf_RU_11 hx hb hts hown hK hP k0 d_RU_divide_25 ?_
      refine lv_iload_n hx hb d_RU_divide_28 rfl (lv_at hl 2 rfl) ?_
      obtain ⟨b23, h⟩ := ck_e h
      refine m_ald hx hb hK hP (ar_RU_registers k0) b23 d_RU_divide_29 ?_
      obtain ⟨z24, h⟩ := cz_e h
      refine lv_idiv hx hb d_RU_divide_30 z24 ?_
      obtain ⟨b25, h⟩ := ck_e h
      obtain ⟨M26, eM26, h⟩ := nx_e h
      refine m_ast hx hb hK hJ hP hS (ar_RU_registers k0) b25 eM26 d_RU_divide_31 (fun H locs hP hS => ?_)
      obtain rfl := Option.some.inj h
      exact hret d_RU_divide_32 g hP hS
    · have h := if_p hc h
      refine lv_aload_n hx hb d_RU_divide_9 rfl (lv_at hl 0 rfl) ?_
      refine lv_iconst (v := (2 : Int32)) hx hb d_RU_divide_10 (by decide) ?_
      obtain ⟨M27, eM27, h⟩ := nx_e h
      refine pf_RU_32 hx hb hts hown hK hJ hP hS k0 eM27 d_RU_divide_11 (fun H locs hP hS => ?_)
      refine lv_goto (tgt := 32) hx hb d_RU_divide_14 rfl ?_
      obtain rfl := Option.some.inj h
      exact hret d_RU_divide_32 g hP hS
  rw [eH] at key
  exact key
theorem d_RU_load_0 : decode b_RU_load 0 = .ok (.iload_n 2, 1) := by decide +kernel
theorem d_RU_load_1 : decode b_RU_load 1 = .ok (.ifCond .lt 8, 3) := by decide +kernel
theorem d_RU_load_4 : decode b_RU_load 4 = .ok (.iload_n 2, 1) := by decide +kernel
theorem d_RU_load_5 : decode b_RU_load 5 = .ok (.iconst 4, 1) := by decide +kernel
theorem d_RU_load_6 : decode b_RU_load 6 = .ok (.if_icmp .lt 11, 3) := by decide +kernel
theorem d_RU_load_9 : decode b_RU_load 9 = .ok (.aload_n 0, 1) := by decide +kernel
theorem d_RU_load_10 : decode b_RU_load 10 = .ok (.iconst 3, 1) := by decide +kernel
theorem d_RU_load_11 : decode b_RU_load 11 = .ok (.putfield 32, 3) := by decide +kernel
theorem d_RU_load_14 : decode b_RU_load 14 = .ok (.goto 15, 3) := by decide +kernel
theorem d_RU_load_17 : decode b_RU_load 17 = .ok (.aload_n 0, 1) := by decide +kernel
theorem d_RU_load_18 : decode b_RU_load 18 = .ok (.getfield 11, 3) := by decide +kernel
theorem d_RU_load_21 : decode b_RU_load 21 = .ok (.iload_n 1, 1) := by decide +kernel
theorem d_RU_load_22 : decode b_RU_load 22 = .ok (.aload_n 0, 1) := by decide +kernel
theorem d_RU_load_23 : decode b_RU_load 23 = .ok (.getfield 17, 3) := by decide +kernel
theorem d_RU_load_26 : decode b_RU_load 26 = .ok (.iload_n 2, 1) := by decide +kernel
theorem d_RU_load_27 : decode b_RU_load 27 = .ok (.iaload, 1) := by decide +kernel
theorem d_RU_load_28 : decode b_RU_load 28 = .ok (.iastore, 1) := by decide +kernel
theorem d_RU_load_29 : decode b_RU_load 29 = .ok (.return_, 1) := by decide +kernel
noncomputable def s_RU_load (j0 : Nat) (a1 : Int32) (a2 : Int32) (M : Mem) : Option (Mem) :=
  if a2 < 0 then (nx (st M j0 10 (3 : Int32)) (fun M21 => some M21)) else (if a2 < (4 : Int32) then (ck a2 4 (ck a1 4 (nx (st M (j0 + 1) a1.toNatClampNeg (M (j0 + 2) a2.toNatClampNeg)) (fun M24 => some M24)))) else (nx (st M j0 10 (3 : Int32)) (fun M25 => some M25)))
set_option maxHeartbeats 4000000 in
set_option maxRecDepth 100000 in
theorem c_RU_load (l : Launch) (x : Cx) (hJ : Inj x) (j0 : Nat) (k0 : kd_run j0) (a1 : Int32) (a2 : Int32) {M : Mem} {out : Mem} (h : s_RU_load j0 a1 a2 M = some out) : Cv l x y_RU_load (Cond.code y_RU_load b_RU_load 3 none :: tb) r_RU_load [.ref (x.2.1 j0), .int a1, .int a2] M out := by
  refine ofCv (cc := b_RU_load) (maxL := 3) (by decide) rfl (rfl) (Nat.le_of_ble_eq_true rfl) ?_
  intro p e s m args below meth c Q G0 ls g hx hb hml hown hts hK hZ hP hS hl hret
  have hown : s.vm.findClass R_RU = some m.cls := hown
  have hl : lv_has ls 3 [(0, .ref (x.2.1 j0)), (1, .int a1), (2, .int a2)] := hl
  obtain ⟨H, eH⟩ : ∃ z, z = s.heap := ⟨_, rfl⟩
  obtain ⟨locs, eL⟩ : ∃ z, z = ([] : List Loc) := ⟨_, rfl⟩
  rw [← eH] at hP
  have hS : va_S (A0 x) s.heap H locs := by rw [eH, eL]; exact hS
  rw [← eL]
  have key : W p l e r_RU_load s m args below meth c H locs 0 0 Q (F0 m 0 ls []) := by
    clear eH eL
    unfold s_RU_load at h
    refine lv_iload_n hx hb d_RU_load_0 rfl (lv_at hl 2 rfl) ?_
    refine lv_if_lt (tgt := 9) hx hb d_RU_load_1 rfl (fun hc => ?_) (fun hc => ?_)
    · have h := if_p hc h
      refine lv_aload_n hx hb d_RU_load_9 rfl (lv_at hl 0 rfl) ?_
      refine lv_iconst (v := (3 : Int32)) hx hb d_RU_load_10 (by decide) ?_
      obtain ⟨M21, eM21, h⟩ := nx_e h
      refine pf_RU_32 hx hb hts hown hK hJ hP hS k0 eM21 d_RU_load_11 (fun H locs hP hS => ?_)
      refine lv_goto (tgt := 29) hx hb d_RU_load_14 rfl ?_
      obtain rfl := Option.some.inj h
      exact hret d_RU_load_29 g hP hS
    · have h := if_m hc h
      refine lv_iload_n hx hb d_RU_load_4 rfl (lv_at hl 2 rfl) ?_
      refine lv_iconst (v := (4 : Int32)) hx hb d_RU_load_5 (by decide) ?_
      refine lv_icmp_lt (tgt := 17) hx hb d_RU_load_6 rfl (fun hc => ?_) (fun hc => ?_)
      · have h := if_p hc h
        refine lv_aload_n hx hb d_RU_load_17 rfl (lv_at hl 0 rfl) ?_
        refine gf_RU_11 hx hb hts hown hK hP k0 d_RU_load_18 ?_
        refine lv_iload_n hx hb d_RU_load_21 rfl (lv_at hl 1 rfl) ?_
        refine lv_aload_n hx hb d_RU_load_22 rfl (lv_at hl 0 rfl) ?_
        refine gf_RU_17 hx hb hts hown hK hP k0 d_RU_load_23 ?_
        refine lv_iload_n hx hb d_RU_load_26 rfl (lv_at hl 2 rfl) ?_
        obtain ⟨b22, h⟩ := ck_e h
        refine m_ald hx hb hK hP (ar_RU_memory k0) b22 d_RU_load_27 ?_
        obtain ⟨b23, h⟩ := ck_e h
        obtain ⟨M24, eM24, h⟩ := nx_e h
        refine m_ast hx hb hK hJ hP hS (ar_RU_registers k0) b23 eM24 d_RU_load_28 (fun H locs hP hS => ?_)
        obtain rfl := Option.some.inj h
        exact hret d_RU_load_29 g hP hS
      · have h := if_m hc h
        refine lv_aload_n hx hb d_RU_load_9 rfl (lv_at hl 0 rfl) ?_
        refine lv_iconst (v := (3 : Int32)) hx hb d_RU_load_10 (by decide) ?_
        obtain ⟨M25, eM25, h⟩ := nx_e h
        refine pf_RU_32 hx hb hts hown hK hJ hP hS k0 eM25 d_RU_load_11 (fun H locs hP hS => ?_)
        refine lv_goto (tgt := 29) hx hb d_RU_load_14 rfl ?_
        obtain rfl := Option.some.inj h
        exact hret d_RU_load_29 g hP hS
  rw [eH] at key
  exact key
theorem d_RU_save_0 : decode b_RU_save 0 = .ok (.iload_n 2, 1) := by decide +kernel
theorem d_RU_save_1 : decode b_RU_save 1 = .ok (.ifCond .lt 8, 3) := by decide +kernel
theorem d_RU_save_4 : decode b_RU_save 4 = .ok (.iload_n 2, 1) := by decide +kernel
theorem d_RU_save_5 : decode b_RU_save 5 = .ok (.iconst 4, 1) := by decide +kernel
theorem d_RU_save_6 : decode b_RU_save 6 = .ok (.if_icmp .lt 11, 3) := by decide +kernel
theorem d_RU_save_9 : decode b_RU_save 9 = .ok (.aload_n 0, 1) := by decide +kernel
theorem d_RU_save_10 : decode b_RU_save 10 = .ok (.iconst 3, 1) := by decide +kernel
theorem d_RU_save_11 : decode b_RU_save 11 = .ok (.putfield 32, 3) := by decide +kernel
theorem d_RU_save_14 : decode b_RU_save 14 = .ok (.goto 15, 3) := by decide +kernel
theorem d_RU_save_17 : decode b_RU_save 17 = .ok (.aload_n 0, 1) := by decide +kernel
theorem d_RU_save_18 : decode b_RU_save 18 = .ok (.getfield 17, 3) := by decide +kernel
theorem d_RU_save_21 : decode b_RU_save 21 = .ok (.iload_n 2, 1) := by decide +kernel
theorem d_RU_save_22 : decode b_RU_save 22 = .ok (.aload_n 0, 1) := by decide +kernel
theorem d_RU_save_23 : decode b_RU_save 23 = .ok (.getfield 11, 3) := by decide +kernel
theorem d_RU_save_26 : decode b_RU_save 26 = .ok (.iload_n 1, 1) := by decide +kernel
theorem d_RU_save_27 : decode b_RU_save 27 = .ok (.iaload, 1) := by decide +kernel
theorem d_RU_save_28 : decode b_RU_save 28 = .ok (.iastore, 1) := by decide +kernel
theorem d_RU_save_29 : decode b_RU_save 29 = .ok (.return_, 1) := by decide +kernel
noncomputable def s_RU_save (j0 : Nat) (a1 : Int32) (a2 : Int32) (M : Mem) : Option (Mem) :=
  if a2 < 0 then (nx (st M j0 10 (3 : Int32)) (fun M21 => some M21)) else (if a2 < (4 : Int32) then (ck a1 4 (ck a2 4 (nx (st M (j0 + 2) a2.toNatClampNeg (M (j0 + 1) a1.toNatClampNeg)) (fun M24 => some M24)))) else (nx (st M j0 10 (3 : Int32)) (fun M25 => some M25)))
set_option maxHeartbeats 4000000 in
set_option maxRecDepth 100000 in
theorem c_RU_save (l : Launch) (x : Cx) (hJ : Inj x) (j0 : Nat) (k0 : kd_run j0) (a1 : Int32) (a2 : Int32) {M : Mem} {out : Mem} (h : s_RU_save j0 a1 a2 M = some out) : Cv l x y_RU_save (Cond.code y_RU_save b_RU_save 3 none :: tb) r_RU_save [.ref (x.2.1 j0), .int a1, .int a2] M out := by
  refine ofCv (cc := b_RU_save) (maxL := 3) (by decide) rfl (rfl) (Nat.le_of_ble_eq_true rfl) ?_
  intro p e s m args below meth c Q G0 ls g hx hb hml hown hts hK hZ hP hS hl hret
  have hown : s.vm.findClass R_RU = some m.cls := hown
  have hl : lv_has ls 3 [(0, .ref (x.2.1 j0)), (1, .int a1), (2, .int a2)] := hl
  obtain ⟨H, eH⟩ : ∃ z, z = s.heap := ⟨_, rfl⟩
  obtain ⟨locs, eL⟩ : ∃ z, z = ([] : List Loc) := ⟨_, rfl⟩
  rw [← eH] at hP
  have hS : va_S (A0 x) s.heap H locs := by rw [eH, eL]; exact hS
  rw [← eL]
  have key : W p l e r_RU_save s m args below meth c H locs 0 0 Q (F0 m 0 ls []) := by
    clear eH eL
    unfold s_RU_save at h
    refine lv_iload_n hx hb d_RU_save_0 rfl (lv_at hl 2 rfl) ?_
    refine lv_if_lt (tgt := 9) hx hb d_RU_save_1 rfl (fun hc => ?_) (fun hc => ?_)
    · have h := if_p hc h
      refine lv_aload_n hx hb d_RU_save_9 rfl (lv_at hl 0 rfl) ?_
      refine lv_iconst (v := (3 : Int32)) hx hb d_RU_save_10 (by decide) ?_
      obtain ⟨M21, eM21, h⟩ := nx_e h
      refine pf_RU_32 hx hb hts hown hK hJ hP hS k0 eM21 d_RU_save_11 (fun H locs hP hS => ?_)
      refine lv_goto (tgt := 29) hx hb d_RU_save_14 rfl ?_
      obtain rfl := Option.some.inj h
      exact hret d_RU_save_29 g hP hS
    · have h := if_m hc h
      refine lv_iload_n hx hb d_RU_save_4 rfl (lv_at hl 2 rfl) ?_
      refine lv_iconst (v := (4 : Int32)) hx hb d_RU_save_5 (by decide) ?_
      refine lv_icmp_lt (tgt := 17) hx hb d_RU_save_6 rfl (fun hc => ?_) (fun hc => ?_)
      · have h := if_p hc h
        refine lv_aload_n hx hb d_RU_save_17 rfl (lv_at hl 0 rfl) ?_
        refine gf_RU_17 hx hb hts hown hK hP k0 d_RU_save_18 ?_
        refine lv_iload_n hx hb d_RU_save_21 rfl (lv_at hl 2 rfl) ?_
        refine lv_aload_n hx hb d_RU_save_22 rfl (lv_at hl 0 rfl) ?_
        refine gf_RU_11 hx hb hts hown hK hP k0 d_RU_save_23 ?_
        refine lv_iload_n hx hb d_RU_save_26 rfl (lv_at hl 1 rfl) ?_
        obtain ⟨b22, h⟩ := ck_e h
        refine m_ald hx hb hK hP (ar_RU_registers k0) b22 d_RU_save_27 ?_
        obtain ⟨b23, h⟩ := ck_e h
        obtain ⟨M24, eM24, h⟩ := nx_e h
        refine m_ast hx hb hK hJ hP hS (ar_RU_memory k0) b23 eM24 d_RU_save_28 (fun H locs hP hS => ?_)
        obtain rfl := Option.some.inj h
        exact hret d_RU_save_29 g hP hS
      · have h := if_m hc h
        refine lv_aload_n hx hb d_RU_save_9 rfl (lv_at hl 0 rfl) ?_
        refine lv_iconst (v := (3 : Int32)) hx hb d_RU_save_10 (by decide) ?_
        obtain ⟨M25, eM25, h⟩ := nx_e h
        refine pf_RU_32 hx hb hts hown hK hJ hP hS k0 eM25 d_RU_save_11 (fun H locs hP hS => ?_)
        refine lv_goto (tgt := 29) hx hb d_RU_save_14 rfl ?_
        obtain rfl := Option.some.inj h
        exact hret d_RU_save_29 g hP hS
  rw [eH] at key
  exact key
theorem d_RU_goAlong_0 : decode b_RU_goAlong 0 = .ok (.aload_n 0, 1) := by decide +kernel
theorem d_RU_goAlong_1 : decode b_RU_goAlong 1 = .ok (.getfield 23, 3) := by decide +kernel
theorem d_RU_goAlong_4 : decode b_RU_goAlong 4 = .ok (.iload_n 1, 1) := by decide +kernel
theorem d_RU_goAlong_5 : decode b_RU_goAlong 5 = .ok (.iaload, 1) := by decide +kernel
theorem d_RU_goAlong_6 : decode b_RU_goAlong 6 = .ok (.ifCond .ne 23, 3) := by decide +kernel
theorem d_RU_goAlong_9 : decode b_RU_goAlong 9 = .ok (.aload_n 0, 1) := by decide +kernel
theorem d_RU_goAlong_10 : decode b_RU_goAlong 10 = .ok (.getfield 26, 3) := by decide +kernel
theorem d_RU_goAlong_13 : decode b_RU_goAlong 13 = .ok (.aload_n 0, 1) := by decide +kernel
theorem d_RU_goAlong_14 : decode b_RU_goAlong 14 = .ok (.getfield 50, 3) := by decide +kernel
theorem d_RU_goAlong_17 : decode b_RU_goAlong 17 = .ok (.iload_n 1, 1) := by decide +kernel
theorem d_RU_goAlong_18 : decode b_RU_goAlong 18 = .ok (.iastore, 1) := by decide +kernel
theorem d_RU_goAlong_19 : decode b_RU_goAlong 19 = .ok (.aload_n 0, 1) := by decide +kernel
theorem d_RU_goAlong_20 : decode b_RU_goAlong 20 = .ok (.dup, 1) := by decide +kernel
theorem d_RU_goAlong_21 : decode b_RU_goAlong 21 = .ok (.getfield 50, 3) := by decide +kernel
theorem d_RU_goAlong_24 : decode b_RU_goAlong 24 = .ok (.iconst 1, 1) := by decide +kernel
theorem d_RU_goAlong_25 : decode b_RU_goAlong 25 = .ok (.iadd, 1) := by decide +kernel
theorem d_RU_goAlong_26 : decode b_RU_goAlong 26 = .ok (.putfield 50, 3) := by decide +kernel
theorem d_RU_goAlong_29 : decode b_RU_goAlong 29 = .ok (.aload_n 0, 1) := by decide +kernel
theorem d_RU_goAlong_30 : decode b_RU_goAlong 30 = .ok (.getfield 23, 3) := by decide +kernel
theorem d_RU_goAlong_33 : decode b_RU_goAlong 33 = .ok (.iload_n 1, 1) := by decide +kernel
theorem d_RU_goAlong_34 : decode b_RU_goAlong 34 = .ok (.dup2, 1) := by decide +kernel
theorem d_RU_goAlong_35 : decode b_RU_goAlong 35 = .ok (.iaload, 1) := by decide +kernel
theorem d_RU_goAlong_36 : decode b_RU_goAlong 36 = .ok (.iconst 1, 1) := by decide +kernel
theorem d_RU_goAlong_37 : decode b_RU_goAlong 37 = .ok (.iadd, 1) := by decide +kernel
theorem d_RU_goAlong_38 : decode b_RU_goAlong 38 = .ok (.iastore, 1) := by decide +kernel
theorem d_RU_goAlong_39 : decode b_RU_goAlong 39 = .ok (.return_, 1) := by decide +kernel
noncomputable def j_RU_goAlong_29 (j21 : Nat) (a23 : Int32) (M24 : Mem) : Option (Mem) :=
  ck a23 576 (ck a23 576 (nx (st M24 (j21 + 4) a23.toNatClampNeg ((M24 (j21 + 4) a23.toNatClampNeg) + (1 : Int32))) (fun M27 => some M27)))
noncomputable def s_RU_goAlong (j0 : Nat) (a1 : Int32) (M : Mem) : Option (Mem) :=
  ck a1 576 (if (M (j0 + 4) a1.toNatClampNeg) = 0 then (ck (M j0 5) 64 (nx (st M (j0 + 5) (M j0 5).toNatClampNeg a1) (fun M30 => nx (st M30 j0 5 ((M30 j0 5) + (1 : Int32))) (fun M31 => j_RU_goAlong_29 j0 a1 M31)))) else (j_RU_goAlong_29 j0 a1 M))
set_option maxHeartbeats 4000000 in
set_option maxRecDepth 100000 in
theorem c_RU_goAlong (l : Launch) (x : Cx) (hJ : Inj x) (j0 : Nat) (k0 : kd_run j0) (a1 : Int32) {M : Mem} {out : Mem} (h : s_RU_goAlong j0 a1 M = some out) : Cv l x y_RU_goAlong (Cond.code y_RU_goAlong b_RU_goAlong 2 none :: tb) r_RU_goAlong [.ref (x.2.1 j0), .int a1] M out := by
  refine ofCv (cc := b_RU_goAlong) (maxL := 2) (by decide) rfl (rfl) (Nat.le_of_ble_eq_true rfl) ?_
  intro p e s m args below meth c Q G0 ls g hx hb hml hown hts hK hZ hP hS hl hret
  have hown : s.vm.findClass R_RU = some m.cls := hown
  have hl : lv_has ls 2 [(0, .ref (x.2.1 j0)), (1, .int a1)] := hl
  obtain ⟨H, eH⟩ : ∃ z, z = s.heap := ⟨_, rfl⟩
  obtain ⟨locs, eL⟩ : ∃ z, z = ([] : List Loc) := ⟨_, rfl⟩
  rw [← eH] at hP
  have hS : va_S (A0 x) s.heap H locs := by rw [eH, eL]; exact hS
  rw [← eL]
  have key : W p l e r_RU_goAlong s m args below meth c H locs 0 0 Q (F0 m 0 ls []) := by
    clear eH eL
    unfold s_RU_goAlong at h
    have J29 : ∀ (j21 : Nat) (a23 : Int32) (M24 : Mem) (k22 : kd_run j21) (res : Mem) (h : j_RU_goAlong_29 j21 a23 M24 = some res) (g : G0 res) (H : Heap) (locs : List Loc) (ls : Array Slot) (hP : va_P x.1 vwCl (wld x M24) H) (hS : va_S (A0 x) s.heap H locs) (hl : lv_has ls 2 [(0, .ref (x.2.1 j21)), (1, .int a23)]), W p l e r_RU_goAlong s m args below meth c H locs 0 0 Q (F0 m 29 ls []) := by
      intro j21 a23 M24 k22 res h g H locs ls hP hS hl
      unfold j_RU_goAlong_29 at h
      refine lv_aload_n hx hb d_RU_goAlong_29 rfl (lv_at hl 0 rfl) ?_
      refine gf_RU_23 hx hb hts hown hK hP k22 d_RU_goAlong_30 ?_
      refine lv_iload_n hx hb d_RU_goAlong_33 rfl (lv_at hl 1 rfl) ?_
      refine lv_dup2_11 hx hb d_RU_goAlong_34 rfl rfl ?_
      obtain ⟨b25, h⟩ := ck_e h
      refine m_ald hx hb hK hP (ar_RU_times k22) b25 d_RU_goAlong_35 ?_
      refine lv_iconst (v := (1 : Int32)) hx hb d_RU_goAlong_36 (by decide) ?_
      refine lv_iadd hx hb d_RU_goAlong_37 ?_
      obtain ⟨b26, h⟩ := ck_e h
      obtain ⟨M27, eM27, h⟩ := nx_e h
      refine m_ast hx hb hK hJ hP hS (ar_RU_times k22) b26 eM27 d_RU_goAlong_38 (fun H locs hP hS => ?_)
      obtain rfl := Option.some.inj h
      exact hret d_RU_goAlong_39 g hP hS
    refine lv_aload_n hx hb d_RU_goAlong_0 rfl (lv_at hl 0 rfl) ?_
    refine gf_RU_23 hx hb hts hown hK hP k0 d_RU_goAlong_1 ?_
    refine lv_iload_n hx hb d_RU_goAlong_4 rfl (lv_at hl 1 rfl) ?_
    obtain ⟨b28, h⟩ := ck_e h
    refine m_ald hx hb hK hP (ar_RU_times k0) b28 d_RU_goAlong_5 ?_
    refine lv_if_ne (tgt := 29) hx hb d_RU_goAlong_6 rfl (fun hc => ?_) (fun hc => ?_)
    · have h := if_m hc h
      exact J29 j0 a1 M k0 _ h g H locs ls hP hS (lv_sub hl [0, 1] rfl)
    · have h := if_p hc h
      refine lv_aload_n hx hb d_RU_goAlong_9 rfl (lv_at hl 0 rfl) ?_
      refine gf_RU_26 hx hb hts hown hK hP k0 d_RU_goAlong_10 ?_
      refine lv_aload_n hx hb d_RU_goAlong_13 rfl (lv_at hl 0 rfl) ?_
      refine gf_RU_50 hx hb hts hown hK hP k0 d_RU_goAlong_14 ?_
      refine lv_iload_n hx hb d_RU_goAlong_17 rfl (lv_at hl 1 rfl) ?_
      obtain ⟨b29, h⟩ := ck_e h
      obtain ⟨M30, eM30, h⟩ := nx_e h
      refine m_ast hx hb hK hJ hP hS (ar_RU_edges k0) b29 eM30 d_RU_goAlong_18 (fun H locs hP hS => ?_)
      refine lv_aload_n hx hb d_RU_goAlong_19 rfl (lv_at hl 0 rfl) ?_
      refine lv_dup hx hb d_RU_goAlong_20 rfl ?_
      refine gf_RU_50 hx hb hts hown hK hP k0 d_RU_goAlong_21 ?_
      refine lv_iconst (v := (1 : Int32)) hx hb d_RU_goAlong_24 (by decide) ?_
      refine lv_iadd hx hb d_RU_goAlong_25 ?_
      obtain ⟨M31, eM31, h⟩ := nx_e h
      refine pf_RU_50 hx hb hts hown hK hJ hP hS k0 eM31 d_RU_goAlong_26 (fun H locs hP hS => ?_)
      exact J29 j0 a1 M31 k0 _ h g H locs ls hP hS (lv_sub hl [0, 1] rfl)
  rw [eH] at key
  exact key
theorem d_RU_step_0 : decode b_RU_step 0 = .ok (.aload_n 0, 1) := by decide +kernel
theorem d_RU_step_1 : decode b_RU_step 1 = .ok (.aload_n 0, 1) := by decide +kernel
theorem d_RU_step_2 : decode b_RU_step 2 = .ok (.getfield 36, 3) := by decide +kernel
theorem d_RU_step_5 : decode b_RU_step 5 = .ok (.putfield 59, 3) := by decide +kernel
theorem d_RU_step_8 : decode b_RU_step 8 = .ok (.aload_n 0, 1) := by decide +kernel
theorem d_RU_step_9 : decode b_RU_step 9 = .ok (.aload_n 0, 1) := by decide +kernel
theorem d_RU_step_10 : decode b_RU_step 10 = .ok (.getfield 59, 3) := by decide +kernel
theorem d_RU_step_13 : decode b_RU_step 13 = .ok (.iconst 1, 1) := by decide +kernel
theorem d_RU_step_14 : decode b_RU_step 14 = .ok (.iadd, 1) := by decide +kernel
theorem d_RU_step_15 : decode b_RU_step 15 = .ok (.putfield 36, 3) := by decide +kernel
theorem d_RU_step_18 : decode b_RU_step 18 = .ok (.aload_n 0, 1) := by decide +kernel
theorem d_RU_step_19 : decode b_RU_step 19 = .ok (.dup, 1) := by decide +kernel
theorem d_RU_step_20 : decode b_RU_step 20 = .ok (.getfield 62, 3) := by decide +kernel
theorem d_RU_step_23 : decode b_RU_step 23 = .ok (.iconst 1, 1) := by decide +kernel
theorem d_RU_step_24 : decode b_RU_step 24 = .ok (.iadd, 1) := by decide +kernel
theorem d_RU_step_25 : decode b_RU_step 25 = .ok (.putfield 62, 3) := by decide +kernel
theorem d_RU_step_28 : decode b_RU_step 28 = .ok (.aload_n 1, 1) := by decide +kernel
theorem d_RU_step_29 : decode b_RU_step 29 = .ok (.getfield 65, 3) := by decide +kernel
theorem d_RU_step_32 : decode b_RU_step 32 = .ok (.aload_n 0, 1) := by decide +kernel
theorem d_RU_step_33 : decode b_RU_step 33 = .ok (.getfield 59, 3) := by decide +kernel
theorem d_RU_step_36 : decode b_RU_step 36 = .ok (.iaload, 1) := by decide +kernel
theorem d_RU_step_37 : decode b_RU_step 37 = .ok (.istore_n 3, 1) := by decide +kernel
theorem d_RU_step_38 : decode b_RU_step 38 = .ok (.aload_n 1, 1) := by decide +kernel
theorem d_RU_step_39 : decode b_RU_step 39 = .ok (.getfield 68, 3) := by decide +kernel
theorem d_RU_step_42 : decode b_RU_step 42 = .ok (.aload_n 0, 1) := by decide +kernel
theorem d_RU_step_43 : decode b_RU_step 43 = .ok (.getfield 59, 3) := by decide +kernel
theorem d_RU_step_46 : decode b_RU_step 46 = .ok (.iaload, 1) := by decide +kernel
theorem d_RU_step_47 : decode b_RU_step 47 = .ok (.istore 4, 2) := by decide +kernel
theorem d_RU_step_49 : decode b_RU_step 49 = .ok (.aload_n 1, 1) := by decide +kernel
theorem d_RU_step_50 : decode b_RU_step 50 = .ok (.getfield 71, 3) := by decide +kernel
theorem d_RU_step_53 : decode b_RU_step 53 = .ok (.aload_n 0, 1) := by decide +kernel
theorem d_RU_step_54 : decode b_RU_step 54 = .ok (.getfield 59, 3) := by decide +kernel
theorem d_RU_step_57 : decode b_RU_step 57 = .ok (.iaload, 1) := by decide +kernel
theorem d_RU_step_58 : decode b_RU_step 58 = .ok (.istore 5, 2) := by decide +kernel
theorem d_RU_step_60 : decode b_RU_step 60 = .ok (.iload_n 3, 1) := by decide +kernel
theorem d_RU_step_61 : decode b_RU_step 61 = .ok (.tableswitch 326 1 15 #[75, 87, 108, 128, 148, 168, 194, 220, 229, 238, 245, 256, 280, 296, 312], 75) := by decide +kernel
theorem d_RU_step_136 : decode b_RU_step 136 = .ok (.aload_n 0, 1) := by decide +kernel
theorem d_RU_step_137 : decode b_RU_step 137 = .ok (.getfield 11, 3) := by decide +kernel
theorem d_RU_step_140 : decode b_RU_step 140 = .ok (.iload 4, 2) := by decide +kernel
theorem d_RU_step_142 : decode b_RU_step 142 = .ok (.iload 5, 2) := by decide +kernel
theorem d_RU_step_144 : decode b_RU_step 144 = .ok (.iastore, 1) := by decide +kernel
theorem d_RU_step_145 : decode b_RU_step 145 = .ok (.goto 247, 3) := by decide +kernel
theorem d_RU_step_148 : decode b_RU_step 148 = .ok (.aload_n 0, 1) := by decide +kernel
theorem d_RU_step_149 : decode b_RU_step 149 = .ok (.getfield 11, 3) := by decide +kernel
theorem d_RU_step_152 : decode b_RU_step 152 = .ok (.iload 4, 2) := by decide +kernel
theorem d_RU_step_154 : decode b_RU_step 154 = .ok (.aload_n 2, 1) := by decide +kernel
theorem d_RU_step_155 : decode b_RU_step 155 = .ok (.aload_n 0, 1) := by decide +kernel
theorem d_RU_step_156 : decode b_RU_step 156 = .ok (.getfield 11, 3) := by decide +kernel
theorem d_RU_step_159 : decode b_RU_step 159 = .ok (.iload 5, 2) := by decide +kernel
theorem d_RU_step_161 : decode b_RU_step 161 = .ok (.iaload, 1) := by decide +kernel
theorem d_RU_step_162 : decode b_RU_step 162 = .ok (.invokevirtual 74, 3) := by decide +kernel
theorem d_RU_step_165 : decode b_RU_step 165 = .ok (.iastore, 1) := by decide +kernel
theorem d_RU_step_166 : decode b_RU_step 166 = .ok (.goto 226, 3) := by decide +kernel
theorem d_RU_step_169 : decode b_RU_step 169 = .ok (.aload_n 0, 1) := by decide +kernel
theorem d_RU_step_170 : decode b_RU_step 170 = .ok (.getfield 11, 3) := by decide +kernel
theorem d_RU_step_173 : decode b_RU_step 173 = .ok (.iload 4, 2) := by decide +kernel
theorem d_RU_step_175 : decode b_RU_step 175 = .ok (.dup2, 1) := by decide +kernel
theorem d_RU_step_176 : decode b_RU_step 176 = .ok (.iaload, 1) := by decide +kernel
theorem d_RU_step_177 : decode b_RU_step 177 = .ok (.aload_n 0, 1) := by decide +kernel
theorem d_RU_step_178 : decode b_RU_step 178 = .ok (.getfield 11, 3) := by decide +kernel
theorem d_RU_step_181 : decode b_RU_step 181 = .ok (.iload 5, 2) := by decide +kernel
theorem d_RU_step_183 : decode b_RU_step 183 = .ok (.iaload, 1) := by decide +kernel
theorem d_RU_step_184 : decode b_RU_step 184 = .ok (.iadd, 1) := by decide +kernel
theorem d_RU_step_185 : decode b_RU_step 185 = .ok (.iastore, 1) := by decide +kernel
theorem d_RU_step_186 : decode b_RU_step 186 = .ok (.goto 206, 3) := by decide +kernel
theorem d_RU_step_189 : decode b_RU_step 189 = .ok (.aload_n 0, 1) := by decide +kernel
theorem d_RU_step_190 : decode b_RU_step 190 = .ok (.getfield 11, 3) := by decide +kernel
theorem d_RU_step_193 : decode b_RU_step 193 = .ok (.iload 4, 2) := by decide +kernel
theorem d_RU_step_195 : decode b_RU_step 195 = .ok (.dup2, 1) := by decide +kernel
theorem d_RU_step_196 : decode b_RU_step 196 = .ok (.iaload, 1) := by decide +kernel
theorem d_RU_step_197 : decode b_RU_step 197 = .ok (.aload_n 0, 1) := by decide +kernel
theorem d_RU_step_198 : decode b_RU_step 198 = .ok (.getfield 11, 3) := by decide +kernel
theorem d_RU_step_201 : decode b_RU_step 201 = .ok (.iload 5, 2) := by decide +kernel
theorem d_RU_step_203 : decode b_RU_step 203 = .ok (.iaload, 1) := by decide +kernel
theorem d_RU_step_204 : decode b_RU_step 204 = .ok (.isub, 1) := by decide +kernel
theorem d_RU_step_205 : decode b_RU_step 205 = .ok (.iastore, 1) := by decide +kernel
theorem d_RU_step_206 : decode b_RU_step 206 = .ok (.goto 186, 3) := by decide +kernel
theorem d_RU_step_209 : decode b_RU_step 209 = .ok (.aload_n 0, 1) := by decide +kernel
theorem d_RU_step_210 : decode b_RU_step 210 = .ok (.getfield 11, 3) := by decide +kernel
theorem d_RU_step_213 : decode b_RU_step 213 = .ok (.iload 4, 2) := by decide +kernel
theorem d_RU_step_215 : decode b_RU_step 215 = .ok (.dup2, 1) := by decide +kernel
theorem d_RU_step_216 : decode b_RU_step 216 = .ok (.iaload, 1) := by decide +kernel
theorem d_RU_step_217 : decode b_RU_step 217 = .ok (.aload_n 0, 1) := by decide +kernel
theorem d_RU_step_218 : decode b_RU_step 218 = .ok (.getfield 11, 3) := by decide +kernel
theorem d_RU_step_221 : decode b_RU_step 221 = .ok (.iload 5, 2) := by decide +kernel
theorem d_RU_step_223 : decode b_RU_step 223 = .ok (.iaload, 1) := by decide +kernel
theorem d_RU_step_224 : decode b_RU_step 224 = .ok (.imul, 1) := by decide +kernel
theorem d_RU_step_225 : decode b_RU_step 225 = .ok (.iastore, 1) := by decide +kernel
theorem d_RU_step_226 : decode b_RU_step 226 = .ok (.goto 166, 3) := by decide +kernel
theorem d_RU_step_229 : decode b_RU_step 229 = .ok (.aload_n 0, 1) := by decide +kernel
theorem d_RU_step_230 : decode b_RU_step 230 = .ok (.aload_n 0, 1) := by decide +kernel
theorem d_RU_step_231 : decode b_RU_step 231 = .ok (.getfield 11, 3) := by decide +kernel
theorem d_RU_step_234 : decode b_RU_step 234 = .ok (.iload 4, 2) := by decide +kernel
theorem d_RU_step_236 : decode b_RU_step 236 = .ok (.iaload, 1) := by decide +kernel
theorem d_RU_step_237 : decode b_RU_step 237 = .ok (.ifCond .ne 8, 3) := by decide +kernel
theorem d_RU_step_240 : decode b_RU_step 240 = .ok (.iload 5, 2) := by decide +kernel
theorem d_RU_step_242 : decode b_RU_step 242 = .ok (.goto 7, 3) := by decide +kernel
theorem d_RU_step_245 : decode b_RU_step 245 = .ok (.aload_n 0, 1) := by decide +kernel
theorem d_RU_step_246 : decode b_RU_step 246 = .ok (.getfield 36, 3) := by decide +kernel
theorem d_RU_step_249 : decode b_RU_step 249 = .ok (.putfield 36, 3) := by decide +kernel
theorem d_RU_step_252 : decode b_RU_step 252 = .ok (.goto 140, 3) := by decide +kernel
theorem d_RU_step_255 : decode b_RU_step 255 = .ok (.aload_n 0, 1) := by decide +kernel
theorem d_RU_step_256 : decode b_RU_step 256 = .ok (.aload_n 0, 1) := by decide +kernel
theorem d_RU_step_257 : decode b_RU_step 257 = .ok (.getfield 11, 3) := by decide +kernel
theorem d_RU_step_260 : decode b_RU_step 260 = .ok (.iload 4, 2) := by decide +kernel
theorem d_RU_step_262 : decode b_RU_step 262 = .ok (.iaload, 1) := by decide +kernel
theorem d_RU_step_263 : decode b_RU_step 263 = .ok (.ifCond .ge 8, 3) := by decide +kernel
theorem d_RU_step_266 : decode b_RU_step 266 = .ok (.iload 5, 2) := by decide +kernel
theorem d_RU_step_268 : decode b_RU_step 268 = .ok (.goto 7, 3) := by decide +kernel
theorem d_RU_step_271 : decode b_RU_step 271 = .ok (.aload_n 0, 1) := by decide +kernel
theorem d_RU_step_272 : decode b_RU_step 272 = .ok (.getfield 36, 3) := by decide +kernel
theorem d_RU_step_275 : decode b_RU_step 275 = .ok (.putfield 36, 3) := by decide +kernel
theorem d_RU_step_278 : decode b_RU_step 278 = .ok (.goto 114, 3) := by decide +kernel
theorem d_RU_step_281 : decode b_RU_step 281 = .ok (.aload_n 0, 1) := by decide +kernel
theorem d_RU_step_282 : decode b_RU_step 282 = .ok (.iload 5, 2) := by decide +kernel
theorem d_RU_step_284 : decode b_RU_step 284 = .ok (.putfield 36, 3) := by decide +kernel
theorem d_RU_step_287 : decode b_RU_step 287 = .ok (.goto 105, 3) := by decide +kernel
theorem d_RU_step_290 : decode b_RU_step 290 = .ok (.aload_n 0, 1) := by decide +kernel
theorem d_RU_step_291 : decode b_RU_step 291 = .ok (.iload 5, 2) := by decide +kernel
theorem d_RU_step_293 : decode b_RU_step 293 = .ok (.invokevirtual 80, 3) := by decide +kernel
theorem d_RU_step_296 : decode b_RU_step 296 = .ok (.goto 96, 3) := by decide +kernel
theorem d_RU_step_299 : decode b_RU_step 299 = .ok (.aload_n 0, 1) := by decide +kernel
theorem d_RU_step_300 : decode b_RU_step 300 = .ok (.invokevirtual 84, 3) := by decide +kernel
theorem d_RU_step_303 : decode b_RU_step 303 = .ok (.goto 89, 3) := by decide +kernel
theorem d_RU_step_306 : decode b_RU_step 306 = .ok (.aload_n 0, 1) := by decide +kernel
theorem d_RU_step_307 : decode b_RU_step 307 = .ok (.iload 4, 2) := by decide +kernel
theorem d_RU_step_309 : decode b_RU_step 309 = .ok (.iload 5, 2) := by decide +kernel
theorem d_RU_step_311 : decode b_RU_step 311 = .ok (.invokevirtual 87, 3) := by decide +kernel
theorem d_RU_step_314 : decode b_RU_step 314 = .ok (.goto 78, 3) := by decide +kernel
theorem d_RU_step_317 : decode b_RU_step 317 = .ok (.aload_n 0, 1) := by decide +kernel
theorem d_RU_step_318 : decode b_RU_step 318 = .ok (.aload_n 0, 1) := by decide +kernel
theorem d_RU_step_319 : decode b_RU_step 319 = .ok (.getfield 11, 3) := by decide +kernel
theorem d_RU_step_322 : decode b_RU_step 322 = .ok (.iload 4, 2) := by decide +kernel
theorem d_RU_step_324 : decode b_RU_step 324 = .ok (.iaload, 1) := by decide +kernel
theorem d_RU_step_325 : decode b_RU_step 325 = .ok (.iload 5, 2) := by decide +kernel
theorem d_RU_step_327 : decode b_RU_step 327 = .ok (.if_icmp .ne 7, 3) := by decide +kernel
theorem d_RU_step_330 : decode b_RU_step 330 = .ok (.iconst 1, 1) := by decide +kernel
theorem d_RU_step_331 : decode b_RU_step 331 = .ok (.goto 4, 3) := by decide +kernel
theorem d_RU_step_334 : decode b_RU_step 334 = .ok (.iconst (-1), 1) := by decide +kernel
theorem d_RU_step_335 : decode b_RU_step 335 = .ok (.putfield 32, 3) := by decide +kernel
theorem d_RU_step_338 : decode b_RU_step 338 = .ok (.goto 54, 3) := by decide +kernel
theorem d_RU_step_341 : decode b_RU_step 341 = .ok (.aload_n 0, 1) := by decide +kernel
theorem d_RU_step_342 : decode b_RU_step 342 = .ok (.iload 4, 2) := by decide +kernel
theorem d_RU_step_344 : decode b_RU_step 344 = .ok (.aload_n 0, 1) := by decide +kernel
theorem d_RU_step_345 : decode b_RU_step 345 = .ok (.getfield 11, 3) := by decide +kernel
theorem d_RU_step_348 : decode b_RU_step 348 = .ok (.iload 5, 2) := by decide +kernel
theorem d_RU_step_350 : decode b_RU_step 350 = .ok (.iaload, 1) := by decide +kernel
theorem d_RU_step_351 : decode b_RU_step 351 = .ok (.invokevirtual 91, 3) := by decide +kernel
theorem d_RU_step_354 : decode b_RU_step 354 = .ok (.goto 38, 3) := by decide +kernel
theorem d_RU_step_357 : decode b_RU_step 357 = .ok (.aload_n 0, 1) := by decide +kernel
theorem d_RU_step_358 : decode b_RU_step 358 = .ok (.iload 4, 2) := by decide +kernel
theorem d_RU_step_360 : decode b_RU_step 360 = .ok (.aload_n 0, 1) := by decide +kernel
theorem d_RU_step_361 : decode b_RU_step 361 = .ok (.getfield 11, 3) := by decide +kernel
theorem d_RU_step_364 : decode b_RU_step 364 = .ok (.iload 5, 2) := by decide +kernel
theorem d_RU_step_366 : decode b_RU_step 366 = .ok (.iaload, 1) := by decide +kernel
theorem d_RU_step_367 : decode b_RU_step 367 = .ok (.invokevirtual 94, 3) := by decide +kernel
theorem d_RU_step_370 : decode b_RU_step 370 = .ok (.goto 22, 3) := by decide +kernel
theorem d_RU_step_373 : decode b_RU_step 373 = .ok (.aload_n 0, 1) := by decide +kernel
theorem d_RU_step_374 : decode b_RU_step 374 = .ok (.getfield 11, 3) := by decide +kernel
theorem d_RU_step_377 : decode b_RU_step 377 = .ok (.iload 4, 2) := by decide +kernel
theorem d_RU_step_379 : decode b_RU_step 379 = .ok (.aload_n 2, 1) := by decide +kernel
theorem d_RU_step_380 : decode b_RU_step 380 = .ok (.getfield 97, 3) := by decide +kernel
theorem d_RU_step_383 : decode b_RU_step 383 = .ok (.iastore, 1) := by decide +kernel
theorem d_RU_step_384 : decode b_RU_step 384 = .ok (.goto 8, 3) := by decide +kernel
theorem d_RU_step_387 : decode b_RU_step 387 = .ok (.aload_n 0, 1) := by decide +kernel
theorem d_RU_step_388 : decode b_RU_step 388 = .ok (.iconst 0, 1) := by decide +kernel
theorem d_RU_step_389 : decode b_RU_step 389 = .ok (.putfield 32, 3) := by decide +kernel
theorem d_RU_step_392 : decode b_RU_step 392 = .ok (.aload_n 0, 1) := by decide +kernel
theorem d_RU_step_393 : decode b_RU_step 393 = .ok (.getfield 32, 3) := by decide +kernel
theorem d_RU_step_396 : decode b_RU_step 396 = .ok (.iconst (-1), 1) := by decide +kernel
theorem d_RU_step_397 : decode b_RU_step 397 = .ok (.if_icmp .ne 37, 3) := by decide +kernel
theorem d_RU_step_400 : decode b_RU_step 400 = .ok (.iload_n 3, 1) := by decide +kernel
theorem d_RU_step_401 : decode b_RU_step 401 = .ok (.invokestatic 100, 3) := by decide +kernel
theorem d_RU_step_404 : decode b_RU_step 404 = .ok (.ifCond .eq 30, 3) := by decide +kernel
theorem d_RU_step_407 : decode b_RU_step 407 = .ok (.aload_n 1, 1) := by decide +kernel
theorem d_RU_step_408 : decode b_RU_step 408 = .ok (.aload_n 0, 1) := by decide +kernel
theorem d_RU_step_409 : decode b_RU_step 409 = .ok (.getfield 36, 3) := by decide +kernel
theorem d_RU_step_412 : decode b_RU_step 412 = .ok (.invokevirtual 39, 3) := by decide +kernel
theorem d_RU_step_415 : decode b_RU_step 415 = .ok (.ifCond .eq 19, 3) := by decide +kernel
theorem d_RU_step_418 : decode b_RU_step 418 = .ok (.aload_n 0, 1) := by decide +kernel
theorem d_RU_step_419 : decode b_RU_step 419 = .ok (.bipush 24, 2) := by decide +kernel
theorem d_RU_step_421 : decode b_RU_step 421 = .ok (.aload_n 0, 1) := by decide +kernel
theorem d_RU_step_422 : decode b_RU_step 422 = .ok (.getfield 59, 3) := by decide +kernel
theorem d_RU_step_425 : decode b_RU_step 425 = .ok (.imul, 1) := by decide +kernel
theorem d_RU_step_426 : decode b_RU_step 426 = .ok (.aload_n 0, 1) := by decide +kernel
theorem d_RU_step_427 : decode b_RU_step 427 = .ok (.getfield 36, 3) := by decide +kernel
theorem d_RU_step_430 : decode b_RU_step 430 = .ok (.iadd, 1) := by decide +kernel
theorem d_RU_step_431 : decode b_RU_step 431 = .ok (.invokevirtual 103, 3) := by decide +kernel
theorem d_RU_step_434 : decode b_RU_step 434 = .ok (.return_, 1) := by decide +kernel
noncomputable def j_RU_step_392 (j21 : Nat) (a23 : Int32) (M24 : Mem) : Option (Mem) :=
  if (M24 j21 10) = (-1 : Int32) then (bi (s_PR_isJump a23 M24) (fun r27 M25 => if r27 = 0 then (some M25) else (bi (s_PR_has (M25 j21 7) M25) (fun r30 M28 => if r30 = 0 then (some M28) else (bv (s_RU_goAlong j21 (((24 : Int32) * (M28 j21 8)) + (M28 j21 7)) M28) (fun M31 => some M31)))))) else (some M24)
noncomputable def j_RU_step_335 (j33 : Nat) (a35 : Int32) (a36 : Int32) (j37 : Nat) (M39 : Mem) : Option (Mem) :=
  nx (st M39 j37 10 a36) (fun M40 => j_RU_step_392 j33 a35 M40)
noncomputable def j_RU_step_275 (j41 : Nat) (a43 : Int32) (a44 : Int32) (j45 : Nat) (M47 : Mem) : Option (Mem) :=
  nx (st M47 j45 7 a44) (fun M48 => j_RU_step_392 j41 a43 M48)
noncomputable def j_RU_step_249 (j49 : Nat) (a51 : Int32) (a52 : Int32) (j53 : Nat) (M55 : Mem) : Option (Mem) :=
  nx (st M55 j53 7 a52) (fun M56 => j_RU_step_392 j49 a51 M56)
noncomputable def s_RU_step (j0 : Nat) (j2 : Nat) (M : Mem) : Option (Mem) :=
  nx (st M j0 8 (M j0 7)) (fun M57 => nx (st M57 j0 7 ((M57 j0 8) + (1 : Int32))) (fun M58 => nx (st M58 j0 9 ((M58 j0 9) + (1 : Int32))) (fun M59 => ck (M59 j0 8) 24 (nx (M59 2 (M59 j0 8).toNatClampNeg) (fun v61 => ck (M59 j0 8) 24 (nx (M59 3 (M59 j0 8).toNatClampNeg) (fun v63 => ck (M59 j0 8) 24 (nx (M59 4 (M59 j0 8).toNatClampNeg) (fun v65 => if v61 = (1 : Int32) then (ck v63 4 (nx (st M59 (j0 + 1) v63.toNatClampNeg v65) (fun M67 => j_RU_step_392 j0 v61 M67))) else (if v61 = (2 : Int32) then (ck v65 4 (bi (s_IN_at j2 (M59 (j0 + 1) v65.toNatClampNeg) M59) (fun r72 M70 => ck v63 4 (nx (st M70 (j0 + 1) v63.toNatClampNeg r72) (fun M74 => j_RU_step_392 j0 v61 M74))))) else (if v61 = (3 : Int32) then (ck v63 4 (ck v65 4 (ck v63 4 (nx (st M59 (j0 + 1) v63.toNatClampNeg ((M59 (j0 + 1) v63.toNatClampNeg) + (M59 (j0 + 1) v65.toNatClampNeg))) (fun M79 => j_RU_step_392 j0 v61 M79))))) else (if v61 = (4 : Int32) then (ck v63 4 (ck v65 4 (ck v63 4 (nx (st M59 (j0 + 1) v63.toNatClampNeg ((M59 (j0 + 1) v63.toNatClampNeg) - (M59 (j0 + 1) v65.toNatClampNeg))) (fun M84 => j_RU_step_392 j0 v61 M84))))) else (if v61 = (5 : Int32) then (ck v63 4 (ck v65 4 (ck v63 4 (nx (st M59 (j0 + 1) v63.toNatClampNeg ((M59 (j0 + 1) v63.toNatClampNeg) * (M59 (j0 + 1) v65.toNatClampNeg))) (fun M89 => j_RU_step_392 j0 v61 M89))))) else (if v61 = (6 : Int32) then (ck v63 4 (if (M59 (j0 + 1) v63.toNatClampNeg) = 0 then (j_RU_step_249 j0 v61 v65 j0 M59) else (j_RU_step_249 j0 v61 (M59 j0 7) j0 M59))) else (if v61 = (7 : Int32) then (ck v63 4 (if 0 ≤ (M59 (j0 + 1) v63.toNatClampNeg) then (j_RU_step_275 j0 v61 (M59 j0 7) j0 M59) else (j_RU_step_275 j0 v61 v65 j0 M59))) else (if v61 = (8 : Int32) then (nx (st M59 j0 7 v65) (fun M95 => j_RU_step_392 j0 v61 M95)) else (if v61 = (9 : Int32) then (bv (s_RU_goInto j0 v65 M59) (fun M97 => j_RU_step_392 j0 v61 M97)) else (if v61 = (10 : Int32) then (bv (s_RU_goBack j0 M59) (fun M100 => j_RU_step_392 j0 v61 M100)) else (if v61 = (11 : Int32) then (bv (s_RU_divide j0 v63 v65 M59) (fun M103 => j_RU_step_392 j0 v61 M103)) else (if v61 = (12 : Int32) then (ck v63 4 (if (M59 (j0 + 1) v63.toNatClampNeg) = v65 then (j_RU_step_335 j0 v61 (1 : Int32) j0 M59) else (j_RU_step_335 j0 v61 (-1 : Int32) j0 M59))) else (if v61 = (13 : Int32) then (ck v65 4 (bv (s_RU_load j0 v63 (M59 (j0 + 1) v65.toNatClampNeg) M59) (fun M109 => j_RU_step_392 j0 v61 M109))) else (if v61 = (14 : Int32) then (ck v65 4 (bv (s_RU_save j0 v63 (M59 (j0 + 1) v65.toNatClampNeg) M59) (fun M113 => j_RU_step_392 j0 v61 M113))) else (if v61 = (15 : Int32) then (ck v63 4 (nx (st M59 (j0 + 1) v63.toNatClampNeg (M59 j2 1)) (fun M117 => j_RU_step_392 j0 v61 M117))) else (nx (st M59 j0 10 (0 : Int32)) (fun M119 => j_RU_step_392 j0 v61 M119)))))))))))))))))))))))))
set_option maxHeartbeats 4000000 in
set_option maxRecDepth 100000 in
theorem c_RU_step (l : Launch) (x : Cx) (hJ : Inj x) (j0 : Nat) (k0 : kd_run j0) (j2 : Nat) (k2 : kd_in j2) {M : Mem} {out : Mem} (h : s_RU_step j0 j2 M = some out) : Cv l x y_RU_step (Cond.code y_RU_step b_RU_step 6 none :: tb) r_RU_step [.ref (x.2.1 j0), .ref (x.2.1 1), .ref (x.2.1 j2)] M out := by
  refine ofCv (cc := b_RU_step) (maxL := 6) (by decide) rfl (rfl) (Nat.le_of_ble_eq_true rfl) ?_
  intro p e s m args below meth c Q G0 ls g hx hb hml hown hts hK hZ hP hS hl hret
  have hown : s.vm.findClass R_RU = some m.cls := hown
  have hl : lv_has ls 6 [(0, .ref (x.2.1 j0)), (1, .ref (x.2.1 1)), (2, .ref (x.2.1 j2))] := hl
  obtain ⟨H, eH⟩ : ∃ z, z = s.heap := ⟨_, rfl⟩
  obtain ⟨locs, eL⟩ : ∃ z, z = ([] : List Loc) := ⟨_, rfl⟩
  rw [← eH] at hP
  have hS : va_S (A0 x) s.heap H locs := by rw [eH, eL]; exact hS
  rw [← eL]
  have key : W p l e r_RU_step s m args below meth c H locs 0 0 Q (F0 m 0 ls []) := by
    clear eH eL
    unfold s_RU_step at h
    have J392 : ∀ (j21 : Nat) (a23 : Int32) (M24 : Mem) (k22 : kd_run j21) (res : Mem) (h : j_RU_step_392 j21 a23 M24 = some res) (g : G0 res) (H : Heap) (locs : List Loc) (ls : Array Slot) (hP : va_P x.1 vwCl (wld x M24) H) (hS : va_S (A0 x) s.heap H locs) (hl : lv_has ls 6 [(0, .ref (x.2.1 j21)), (1, .ref (x.2.1 1)), (3, .int a23)]), W p l e r_RU_step s m args below meth c H locs 0 0 Q (F0 m 392 ls []) := by
      intro j21 a23 M24 k22 res h g H locs ls hP hS hl
      unfold j_RU_step_392 at h
      refine lv_aload_n hx hb d_RU_step_392 rfl (lv_at hl 0 rfl) ?_
      refine gf_RU_32 hx hb hts hown hK hP k22 d_RU_step_393 ?_
      refine lv_iconst (v := (-1 : Int32)) hx hb d_RU_step_396 (by decide) ?_
      refine lv_icmp_ne (tgt := 434) hx hb d_RU_step_397 rfl (fun hc => ?_) (fun hc => ?_)
      · have h := if_m hc h
        obtain rfl := Option.some.inj h
        exact hret d_RU_step_434 g hP hS
      · have h := if_p hc h
        refine lv_iload_n hx hb d_RU_step_400 rfl (lv_at hl 2 rfl) ?_
        obtain ⟨r27, M25, c26, h⟩ := bi_e h
        refine cl_RU_100 (rest := []) (R := r_RU_step) (c_PR_isJump l x hJ a23 c26) hx hb hml hts hown hK hZ hP hS hl.1 (Nat.le_of_ble_eq_true rfl) (Nat.le_of_ble_eq_true rfl) (Nat.le_of_ble_eq_true rfl) ⟨rfl, rfl, Nat.zero_le _, Nat.zero_le _⟩ d_RU_step_401 (fun H locs hP hS => ?_)
        refine lv_if_eq (tgt := 434) hx hb d_RU_step_404 rfl (fun hc => ?_) (fun hc => ?_)
        · have h := if_p hc h
          obtain rfl := Option.some.inj h
          exact hret d_RU_step_434 g hP hS
        · have h := if_m hc h
          refine lv_aload_n hx hb d_RU_step_407 rfl (lv_at hl 1 rfl) ?_
          refine lv_aload_n hx hb d_RU_step_408 rfl (lv_at hl 0 rfl) ?_
          refine gf_RU_36 hx hb hts hown hK hP k22 d_RU_step_409 ?_
          obtain ⟨r30, M28, c29, h⟩ := bi_e h
          refine cl_RU_39 (rest := []) (R := r_RU_step) (c_PR_has l x hJ (M25 j21 7) c29) hx hb hml hts hown hK hZ hP hS hl.1 (Nat.le_of_ble_eq_true rfl) (Nat.le_of_ble_eq_true rfl) (Nat.le_of_ble_eq_true rfl) ⟨rfl, rfl, Nat.zero_le _, Nat.zero_le _⟩ d_RU_step_412 (fun H locs hP hS => ?_)
          refine lv_if_eq (tgt := 434) hx hb d_RU_step_415 rfl (fun hc => ?_) (fun hc => ?_)
          · have h := if_p hc h
            obtain rfl := Option.some.inj h
            exact hret d_RU_step_434 g hP hS
          · have h := if_m hc h
            refine lv_aload_n hx hb d_RU_step_418 rfl (lv_at hl 0 rfl) ?_
            refine lv_bipush (v := (24 : Int32)) hx hb d_RU_step_419 (by decide) ?_
            refine lv_aload_n hx hb d_RU_step_421 rfl (lv_at hl 0 rfl) ?_
            refine gf_RU_59 hx hb hts hown hK hP k22 d_RU_step_422 ?_
            refine lv_imul hx hb d_RU_step_425 ?_
            refine lv_aload_n hx hb d_RU_step_426 rfl (lv_at hl 0 rfl) ?_
            refine gf_RU_36 hx hb hts hown hK hP k22 d_RU_step_427 ?_
            refine lv_iadd hx hb d_RU_step_430 ?_
            obtain ⟨M31, c32, h⟩ := bv_e h
            refine cl_RU_103 (rest := []) (R := r_RU_step) (c_RU_goAlong l x hJ j21 k22 (((24 : Int32) * (M28 j21 8)) + (M28 j21 7)) c32) k22 hx hb hml hts hown hK hZ hP hS hl.1 (Nat.le_of_ble_eq_true rfl) (Nat.le_of_ble_eq_true rfl) (Nat.le_of_ble_eq_true rfl) ⟨rfl, rfl, Nat.zero_le _, Nat.zero_le _⟩ d_RU_step_431 (fun H locs hP hS => ?_)
            obtain rfl := Option.some.inj h
            exact hret d_RU_step_434 g hP hS
    have J335 : ∀ (j33 : Nat) (a35 : Int32) (a36 : Int32) (j37 : Nat) (M39 : Mem) (k34 : kd_run j33) (k38 : kd_run j37) (res : Mem) (h : j_RU_step_335 j33 a35 a36 j37 M39 = some res) (g : G0 res) (H : Heap) (locs : List Loc) (ls : Array Slot) (hP : va_P x.1 vwCl (wld x M39) H) (hS : va_S (A0 x) s.heap H locs) (hl : lv_has ls 6 [(0, .ref (x.2.1 j33)), (1, .ref (x.2.1 1)), (3, .int a35)]), W p l e r_RU_step s m args below meth c H locs 0 0 Q (F0 m 335 ls [.int a36, .ref (x.2.1 j37)]) := by
      intro j33 a35 a36 j37 M39 k34 k38 res h g H locs ls hP hS hl
      unfold j_RU_step_335 at h
      obtain ⟨M40, eM40, h⟩ := nx_e h
      refine pf_RU_32 hx hb hts hown hK hJ hP hS k38 eM40 d_RU_step_335 (fun H locs hP hS => ?_)
      refine lv_goto (tgt := 392) hx hb d_RU_step_338 rfl ?_
      exact J392 j33 a35 M40 k34 _ h g H locs ls hP hS (lv_sub hl [0, 1, 2] rfl)
    have J275 : ∀ (j41 : Nat) (a43 : Int32) (a44 : Int32) (j45 : Nat) (M47 : Mem) (k42 : kd_run j41) (k46 : kd_run j45) (res : Mem) (h : j_RU_step_275 j41 a43 a44 j45 M47 = some res) (g : G0 res) (H : Heap) (locs : List Loc) (ls : Array Slot) (hP : va_P x.1 vwCl (wld x M47) H) (hS : va_S (A0 x) s.heap H locs) (hl : lv_has ls 6 [(0, .ref (x.2.1 j41)), (1, .ref (x.2.1 1)), (3, .int a43)]), W p l e r_RU_step s m args below meth c H locs 0 0 Q (F0 m 275 ls [.int a44, .ref (x.2.1 j45)]) := by
      intro j41 a43 a44 j45 M47 k42 k46 res h g H locs ls hP hS hl
      unfold j_RU_step_275 at h
      obtain ⟨M48, eM48, h⟩ := nx_e h
      refine pf_RU_36 hx hb hts hown hK hJ hP hS k46 eM48 d_RU_step_275 (fun H locs hP hS => ?_)
      refine lv_goto (tgt := 392) hx hb d_RU_step_278 rfl ?_
      exact J392 j41 a43 M48 k42 _ h g H locs ls hP hS (lv_sub hl [0, 1, 2] rfl)
    have J249 : ∀ (j49 : Nat) (a51 : Int32) (a52 : Int32) (j53 : Nat) (M55 : Mem) (k50 : kd_run j49) (k54 : kd_run j53) (res : Mem) (h : j_RU_step_249 j49 a51 a52 j53 M55 = some res) (g : G0 res) (H : Heap) (locs : List Loc) (ls : Array Slot) (hP : va_P x.1 vwCl (wld x M55) H) (hS : va_S (A0 x) s.heap H locs) (hl : lv_has ls 6 [(0, .ref (x.2.1 j49)), (1, .ref (x.2.1 1)), (3, .int a51)]), W p l e r_RU_step s m args below meth c H locs 0 0 Q (F0 m 249 ls [.int a52, .ref (x.2.1 j53)]) := by
      intro j49 a51 a52 j53 M55 k50 k54 res h g H locs ls hP hS hl
      unfold j_RU_step_249 at h
      obtain ⟨M56, eM56, h⟩ := nx_e h
      refine pf_RU_36 hx hb hts hown hK hJ hP hS k54 eM56 d_RU_step_249 (fun H locs hP hS => ?_)
      refine lv_goto (tgt := 392) hx hb d_RU_step_252 rfl ?_
      exact J392 j49 a51 M56 k50 _ h g H locs ls hP hS (lv_sub hl [0, 1, 2] rfl)
    refine lv_aload_n hx hb d_RU_step_0 rfl (lv_at hl 0 rfl) ?_
    refine lv_aload_n hx hb d_RU_step_1 rfl (lv_at hl 0 rfl) ?_
    refine gf_RU_36 hx hb hts hown hK hP k0 d_RU_step_2 ?_
    obtain ⟨M57, eM57, h⟩ := nx_e h
    refine pf_RU_59 hx hb hts hown hK hJ hP hS k0 eM57 d_RU_step_5 (fun H locs hP hS => ?_)
    refine lv_aload_n hx hb d_RU_step_8 rfl (lv_at hl 0 rfl) ?_
    refine lv_aload_n hx hb d_RU_step_9 rfl (lv_at hl 0 rfl) ?_
    refine gf_RU_59 hx hb hts hown hK hP k0 d_RU_step_10 ?_
    refine lv_iconst (v := (1 : Int32)) hx hb d_RU_step_13 (by decide) ?_
    refine lv_iadd hx hb d_RU_step_14 ?_
    obtain ⟨M58, eM58, h⟩ := nx_e h
    refine pf_RU_36 hx hb hts hown hK hJ hP hS k0 eM58 d_RU_step_15 (fun H locs hP hS => ?_)
    refine lv_aload_n hx hb d_RU_step_18 rfl (lv_at hl 0 rfl) ?_
    refine lv_dup hx hb d_RU_step_19 rfl ?_
    refine gf_RU_62 hx hb hts hown hK hP k0 d_RU_step_20 ?_
    refine lv_iconst (v := (1 : Int32)) hx hb d_RU_step_23 (by decide) ?_
    refine lv_iadd hx hb d_RU_step_24 ?_
    obtain ⟨M59, eM59, h⟩ := nx_e h
    refine pf_RU_62 hx hb hts hown hK hJ hP hS k0 eM59 d_RU_step_25 (fun H locs hP hS => ?_)
    refine lv_aload_n hx hb d_RU_step_28 rfl (lv_at hl 1 rfl) ?_
    refine gf_RU_65 hx hb hts hown hK hP d_RU_step_29 ?_
    refine lv_aload_n hx hb d_RU_step_32 rfl (lv_at hl 0 rfl) ?_
    refine gf_RU_59 hx hb hts hown hK hP k0 d_RU_step_33 ?_
    obtain ⟨b60, h⟩ := ck_e h
    refine m_ald hx hb hK hP ar_PR_ops b60 d_RU_step_36 ?_
    obtain ⟨v61, ev61, h⟩ := nx_e h
    refine tp_i ev61 ?_
    refine lv_istore_n hx hb d_RU_step_37 rfl hl (by decide) rfl (fun ls hl => ?_)
    have hl : lv_has ls 6 [(3, .int v61), (0, .ref (x.2.1 j0)), (1, .ref (x.2.1 1)), (2, .ref (x.2.1 j2))] := hl
    refine lv_aload_n hx hb d_RU_step_38 rfl (lv_at hl 2 rfl) ?_
    refine gf_RU_68 hx hb hts hown hK hP d_RU_step_39 ?_
    refine lv_aload_n hx hb d_RU_step_42 rfl (lv_at hl 1 rfl) ?_
    refine gf_RU_59 hx hb hts hown hK hP k0 d_RU_step_43 ?_
    obtain ⟨b62, h⟩ := ck_e h
    refine m_ald hx hb hK hP ar_PR_as b62 d_RU_step_46 ?_
    obtain ⟨v63, ev63, h⟩ := nx_e h
    refine tp_i ev63 ?_
    refine lv_istore hx hb d_RU_step_47 hl (by decide) rfl (fun ls hl => ?_)
    have hl : lv_has ls 6 [(4, .int v63), (3, .int v61), (0, .ref (x.2.1 j0)), (1, .ref (x.2.1 1)), (2, .ref (x.2.1 j2))] := hl
    refine lv_aload_n hx hb d_RU_step_49 rfl (lv_at hl 3 rfl) ?_
    refine gf_RU_71 hx hb hts hown hK hP d_RU_step_50 ?_
    refine lv_aload_n hx hb d_RU_step_53 rfl (lv_at hl 2 rfl) ?_
    refine gf_RU_59 hx hb hts hown hK hP k0 d_RU_step_54 ?_
    obtain ⟨b64, h⟩ := ck_e h
    refine m_ald hx hb hK hP ar_PR_bs b64 d_RU_step_57 ?_
    obtain ⟨v65, ev65, h⟩ := nx_e h
    refine tp_i ev65 ?_
    refine lv_istore hx hb d_RU_step_58 hl (by decide) rfl (fun ls hl => ?_)
    have hl : lv_has ls 6 [(5, .int v65), (4, .int v63), (3, .int v61), (0, .ref (x.2.1 j0)), (1, .ref (x.2.1 1)), (2, .ref (x.2.1 j2))] := hl
    refine lv_iload_n hx hb d_RU_step_60 rfl (lv_at hl 2 rfl) ?_
    by_cases n68 : v61 = (1 : Int32)
    · have h := if_p n68 h
      refine sw_in (k := (1 : Int32)) (tgt := 136) hx hb n68 d_RU_step_61 (by decide) (by decide) rfl rfl ?_
      refine lv_aload_n hx hb d_RU_step_136 rfl (lv_at hl 3 rfl) ?_
      refine gf_RU_11 hx hb hts hown hK hP k0 d_RU_step_137 ?_
      refine lv_iload hx hb d_RU_step_140 (lv_at hl 1 rfl) ?_
      refine lv_iload hx hb d_RU_step_142 (lv_at hl 0 rfl) ?_
      obtain ⟨b66, h⟩ := ck_e h
      obtain ⟨M67, eM67, h⟩ := nx_e h
      refine m_ast hx hb hK hJ hP hS (ar_RU_registers k0) b66 eM67 d_RU_step_144 (fun H locs hP hS => ?_)
      refine lv_goto (tgt := 392) hx hb d_RU_step_145 rfl ?_
      exact J392 j0 v61 M67 k0 _ h g H locs ls hP hS (lv_sub hl [3, 4, 2] rfl)
    have h := if_m n68 h
    by_cases n75 : v61 = (2 : Int32)
    · have h := if_p n75 h
      refine sw_in (k := (2 : Int32)) (tgt := 148) hx hb n75 d_RU_step_61 (by decide) (by decide) rfl rfl ?_
      refine lv_aload_n hx hb d_RU_step_148 rfl (lv_at hl 3 rfl) ?_
      refine gf_RU_11 hx hb hts hown hK hP k0 d_RU_step_149 ?_
      refine lv_iload hx hb d_RU_step_152 (lv_at hl 1 rfl) ?_
      refine lv_aload_n hx hb d_RU_step_154 rfl (lv_at hl 5 rfl) ?_
      refine lv_aload_n hx hb d_RU_step_155 rfl (lv_at hl 3 rfl) ?_
      refine gf_RU_11 hx hb hts hown hK hP k0 d_RU_step_156 ?_
      refine lv_iload hx hb d_RU_step_159 (lv_at hl 0 rfl) ?_
      obtain ⟨b69, h⟩ := ck_e h
      refine m_ald hx hb hK hP (ar_RU_registers k0) b69 d_RU_step_161 ?_
      obtain ⟨r72, M70, c71, h⟩ := bi_e h
      refine cl_RU_74 (rest := [.int v63, .ref (x.2.1 (j0 + 1))]) (R := r_RU_step) (c_IN_at l x hJ j2 k2 (M59 (j0 + 1) v65.toNatClampNeg) c71) k2 hx hb hml hts hown hK hZ hP hS hl.1 (Nat.le_of_ble_eq_true rfl) (Nat.le_of_ble_eq_true rfl) (Nat.le_of_ble_eq_true rfl) ⟨rfl, rfl, Nat.zero_le _, Nat.zero_le _⟩ d_RU_step_162 (fun H locs hP hS => ?_)
      obtain ⟨b73, h⟩ := ck_e h
      obtain ⟨M74, eM74, h⟩ := nx_e h
      refine m_ast hx hb hK hJ hP hS (ar_RU_registers k0) b73 eM74 d_RU_step_165 (fun H locs hP hS => ?_)
      refine lv_goto (tgt := 392) hx hb d_RU_step_166 rfl ?_
      exact J392 j0 v61 M74 k0 _ h g H locs ls hP hS (lv_sub hl [3, 4, 2] rfl)
    have h := if_m n75 h
    by_cases n80 : v61 = (3 : Int32)
    · have h := if_p n80 h
      refine sw_in (k := (3 : Int32)) (tgt := 169) hx hb n80 d_RU_step_61 (by decide) (by decide) rfl rfl ?_
      refine lv_aload_n hx hb d_RU_step_169 rfl (lv_at hl 3 rfl) ?_
      refine gf_RU_11 hx hb hts hown hK hP k0 d_RU_step_170 ?_
      refine lv_iload hx hb d_RU_step_173 (lv_at hl 1 rfl) ?_
      refine lv_dup2_11 hx hb d_RU_step_175 rfl rfl ?_
      obtain ⟨b76, h⟩ := ck_e h
      refine m_ald hx hb hK hP (ar_RU_registers k0) b76 d_RU_step_176 ?_
      refine lv_aload_n hx hb d_RU_step_177 rfl (lv_at hl 3 rfl) ?_
      refine gf_RU_11 hx hb hts hown hK hP k0 d_RU_step_178 ?_
      refine lv_iload hx hb d_RU_step_181 (lv_at hl 0 rfl) ?_
      obtain ⟨b77, h⟩ := ck_e h
      refine m_ald hx hb hK hP (ar_RU_registers k0) b77 d_RU_step_183 ?_
      refine lv_iadd hx hb d_RU_step_184 ?_
      obtain ⟨b78, h⟩ := ck_e h
      obtain ⟨M79, eM79, h⟩ := nx_e h
      refine m_ast hx hb hK hJ hP hS (ar_RU_registers k0) b78 eM79 d_RU_step_185 (fun H locs hP hS => ?_)
      refine lv_goto (tgt := 392) hx hb d_RU_step_186 rfl ?_
      exact J392 j0 v61 M79 k0 _ h g H locs ls hP hS (lv_sub hl [3, 4, 2] rfl)
    have h := if_m n80 h
    by_cases n85 : v61 = (4 : Int32)
    · have h := if_p n85 h
      refine sw_in (k := (4 : Int32)) (tgt := 189) hx hb n85 d_RU_step_61 (by decide) (by decide) rfl rfl ?_
      refine lv_aload_n hx hb d_RU_step_189 rfl (lv_at hl 3 rfl) ?_
      refine gf_RU_11 hx hb hts hown hK hP k0 d_RU_step_190 ?_
      refine lv_iload hx hb d_RU_step_193 (lv_at hl 1 rfl) ?_
      refine lv_dup2_11 hx hb d_RU_step_195 rfl rfl ?_
      obtain ⟨b81, h⟩ := ck_e h
      refine m_ald hx hb hK hP (ar_RU_registers k0) b81 d_RU_step_196 ?_
      refine lv_aload_n hx hb d_RU_step_197 rfl (lv_at hl 3 rfl) ?_
      refine gf_RU_11 hx hb hts hown hK hP k0 d_RU_step_198 ?_
      refine lv_iload hx hb d_RU_step_201 (lv_at hl 0 rfl) ?_
      obtain ⟨b82, h⟩ := ck_e h
      refine m_ald hx hb hK hP (ar_RU_registers k0) b82 d_RU_step_203 ?_
      refine lv_isub hx hb d_RU_step_204 ?_
      obtain ⟨b83, h⟩ := ck_e h
      obtain ⟨M84, eM84, h⟩ := nx_e h
      refine m_ast hx hb hK hJ hP hS (ar_RU_registers k0) b83 eM84 d_RU_step_205 (fun H locs hP hS => ?_)
      refine lv_goto (tgt := 392) hx hb d_RU_step_206 rfl ?_
      exact J392 j0 v61 M84 k0 _ h g H locs ls hP hS (lv_sub hl [3, 4, 2] rfl)
    have h := if_m n85 h
    by_cases n90 : v61 = (5 : Int32)
    · have h := if_p n90 h
      refine sw_in (k := (5 : Int32)) (tgt := 209) hx hb n90 d_RU_step_61 (by decide) (by decide) rfl rfl ?_
      refine lv_aload_n hx hb d_RU_step_209 rfl (lv_at hl 3 rfl) ?_
      refine gf_RU_11 hx hb hts hown hK hP k0 d_RU_step_210 ?_
      refine lv_iload hx hb d_RU_step_213 (lv_at hl 1 rfl) ?_
      refine lv_dup2_11 hx hb d_RU_step_215 rfl rfl ?_
      obtain ⟨b86, h⟩ := ck_e h
      refine m_ald hx hb hK hP (ar_RU_registers k0) b86 d_RU_step_216 ?_
      refine lv_aload_n hx hb d_RU_step_217 rfl (lv_at hl 3 rfl) ?_
      refine gf_RU_11 hx hb hts hown hK hP k0 d_RU_step_218 ?_
      refine lv_iload hx hb d_RU_step_221 (lv_at hl 0 rfl) ?_
      obtain ⟨b87, h⟩ := ck_e h
      refine m_ald hx hb hK hP (ar_RU_registers k0) b87 d_RU_step_223 ?_
      refine lv_imul hx hb d_RU_step_224 ?_
      obtain ⟨b88, h⟩ := ck_e h
      obtain ⟨M89, eM89, h⟩ := nx_e h
      refine m_ast hx hb hK hJ hP hS (ar_RU_registers k0) b88 eM89 d_RU_step_225 (fun H locs hP hS => ?_)
      refine lv_goto (tgt := 392) hx hb d_RU_step_226 rfl ?_
      exact J392 j0 v61 M89 k0 _ h g H locs ls hP hS (lv_sub hl [3, 4, 2] rfl)
    have h := if_m n90 h
    by_cases n92 : v61 = (6 : Int32)
    · have h := if_p n92 h
      refine sw_in (k := (6 : Int32)) (tgt := 229) hx hb n92 d_RU_step_61 (by decide) (by decide) rfl rfl ?_
      refine lv_aload_n hx hb d_RU_step_229 rfl (lv_at hl 3 rfl) ?_
      refine lv_aload_n hx hb d_RU_step_230 rfl (lv_at hl 3 rfl) ?_
      refine gf_RU_11 hx hb hts hown hK hP k0 d_RU_step_231 ?_
      refine lv_iload hx hb d_RU_step_234 (lv_at hl 1 rfl) ?_
      obtain ⟨b91, h⟩ := ck_e h
      refine m_ald hx hb hK hP (ar_RU_registers k0) b91 d_RU_step_236 ?_
      refine lv_if_ne (tgt := 245) hx hb d_RU_step_237 rfl (fun hc => ?_) (fun hc => ?_)
      · have h := if_m hc h
        refine lv_aload_n hx hb d_RU_step_245 rfl (lv_at hl 3 rfl) ?_
        refine gf_RU_36 hx hb hts hown hK hP k0 d_RU_step_246 ?_
        exact J249 j0 v61 (M59 j0 7) j0 M59 k0 k0 _ h g H locs ls hP hS (lv_sub hl [3, 4, 2] rfl)
      · have h := if_p hc h
        refine lv_iload hx hb d_RU_step_240 (lv_at hl 0 rfl) ?_
        refine lv_goto (tgt := 249) hx hb d_RU_step_242 rfl ?_
        exact J249 j0 v61 v65 j0 M59 k0 k0 _ h g H locs ls hP hS (lv_sub hl [3, 4, 2] rfl)
    have h := if_m n92 h
    by_cases n94 : v61 = (7 : Int32)
    · have h := if_p n94 h
      refine sw_in (k := (7 : Int32)) (tgt := 255) hx hb n94 d_RU_step_61 (by decide) (by decide) rfl rfl ?_
      refine lv_aload_n hx hb d_RU_step_255 rfl (lv_at hl 3 rfl) ?_
      refine lv_aload_n hx hb d_RU_step_256 rfl (lv_at hl 3 rfl) ?_
      refine gf_RU_11 hx hb hts hown hK hP k0 d_RU_step_257 ?_
      refine lv_iload hx hb d_RU_step_260 (lv_at hl 1 rfl) ?_
      obtain ⟨b93, h⟩ := ck_e h
      refine m_ald hx hb hK hP (ar_RU_registers k0) b93 d_RU_step_262 ?_
      refine lv_if_ge (tgt := 271) hx hb d_RU_step_263 rfl (fun hc => ?_) (fun hc => ?_)
      · have h := if_p hc h
        refine lv_aload_n hx hb d_RU_step_271 rfl (lv_at hl 3 rfl) ?_
        refine gf_RU_36 hx hb hts hown hK hP k0 d_RU_step_272 ?_
        exact J275 j0 v61 (M59 j0 7) j0 M59 k0 k0 _ h g H locs ls hP hS (lv_sub hl [3, 4, 2] rfl)
      · have h := if_m hc h
        refine lv_iload hx hb d_RU_step_266 (lv_at hl 0 rfl) ?_
        refine lv_goto (tgt := 275) hx hb d_RU_step_268 rfl ?_
        exact J275 j0 v61 v65 j0 M59 k0 k0 _ h g H locs ls hP hS (lv_sub hl [3, 4, 2] rfl)
    have h := if_m n94 h
    by_cases n96 : v61 = (8 : Int32)
    · have h := if_p n96 h
      refine sw_in (k := (8 : Int32)) (tgt := 281) hx hb n96 d_RU_step_61 (by decide) (by decide) rfl rfl ?_
      refine lv_aload_n hx hb d_RU_step_281 rfl (lv_at hl 3 rfl) ?_
      refine lv_iload hx hb d_RU_step_282 (lv_at hl 0 rfl) ?_
      obtain ⟨M95, eM95, h⟩ := nx_e h
      refine pf_RU_36 hx hb hts hown hK hJ hP hS k0 eM95 d_RU_step_284 (fun H locs hP hS => ?_)
      refine lv_goto (tgt := 392) hx hb d_RU_step_287 rfl ?_
      exact J392 j0 v61 M95 k0 _ h g H locs ls hP hS (lv_sub hl [3, 4, 2] rfl)
    have h := if_m n96 h
    by_cases n99 : v61 = (9 : Int32)
    · have h := if_p n99 h
      refine sw_in (k := (9 : Int32)) (tgt := 290) hx hb n99 d_RU_step_61 (by decide) (by decide) rfl rfl ?_
      refine lv_aload_n hx hb d_RU_step_290 rfl (lv_at hl 3 rfl) ?_
      refine lv_iload hx hb d_RU_step_291 (lv_at hl 0 rfl) ?_
      obtain ⟨M97, c98, h⟩ := bv_e h
      refine cl_RU_80 (rest := []) (R := r_RU_step) (c_RU_goInto l x hJ j0 k0 v65 c98) k0 hx hb hml hts hown hK hZ hP hS hl.1 (Nat.le_of_ble_eq_true rfl) (Nat.le_of_ble_eq_true rfl) (Nat.le_of_ble_eq_true rfl) ⟨rfl, rfl, Nat.zero_le _, Nat.zero_le _⟩ d_RU_step_293 (fun H locs hP hS => ?_)
      refine lv_goto (tgt := 392) hx hb d_RU_step_296 rfl ?_
      exact J392 j0 v61 M97 k0 _ h g H locs ls hP hS (lv_sub hl [3, 4, 2] rfl)
    have h := if_m n99 h
    by_cases n102 : v61 = (10 : Int32)
    · have h := if_p n102 h
      refine sw_in (k := (10 : Int32)) (tgt := 299) hx hb n102 d_RU_step_61 (by decide) (by decide) rfl rfl ?_
      refine lv_aload_n hx hb d_RU_step_299 rfl (lv_at hl 3 rfl) ?_
      obtain ⟨M100, c101, h⟩ := bv_e h
      refine cl_RU_84 (rest := []) (R := r_RU_step) (c_RU_goBack l x hJ j0 k0 c101) k0 hx hb hml hts hown hK hZ hP hS hl.1 (Nat.le_of_ble_eq_true rfl) (Nat.le_of_ble_eq_true rfl) (Nat.le_of_ble_eq_true rfl) ⟨rfl, rfl, Nat.zero_le _, Nat.zero_le _⟩ d_RU_step_300 (fun H locs hP hS => ?_)
      refine lv_goto (tgt := 392) hx hb d_RU_step_303 rfl ?_
      exact J392 j0 v61 M100 k0 _ h g H locs ls hP hS (lv_sub hl [3, 4, 2] rfl)
    have h := if_m n102 h
    by_cases n105 : v61 = (11 : Int32)
    · have h := if_p n105 h
      refine sw_in (k := (11 : Int32)) (tgt := 306) hx hb n105 d_RU_step_61 (by decide) (by decide) rfl rfl ?_
      refine lv_aload_n hx hb d_RU_step_306 rfl (lv_at hl 3 rfl) ?_
      refine lv_iload hx hb d_RU_step_307 (lv_at hl 1 rfl) ?_
      refine lv_iload hx hb d_RU_step_309 (lv_at hl 0 rfl) ?_
      obtain ⟨M103, c104, h⟩ := bv_e h
      refine cl_RU_87 (rest := []) (R := r_RU_step) (c_RU_divide l x hJ j0 k0 v63 v65 c104) k0 hx hb hml hts hown hK hZ hP hS hl.1 (Nat.le_of_ble_eq_true rfl) (Nat.le_of_ble_eq_true rfl) (Nat.le_of_ble_eq_true rfl) ⟨rfl, rfl, Nat.zero_le _, Nat.zero_le _⟩ d_RU_step_311 (fun H locs hP hS => ?_)
      refine lv_goto (tgt := 392) hx hb d_RU_step_314 rfl ?_
      exact J392 j0 v61 M103 k0 _ h g H locs ls hP hS (lv_sub hl [3, 4, 2] rfl)
    have h := if_m n105 h
    by_cases n107 : v61 = (12 : Int32)
    · have h := if_p n107 h
      refine sw_in (k := (12 : Int32)) (tgt := 317) hx hb n107 d_RU_step_61 (by decide) (by decide) rfl rfl ?_
      refine lv_aload_n hx hb d_RU_step_317 rfl (lv_at hl 3 rfl) ?_
      refine lv_aload_n hx hb d_RU_step_318 rfl (lv_at hl 3 rfl) ?_
      refine gf_RU_11 hx hb hts hown hK hP k0 d_RU_step_319 ?_
      refine lv_iload hx hb d_RU_step_322 (lv_at hl 1 rfl) ?_
      obtain ⟨b106, h⟩ := ck_e h
      refine m_ald hx hb hK hP (ar_RU_registers k0) b106 d_RU_step_324 ?_
      refine lv_iload hx hb d_RU_step_325 (lv_at hl 0 rfl) ?_
      refine lv_icmp_ne (tgt := 334) hx hb d_RU_step_327 rfl (fun hc => ?_) (fun hc => ?_)
      · have h := if_m hc h
        refine lv_iconst (v := (-1 : Int32)) hx hb d_RU_step_334 (by decide) ?_
        exact J335 j0 v61 (-1 : Int32) j0 M59 k0 k0 _ h g H locs ls hP hS (lv_sub hl [3, 4, 2] rfl)
      · have h := if_p hc h
        refine lv_iconst (v := (1 : Int32)) hx hb d_RU_step_330 (by decide) ?_
        refine lv_goto (tgt := 335) hx hb d_RU_step_331 rfl ?_
        exact J335 j0 v61 (1 : Int32) j0 M59 k0 k0 _ h g H locs ls hP hS (lv_sub hl [3, 4, 2] rfl)
    have h := if_m n107 h
    by_cases n111 : v61 = (13 : Int32)
    · have h := if_p n111 h
      refine sw_in (k := (13 : Int32)) (tgt := 341) hx hb n111 d_RU_step_61 (by decide) (by decide) rfl rfl ?_
      refine lv_aload_n hx hb d_RU_step_341 rfl (lv_at hl 3 rfl) ?_
      refine lv_iload hx hb d_RU_step_342 (lv_at hl 1 rfl) ?_
      refine lv_aload_n hx hb d_RU_step_344 rfl (lv_at hl 3 rfl) ?_
      refine gf_RU_11 hx hb hts hown hK hP k0 d_RU_step_345 ?_
      refine lv_iload hx hb d_RU_step_348 (lv_at hl 0 rfl) ?_
      obtain ⟨b108, h⟩ := ck_e h
      refine m_ald hx hb hK hP (ar_RU_registers k0) b108 d_RU_step_350 ?_
      obtain ⟨M109, c110, h⟩ := bv_e h
      refine cl_RU_91 (rest := []) (R := r_RU_step) (c_RU_load l x hJ j0 k0 v63 (M59 (j0 + 1) v65.toNatClampNeg) c110) k0 hx hb hml hts hown hK hZ hP hS hl.1 (Nat.le_of_ble_eq_true rfl) (Nat.le_of_ble_eq_true rfl) (Nat.le_of_ble_eq_true rfl) ⟨rfl, rfl, Nat.zero_le _, Nat.zero_le _⟩ d_RU_step_351 (fun H locs hP hS => ?_)
      refine lv_goto (tgt := 392) hx hb d_RU_step_354 rfl ?_
      exact J392 j0 v61 M109 k0 _ h g H locs ls hP hS (lv_sub hl [3, 4, 2] rfl)
    have h := if_m n111 h
    by_cases n115 : v61 = (14 : Int32)
    · have h := if_p n115 h
      refine sw_in (k := (14 : Int32)) (tgt := 357) hx hb n115 d_RU_step_61 (by decide) (by decide) rfl rfl ?_
      refine lv_aload_n hx hb d_RU_step_357 rfl (lv_at hl 3 rfl) ?_
      refine lv_iload hx hb d_RU_step_358 (lv_at hl 1 rfl) ?_
      refine lv_aload_n hx hb d_RU_step_360 rfl (lv_at hl 3 rfl) ?_
      refine gf_RU_11 hx hb hts hown hK hP k0 d_RU_step_361 ?_
      refine lv_iload hx hb d_RU_step_364 (lv_at hl 0 rfl) ?_
      obtain ⟨b112, h⟩ := ck_e h
      refine m_ald hx hb hK hP (ar_RU_registers k0) b112 d_RU_step_366 ?_
      obtain ⟨M113, c114, h⟩ := bv_e h
      refine cl_RU_94 (rest := []) (R := r_RU_step) (c_RU_save l x hJ j0 k0 v63 (M59 (j0 + 1) v65.toNatClampNeg) c114) k0 hx hb hml hts hown hK hZ hP hS hl.1 (Nat.le_of_ble_eq_true rfl) (Nat.le_of_ble_eq_true rfl) (Nat.le_of_ble_eq_true rfl) ⟨rfl, rfl, Nat.zero_le _, Nat.zero_le _⟩ d_RU_step_367 (fun H locs hP hS => ?_)
      refine lv_goto (tgt := 392) hx hb d_RU_step_370 rfl ?_
      exact J392 j0 v61 M113 k0 _ h g H locs ls hP hS (lv_sub hl [3, 4, 2] rfl)
    have h := if_m n115 h
    by_cases n118 : v61 = (15 : Int32)
    · have h := if_p n118 h
      refine sw_in (k := (15 : Int32)) (tgt := 373) hx hb n118 d_RU_step_61 (by decide) (by decide) rfl rfl ?_
      refine lv_aload_n hx hb d_RU_step_373 rfl (lv_at hl 3 rfl) ?_
      refine gf_RU_11 hx hb hts hown hK hP k0 d_RU_step_374 ?_
      refine lv_iload hx hb d_RU_step_377 (lv_at hl 1 rfl) ?_
      refine lv_aload_n hx hb d_RU_step_379 rfl (lv_at hl 5 rfl) ?_
      refine gf_RU_97 hx hb hts hown hK hP k2 d_RU_step_380 ?_
      obtain ⟨b116, h⟩ := ck_e h
      obtain ⟨M117, eM117, h⟩ := nx_e h
      refine m_ast hx hb hK hJ hP hS (ar_RU_registers k0) b116 eM117 d_RU_step_383 (fun H locs hP hS => ?_)
      refine lv_goto (tgt := 392) hx hb d_RU_step_384 rfl ?_
      exact J392 j0 v61 M117 k0 _ h g H locs ls hP hS (lv_sub hl [3, 4, 2] rfl)
    have h := if_m n118 h
    have b0 := sw_ne (k := (1 : Int32)) (z := 1) (by decide) n68
    have b1 := sw_ne (k := (2 : Int32)) (z := 2) (by decide) n75
    have b2 := sw_ne (k := (3 : Int32)) (z := 3) (by decide) n80
    have b3 := sw_ne (k := (4 : Int32)) (z := 4) (by decide) n85
    have b4 := sw_ne (k := (5 : Int32)) (z := 5) (by decide) n90
    have b5 := sw_ne (k := (6 : Int32)) (z := 6) (by decide) n92
    have b6 := sw_ne (k := (7 : Int32)) (z := 7) (by decide) n94
    have b7 := sw_ne (k := (8 : Int32)) (z := 8) (by decide) n96
    have b8 := sw_ne (k := (9 : Int32)) (z := 9) (by decide) n99
    have b9 := sw_ne (k := (10 : Int32)) (z := 10) (by decide) n102
    have b10 := sw_ne (k := (11 : Int32)) (z := 11) (by decide) n105
    have b11 := sw_ne (k := (12 : Int32)) (z := 12) (by decide) n107
    have b12 := sw_ne (k := (13 : Int32)) (z := 13) (by decide) n111
    have b13 := sw_ne (k := (14 : Int32)) (z := 14) (by decide) n115
    have b14 := sw_ne (k := (15 : Int32)) (z := 15) (by decide) n118
    refine lv_tableOut (tgt := 387) hx hb d_RU_step_61 (by omega) rfl ?_
    refine lv_aload_n hx hb d_RU_step_387 rfl (lv_at hl 3 rfl) ?_
    refine lv_iconst (v := (0 : Int32)) hx hb d_RU_step_388 (by decide) ?_
    obtain ⟨M119, eM119, h⟩ := nx_e h
    refine pf_RU_32 hx hb hts hown hK hJ hP hS k0 eM119 d_RU_step_389 (fun H locs hP hS => ?_)
    exact J392 j0 v61 M119 k0 _ h g H locs ls hP hS (lv_sub hl [3, 4, 2] rfl)
  rw [eH] at key
  exact key
theorem d_RU_perform_0 : decode b_RU_perform 0 = .ok (.aload_n 0, 1) := by decide +kernel
theorem d_RU_perform_1 : decode b_RU_perform 1 = .ok (.invokevirtual 29, 3) := by decide +kernel
theorem d_RU_perform_4 : decode b_RU_perform 4 = .ok (.iconst 0, 1) := by decide +kernel
theorem d_RU_perform_5 : decode b_RU_perform 5 = .ok (.istore_n 3, 1) := by decide +kernel
theorem d_RU_perform_6 : decode b_RU_perform 6 = .ok (.iload_n 3, 1) := by decide +kernel
theorem d_RU_perform_7 : decode b_RU_perform 7 = .ok (.bipush 64, 2) := by decide +kernel
theorem d_RU_perform_9 : decode b_RU_perform 9 = .ok (.if_icmp .gt 56, 3) := by decide +kernel
theorem d_RU_perform_12 : decode b_RU_perform 12 = .ok (.aload_n 0, 1) := by decide +kernel
theorem d_RU_perform_13 : decode b_RU_perform 13 = .ok (.getfield 32, 3) := by decide +kernel
theorem d_RU_perform_16 : decode b_RU_perform 16 = .ok (.iconst (-1), 1) := by decide +kernel
theorem d_RU_perform_17 : decode b_RU_perform 17 = .ok (.if_icmp .ne 48, 3) := by decide +kernel
theorem d_RU_perform_20 : decode b_RU_perform 20 = .ok (.aload_n 1, 1) := by decide +kernel
theorem d_RU_perform_21 : decode b_RU_perform 21 = .ok (.aload_n 0, 1) := by decide +kernel
theorem d_RU_perform_22 : decode b_RU_perform 22 = .ok (.getfield 36, 3) := by decide +kernel
theorem d_RU_perform_25 : decode b_RU_perform 25 = .ok (.invokevirtual 39, 3) := by decide +kernel
theorem d_RU_perform_28 : decode b_RU_perform 28 = .ok (.ifCond .ne 11, 3) := by decide +kernel
theorem d_RU_perform_31 : decode b_RU_perform 31 = .ok (.aload_n 0, 1) := by decide +kernel
theorem d_RU_perform_32 : decode b_RU_perform 32 = .ok (.iconst 0, 1) := by decide +kernel
theorem d_RU_perform_33 : decode b_RU_perform 33 = .ok (.putfield 32, 3) := by decide +kernel
theorem d_RU_perform_36 : decode b_RU_perform 36 = .ok (.goto 23, 3) := by decide +kernel
theorem d_RU_perform_39 : decode b_RU_perform 39 = .ok (.iload_n 3, 1) := by decide +kernel
theorem d_RU_perform_40 : decode b_RU_perform 40 = .ok (.bipush 64, 2) := by decide +kernel
theorem d_RU_perform_42 : decode b_RU_perform 42 = .ok (.if_icmp .ne 11, 3) := by decide +kernel
theorem d_RU_perform_45 : decode b_RU_perform 45 = .ok (.aload_n 0, 1) := by decide +kernel
theorem d_RU_perform_46 : decode b_RU_perform 46 = .ok (.iconst 5, 1) := by decide +kernel
theorem d_RU_perform_47 : decode b_RU_perform 47 = .ok (.putfield 32, 3) := by decide +kernel
theorem d_RU_perform_50 : decode b_RU_perform 50 = .ok (.goto 9, 3) := by decide +kernel
theorem d_RU_perform_53 : decode b_RU_perform 53 = .ok (.aload_n 0, 1) := by decide +kernel
theorem d_RU_perform_54 : decode b_RU_perform 54 = .ok (.aload_n 1, 1) := by decide +kernel
theorem d_RU_perform_55 : decode b_RU_perform 55 = .ok (.aload_n 2, 1) := by decide +kernel
theorem d_RU_perform_56 : decode b_RU_perform 56 = .ok (.invokevirtual 43, 3) := by decide +kernel
theorem d_RU_perform_59 : decode b_RU_perform 59 = .ok (.iinc 3 1, 3) := by decide +kernel
theorem d_RU_perform_62 : decode b_RU_perform 62 = .ok (.goto (-56), 3) := by decide +kernel
theorem d_RU_perform_65 : decode b_RU_perform 65 = .ok (.return_, 1) := by decide +kernel
noncomputable def j_RU_perform_59 (j0 : Nat) (j2 : Nat) (a26 : Int32) (M27 : Mem) : Option ((Int32 × Mem) ⊕ Mem) :=
  nx (a26 + (1 : Int32)) (fun v28 => some (.inl (v28, M27)))
noncomputable def l_RU_perform_6 (j0 : Nat) (j2 : Nat) (v24 : Int32) (M25 : Mem) : Option ((Int32 × Mem) ⊕ (Mem)) :=
  if (64 : Int32) < v24 then (some (.inr M25)) else (if (M25 j0 10) = (-1 : Int32) then (bi (s_PR_has (M25 j0 7) M25) (fun r31 M29 => if r31 = 0 then (nx (st M29 j0 10 (0 : Int32)) (fun M35 => j_RU_perform_59 j0 j2 v24 M35)) else (if v24 = (64 : Int32) then (nx (st M29 j0 10 (5 : Int32)) (fun M34 => j_RU_perform_59 j0 j2 v24 M34)) else (bv (s_RU_step j0 j2 M29) (fun M32 => j_RU_perform_59 j0 j2 v24 M32))))) else (some (.inr M25)))
noncomputable def s_RU_perform (j0 : Nat) (j2 : Nat) (M : Mem) : Option (Mem) :=
  bv (s_RU_reset j0 M) (fun M21 => nx ((0 : Int32)) (fun v23 => lp (fun q : Int32 × Mem => l_RU_perform_6 j0 j2 q.1 q.2) (v23, M21)))
set_option maxHeartbeats 4000000 in
set_option maxRecDepth 100000 in
theorem c_RU_perform (l : Launch) (x : Cx) (hJ : Inj x) (j0 : Nat) (k0 : kd_run j0) (j2 : Nat) (k2 : kd_in j2) {M : Mem} {out : Mem} (h : s_RU_perform j0 j2 M = some out) : Cv l x y_RU_perform (Cond.code y_RU_perform b_RU_perform 4 none :: tb) r_RU_perform [.ref (x.2.1 j0), .ref (x.2.1 1), .ref (x.2.1 j2)] M out := by
  refine ofCv (cc := b_RU_perform) (maxL := 4) (by decide) rfl (rfl) (Nat.le_of_ble_eq_true rfl) ?_
  intro p e s m args below meth c Q G0 ls g hx hb hml hown hts hK hZ hP hS hl hret
  have hown : s.vm.findClass R_RU = some m.cls := hown
  have hl : lv_has ls 4 [(0, .ref (x.2.1 j0)), (1, .ref (x.2.1 1)), (2, .ref (x.2.1 j2))] := hl
  obtain ⟨H, eH⟩ : ∃ z, z = s.heap := ⟨_, rfl⟩
  obtain ⟨locs, eL⟩ : ∃ z, z = ([] : List Loc) := ⟨_, rfl⟩
  rw [← eH] at hP
  have hS : va_S (A0 x) s.heap H locs := by rw [eH, eL]; exact hS
  rw [← eL]
  have key : W p l e r_RU_perform s m args below meth c H locs 0 0 Q (F0 m 0 ls []) := by
    clear eH eL
    unfold s_RU_perform at h
    refine lv_aload_n hx hb d_RU_perform_0 rfl (lv_at hl 0 rfl) ?_
    obtain ⟨M21, c22, h⟩ := bv_e h
    refine cl_RU_29 (rest := []) (R := r_RU_perform) (c_RU_reset l x hJ j0 k0 c22) k0 hx hb hml hts hown hK hZ hP hS hl.1 (Nat.le_of_ble_eq_true rfl) (Nat.le_of_ble_eq_true rfl) (Nat.le_of_ble_eq_true rfl) ⟨rfl, rfl, Nat.zero_le _, Nat.zero_le _⟩ d_RU_perform_1 (fun H locs hP hS => ?_)
    refine lv_iconst (v := (0 : Int32)) hx hb d_RU_perform_4 (by decide) ?_
    obtain ⟨v23, ev23, h⟩ := nx_e h
    refine tp_i ev23 ?_
    refine lv_istore_n hx hb d_RU_perform_5 rfl hl (by decide) rfl (fun ls hl => ?_)
    have hl : lv_has ls 4 [(3, .int v23), (0, .ref (x.2.1 j0)), (1, .ref (x.2.1 1)), (2, .ref (x.2.1 j2))] := hl
    obtain ⟨P6, eP6⟩ : ∃ P : (Int32 × Mem) → Prop, P = (fun q => ∀ (H : Heap) (locs : List Loc) (ls : Array Slot), va_P x.1 vwCl (wld x (q.2)) H → va_S (A0 x) s.heap H locs → lv_has ls 4 [(0, .ref (x.2.1 j0)), (1, .ref (x.2.1 1)), (2, .ref (x.2.1 j2)), (3, .int (q.1))] → W p l e r_RU_perform s m args below meth c H locs 0 0 Q (F0 m 6 ls [])) := ⟨_, rfl⟩
    have L6 : P6 (v23, M21) := by
      refine lp_walk (G := G0) ?_ h g
      intro q res h g
      obtain ⟨v24, M25⟩ := q
      rw [eP6]
      intro H locs ls hP hS hl
      have hP : va_P x.1 vwCl (wld x M25) H := hP
      have hl : lv_has ls 4 [(0, .ref (x.2.1 j0)), (1, .ref (x.2.1 1)), (2, .ref (x.2.1 j2)), (3, .int v24)] := hl
      have h : l_RU_perform_6 j0 j2 v24 M25 = some res := h
      unfold l_RU_perform_6 at h
      have J59 : ∀ (a26 : Int32) (M27 : Mem)  (res : (Int32 × Mem) ⊕ Mem) (h : j_RU_perform_59 j0 j2 a26 M27 = some res) (g : (lpG P6 G0) res) (H : Heap) (locs : List Loc) (ls : Array Slot) (hP : va_P x.1 vwCl (wld x M27) H) (hS : va_S (A0 x) s.heap H locs) (hl : lv_has ls 4 [(0, .ref (x.2.1 j0)), (1, .ref (x.2.1 1)), (2, .ref (x.2.1 j2)), (3, .int a26)]), W p l e r_RU_perform s m args below meth c H locs 0 0 Q (F0 m 59 ls []) := by
        intro a26 M27 res h g H locs ls hP hS hl
        unfold j_RU_perform_59 at h
        obtain ⟨v28, ev28, h⟩ := nx_e h
        refine lv_iinc (k := 3) hx hb d_RU_perform_59 hl rfl (iinc_v (k := (1 : Int32)) (by decide) ev28) (by decide) rfl (fun ls hl => ?_)
        have hl : lv_has ls 4 [(3, .int v28), (0, .ref (x.2.1 j0)), (1, .ref (x.2.1 1)), (2, .ref (x.2.1 j2))] := hl
        refine lv_goto (tgt := 6) hx hb d_RU_perform_62 rfl ?_
        obtain rfl := Option.some.inj h
        have g : P6 (v28, M27) := g
        rw [eP6] at g
        exact g H locs ls hP hS (lv_sub hl [1, 2, 3, 0] rfl)
      refine lv_iload_n hx hb d_RU_perform_6 rfl (lv_at hl 3 rfl) ?_
      refine lv_bipush (v := (64 : Int32)) hx hb d_RU_perform_7 (by decide) ?_
      refine lv_icmp_gt (tgt := 65) hx hb d_RU_perform_9 rfl (fun hc => ?_) (fun hc => ?_)
      · have h := if_p hc h
        obtain rfl := Option.some.inj h
        exact hret d_RU_perform_65 g hP hS
      · have h := if_m hc h
        refine lv_aload_n hx hb d_RU_perform_12 rfl (lv_at hl 0 rfl) ?_
        refine gf_RU_32 hx hb hts hown hK hP k0 d_RU_perform_13 ?_
        refine lv_iconst (v := (-1 : Int32)) hx hb d_RU_perform_16 (by decide) ?_
        refine lv_icmp_ne (tgt := 65) hx hb d_RU_perform_17 rfl (fun hc => ?_) (fun hc => ?_)
        · have h := if_m hc h
          obtain rfl := Option.some.inj h
          exact hret d_RU_perform_65 g hP hS
        · have h := if_p hc h
          refine lv_aload_n hx hb d_RU_perform_20 rfl (lv_at hl 1 rfl) ?_
          refine lv_aload_n hx hb d_RU_perform_21 rfl (lv_at hl 0 rfl) ?_
          refine gf_RU_36 hx hb hts hown hK hP k0 d_RU_perform_22 ?_
          obtain ⟨r31, M29, c30, h⟩ := bi_e h
          refine cl_RU_39 (rest := []) (R := r_RU_perform) (c_PR_has l x hJ (M25 j0 7) c30) hx hb hml hts hown hK hZ hP hS hl.1 (Nat.le_of_ble_eq_true rfl) (Nat.le_of_ble_eq_true rfl) (Nat.le_of_ble_eq_true rfl) ⟨rfl, rfl, Nat.zero_le _, Nat.zero_le _⟩ d_RU_perform_25 (fun H locs hP hS => ?_)
          refine lv_if_ne (tgt := 39) hx hb d_RU_perform_28 rfl (fun hc => ?_) (fun hc => ?_)
          · have h := if_m hc h
            refine lv_iload_n hx hb d_RU_perform_39 rfl (lv_at hl 3 rfl) ?_
            refine lv_bipush (v := (64 : Int32)) hx hb d_RU_perform_40 (by decide) ?_
            refine lv_icmp_ne (tgt := 53) hx hb d_RU_perform_42 rfl (fun hc => ?_) (fun hc => ?_)
            · have h := if_m hc h
              refine lv_aload_n hx hb d_RU_perform_53 rfl (lv_at hl 0 rfl) ?_
              refine lv_aload_n hx hb d_RU_perform_54 rfl (lv_at hl 1 rfl) ?_
              refine lv_aload_n hx hb d_RU_perform_55 rfl (lv_at hl 2 rfl) ?_
              obtain ⟨M32, c33, h⟩ := bv_e h
              refine cl_RU_43 (rest := []) (R := r_RU_perform) (c_RU_step l x hJ j0 k0 j2 k2 c33) k0 hx hb hml hts hown hK hZ hP hS hl.1 (Nat.le_of_ble_eq_true rfl) (Nat.le_of_ble_eq_true rfl) (Nat.le_of_ble_eq_true rfl) ⟨rfl, rfl, Nat.zero_le _, Nat.zero_le _⟩ d_RU_perform_56 (fun H locs hP hS => ?_)
              exact J59 v24 M32 _ h g H locs ls hP hS (lv_sub hl [0, 1, 2, 3] rfl)
            · have h := if_p hc h
              refine lv_aload_n hx hb d_RU_perform_45 rfl (lv_at hl 0 rfl) ?_
              refine lv_iconst (v := (5 : Int32)) hx hb d_RU_perform_46 (by decide) ?_
              obtain ⟨M34, eM34, h⟩ := nx_e h
              refine pf_RU_32 hx hb hts hown hK hJ hP hS k0 eM34 d_RU_perform_47 (fun H locs hP hS => ?_)
              refine lv_goto (tgt := 59) hx hb d_RU_perform_50 rfl ?_
              exact J59 v24 M34 _ h g H locs ls hP hS (lv_sub hl [0, 1, 2, 3] rfl)
          · have h := if_p hc h
            refine lv_aload_n hx hb d_RU_perform_31 rfl (lv_at hl 0 rfl) ?_
            refine lv_iconst (v := (0 : Int32)) hx hb d_RU_perform_32 (by decide) ?_
            obtain ⟨M35, eM35, h⟩ := nx_e h
            refine pf_RU_32 hx hb hts hown hK hJ hP hS k0 eM35 d_RU_perform_33 (fun H locs hP hS => ?_)
            refine lv_goto (tgt := 59) hx hb d_RU_perform_36 rfl ?_
            exact J59 v24 M35 _ h g H locs ls hP hS (lv_sub hl [0, 1, 2, 3] rfl)
    rw [eP6] at L6
    exact L6 H locs ls hP hS (lv_sub hl [1, 2, 3, 0] rfl)
  rw [eH] at key
  exact key
theorem d_RU_pairBit_0 : decode b_RU_pairBit 0 = .ok (.aload_n 0, 1) := by decide +kernel
theorem d_RU_pairBit_1 : decode b_RU_pairBit 1 = .ok (.getfield 23, 3) := by decide +kernel
theorem d_RU_pairBit_4 : decode b_RU_pairBit 4 = .ok (.iload_n 1, 1) := by decide +kernel
theorem d_RU_pairBit_5 : decode b_RU_pairBit 5 = .ok (.iaload, 1) := by decide +kernel
theorem d_RU_pairBit_6 : decode b_RU_pairBit 6 = .ok (.istore_n 2, 1) := by decide +kernel
theorem d_RU_pairBit_7 : decode b_RU_pairBit 7 = .ok (.iload_n 2, 1) := by decide +kernel
theorem d_RU_pairBit_8 : decode b_RU_pairBit 8 = .ok (.iconst 3, 1) := by decide +kernel
theorem d_RU_pairBit_9 : decode b_RU_pairBit 9 = .ok (.if_icmp .gt 9, 3) := by decide +kernel
theorem d_RU_pairBit_12 : decode b_RU_pairBit 12 = .ok (.iconst 1, 1) := by decide +kernel
theorem d_RU_pairBit_13 : decode b_RU_pairBit 13 = .ok (.iload_n 2, 1) := by decide +kernel
theorem d_RU_pairBit_14 : decode b_RU_pairBit 14 = .ok (.iconst 1, 1) := by decide +kernel
theorem d_RU_pairBit_15 : decode b_RU_pairBit 15 = .ok (.isub, 1) := by decide +kernel
theorem d_RU_pairBit_16 : decode b_RU_pairBit 16 = .ok (.ishl, 1) := by decide +kernel
theorem d_RU_pairBit_17 : decode b_RU_pairBit 17 = .ok (.ireturn, 1) := by decide +kernel
theorem d_RU_pairBit_18 : decode b_RU_pairBit 18 = .ok (.iload_n 2, 1) := by decide +kernel
theorem d_RU_pairBit_19 : decode b_RU_pairBit 19 = .ok (.bipush 7, 2) := by decide +kernel
theorem d_RU_pairBit_21 : decode b_RU_pairBit 21 = .ok (.if_icmp .gt 6, 3) := by decide +kernel
theorem d_RU_pairBit_24 : decode b_RU_pairBit 24 = .ok (.bipush 8, 2) := by decide +kernel
theorem d_RU_pairBit_26 : decode b_RU_pairBit 26 = .ok (.ireturn, 1) := by decide +kernel
theorem d_RU_pairBit_27 : decode b_RU_pairBit 27 = .ok (.iload_n 2, 1) := by decide +kernel
theorem d_RU_pairBit_28 : decode b_RU_pairBit 28 = .ok (.bipush 15, 2) := by decide +kernel
theorem d_RU_pairBit_30 : decode b_RU_pairBit 30 = .ok (.if_icmp .gt 8, 3) := by decide +kernel
theorem d_RU_pairBit_33 : decode b_RU_pairBit 33 = .ok (.bipush 16, 2) := by decide +kernel
theorem d_RU_pairBit_35 : decode b_RU_pairBit 35 = .ok (.goto 5, 3) := by decide +kernel
theorem d_RU_pairBit_38 : decode b_RU_pairBit 38 = .ok (.bipush 32, 2) := by decide +kernel
theorem d_RU_pairBit_40 : decode b_RU_pairBit 40 = .ok (.ireturn, 1) := by decide +kernel
noncomputable def s_RU_pairBit (j0 : Nat) (a1 : Int32) (M : Mem) : Option (Int32 × Mem) :=
  ck a1 576 (nx (M (j0 + 4) a1.toNatClampNeg) (fun v22 => if (3 : Int32) < v22 then (if (7 : Int32) < v22 then (if (15 : Int32) < v22 then (some ((32 : Int32), M)) else (some ((16 : Int32), M))) else (some ((8 : Int32), M))) else (some ((1 : Int32) <<< ((v22 - (1 : Int32)) &&& 31), M))))
set_option maxHeartbeats 4000000 in
set_option maxRecDepth 100000 in
theorem c_RU_pairBit (l : Launch) (x : Cx) (hJ : Inj x) (j0 : Nat) (k0 : kd_run j0) (a1 : Int32) {M : Mem} {out : Int32 × Mem} (h : s_RU_pairBit j0 a1 M = some out) : Ci l x y_RU_pairBit (Cond.code y_RU_pairBit b_RU_pairBit 3 (some .int) :: tb) r_RU_pairBit [.ref (x.2.1 j0), .int a1] M out := by
  refine ofCi (cc := b_RU_pairBit) (maxL := 3) (by decide) rfl (rfl) (Nat.le_of_ble_eq_true rfl) ?_
  intro p e s m args below meth c Q G0 ls g hx hb hml hown hts hK hZ hP hS hl hret
  have hown : s.vm.findClass R_RU = some m.cls := hown
  have hl : lv_has ls 3 [(0, .ref (x.2.1 j0)), (1, .int a1)] := hl
  obtain ⟨H, eH⟩ : ∃ z, z = s.heap := ⟨_, rfl⟩
  obtain ⟨locs, eL⟩ : ∃ z, z = ([] : List Loc) := ⟨_, rfl⟩
  rw [← eH] at hP
  have hS : va_S (A0 x) s.heap H locs := by rw [eH, eL]; exact hS
  rw [← eL]
  have key : W p l e r_RU_pairBit s m args below meth c H locs 0 0 Q (F0 m 0 ls []) := by
    clear eH eL
    unfold s_RU_pairBit at h
    refine lv_aload_n hx hb d_RU_pairBit_0 rfl (lv_at hl 0 rfl) ?_
    refine gf_RU_23 hx hb hts hown hK hP k0 d_RU_pairBit_1 ?_
    refine lv_iload_n hx hb d_RU_pairBit_4 rfl (lv_at hl 1 rfl) ?_
    obtain ⟨b21, h⟩ := ck_e h
    refine m_ald hx hb hK hP (ar_RU_times k0) b21 d_RU_pairBit_5 ?_
    obtain ⟨v22, ev22, h⟩ := nx_e h
    refine tp_i ev22 ?_
    refine lv_istore_n hx hb d_RU_pairBit_6 rfl hl (by decide) rfl (fun ls hl => ?_)
    have hl : lv_has ls 3 [(2, .int v22), (0, .ref (x.2.1 j0)), (1, .int a1)] := hl
    refine lv_iload_n hx hb d_RU_pairBit_7 rfl (lv_at hl 0 rfl) ?_
    refine lv_iconst (v := (3 : Int32)) hx hb d_RU_pairBit_8 (by decide) ?_
    refine lv_icmp_gt (tgt := 18) hx hb d_RU_pairBit_9 rfl (fun hc => ?_) (fun hc => ?_)
    · have h := if_p hc h
      refine lv_iload_n hx hb d_RU_pairBit_18 rfl (lv_at hl 0 rfl) ?_
      refine lv_bipush (v := (7 : Int32)) hx hb d_RU_pairBit_19 (by decide) ?_
      refine lv_icmp_gt (tgt := 27) hx hb d_RU_pairBit_21 rfl (fun hc => ?_) (fun hc => ?_)
      · have h := if_p hc h
        refine lv_iload_n hx hb d_RU_pairBit_27 rfl (lv_at hl 0 rfl) ?_
        refine lv_bipush (v := (15 : Int32)) hx hb d_RU_pairBit_28 (by decide) ?_
        refine lv_icmp_gt (tgt := 38) hx hb d_RU_pairBit_30 rfl (fun hc => ?_) (fun hc => ?_)
        · have h := if_p hc h
          refine lv_bipush (v := (32 : Int32)) hx hb d_RU_pairBit_38 (by decide) ?_
          obtain rfl := Option.some.inj h
          exact hret d_RU_pairBit_40 g hP hS
        · have h := if_m hc h
          refine lv_bipush (v := (16 : Int32)) hx hb d_RU_pairBit_33 (by decide) ?_
          refine lv_goto (tgt := 40) hx hb d_RU_pairBit_35 rfl ?_
          obtain rfl := Option.some.inj h
          exact hret d_RU_pairBit_40 g hP hS
      · have h := if_m hc h
        refine lv_bipush (v := (8 : Int32)) hx hb d_RU_pairBit_24 (by decide) ?_
        obtain rfl := Option.some.inj h
        exact hret d_RU_pairBit_26 g hP hS
    · have h := if_m hc h
      refine lv_iconst (v := (1 : Int32)) hx hb d_RU_pairBit_12 (by decide) ?_
      refine lv_iload_n hx hb d_RU_pairBit_13 rfl (lv_at hl 0 rfl) ?_
      refine lv_iconst (v := (1 : Int32)) hx hb d_RU_pairBit_14 (by decide) ?_
      refine lv_isub hx hb d_RU_pairBit_15 ?_
      refine lv_ishl hx hb d_RU_pairBit_16 ?_
      obtain rfl := Option.some.inj h
      exact hret d_RU_pairBit_17 g hP hS
  rw [eH] at key
  exact key
theorem d_RU_hasTrapped_0 : decode b_RU_hasTrapped 0 = .ok (.aload_n 0, 1) := by decide +kernel
theorem d_RU_hasTrapped_1 : decode b_RU_hasTrapped 1 = .ok (.getfield 32, 3) := by decide +kernel
theorem d_RU_hasTrapped_4 : decode b_RU_hasTrapped 4 = .ok (.iconst 1, 1) := by decide +kernel
theorem d_RU_hasTrapped_5 : decode b_RU_hasTrapped 5 = .ok (.if_icmp .lt 15, 3) := by decide +kernel
theorem d_RU_hasTrapped_8 : decode b_RU_hasTrapped 8 = .ok (.aload_n 0, 1) := by decide +kernel
theorem d_RU_hasTrapped_9 : decode b_RU_hasTrapped 9 = .ok (.getfield 32, 3) := by decide +kernel
theorem d_RU_hasTrapped_12 : decode b_RU_hasTrapped 12 = .ok (.iconst 4, 1) := by decide +kernel
theorem d_RU_hasTrapped_13 : decode b_RU_hasTrapped 13 = .ok (.if_icmp .gt 7, 3) := by decide +kernel
theorem d_RU_hasTrapped_16 : decode b_RU_hasTrapped 16 = .ok (.iconst 1, 1) := by decide +kernel
theorem d_RU_hasTrapped_17 : decode b_RU_hasTrapped 17 = .ok (.goto 4, 3) := by decide +kernel
theorem d_RU_hasTrapped_20 : decode b_RU_hasTrapped 20 = .ok (.iconst 0, 1) := by decide +kernel
theorem d_RU_hasTrapped_21 : decode b_RU_hasTrapped 21 = .ok (.ireturn, 1) := by decide +kernel
noncomputable def s_RU_hasTrapped (j0 : Nat) (M : Mem) : Option (Int32 × Mem) :=
  if (M j0 10) < (1 : Int32) then (some ((0 : Int32), M)) else (if (4 : Int32) < (M j0 10) then (some ((0 : Int32), M)) else (some ((1 : Int32), M)))
set_option maxHeartbeats 4000000 in
set_option maxRecDepth 100000 in
theorem c_RU_hasTrapped (l : Launch) (x : Cx) (hJ : Inj x) (j0 : Nat) (k0 : kd_run j0) {M : Mem} {out : Int32 × Mem} (h : s_RU_hasTrapped j0 M = some out) : Ci l x y_RU_hasTrapped (Cond.code y_RU_hasTrapped b_RU_hasTrapped 1 (some .boolean) :: tb) r_RU_hasTrapped [.ref (x.2.1 j0)] M out := by
  refine ofCz (cc := b_RU_hasTrapped) (maxL := 1) (by decide) rfl (rfl) (Nat.le_of_ble_eq_true rfl) ?_
  intro p e s m args below meth c Q G0 ls g hx hb hml hown hts hK hZ hP hS hl hret
  have hown : s.vm.findClass R_RU = some m.cls := hown
  have hl : lv_has ls 1 [(0, .ref (x.2.1 j0))] := hl
  obtain ⟨H, eH⟩ : ∃ z, z = s.heap := ⟨_, rfl⟩
  obtain ⟨locs, eL⟩ : ∃ z, z = ([] : List Loc) := ⟨_, rfl⟩
  rw [← eH] at hP
  have hS : va_S (A0 x) s.heap H locs := by rw [eH, eL]; exact hS
  rw [← eL]
  have key : W p l e r_RU_hasTrapped s m args below meth c H locs 0 0 Q (F0 m 0 ls []) := by
    clear eH eL
    unfold s_RU_hasTrapped at h
    refine lv_aload_n hx hb d_RU_hasTrapped_0 rfl (lv_at hl 0 rfl) ?_
    refine gf_RU_32 hx hb hts hown hK hP k0 d_RU_hasTrapped_1 ?_
    refine lv_iconst (v := (1 : Int32)) hx hb d_RU_hasTrapped_4 (by decide) ?_
    refine lv_icmp_lt (tgt := 20) hx hb d_RU_hasTrapped_5 rfl (fun hc => ?_) (fun hc => ?_)
    · have h := if_p hc h
      refine lv_iconst (v := (0 : Int32)) hx hb d_RU_hasTrapped_20 (by decide) ?_
      obtain rfl := Option.some.inj h
      exact hret (by decide) d_RU_hasTrapped_21 g hP hS
    · have h := if_m hc h
      refine lv_aload_n hx hb d_RU_hasTrapped_8 rfl (lv_at hl 0 rfl) ?_
      refine gf_RU_32 hx hb hts hown hK hP k0 d_RU_hasTrapped_9 ?_
      refine lv_iconst (v := (4 : Int32)) hx hb d_RU_hasTrapped_12 (by decide) ?_
      refine lv_icmp_gt (tgt := 20) hx hb d_RU_hasTrapped_13 rfl (fun hc => ?_) (fun hc => ?_)
      · have h := if_p hc h
        refine lv_iconst (v := (0 : Int32)) hx hb d_RU_hasTrapped_20 (by decide) ?_
        obtain rfl := Option.some.inj h
        exact hret (by decide) d_RU_hasTrapped_21 g hP hS
      · have h := if_m hc h
        refine lv_iconst (v := (1 : Int32)) hx hb d_RU_hasTrapped_16 (by decide) ?_
        refine lv_goto (tgt := 21) hx hb d_RU_hasTrapped_17 rfl ?_
        obtain rfl := Option.some.inj h
        exact hret (by decide) d_RU_hasTrapped_21 g hP hS
  rw [eH] at key
  exact key
theorem d_RU_onStack_0 : decode b_RU_onStack 0 = .ok (.aload_n 0, 1) := by decide +kernel
theorem d_RU_onStack_1 : decode b_RU_onStack 1 = .ok (.getfield 47, 3) := by decide +kernel
theorem d_RU_onStack_4 : decode b_RU_onStack 4 = .ok (.iconst 1, 1) := by decide +kernel
theorem d_RU_onStack_5 : decode b_RU_onStack 5 = .ok (.isub, 1) := by decide +kernel
theorem d_RU_onStack_6 : decode b_RU_onStack 6 = .ok (.iload_n 1, 1) := by decide +kernel
theorem d_RU_onStack_7 : decode b_RU_onStack 7 = .ok (.isub, 1) := by decide +kernel
theorem d_RU_onStack_8 : decode b_RU_onStack 8 = .ok (.istore_n 2, 1) := by decide +kernel
theorem d_RU_onStack_9 : decode b_RU_onStack 9 = .ok (.iload_n 1, 1) := by decide +kernel
theorem d_RU_onStack_10 : decode b_RU_onStack 10 = .ok (.ifCond .lt 16, 3) := by decide +kernel
theorem d_RU_onStack_13 : decode b_RU_onStack 13 = .ok (.iload_n 2, 1) := by decide +kernel
theorem d_RU_onStack_14 : decode b_RU_onStack 14 = .ok (.ifCond .lt 12, 3) := by decide +kernel
theorem d_RU_onStack_17 : decode b_RU_onStack 17 = .ok (.aload_n 0, 1) := by decide +kernel
theorem d_RU_onStack_18 : decode b_RU_onStack 18 = .ok (.getfield 20, 3) := by decide +kernel
theorem d_RU_onStack_21 : decode b_RU_onStack 21 = .ok (.iload_n 2, 1) := by decide +kernel
theorem d_RU_onStack_22 : decode b_RU_onStack 22 = .ok (.iaload, 1) := by decide +kernel
theorem d_RU_onStack_23 : decode b_RU_onStack 23 = .ok (.goto 4, 3) := by decide +kernel
theorem d_RU_onStack_26 : decode b_RU_onStack 26 = .ok (.iconst 0, 1) := by decide +kernel
theorem d_RU_onStack_27 : decode b_RU_onStack 27 = .ok (.ireturn, 1) := by decide +kernel
noncomputable def s_RU_onStack (j0 : Nat) (a1 : Int32) (M : Mem) : Option (Int32 × Mem) :=
  nx (((M j0 6) - (1 : Int32)) - a1) (fun v21 => if a1 < 0 then (some ((0 : Int32), M)) else (if v21 < 0 then (some ((0 : Int32), M)) else (ck v21 3 (some (M (j0 + 3) v21.toNatClampNeg, M)))))
set_option maxHeartbeats 4000000 in
set_option maxRecDepth 100000 in
theorem c_RU_onStack (l : Launch) (x : Cx) (hJ : Inj x) (j0 : Nat) (k0 : kd_run j0) (a1 : Int32) {M : Mem} {out : Int32 × Mem} (h : s_RU_onStack j0 a1 M = some out) : Ci l x y_RU_onStack (Cond.code y_RU_onStack b_RU_onStack 3 (some .int) :: tb) r_RU_onStack [.ref (x.2.1 j0), .int a1] M out := by
  refine ofCi (cc := b_RU_onStack) (maxL := 3) (by decide) rfl (rfl) (Nat.le_of_ble_eq_true rfl) ?_
  intro p e s m args below meth c Q G0 ls g hx hb hml hown hts hK hZ hP hS hl hret
  have hown : s.vm.findClass R_RU = some m.cls := hown
  have hl : lv_has ls 3 [(0, .ref (x.2.1 j0)), (1, .int a1)] := hl
  obtain ⟨H, eH⟩ : ∃ z, z = s.heap := ⟨_, rfl⟩
  obtain ⟨locs, eL⟩ : ∃ z, z = ([] : List Loc) := ⟨_, rfl⟩
  rw [← eH] at hP
  have hS : va_S (A0 x) s.heap H locs := by rw [eH, eL]; exact hS
  rw [← eL]
  have key : W p l e r_RU_onStack s m args below meth c H locs 0 0 Q (F0 m 0 ls []) := by
    clear eH eL
    unfold s_RU_onStack at h
    refine lv_aload_n hx hb d_RU_onStack_0 rfl (lv_at hl 0 rfl) ?_
    refine gf_RU_47 hx hb hts hown hK hP k0 d_RU_onStack_1 ?_
    refine lv_iconst (v := (1 : Int32)) hx hb d_RU_onStack_4 (by decide) ?_
    refine lv_isub hx hb d_RU_onStack_5 ?_
    refine lv_iload_n hx hb d_RU_onStack_6 rfl (lv_at hl 1 rfl) ?_
    refine lv_isub hx hb d_RU_onStack_7 ?_
    obtain ⟨v21, ev21, h⟩ := nx_e h
    refine tp_i ev21 ?_
    refine lv_istore_n hx hb d_RU_onStack_8 rfl hl (by decide) rfl (fun ls hl => ?_)
    have hl : lv_has ls 3 [(2, .int v21), (0, .ref (x.2.1 j0)), (1, .int a1)] := hl
    refine lv_iload_n hx hb d_RU_onStack_9 rfl (lv_at hl 2 rfl) ?_
    refine lv_if_lt (tgt := 26) hx hb d_RU_onStack_10 rfl (fun hc => ?_) (fun hc => ?_)
    · have h := if_p hc h
      refine lv_iconst (v := (0 : Int32)) hx hb d_RU_onStack_26 (by decide) ?_
      obtain rfl := Option.some.inj h
      exact hret d_RU_onStack_27 g hP hS
    · have h := if_m hc h
      refine lv_iload_n hx hb d_RU_onStack_13 rfl (lv_at hl 0 rfl) ?_
      refine lv_if_lt (tgt := 26) hx hb d_RU_onStack_14 rfl (fun hc => ?_) (fun hc => ?_)
      · have h := if_p hc h
        refine lv_iconst (v := (0 : Int32)) hx hb d_RU_onStack_26 (by decide) ?_
        obtain rfl := Option.some.inj h
        exact hret d_RU_onStack_27 g hP hS
      · have h := if_m hc h
        refine lv_aload_n hx hb d_RU_onStack_17 rfl (lv_at hl 1 rfl) ?_
        refine gf_RU_20 hx hb hts hown hK hP k0 d_RU_onStack_18 ?_
        refine lv_iload_n hx hb d_RU_onStack_21 rfl (lv_at hl 0 rfl) ?_
        obtain ⟨b22, h⟩ := ck_e h
        refine m_ald hx hb hK hP (ar_RU_stack k0) b22 d_RU_onStack_22 ?_
        refine lv_goto (tgt := 27) hx hb d_RU_onStack_23 rfl ?_
        obtain rfl := Option.some.inj h
        exact hret d_RU_onStack_27 g hP hS
  rw [eH] at key
  exact key
end
section
theorem d_ST_hasNews_0 : decode b_ST_hasNews 0 = .ok (.iconst 0, 1) := by decide +kernel
theorem d_ST_hasNews_1 : decode b_ST_hasNews 1 = .ok (.istore_n 2, 1) := by decide +kernel
theorem d_ST_hasNews_2 : decode b_ST_hasNews 2 = .ok (.iload_n 2, 1) := by decide +kernel
theorem d_ST_hasNews_3 : decode b_ST_hasNews 3 = .ok (.aload_n 1, 1) := by decide +kernel
theorem d_ST_hasNews_4 : decode b_ST_hasNews 4 = .ok (.getfield 34, 3) := by decide +kernel
theorem d_ST_hasNews_7 : decode b_ST_hasNews 7 = .ok (.if_icmp .ge 33, 3) := by decide +kernel
theorem d_ST_hasNews_10 : decode b_ST_hasNews 10 = .ok (.aload_n 1, 1) := by decide +kernel
theorem d_ST_hasNews_11 : decode b_ST_hasNews 11 = .ok (.getfield 39, 3) := by decide +kernel
theorem d_ST_hasNews_14 : decode b_ST_hasNews 14 = .ok (.iload_n 2, 1) := by decide +kernel
theorem d_ST_hasNews_15 : decode b_ST_hasNews 15 = .ok (.iaload, 1) := by decide +kernel
theorem d_ST_hasNews_16 : decode b_ST_hasNews 16 = .ok (.istore_n 3, 1) := by decide +kernel
theorem d_ST_hasNews_17 : decode b_ST_hasNews 17 = .ok (.aload_n 0, 1) := by decide +kernel
theorem d_ST_hasNews_18 : decode b_ST_hasNews 18 = .ok (.getfield 19, 3) := by decide +kernel
theorem d_ST_hasNews_21 : decode b_ST_hasNews 21 = .ok (.iload_n 3, 1) := by decide +kernel
theorem d_ST_hasNews_22 : decode b_ST_hasNews 22 = .ok (.iaload, 1) := by decide +kernel
theorem d_ST_hasNews_23 : decode b_ST_hasNews 23 = .ok (.aload_n 1, 1) := by decide +kernel
theorem d_ST_hasNews_24 : decode b_ST_hasNews 24 = .ok (.iload_n 3, 1) := by decide +kernel
theorem d_ST_hasNews_25 : decode b_ST_hasNews 25 = .ok (.invokevirtual 42, 3) := by decide +kernel
theorem d_ST_hasNews_28 : decode b_ST_hasNews 28 = .ok (.iand, 1) := by decide +kernel
theorem d_ST_hasNews_29 : decode b_ST_hasNews 29 = .ok (.ifCond .ne 5, 3) := by decide +kernel
theorem d_ST_hasNews_32 : decode b_ST_hasNews 32 = .ok (.iconst 1, 1) := by decide +kernel
theorem d_ST_hasNews_33 : decode b_ST_hasNews 33 = .ok (.ireturn, 1) := by decide +kernel
theorem d_ST_hasNews_34 : decode b_ST_hasNews 34 = .ok (.iinc 2 1, 3) := by decide +kernel
theorem d_ST_hasNews_37 : decode b_ST_hasNews 37 = .ok (.goto (-35), 3) := by decide +kernel
theorem d_ST_hasNews_40 : decode b_ST_hasNews 40 = .ok (.iconst 0, 1) := by decide +kernel
theorem d_ST_hasNews_41 : decode b_ST_hasNews 41 = .ok (.ireturn, 1) := by decide +kernel
noncomputable def l_ST_hasNews_2 (j1 : Nat) (v22 : Int32) (M23 : Mem) : Option ((Int32 × Mem) ⊕ (Int32 × Mem)) :=
  if (M23 j1 5) ≤ v22 then (some (.inr ((0 : Int32), M23))) else (ck v22 64 (nx (M23 (j1 + 5) v22.toNatClampNeg) (fun v25 => ck v25 576 (bi (s_RU_pairBit j1 v25 M23) (fun r29 M27 => if ((M23 7 v25.toNatClampNeg) &&& r29) = 0 then (some (.inr ((1 : Int32), M27))) else (nx (v22 + (1 : Int32)) (fun v30 => some (.inl (v30, M27)))))))))
noncomputable def s_ST_hasNews (j1 : Nat) (M : Mem) : Option (Int32 × Mem) :=
  nx ((0 : Int32)) (fun v21 => lp (fun q : Int32 × Mem => l_ST_hasNews_2 j1 q.1 q.2) (v21, M))
set_option maxHeartbeats 4000000 in
set_option maxRecDepth 100000 in
theorem c_ST_hasNews (l : Launch) (x : Cx) (hJ : Inj x) (j1 : Nat) (k1 : kd_run j1) {M : Mem} {out : Int32 × Mem} (h : s_ST_hasNews j1 M = some out) : Ci l x y_ST_hasNews (Cond.code y_ST_hasNews b_ST_hasNews 4 (some .boolean) :: tb) r_ST_hasNews [.ref (x.2.1 5), .ref (x.2.1 j1)] M out := by
  refine ofCz (cc := b_ST_hasNews) (maxL := 4) (by decide) rfl (rfl) (Nat.le_of_ble_eq_true rfl) ?_
  intro p e s m args below meth c Q G0 ls g hx hb hml hown hts hK hZ hP hS hl hret
  have hown : s.vm.findClass R_ST = some m.cls := hown
  have hl : lv_has ls 4 [(0, .ref (x.2.1 5)), (1, .ref (x.2.1 j1))] := hl
  obtain ⟨H, eH⟩ : ∃ z, z = s.heap := ⟨_, rfl⟩
  obtain ⟨locs, eL⟩ : ∃ z, z = ([] : List Loc) := ⟨_, rfl⟩
  rw [← eH] at hP
  have hS : va_S (A0 x) s.heap H locs := by rw [eH, eL]; exact hS
  rw [← eL]
  have key : W p l e r_ST_hasNews s m args below meth c H locs 0 0 Q (F0 m 0 ls []) := by
    clear eH eL
    unfold s_ST_hasNews at h
    refine lv_iconst (v := (0 : Int32)) hx hb d_ST_hasNews_0 (by decide) ?_
    obtain ⟨v21, ev21, h⟩ := nx_e h
    refine tp_i ev21 ?_
    refine lv_istore_n hx hb d_ST_hasNews_1 rfl hl (by decide) rfl (fun ls hl => ?_)
    have hl : lv_has ls 4 [(2, .int v21), (0, .ref (x.2.1 5)), (1, .ref (x.2.1 j1))] := hl
    obtain ⟨P2, eP2⟩ : ∃ P : (Int32 × Mem) → Prop, P = (fun q => ∀ (H : Heap) (locs : List Loc) (ls : Array Slot), va_P x.1 vwCl (wld x (q.2)) H → va_S (A0 x) s.heap H locs → lv_has ls 4 [(0, .ref (x.2.1 5)), (1, .ref (x.2.1 j1)), (2, .int (q.1))] → W p l e r_ST_hasNews s m args below meth c H locs 0 0 Q (F0 m 2 ls [])) := ⟨_, rfl⟩
    have L2 : P2 (v21, M) := by
      refine lp_walk (G := G0) ?_ h g
      intro q res h g
      obtain ⟨v22, M23⟩ := q
      rw [eP2]
      intro H locs ls hP hS hl
      have hP : va_P x.1 vwCl (wld x M23) H := hP
      have hl : lv_has ls 4 [(0, .ref (x.2.1 5)), (1, .ref (x.2.1 j1)), (2, .int v22)] := hl
      have h : l_ST_hasNews_2 j1 v22 M23 = some res := h
      unfold l_ST_hasNews_2 at h
      refine lv_iload_n hx hb d_ST_hasNews_2 rfl (lv_at hl 2 rfl) ?_
      refine lv_aload_n hx hb d_ST_hasNews_3 rfl (lv_at hl 1 rfl) ?_
      refine gf_ST_34 hx hb hts hown hK hP k1 d_ST_hasNews_4 ?_
      refine lv_icmp_ge (tgt := 40) hx hb d_ST_hasNews_7 rfl (fun hc => ?_) (fun hc => ?_)
      · have h := if_p hc h
        refine lv_iconst (v := (0 : Int32)) hx hb d_ST_hasNews_40 (by decide) ?_
        obtain rfl := Option.some.inj h
        exact hret (by decide) d_ST_hasNews_41 g hP hS
      · have h := if_m hc h
        refine lv_aload_n hx hb d_ST_hasNews_10 rfl (lv_at hl 1 rfl) ?_
        refine gf_ST_39 hx hb hts hown hK hP k1 d_ST_hasNews_11 ?_
        refine lv_iload_n hx hb d_ST_hasNews_14 rfl (lv_at hl 2 rfl) ?_
        obtain ⟨b24, h⟩ := ck_e h
        refine m_ald hx hb hK hP (ar_RU_edges k1) b24 d_ST_hasNews_15 ?_
        obtain ⟨v25, ev25, h⟩ := nx_e h
        refine tp_i ev25 ?_
        refine lv_istore_n hx hb d_ST_hasNews_16 rfl hl (by decide) rfl (fun ls hl => ?_)
        have hl : lv_has ls 4 [(3, .int v25), (0, .ref (x.2.1 5)), (1, .ref (x.2.1 j1)), (2, .int v22)] := hl
        refine lv_aload_n hx hb d_ST_hasNews_17 rfl (lv_at hl 1 rfl) ?_
        refine gf_ST_19 hx hb hts hown hK hP d_ST_hasNews_18 ?_
        refine lv_iload_n hx hb d_ST_hasNews_21 rfl (lv_at hl 0 rfl) ?_
        obtain ⟨b26, h⟩ := ck_e h
        refine m_ald hx hb hK hP ar_ST_buckets b26 d_ST_hasNews_22 ?_
        refine lv_aload_n hx hb d_ST_hasNews_23 rfl (lv_at hl 2 rfl) ?_
        refine lv_iload_n hx hb d_ST_hasNews_24 rfl (lv_at hl 0 rfl) ?_
        obtain ⟨r29, M27, c28, h⟩ := bi_e h
        refine cl_ST_42 (rest := [.int (M23 7 v25.toNatClampNeg)]) (R := r_ST_hasNews) (c_RU_pairBit l x hJ j1 k1 v25 c28) k1 hx hb hml hts hown hK hZ hP hS hl.1 (Nat.le_of_ble_eq_true rfl) (Nat.le_of_ble_eq_true rfl) (Nat.le_of_ble_eq_true rfl) ⟨rfl, rfl, Nat.zero_le _, Nat.zero_le _⟩ d_ST_hasNews_25 (fun H locs hP hS => ?_)
        refine lv_iand hx hb d_ST_hasNews_28 ?_
        refine lv_if_ne (tgt := 34) hx hb d_ST_hasNews_29 rfl (fun hc => ?_) (fun hc => ?_)
        · have h := if_m hc h
          obtain ⟨v30, ev30, h⟩ := nx_e h
          refine lv_iinc (k := 3) hx hb d_ST_hasNews_34 hl rfl (iinc_v (k := (1 : Int32)) (by decide) ev30) (by decide) rfl (fun ls hl => ?_)
          have hl : lv_has ls 4 [(2, .int v30), (3, .int v25), (0, .ref (x.2.1 5)), (1, .ref (x.2.1 j1))] := hl
          refine lv_goto (tgt := 2) hx hb d_ST_hasNews_37 rfl ?_
          obtain rfl := Option.some.inj h
          have g : P2 (v30, M27) := g
          rw [eP2] at g
          exact g H locs ls hP hS (lv_sub hl [2, 3, 0] rfl)
        · have h := if_p hc h
          refine lv_iconst (v := (1 : Int32)) hx hb d_ST_hasNews_32 (by decide) ?_
          obtain rfl := Option.some.inj h
          exact hret (by decide) d_ST_hasNews_33 g hP hS
    rw [eP2] at L2
    exact L2 H locs ls hP hS (lv_sub hl [1, 2, 0] rfl)
  rw [eH] at key
  exact key
theorem d_ST_markSeen_0 : decode b_ST_markSeen 0 = .ok (.aload_n 0, 1) := by decide +kernel
theorem d_ST_markSeen_1 : decode b_ST_markSeen 1 = .ok (.getfield 19, 3) := by decide +kernel
theorem d_ST_markSeen_4 : decode b_ST_markSeen 4 = .ok (.iload_n 1, 1) := by decide +kernel
theorem d_ST_markSeen_5 : decode b_ST_markSeen 5 = .ok (.iaload, 1) := by decide +kernel
theorem d_ST_markSeen_6 : decode b_ST_markSeen 6 = .ok (.ifCond .ne 13, 3) := by decide +kernel
theorem d_ST_markSeen_9 : decode b_ST_markSeen 9 = .ok (.aload_n 0, 1) := by decide +kernel
theorem d_ST_markSeen_10 : decode b_ST_markSeen 10 = .ok (.dup, 1) := by decide +kernel
theorem d_ST_markSeen_11 : decode b_ST_markSeen 11 = .ok (.getfield 68, 3) := by decide +kernel
theorem d_ST_markSeen_14 : decode b_ST_markSeen 14 = .ok (.iconst 1, 1) := by decide +kernel
theorem d_ST_markSeen_15 : decode b_ST_markSeen 15 = .ok (.iadd, 1) := by decide +kernel
theorem d_ST_markSeen_16 : decode b_ST_markSeen 16 = .ok (.putfield 68, 3) := by decide +kernel
theorem d_ST_markSeen_19 : decode b_ST_markSeen 19 = .ok (.aload_n 0, 1) := by decide +kernel
theorem d_ST_markSeen_20 : decode b_ST_markSeen 20 = .ok (.getfield 19, 3) := by decide +kernel
theorem d_ST_markSeen_23 : decode b_ST_markSeen 23 = .ok (.iload_n 1, 1) := by decide +kernel
theorem d_ST_markSeen_24 : decode b_ST_markSeen 24 = .ok (.iaload, 1) := by decide +kernel
theorem d_ST_markSeen_25 : decode b_ST_markSeen 25 = .ok (.iload_n 2, 1) := by decide +kernel
theorem d_ST_markSeen_26 : decode b_ST_markSeen 26 = .ok (.iand, 1) := by decide +kernel
theorem d_ST_markSeen_27 : decode b_ST_markSeen 27 = .ok (.ifCond .ne 13, 3) := by decide +kernel
theorem d_ST_markSeen_30 : decode b_ST_markSeen 30 = .ok (.aload_n 0, 1) := by decide +kernel
theorem d_ST_markSeen_31 : decode b_ST_markSeen 31 = .ok (.dup, 1) := by decide +kernel
theorem d_ST_markSeen_32 : decode b_ST_markSeen 32 = .ok (.getfield 71, 3) := by decide +kernel
theorem d_ST_markSeen_35 : decode b_ST_markSeen 35 = .ok (.iconst 1, 1) := by decide +kernel
theorem d_ST_markSeen_36 : decode b_ST_markSeen 36 = .ok (.iadd, 1) := by decide +kernel
theorem d_ST_markSeen_37 : decode b_ST_markSeen 37 = .ok (.putfield 71, 3) := by decide +kernel
theorem d_ST_markSeen_40 : decode b_ST_markSeen 40 = .ok (.aload_n 0, 1) := by decide +kernel
theorem d_ST_markSeen_41 : decode b_ST_markSeen 41 = .ok (.getfield 19, 3) := by decide +kernel
theorem d_ST_markSeen_44 : decode b_ST_markSeen 44 = .ok (.iload_n 1, 1) := by decide +kernel
theorem d_ST_markSeen_45 : decode b_ST_markSeen 45 = .ok (.dup2, 1) := by decide +kernel
theorem d_ST_markSeen_46 : decode b_ST_markSeen 46 = .ok (.iaload, 1) := by decide +kernel
theorem d_ST_markSeen_47 : decode b_ST_markSeen 47 = .ok (.iload_n 2, 1) := by decide +kernel
theorem d_ST_markSeen_48 : decode b_ST_markSeen 48 = .ok (.ior, 1) := by decide +kernel
theorem d_ST_markSeen_49 : decode b_ST_markSeen 49 = .ok (.iastore, 1) := by decide +kernel
theorem d_ST_markSeen_50 : decode b_ST_markSeen 50 = .ok (.aload_n 0, 1) := by decide +kernel
theorem d_ST_markSeen_51 : decode b_ST_markSeen 51 = .ok (.getfield 23, 3) := by decide +kernel
theorem d_ST_markSeen_54 : decode b_ST_markSeen 54 = .ok (.iload_n 1, 1) := by decide +kernel
theorem d_ST_markSeen_55 : decode b_ST_markSeen 55 = .ok (.dup2, 1) := by decide +kernel
theorem d_ST_markSeen_56 : decode b_ST_markSeen 56 = .ok (.iaload, 1) := by decide +kernel
theorem d_ST_markSeen_57 : decode b_ST_markSeen 57 = .ok (.iconst 1, 1) := by decide +kernel
theorem d_ST_markSeen_58 : decode b_ST_markSeen 58 = .ok (.aload_n 0, 1) := by decide +kernel
theorem d_ST_markSeen_59 : decode b_ST_markSeen 59 = .ok (.getfield 27, 3) := by decide +kernel
theorem d_ST_markSeen_62 : decode b_ST_markSeen 62 = .ok (.ishl, 1) := by decide +kernel
theorem d_ST_markSeen_63 : decode b_ST_markSeen 63 = .ok (.ior, 1) := by decide +kernel
theorem d_ST_markSeen_64 : decode b_ST_markSeen 64 = .ok (.iastore, 1) := by decide +kernel
theorem d_ST_markSeen_65 : decode b_ST_markSeen 65 = .ok (.return_, 1) := by decide +kernel
noncomputable def j_ST_markSeen_40 (a21 : Int32) (a22 : Int32) (M23 : Mem) : Option (Mem) :=
  ck a21 576 (ck a21 576 (nx (st M23 7 a21.toNatClampNeg ((M23 7 a21.toNatClampNeg) ||| a22)) (fun M26 => ck a21 576 (ck a21 576 (nx (st M26 8 a21.toNatClampNeg ((M26 8 a21.toNatClampNeg) ||| ((1 : Int32) <<< ((M26 5 3) &&& 31)))) (fun M29 => some M29))))))
noncomputable def j_ST_markSeen_19 (a30 : Int32) (a31 : Int32) (M32 : Mem) : Option (Mem) :=
  ck a30 576 (if ((M32 7 a30.toNatClampNeg) &&& a31) = 0 then (nx (st M32 5 6 ((M32 5 6) + (1 : Int32))) (fun M34 => j_ST_markSeen_40 a30 a31 M34)) else (j_ST_markSeen_40 a30 a31 M32))
noncomputable def s_ST_markSeen (a1 : Int32) (a2 : Int32) (M : Mem) : Option (Mem) :=
  ck a1 576 (if (M 7 a1.toNatClampNeg) = 0 then (nx (st M 5 5 ((M 5 5) + (1 : Int32))) (fun M36 => j_ST_markSeen_19 a1 a2 M36)) else (j_ST_markSeen_19 a1 a2 M))
set_option maxHeartbeats 4000000 in
set_option maxRecDepth 100000 in
theorem c_ST_markSeen (l : Launch) (x : Cx) (hJ : Inj x) (a1 : Int32) (a2 : Int32) {M : Mem} {out : Mem} (h : s_ST_markSeen a1 a2 M = some out) : Cv l x y_ST_markSeen (Cond.code y_ST_markSeen b_ST_markSeen 3 none :: tb) r_ST_markSeen [.ref (x.2.1 5), .int a1, .int a2] M out := by
  refine ofCv (cc := b_ST_markSeen) (maxL := 3) (by decide) rfl (rfl) (Nat.le_of_ble_eq_true rfl) ?_
  intro p e s m args below meth c Q G0 ls g hx hb hml hown hts hK hZ hP hS hl hret
  have hown : s.vm.findClass R_ST = some m.cls := hown
  have hl : lv_has ls 3 [(0, .ref (x.2.1 5)), (1, .int a1), (2, .int a2)] := hl
  obtain ⟨H, eH⟩ : ∃ z, z = s.heap := ⟨_, rfl⟩
  obtain ⟨locs, eL⟩ : ∃ z, z = ([] : List Loc) := ⟨_, rfl⟩
  rw [← eH] at hP
  have hS : va_S (A0 x) s.heap H locs := by rw [eH, eL]; exact hS
  rw [← eL]
  have key : W p l e r_ST_markSeen s m args below meth c H locs 0 0 Q (F0 m 0 ls []) := by
    clear eH eL
    unfold s_ST_markSeen at h
    have J40 : ∀ (a21 : Int32) (a22 : Int32) (M23 : Mem)  (res : Mem) (h : j_ST_markSeen_40 a21 a22 M23 = some res) (g : G0 res) (H : Heap) (locs : List Loc) (ls : Array Slot) (hP : va_P x.1 vwCl (wld x M23) H) (hS : va_S (A0 x) s.heap H locs) (hl : lv_has ls 3 [(0, .ref (x.2.1 5)), (1, .int a21), (2, .int a22)]), W p l e r_ST_markSeen s m args below meth c H locs 0 0 Q (F0 m 40 ls []) := by
      intro a21 a22 M23 res h g H locs ls hP hS hl
      unfold j_ST_markSeen_40 at h
      refine lv_aload_n hx hb d_ST_markSeen_40 rfl (lv_at hl 0 rfl) ?_
      refine gf_ST_19 hx hb hts hown hK hP d_ST_markSeen_41 ?_
      refine lv_iload_n hx hb d_ST_markSeen_44 rfl (lv_at hl 1 rfl) ?_
      refine lv_dup2_11 hx hb d_ST_markSeen_45 rfl rfl ?_
      obtain ⟨b24, h⟩ := ck_e h
      refine m_ald hx hb hK hP ar_ST_buckets b24 d_ST_markSeen_46 ?_
      refine lv_iload_n hx hb d_ST_markSeen_47 rfl (lv_at hl 2 rfl) ?_
      refine lv_ior hx hb d_ST_markSeen_48 ?_
      obtain ⟨b25, h⟩ := ck_e h
      obtain ⟨M26, eM26, h⟩ := nx_e h
      refine m_ast hx hb hK hJ hP hS ar_ST_buckets b25 eM26 d_ST_markSeen_49 (fun H locs hP hS => ?_)
      refine lv_aload_n hx hb d_ST_markSeen_50 rfl (lv_at hl 0 rfl) ?_
      refine gf_ST_23 hx hb hts hown hK hP d_ST_markSeen_51 ?_
      refine lv_iload_n hx hb d_ST_markSeen_54 rfl (lv_at hl 1 rfl) ?_
      refine lv_dup2_11 hx hb d_ST_markSeen_55 rfl rfl ?_
      obtain ⟨b27, h⟩ := ck_e h
      refine m_ald hx hb hK hP ar_ST_goers b27 d_ST_markSeen_56 ?_
      refine lv_iconst (v := (1 : Int32)) hx hb d_ST_markSeen_57 (by decide) ?_
      refine lv_aload_n hx hb d_ST_markSeen_58 rfl (lv_at hl 0 rfl) ?_
      refine gf_ST_27 hx hb hts hown hK hP d_ST_markSeen_59 ?_
      refine lv_ishl hx hb d_ST_markSeen_62 ?_
      refine lv_ior hx hb d_ST_markSeen_63 ?_
      obtain ⟨b28, h⟩ := ck_e h
      obtain ⟨M29, eM29, h⟩ := nx_e h
      refine m_ast hx hb hK hJ hP hS ar_ST_goers b28 eM29 d_ST_markSeen_64 (fun H locs hP hS => ?_)
      obtain rfl := Option.some.inj h
      exact hret d_ST_markSeen_65 g hP hS
    have J19 : ∀ (a30 : Int32) (a31 : Int32) (M32 : Mem)  (res : Mem) (h : j_ST_markSeen_19 a30 a31 M32 = some res) (g : G0 res) (H : Heap) (locs : List Loc) (ls : Array Slot) (hP : va_P x.1 vwCl (wld x M32) H) (hS : va_S (A0 x) s.heap H locs) (hl : lv_has ls 3 [(0, .ref (x.2.1 5)), (1, .int a30), (2, .int a31)]), W p l e r_ST_markSeen s m args below meth c H locs 0 0 Q (F0 m 19 ls []) := by
      intro a30 a31 M32 res h g H locs ls hP hS hl
      unfold j_ST_markSeen_19 at h
      refine lv_aload_n hx hb d_ST_markSeen_19 rfl (lv_at hl 0 rfl) ?_
      refine gf_ST_19 hx hb hts hown hK hP d_ST_markSeen_20 ?_
      refine lv_iload_n hx hb d_ST_markSeen_23 rfl (lv_at hl 1 rfl) ?_
      obtain ⟨b33, h⟩ := ck_e h
      refine m_ald hx hb hK hP ar_ST_buckets b33 d_ST_markSeen_24 ?_
      refine lv_iload_n hx hb d_ST_markSeen_25 rfl (lv_at hl 2 rfl) ?_
      refine lv_iand hx hb d_ST_markSeen_26 ?_
      refine lv_if_ne (tgt := 40) hx hb d_ST_markSeen_27 rfl (fun hc => ?_) (fun hc => ?_)
      · have h := if_m hc h
        exact J40 a30 a31 M32 _ h g H locs ls hP hS (lv_sub hl [0, 1, 2] rfl)
      · have h := if_p hc h
        refine lv_aload_n hx hb d_ST_markSeen_30 rfl (lv_at hl 0 rfl) ?_
        refine lv_dup hx hb d_ST_markSeen_31 rfl ?_
        refine gf_ST_71 hx hb hts hown hK hP d_ST_markSeen_32 ?_
        refine lv_iconst (v := (1 : Int32)) hx hb d_ST_markSeen_35 (by decide) ?_
        refine lv_iadd hx hb d_ST_markSeen_36 ?_
        obtain ⟨M34, eM34, h⟩ := nx_e h
        refine pf_ST_71 hx hb hts hown hK hJ hP hS eM34 d_ST_markSeen_37 (fun H locs hP hS => ?_)
        exact J40 a30 a31 M34 _ h g H locs ls hP hS (lv_sub hl [0, 1, 2] rfl)
    refine lv_aload_n hx hb d_ST_markSeen_0 rfl (lv_at hl 0 rfl) ?_
    refine gf_ST_19 hx hb hts hown hK hP d_ST_markSeen_1 ?_
    refine lv_iload_n hx hb d_ST_markSeen_4 rfl (lv_at hl 1 rfl) ?_
    obtain ⟨b35, h⟩ := ck_e h
    refine m_ald hx hb hK hP ar_ST_buckets b35 d_ST_markSeen_5 ?_
    refine lv_if_ne (tgt := 19) hx hb d_ST_markSeen_6 rfl (fun hc => ?_) (fun hc => ?_)
    · have h := if_m hc h
      exact J19 a1 a2 M _ h g H locs ls hP hS (lv_sub hl [0, 1, 2] rfl)
    · have h := if_p hc h
      refine lv_aload_n hx hb d_ST_markSeen_9 rfl (lv_at hl 0 rfl) ?_
      refine lv_dup hx hb d_ST_markSeen_10 rfl ?_
      refine gf_ST_68 hx hb hts hown hK hP d_ST_markSeen_11 ?_
      refine lv_iconst (v := (1 : Int32)) hx hb d_ST_markSeen_14 (by decide) ?_
      refine lv_iadd hx hb d_ST_markSeen_15 ?_
      obtain ⟨M36, eM36, h⟩ := nx_e h
      refine pf_ST_68 hx hb hts hown hK hJ hP hS eM36 d_ST_markSeen_16 (fun H locs hP hS => ?_)
      exact J19 a1 a2 M36 _ h g H locs ls hP hS (lv_sub hl [0, 1, 2] rfl)
  rw [eH] at key
  exact key
theorem d_ST_top_0 : decode b_ST_top 0 = .ok (.iconst (-1), 1) := by decide +kernel
theorem d_ST_top_1 : decode b_ST_top 1 = .ok (.istore_n 2, 1) := by decide +kernel
theorem d_ST_top_2 : decode b_ST_top 2 = .ok (.iconst 0, 1) := by decide +kernel
theorem d_ST_top_3 : decode b_ST_top 3 = .ok (.istore_n 3, 1) := by decide +kernel
theorem d_ST_top_4 : decode b_ST_top 4 = .ok (.iload_n 3, 1) := by decide +kernel
theorem d_ST_top_5 : decode b_ST_top 5 = .ok (.aload_n 0, 1) := by decide +kernel
theorem d_ST_top_6 : decode b_ST_top 6 = .ok (.getfield 27, 3) := by decide +kernel
theorem d_ST_top_9 : decode b_ST_top 9 = .ok (.if_icmp .ge 58, 3) := by decide +kernel
theorem d_ST_top_12 : decode b_ST_top 12 = .ok (.iload_n 1, 1) := by decide +kernel
theorem d_ST_top_13 : decode b_ST_top 13 = .ok (.iload_n 3, 1) := by decide +kernel
theorem d_ST_top_14 : decode b_ST_top 14 = .ok (.ishr, 1) := by decide +kernel
theorem d_ST_top_15 : decode b_ST_top 15 = .ok (.iconst 1, 1) := by decide +kernel
theorem d_ST_top_16 : decode b_ST_top 16 = .ok (.iand, 1) := by decide +kernel
theorem d_ST_top_17 : decode b_ST_top 17 = .ok (.iconst 1, 1) := by decide +kernel
theorem d_ST_top_18 : decode b_ST_top 18 = .ok (.if_icmp .ne 7, 3) := by decide +kernel
theorem d_ST_top_21 : decode b_ST_top 21 = .ok (.iconst 1, 1) := by decide +kernel
theorem d_ST_top_22 : decode b_ST_top 22 = .ok (.goto 4, 3) := by decide +kernel
theorem d_ST_top_25 : decode b_ST_top 25 = .ok (.iconst 0, 1) := by decide +kernel
theorem d_ST_top_26 : decode b_ST_top 26 = .ok (.istore 4, 2) := by decide +kernel
theorem d_ST_top_28 : decode b_ST_top 28 = .ok (.iload 4, 2) := by decide +kernel
theorem d_ST_top_30 : decode b_ST_top 30 = .ok (.ifCond .eq 31, 3) := by decide +kernel
theorem d_ST_top_33 : decode b_ST_top 33 = .ok (.iload_n 2, 1) := by decide +kernel
theorem d_ST_top_34 : decode b_ST_top 34 = .ok (.iconst (-1), 1) := by decide +kernel
theorem d_ST_top_35 : decode b_ST_top 35 = .ok (.if_icmp .eq 24, 3) := by decide +kernel
theorem d_ST_top_38 : decode b_ST_top 38 = .ok (.aload_n 0, 1) := by decide +kernel
theorem d_ST_top_39 : decode b_ST_top 39 = .ok (.getfield 13, 3) := by decide +kernel
theorem d_ST_top_42 : decode b_ST_top 42 = .ok (.iload_n 3, 1) := by decide +kernel
theorem d_ST_top_43 : decode b_ST_top 43 = .ok (.aaload, 1) := by decide +kernel
theorem d_ST_top_44 : decode b_ST_top 44 = .ok (.invokevirtual 77, 3) := by decide +kernel
theorem d_ST_top_47 : decode b_ST_top 47 = .ok (.aload_n 0, 1) := by decide +kernel
theorem d_ST_top_48 : decode b_ST_top 48 = .ok (.getfield 13, 3) := by decide +kernel
theorem d_ST_top_51 : decode b_ST_top 51 = .ok (.iload_n 2, 1) := by decide +kernel
theorem d_ST_top_52 : decode b_ST_top 52 = .ok (.aaload, 1) := by decide +kernel
theorem d_ST_top_53 : decode b_ST_top 53 = .ok (.invokevirtual 77, 3) := by decide +kernel
theorem d_ST_top_56 : decode b_ST_top 56 = .ok (.if_icmp .ge 5, 3) := by decide +kernel
theorem d_ST_top_59 : decode b_ST_top 59 = .ok (.iload_n 3, 1) := by decide +kernel
theorem d_ST_top_60 : decode b_ST_top 60 = .ok (.istore_n 2, 1) := by decide +kernel
theorem d_ST_top_61 : decode b_ST_top 61 = .ok (.iinc 3 1, 3) := by decide +kernel
theorem d_ST_top_64 : decode b_ST_top 64 = .ok (.goto (-60), 3) := by decide +kernel
theorem d_ST_top_67 : decode b_ST_top 67 = .ok (.iload_n 2, 1) := by decide +kernel
theorem d_ST_top_68 : decode b_ST_top 68 = .ok (.ireturn, 1) := by decide +kernel
noncomputable def j_ST_top_61 (a1 : Int32) (a26 : Int32) (a27 : Int32) (M28 : Mem) : Option ((Int32 × Int32 × Mem) ⊕ (Int32 × Mem)) :=
  nx (a27 + (1 : Int32)) (fun v29 => some (.inl (a26, v29, M28)))
noncomputable def j_ST_top_59 (a1 : Int32) (a30 : Int32) (M31 : Mem) : Option ((Int32 × Int32 × Mem) ⊕ (Int32 × Mem)) :=
  j_ST_top_61 a1 a30 a30 M31
noncomputable def j_ST_top_26 (a1 : Int32) (a32 : Int32) (a33 : Int32) (a34 : Int32) (M35 : Mem) : Option ((Int32 × Int32 × Mem) ⊕ (Int32 × Mem)) :=
  if a34 = 0 then (j_ST_top_61 a1 a32 a33 M35) else (if a32 = (-1 : Int32) then (j_ST_top_59 a1 a33 M35) else (ck a33 16 (bi (s_EN_cost (122 + a33.toNatClampNeg) M35) (fun r39 M37 => ck a32 16 (bi (s_EN_cost (122 + a32.toNatClampNeg) M37) (fun r43 M41 => if r43 ≤ r39 then (j_ST_top_61 a1 a32 a33 M41) else (j_ST_top_59 a1 a33 M41)))))))
noncomputable def l_ST_top_4 (a1 : Int32) (v23 : Int32) (v24 : Int32) (M25 : Mem) : Option ((Int32 × Int32 × Mem) ⊕ (Int32 × Mem)) :=
  if (M25 5 3) ≤ v24 then (some (.inr (v23, M25))) else (if ((a1 >>> (v24 &&& 31)) &&& (1 : Int32)) = (1 : Int32) then (j_ST_top_26 a1 v23 v24 (1 : Int32) M25) else (j_ST_top_26 a1 v23 v24 (0 : Int32) M25))
noncomputable def s_ST_top (a1 : Int32) (M : Mem) : Option (Int32 × Mem) :=
  nx ((-1 : Int32)) (fun v21 => nx ((0 : Int32)) (fun v22 => lp (fun q : Int32 × Int32 × Mem => l_ST_top_4 a1 q.1 q.2.1 q.2.2) (v21, v22, M)))
set_option maxHeartbeats 4000000 in
set_option maxRecDepth 100000 in
theorem c_ST_top (l : Launch) (x : Cx) (hJ : Inj x) (a1 : Int32) {M : Mem} {out : Int32 × Mem} (h : s_ST_top a1 M = some out) : Ci l x y_ST_top (Cond.code y_ST_top b_ST_top 5 (some .int) :: tb) r_ST_top [.ref (x.2.1 5), .int a1] M out := by
  refine ofCi (cc := b_ST_top) (maxL := 5) (by decide) rfl (rfl) (Nat.le_of_ble_eq_true rfl) ?_
  intro p e s m args below meth c Q G0 ls g hx hb hml hown hts hK hZ hP hS hl hret
  have hown : s.vm.findClass R_ST = some m.cls := hown
  have hl : lv_has ls 5 [(0, .ref (x.2.1 5)), (1, .int a1)] := hl
  obtain ⟨H, eH⟩ : ∃ z, z = s.heap := ⟨_, rfl⟩
  obtain ⟨locs, eL⟩ : ∃ z, z = ([] : List Loc) := ⟨_, rfl⟩
  rw [← eH] at hP
  have hS : va_S (A0 x) s.heap H locs := by rw [eH, eL]; exact hS
  rw [← eL]
  have key : W p l e r_ST_top s m args below meth c H locs 0 0 Q (F0 m 0 ls []) := by
    clear eH eL
    unfold s_ST_top at h
    refine lv_iconst (v := (-1 : Int32)) hx hb d_ST_top_0 (by decide) ?_
    obtain ⟨v21, ev21, h⟩ := nx_e h
    refine tp_i ev21 ?_
    refine lv_istore_n hx hb d_ST_top_1 rfl hl (by decide) rfl (fun ls hl => ?_)
    have hl : lv_has ls 5 [(2, .int v21), (0, .ref (x.2.1 5)), (1, .int a1)] := hl
    refine lv_iconst (v := (0 : Int32)) hx hb d_ST_top_2 (by decide) ?_
    obtain ⟨v22, ev22, h⟩ := nx_e h
    refine tp_i ev22 ?_
    refine lv_istore_n hx hb d_ST_top_3 rfl hl (by decide) rfl (fun ls hl => ?_)
    have hl : lv_has ls 5 [(3, .int v22), (2, .int v21), (0, .ref (x.2.1 5)), (1, .int a1)] := hl
    obtain ⟨P4, eP4⟩ : ∃ P : (Int32 × Int32 × Mem) → Prop, P = (fun q => ∀ (H : Heap) (locs : List Loc) (ls : Array Slot), va_P x.1 vwCl (wld x (q.2.2)) H → va_S (A0 x) s.heap H locs → lv_has ls 5 [(0, .ref (x.2.1 5)), (1, .int a1), (2, .int (q.1)), (3, .int (q.2.1))] → W p l e r_ST_top s m args below meth c H locs 0 0 Q (F0 m 4 ls [])) := ⟨_, rfl⟩
    have L4 : P4 (v21, v22, M) := by
      refine lp_walk (G := G0) ?_ h g
      intro q res h g
      obtain ⟨v23, v24, M25⟩ := q
      rw [eP4]
      intro H locs ls hP hS hl
      have hP : va_P x.1 vwCl (wld x M25) H := hP
      have hl : lv_has ls 5 [(0, .ref (x.2.1 5)), (1, .int a1), (2, .int v23), (3, .int v24)] := hl
      have h : l_ST_top_4 a1 v23 v24 M25 = some res := h
      unfold l_ST_top_4 at h
      have J61 : ∀ (a26 : Int32) (a27 : Int32) (M28 : Mem)  (res : (Int32 × Int32 × Mem) ⊕ (Int32 × Mem)) (h : j_ST_top_61 a1 a26 a27 M28 = some res) (g : (lpG P4 G0) res) (H : Heap) (locs : List Loc) (ls : Array Slot) (hP : va_P x.1 vwCl (wld x M28) H) (hS : va_S (A0 x) s.heap H locs) (hl : lv_has ls 5 [(0, .ref (x.2.1 5)), (1, .int a1), (2, .int a26), (3, .int a27)]), W p l e r_ST_top s m args below meth c H locs 0 0 Q (F0 m 61 ls []) := by
        intro a26 a27 M28 res h g H locs ls hP hS hl
        unfold j_ST_top_61 at h
        obtain ⟨v29, ev29, h⟩ := nx_e h
        refine lv_iinc (k := 3) hx hb d_ST_top_61 hl rfl (iinc_v (k := (1 : Int32)) (by decide) ev29) (by decide) rfl (fun ls hl => ?_)
        have hl : lv_has ls 5 [(3, .int v29), (0, .ref (x.2.1 5)), (1, .int a1), (2, .int a26)] := hl
        refine lv_goto (tgt := 4) hx hb d_ST_top_64 rfl ?_
        obtain rfl := Option.some.inj h
        have g : P4 (a26, v29, M28) := g
        rw [eP4] at g
        exact g H locs ls hP hS (lv_sub hl [1, 2, 3, 0] rfl)
      have J59 : ∀ (a30 : Int32) (M31 : Mem)  (res : (Int32 × Int32 × Mem) ⊕ (Int32 × Mem)) (h : j_ST_top_59 a1 a30 M31 = some res) (g : (lpG P4 G0) res) (H : Heap) (locs : List Loc) (ls : Array Slot) (hP : va_P x.1 vwCl (wld x M31) H) (hS : va_S (A0 x) s.heap H locs) (hl : lv_has ls 5 [(0, .ref (x.2.1 5)), (1, .int a1), (3, .int a30)]), W p l e r_ST_top s m args below meth c H locs 0 0 Q (F0 m 59 ls []) := by
        intro a30 M31 res h g H locs ls hP hS hl
        unfold j_ST_top_59 at h
        refine lv_iload_n hx hb d_ST_top_59 rfl (lv_at hl 2 rfl) ?_
        refine lv_istore_n hx hb d_ST_top_60 rfl hl (by decide) rfl (fun ls hl => ?_)
        have hl : lv_has ls 5 [(2, .int a30), (0, .ref (x.2.1 5)), (1, .int a1), (3, .int a30)] := hl
        exact J61 a30 a30 M31 _ h g H locs ls hP hS (lv_sub hl [1, 2, 0, 3] rfl)
      have J26 : ∀ (a32 : Int32) (a33 : Int32) (a34 : Int32) (M35 : Mem)  (res : (Int32 × Int32 × Mem) ⊕ (Int32 × Mem)) (h : j_ST_top_26 a1 a32 a33 a34 M35 = some res) (g : (lpG P4 G0) res) (H : Heap) (locs : List Loc) (ls : Array Slot) (hP : va_P x.1 vwCl (wld x M35) H) (hS : va_S (A0 x) s.heap H locs) (hl : lv_has ls 5 [(0, .ref (x.2.1 5)), (1, .int a1), (2, .int a32), (3, .int a33)]), W p l e r_ST_top s m args below meth c H locs 0 0 Q (F0 m 26 ls [.int a34]) := by
        intro a32 a33 a34 M35 res h g H locs ls hP hS hl
        unfold j_ST_top_26 at h
        refine lv_istore hx hb d_ST_top_26 hl (by decide) rfl (fun ls hl => ?_)
        have hl : lv_has ls 5 [(4, .int a34), (0, .ref (x.2.1 5)), (1, .int a1), (2, .int a32), (3, .int a33)] := hl
        refine lv_iload hx hb d_ST_top_28 (lv_at hl 0 rfl) ?_
        refine lv_if_eq (tgt := 61) hx hb d_ST_top_30 rfl (fun hc => ?_) (fun hc => ?_)
        · have h := if_p hc h
          exact J61 a32 a33 M35 _ h g H locs ls hP hS (lv_sub hl [1, 2, 3, 4] rfl)
        · have h := if_m hc h
          refine lv_iload_n hx hb d_ST_top_33 rfl (lv_at hl 3 rfl) ?_
          refine lv_iconst (v := (-1 : Int32)) hx hb d_ST_top_34 (by decide) ?_
          refine lv_icmp_eq (tgt := 59) hx hb d_ST_top_35 rfl (fun hc => ?_) (fun hc => ?_)
          · have h := if_p hc h
            exact J59 a33 M35 _ h g H locs ls hP hS (lv_sub hl [1, 2, 4] rfl)
          · have h := if_m hc h
            refine lv_aload_n hx hb d_ST_top_38 rfl (lv_at hl 1 rfl) ?_
            refine gf_ST_13 hx hb hts hown hK hP d_ST_top_39 ?_
            refine lv_iload_n hx hb d_ST_top_42 rfl (lv_at hl 4 rfl) ?_
            obtain ⟨b36, h⟩ := ck_e h
            refine m_aaE hx hb hK hP b36 d_ST_top_43 ?_
            obtain ⟨r39, M37, c38, h⟩ := bi_e h
            refine cl_ST_77 (rest := []) (R := r_ST_top) (c_EN_cost l x hJ (122 + a33.toNatClampNeg) (kd_en_at b36) c38) (kd_en_at b36) hx hb hml hts hown hK hZ hP hS hl.1 (Nat.le_of_ble_eq_true rfl) (Nat.le_of_ble_eq_true rfl) (Nat.le_of_ble_eq_true rfl) ⟨rfl, rfl, Nat.zero_le _, Nat.zero_le _⟩ d_ST_top_44 (fun H locs hP hS => ?_)
            refine lv_aload_n hx hb d_ST_top_47 rfl (lv_at hl 1 rfl) ?_
            refine gf_ST_13 hx hb hts hown hK hP d_ST_top_48 ?_
            refine lv_iload_n hx hb d_ST_top_51 rfl (lv_at hl 3 rfl) ?_
            obtain ⟨b40, h⟩ := ck_e h
            refine m_aaE hx hb hK hP b40 d_ST_top_52 ?_
            obtain ⟨r43, M41, c42, h⟩ := bi_e h
            refine cl_ST_77 (rest := [.int r39]) (R := r_ST_top) (c_EN_cost l x hJ (122 + a32.toNatClampNeg) (kd_en_at b40) c42) (kd_en_at b40) hx hb hml hts hown hK hZ hP hS hl.1 (Nat.le_of_ble_eq_true rfl) (Nat.le_of_ble_eq_true rfl) (Nat.le_of_ble_eq_true rfl) ⟨rfl, rfl, Nat.zero_le _, Nat.zero_le _⟩ d_ST_top_53 (fun H locs hP hS => ?_)
            refine lv_icmp_ge (tgt := 61) hx hb d_ST_top_56 rfl (fun hc => ?_) (fun hc => ?_)
            · have h := if_p hc h
              exact J61 a32 a33 M41 _ h g H locs ls hP hS (lv_sub hl [1, 2, 3, 4] rfl)
            · have h := if_m hc h
              exact J59 a33 M41 _ h g H locs ls hP hS (lv_sub hl [1, 2, 4] rfl)
      refine lv_iload_n hx hb d_ST_top_4 rfl (lv_at hl 3 rfl) ?_
      refine lv_aload_n hx hb d_ST_top_5 rfl (lv_at hl 0 rfl) ?_
      refine gf_ST_27 hx hb hts hown hK hP d_ST_top_6 ?_
      refine lv_icmp_ge (tgt := 67) hx hb d_ST_top_9 rfl (fun hc => ?_) (fun hc => ?_)
      · have h := if_p hc h
        refine lv_iload_n hx hb d_ST_top_67 rfl (lv_at hl 2 rfl) ?_
        obtain rfl := Option.some.inj h
        exact hret d_ST_top_68 g hP hS
      · have h := if_m hc h
        refine lv_iload_n hx hb d_ST_top_12 rfl (lv_at hl 1 rfl) ?_
        refine lv_iload_n hx hb d_ST_top_13 rfl (lv_at hl 3 rfl) ?_
        refine lv_ishr hx hb d_ST_top_14 ?_
        refine lv_iconst (v := (1 : Int32)) hx hb d_ST_top_15 (by decide) ?_
        refine lv_iand hx hb d_ST_top_16 ?_
        refine lv_iconst (v := (1 : Int32)) hx hb d_ST_top_17 (by decide) ?_
        refine lv_icmp_ne (tgt := 25) hx hb d_ST_top_18 rfl (fun hc => ?_) (fun hc => ?_)
        · have h := if_m hc h
          refine lv_iconst (v := (0 : Int32)) hx hb d_ST_top_25 (by decide) ?_
          exact J26 v23 v24 (0 : Int32) M25 _ h g H locs ls hP hS (lv_sub hl [0, 1, 2, 3] rfl)
        · have h := if_p hc h
          refine lv_iconst (v := (1 : Int32)) hx hb d_ST_top_21 (by decide) ?_
          refine lv_goto (tgt := 26) hx hb d_ST_top_22 rfl ?_
          exact J26 v23 v24 (1 : Int32) M25 _ h g H locs ls hP hS (lv_sub hl [0, 1, 2, 3] rfl)
    rw [eP4] at L4
    exact L4 H locs ls hP hS (lv_sub hl [2, 3, 1, 0] rfl)
  rw [eH] at key
  exact key
theorem d_ST_chooseFavoured_0 : decode b_ST_chooseFavoured 0 = .ok (.aload_n 0, 1) := by decide +kernel
theorem d_ST_chooseFavoured_1 : decode b_ST_chooseFavoured 1 = .ok (.iconst 0, 1) := by decide +kernel
theorem d_ST_chooseFavoured_2 : decode b_ST_chooseFavoured 2 = .ok (.putfield 31, 3) := by decide +kernel
theorem d_ST_chooseFavoured_5 : decode b_ST_chooseFavoured 5 = .ok (.iconst 0, 1) := by decide +kernel
theorem d_ST_chooseFavoured_6 : decode b_ST_chooseFavoured 6 = .ok (.istore_n 1, 1) := by decide +kernel
theorem d_ST_chooseFavoured_7 : decode b_ST_chooseFavoured 7 = .ok (.iload_n 1, 1) := by decide +kernel
theorem d_ST_chooseFavoured_8 : decode b_ST_chooseFavoured 8 = .ok (.sipush 576, 3) := by decide +kernel
theorem d_ST_chooseFavoured_11 : decode b_ST_chooseFavoured 11 = .ok (.if_icmp .ge 53, 3) := by decide +kernel
theorem d_ST_chooseFavoured_14 : decode b_ST_chooseFavoured 14 = .ok (.aload_n 0, 1) := by decide +kernel
theorem d_ST_chooseFavoured_15 : decode b_ST_chooseFavoured 15 = .ok (.getfield 23, 3) := by decide +kernel
theorem d_ST_chooseFavoured_18 : decode b_ST_chooseFavoured 18 = .ok (.iload_n 1, 1) := by decide +kernel
theorem d_ST_chooseFavoured_19 : decode b_ST_chooseFavoured 19 = .ok (.iaload, 1) := by decide +kernel
theorem d_ST_chooseFavoured_20 : decode b_ST_chooseFavoured 20 = .ok (.ifCond .eq 38, 3) := by decide +kernel
theorem d_ST_chooseFavoured_23 : decode b_ST_chooseFavoured 23 = .ok (.aload_n 0, 1) := by decide +kernel
theorem d_ST_chooseFavoured_24 : decode b_ST_chooseFavoured 24 = .ok (.getfield 23, 3) := by decide +kernel
theorem d_ST_chooseFavoured_27 : decode b_ST_chooseFavoured 27 = .ok (.iload_n 1, 1) := by decide +kernel
theorem d_ST_chooseFavoured_28 : decode b_ST_chooseFavoured 28 = .ok (.iaload, 1) := by decide +kernel
theorem d_ST_chooseFavoured_29 : decode b_ST_chooseFavoured 29 = .ok (.aload_n 0, 1) := by decide +kernel
theorem d_ST_chooseFavoured_30 : decode b_ST_chooseFavoured 30 = .ok (.getfield 31, 3) := by decide +kernel
theorem d_ST_chooseFavoured_33 : decode b_ST_chooseFavoured 33 = .ok (.iand, 1) := by decide +kernel
theorem d_ST_chooseFavoured_34 : decode b_ST_chooseFavoured 34 = .ok (.ifCond .ne 24, 3) := by decide +kernel
theorem d_ST_chooseFavoured_37 : decode b_ST_chooseFavoured 37 = .ok (.aload_n 0, 1) := by decide +kernel
theorem d_ST_chooseFavoured_38 : decode b_ST_chooseFavoured 38 = .ok (.dup, 1) := by decide +kernel
theorem d_ST_chooseFavoured_39 : decode b_ST_chooseFavoured 39 = .ok (.getfield 31, 3) := by decide +kernel
theorem d_ST_chooseFavoured_42 : decode b_ST_chooseFavoured 42 = .ok (.iconst 1, 1) := by decide +kernel
theorem d_ST_chooseFavoured_43 : decode b_ST_chooseFavoured 43 = .ok (.aload_n 0, 1) := by decide +kernel
theorem d_ST_chooseFavoured_44 : decode b_ST_chooseFavoured 44 = .ok (.aload_n 0, 1) := by decide +kernel
theorem d_ST_chooseFavoured_45 : decode b_ST_chooseFavoured 45 = .ok (.getfield 23, 3) := by decide +kernel
theorem d_ST_chooseFavoured_48 : decode b_ST_chooseFavoured 48 = .ok (.iload_n 1, 1) := by decide +kernel
theorem d_ST_chooseFavoured_49 : decode b_ST_chooseFavoured 49 = .ok (.iaload, 1) := by decide +kernel
theorem d_ST_chooseFavoured_50 : decode b_ST_chooseFavoured 50 = .ok (.invokevirtual 74, 3) := by decide +kernel
theorem d_ST_chooseFavoured_53 : decode b_ST_chooseFavoured 53 = .ok (.ishl, 1) := by decide +kernel
theorem d_ST_chooseFavoured_54 : decode b_ST_chooseFavoured 54 = .ok (.ior, 1) := by decide +kernel
theorem d_ST_chooseFavoured_55 : decode b_ST_chooseFavoured 55 = .ok (.putfield 31, 3) := by decide +kernel
theorem d_ST_chooseFavoured_58 : decode b_ST_chooseFavoured 58 = .ok (.iinc 1 1, 3) := by decide +kernel
theorem d_ST_chooseFavoured_61 : decode b_ST_chooseFavoured 61 = .ok (.goto (-54), 3) := by decide +kernel
theorem d_ST_chooseFavoured_64 : decode b_ST_chooseFavoured 64 = .ok (.return_, 1) := by decide +kernel
noncomputable def j_ST_chooseFavoured_58 (a25 : Int32) (M26 : Mem) : Option ((Int32 × Mem) ⊕ Mem) :=
  nx (a25 + (1 : Int32)) (fun v27 => some (.inl (v27, M26)))
noncomputable def l_ST_chooseFavoured_7  (v23 : Int32) (M24 : Mem) : Option ((Int32 × Mem) ⊕ (Mem)) :=
  if (576 : Int32) ≤ v23 then (some (.inr M24)) else (ck v23 576 (if (M24 8 v23.toNatClampNeg) = 0 then (j_ST_chooseFavoured_58 v23 M24) else (ck v23 576 (if ((M24 8 v23.toNatClampNeg) &&& (M24 5 4)) = 0 then (ck v23 576 (bi (s_ST_top (M24 8 v23.toNatClampNeg) M24) (fun r33 M31 => nx (st M31 5 4 ((M24 5 4) ||| ((1 : Int32) <<< (r33 &&& 31)))) (fun M34 => j_ST_chooseFavoured_58 v23 M34)))) else (j_ST_chooseFavoured_58 v23 M24)))))
noncomputable def s_ST_chooseFavoured  (M : Mem) : Option (Mem) :=
  nx (st M 5 4 (0 : Int32)) (fun M21 => nx ((0 : Int32)) (fun v22 => lp (fun q : Int32 × Mem => l_ST_chooseFavoured_7 q.1 q.2) (v22, M21)))
set_option maxHeartbeats 4000000 in
set_option maxRecDepth 100000 in
theorem c_ST_chooseFavoured (l : Launch) (x : Cx) (hJ : Inj x)  {M : Mem} {out : Mem} (h : s_ST_chooseFavoured M = some out) : Cv l x y_ST_chooseFavoured (Cond.code y_ST_chooseFavoured b_ST_chooseFavoured 2 none :: tb) r_ST_chooseFavoured [.ref (x.2.1 5)] M out := by
  refine ofCv (cc := b_ST_chooseFavoured) (maxL := 2) (by decide) rfl (rfl) (Nat.le_of_ble_eq_true rfl) ?_
  intro p e s m args below meth c Q G0 ls g hx hb hml hown hts hK hZ hP hS hl hret
  have hown : s.vm.findClass R_ST = some m.cls := hown
  have hl : lv_has ls 2 [(0, .ref (x.2.1 5))] := hl
  obtain ⟨H, eH⟩ : ∃ z, z = s.heap := ⟨_, rfl⟩
  obtain ⟨locs, eL⟩ : ∃ z, z = ([] : List Loc) := ⟨_, rfl⟩
  rw [← eH] at hP
  have hS : va_S (A0 x) s.heap H locs := by rw [eH, eL]; exact hS
  rw [← eL]
  have key : W p l e r_ST_chooseFavoured s m args below meth c H locs 0 0 Q (F0 m 0 ls []) := by
    clear eH eL
    unfold s_ST_chooseFavoured at h
    refine lv_aload_n hx hb d_ST_chooseFavoured_0 rfl (lv_at hl 0 rfl) ?_
    refine lv_iconst (v := (0 : Int32)) hx hb d_ST_chooseFavoured_1 (by decide) ?_
    obtain ⟨M21, eM21, h⟩ := nx_e h
    refine pf_ST_31 hx hb hts hown hK hJ hP hS eM21 d_ST_chooseFavoured_2 (fun H locs hP hS => ?_)
    refine lv_iconst (v := (0 : Int32)) hx hb d_ST_chooseFavoured_5 (by decide) ?_
    obtain ⟨v22, ev22, h⟩ := nx_e h
    refine tp_i ev22 ?_
    refine lv_istore_n hx hb d_ST_chooseFavoured_6 rfl hl (by decide) rfl (fun ls hl => ?_)
    have hl : lv_has ls 2 [(1, .int v22), (0, .ref (x.2.1 5))] := hl
    obtain ⟨P7, eP7⟩ : ∃ P : (Int32 × Mem) → Prop, P = (fun q => ∀ (H : Heap) (locs : List Loc) (ls : Array Slot), va_P x.1 vwCl (wld x (q.2)) H → va_S (A0 x) s.heap H locs → lv_has ls 2 [(0, .ref (x.2.1 5)), (1, .int (q.1))] → W p l e r_ST_chooseFavoured s m args below meth c H locs 0 0 Q (F0 m 7 ls [])) := ⟨_, rfl⟩
    have L7 : P7 (v22, M21) := by
      refine lp_walk (G := G0) ?_ h g
      intro q res h g
      obtain ⟨v23, M24⟩ := q
      rw [eP7]
      intro H locs ls hP hS hl
      have hP : va_P x.1 vwCl (wld x M24) H := hP
      have hl : lv_has ls 2 [(0, .ref (x.2.1 5)), (1, .int v23)] := hl
      have h : l_ST_chooseFavoured_7 v23 M24 = some res := h
      unfold l_ST_chooseFavoured_7 at h
      have J58 : ∀ (a25 : Int32) (M26 : Mem)  (res : (Int32 × Mem) ⊕ Mem) (h : j_ST_chooseFavoured_58 a25 M26 = some res) (g : (lpG P7 G0) res) (H : Heap) (locs : List Loc) (ls : Array Slot) (hP : va_P x.1 vwCl (wld x M26) H) (hS : va_S (A0 x) s.heap H locs) (hl : lv_has ls 2 [(0, .ref (x.2.1 5)), (1, .int a25)]), W p l e r_ST_chooseFavoured s m args below meth c H locs 0 0 Q (F0 m 58 ls []) := by
        intro a25 M26 res h g H locs ls hP hS hl
        unfold j_ST_chooseFavoured_58 at h
        obtain ⟨v27, ev27, h⟩ := nx_e h
        refine lv_iinc (k := 1) hx hb d_ST_chooseFavoured_58 hl rfl (iinc_v (k := (1 : Int32)) (by decide) ev27) (by decide) rfl (fun ls hl => ?_)
        have hl : lv_has ls 2 [(1, .int v27), (0, .ref (x.2.1 5))] := hl
        refine lv_goto (tgt := 7) hx hb d_ST_chooseFavoured_61 rfl ?_
        obtain rfl := Option.some.inj h
        have g : P7 (v27, M26) := g
        rw [eP7] at g
        exact g H locs ls hP hS (lv_sub hl [1, 0] rfl)
      refine lv_iload_n hx hb d_ST_chooseFavoured_7 rfl (lv_at hl 1 rfl) ?_
      refine lv_sipush (v := (576 : Int32)) hx hb d_ST_chooseFavoured_8 (by decide) ?_
      refine lv_icmp_ge (tgt := 64) hx hb d_ST_chooseFavoured_11 rfl (fun hc => ?_) (fun hc => ?_)
      · have h := if_p hc h
        obtain rfl := Option.some.inj h
        exact hret d_ST_chooseFavoured_64 g hP hS
      · have h := if_m hc h
        refine lv_aload_n hx hb d_ST_chooseFavoured_14 rfl (lv_at hl 0 rfl) ?_
        refine gf_ST_23 hx hb hts hown hK hP d_ST_chooseFavoured_15 ?_
        refine lv_iload_n hx hb d_ST_chooseFavoured_18 rfl (lv_at hl 1 rfl) ?_
        obtain ⟨b28, h⟩ := ck_e h
        refine m_ald hx hb hK hP ar_ST_goers b28 d_ST_chooseFavoured_19 ?_
        refine lv_if_eq (tgt := 58) hx hb d_ST_chooseFavoured_20 rfl (fun hc => ?_) (fun hc => ?_)
        · have h := if_p hc h
          exact J58 v23 M24 _ h g H locs ls hP hS (lv_sub hl [0, 1] rfl)
        · have h := if_m hc h
          refine lv_aload_n hx hb d_ST_chooseFavoured_23 rfl (lv_at hl 0 rfl) ?_
          refine gf_ST_23 hx hb hts hown hK hP d_ST_chooseFavoured_24 ?_
          refine lv_iload_n hx hb d_ST_chooseFavoured_27 rfl (lv_at hl 1 rfl) ?_
          obtain ⟨b29, h⟩ := ck_e h
          refine m_ald hx hb hK hP ar_ST_goers b29 d_ST_chooseFavoured_28 ?_
          refine lv_aload_n hx hb d_ST_chooseFavoured_29 rfl (lv_at hl 0 rfl) ?_
          refine gf_ST_31 hx hb hts hown hK hP d_ST_chooseFavoured_30 ?_
          refine lv_iand hx hb d_ST_chooseFavoured_33 ?_
          refine lv_if_ne (tgt := 58) hx hb d_ST_chooseFavoured_34 rfl (fun hc => ?_) (fun hc => ?_)
          · have h := if_m hc h
            exact J58 v23 M24 _ h g H locs ls hP hS (lv_sub hl [0, 1] rfl)
          · have h := if_p hc h
            refine lv_aload_n hx hb d_ST_chooseFavoured_37 rfl (lv_at hl 0 rfl) ?_
            refine lv_dup hx hb d_ST_chooseFavoured_38 rfl ?_
            refine gf_ST_31 hx hb hts hown hK hP d_ST_chooseFavoured_39 ?_
            refine lv_iconst (v := (1 : Int32)) hx hb d_ST_chooseFavoured_42 (by decide) ?_
            refine lv_aload_n hx hb d_ST_chooseFavoured_43 rfl (lv_at hl 0 rfl) ?_
            refine lv_aload_n hx hb d_ST_chooseFavoured_44 rfl (lv_at hl 0 rfl) ?_
            refine gf_ST_23 hx hb hts hown hK hP d_ST_chooseFavoured_45 ?_
            refine lv_iload_n hx hb d_ST_chooseFavoured_48 rfl (lv_at hl 1 rfl) ?_
            obtain ⟨b30, h⟩ := ck_e h
            refine m_ald hx hb hK hP ar_ST_goers b30 d_ST_chooseFavoured_49 ?_
            obtain ⟨r33, M31, c32, h⟩ := bi_e h
            refine cl_ST_74 (rest := [.int (1 : Int32), .int (M24 5 4), .ref (x.2.1 5)]) (R := r_ST_chooseFavoured) (c_ST_top l x hJ (M24 8 v23.toNatClampNeg) c32) hx hb hml hts hown hK hZ hP hS hl.1 (Nat.le_of_ble_eq_true rfl) (Nat.le_of_ble_eq_true rfl) (Nat.le_of_ble_eq_true rfl) ⟨rfl, rfl, Nat.zero_le _, Nat.zero_le _⟩ d_ST_chooseFavoured_50 (fun H locs hP hS => ?_)
            refine lv_ishl hx hb d_ST_chooseFavoured_53 ?_
            refine lv_ior hx hb d_ST_chooseFavoured_54 ?_
            obtain ⟨M34, eM34, h⟩ := nx_e h
            refine pf_ST_31 hx hb hts hown hK hJ hP hS eM34 d_ST_chooseFavoured_55 (fun H locs hP hS => ?_)
            exact J58 v23 M34 _ h g H locs ls hP hS (lv_sub hl [0, 1] rfl)
    rw [eP7] at L7
    exact L7 H locs ls hP hS (lv_sub hl [1, 0] rfl)
  rw [eH] at key
  exact key
theorem d_ST_keep_0 : decode b_ST_keep 0 = .ok (.aload_n 0, 1) := by decide +kernel
theorem d_ST_keep_1 : decode b_ST_keep 1 = .ok (.getfield 27, 3) := by decide +kernel
theorem d_ST_keep_4 : decode b_ST_keep 4 = .ok (.bipush 16, 2) := by decide +kernel
theorem d_ST_keep_6 : decode b_ST_keep 6 = .ok (.if_icmp .lt 5, 3) := by decide +kernel
theorem d_ST_keep_9 : decode b_ST_keep 9 = .ok (.iconst 0, 1) := by decide +kernel
theorem d_ST_keep_10 : decode b_ST_keep 10 = .ok (.ireturn, 1) := by decide +kernel
theorem d_ST_keep_11 : decode b_ST_keep 11 = .ok (.aload_n 0, 1) := by decide +kernel
theorem d_ST_keep_12 : decode b_ST_keep 12 = .ok (.getfield 13, 3) := by decide +kernel
theorem d_ST_keep_15 : decode b_ST_keep 15 = .ok (.aload_n 0, 1) := by decide +kernel
theorem d_ST_keep_16 : decode b_ST_keep 16 = .ok (.getfield 27, 3) := by decide +kernel
theorem d_ST_keep_19 : decode b_ST_keep 19 = .ok (.aaload, 1) := by decide +kernel
theorem d_ST_keep_20 : decode b_ST_keep 20 = .ok (.astore_n 3, 1) := by decide +kernel
theorem d_ST_keep_21 : decode b_ST_keep 21 = .ok (.aload_n 3, 1) := by decide +kernel
theorem d_ST_keep_22 : decode b_ST_keep 22 = .ok (.getfield 46, 3) := by decide +kernel
theorem d_ST_keep_25 : decode b_ST_keep 25 = .ok (.aload_n 1, 1) := by decide +kernel
theorem d_ST_keep_26 : decode b_ST_keep 26 = .ok (.invokevirtual 50, 3) := by decide +kernel
theorem d_ST_keep_29 : decode b_ST_keep 29 = .ok (.aload_n 3, 1) := by decide +kernel
theorem d_ST_keep_30 : decode b_ST_keep 30 = .ok (.aload_n 2, 1) := by decide +kernel
theorem d_ST_keep_31 : decode b_ST_keep 31 = .ok (.getfield 56, 3) := by decide +kernel
theorem d_ST_keep_34 : decode b_ST_keep 34 = .ok (.putfield 59, 3) := by decide +kernel
theorem d_ST_keep_37 : decode b_ST_keep 37 = .ok (.aload_n 3, 1) := by decide +kernel
theorem d_ST_keep_38 : decode b_ST_keep 38 = .ok (.aload_n 2, 1) := by decide +kernel
theorem d_ST_keep_39 : decode b_ST_keep 39 = .ok (.getfield 34, 3) := by decide +kernel
theorem d_ST_keep_42 : decode b_ST_keep 42 = .ok (.putfield 60, 3) := by decide +kernel
theorem d_ST_keep_45 : decode b_ST_keep 45 = .ok (.iconst 0, 1) := by decide +kernel
theorem d_ST_keep_46 : decode b_ST_keep 46 = .ok (.istore 4, 2) := by decide +kernel
theorem d_ST_keep_48 : decode b_ST_keep 48 = .ok (.iload 4, 2) := by decide +kernel
theorem d_ST_keep_50 : decode b_ST_keep 50 = .ok (.aload_n 2, 1) := by decide +kernel
theorem d_ST_keep_51 : decode b_ST_keep 51 = .ok (.getfield 34, 3) := by decide +kernel
theorem d_ST_keep_54 : decode b_ST_keep 54 = .ok (.if_icmp .ge 31, 3) := by decide +kernel
theorem d_ST_keep_57 : decode b_ST_keep 57 = .ok (.aload_n 0, 1) := by decide +kernel
theorem d_ST_keep_58 : decode b_ST_keep 58 = .ok (.aload_n 2, 1) := by decide +kernel
theorem d_ST_keep_59 : decode b_ST_keep 59 = .ok (.getfield 39, 3) := by decide +kernel
theorem d_ST_keep_62 : decode b_ST_keep 62 = .ok (.iload 4, 2) := by decide +kernel
theorem d_ST_keep_64 : decode b_ST_keep 64 = .ok (.iaload, 1) := by decide +kernel
theorem d_ST_keep_65 : decode b_ST_keep 65 = .ok (.aload_n 2, 1) := by decide +kernel
theorem d_ST_keep_66 : decode b_ST_keep 66 = .ok (.aload_n 2, 1) := by decide +kernel
theorem d_ST_keep_67 : decode b_ST_keep 67 = .ok (.getfield 39, 3) := by decide +kernel
theorem d_ST_keep_70 : decode b_ST_keep 70 = .ok (.iload 4, 2) := by decide +kernel
theorem d_ST_keep_72 : decode b_ST_keep 72 = .ok (.iaload, 1) := by decide +kernel
theorem d_ST_keep_73 : decode b_ST_keep 73 = .ok (.invokevirtual 42, 3) := by decide +kernel
theorem d_ST_keep_76 : decode b_ST_keep 76 = .ok (.invokevirtual 61, 3) := by decide +kernel
theorem d_ST_keep_79 : decode b_ST_keep 79 = .ok (.iinc 4 1, 3) := by decide +kernel
theorem d_ST_keep_82 : decode b_ST_keep 82 = .ok (.goto (-34), 3) := by decide +kernel
theorem d_ST_keep_85 : decode b_ST_keep 85 = .ok (.aload_n 0, 1) := by decide +kernel
theorem d_ST_keep_86 : decode b_ST_keep 86 = .ok (.dup, 1) := by decide +kernel
theorem d_ST_keep_87 : decode b_ST_keep 87 = .ok (.getfield 27, 3) := by decide +kernel
theorem d_ST_keep_90 : decode b_ST_keep 90 = .ok (.iconst 1, 1) := by decide +kernel
theorem d_ST_keep_91 : decode b_ST_keep 91 = .ok (.iadd, 1) := by decide +kernel
theorem d_ST_keep_92 : decode b_ST_keep 92 = .ok (.putfield 27, 3) := by decide +kernel
theorem d_ST_keep_95 : decode b_ST_keep 95 = .ok (.aload_n 0, 1) := by decide +kernel
theorem d_ST_keep_96 : decode b_ST_keep 96 = .ok (.invokevirtual 65, 3) := by decide +kernel
theorem d_ST_keep_99 : decode b_ST_keep 99 = .ok (.iconst 1, 1) := by decide +kernel
theorem d_ST_keep_100 : decode b_ST_keep 100 = .ok (.ireturn, 1) := by decide +kernel
noncomputable def j_ST_keep_85  (M21 : Mem) : Option (Int32 × Mem) :=
  nx (st M21 5 3 ((M21 5 3) + (1 : Int32))) (fun M22 => bv (s_ST_chooseFavoured M22) (fun M23 => some ((1 : Int32), M23)))
noncomputable def l_ST_keep_48 (j2 : Nat) (v32 : Int32) (M33 : Mem) : Option ((Int32 × Mem) ⊕ (Int32 × Mem)) :=
  if (M33 j2 5) ≤ v32 then (jw1 (j_ST_keep_85 M33)) else (ck v32 64 (ck v32 64 (bi (s_RU_pairBit j2 (M33 (j2 + 5) v32.toNatClampNeg) M33) (fun r38 M36 => bv (s_ST_markSeen (M33 (j2 + 5) v32.toNatClampNeg) r38 M36) (fun M39 => nx (v32 + (1 : Int32)) (fun v41 => some (.inl (v41, M39))))))))
noncomputable def s_ST_keep (j1 : Nat) (j2 : Nat) (M : Mem) : Option (Int32 × Mem) :=
  if (M 5 3) < (16 : Int32) then (ck (M 5 3) 16 (nx (122 + (M 5 3).toNatClampNeg) (fun j26 => bv (s_IN_copy (2 * j26 - 186) j1 M) (fun M27 => nx (st M27 j26 1 (M27 j2 9)) (fun M29 => nx (st M29 j26 2 (M29 j2 5)) (fun M30 => nx ((0 : Int32)) (fun v31 => lp (fun q : Int32 × Mem => l_ST_keep_48 j2 q.1 q.2) (v31, M30)))))))) else (some ((0 : Int32), M))
set_option maxHeartbeats 4000000 in
set_option maxRecDepth 100000 in
theorem c_ST_keep (l : Launch) (x : Cx) (hJ : Inj x) (j1 : Nat) (k1 : kd_in j1) (j2 : Nat) (k2 : kd_run j2) {M : Mem} {out : Int32 × Mem} (h : s_ST_keep j1 j2 M = some out) : Ci l x y_ST_keep (Cond.code y_ST_keep b_ST_keep 5 (some .boolean) :: tb) r_ST_keep [.ref (x.2.1 5), .ref (x.2.1 j1), .ref (x.2.1 j2)] M out := by
  refine ofCz (cc := b_ST_keep) (maxL := 5) (by decide) rfl (rfl) (Nat.le_of_ble_eq_true rfl) ?_
  intro p e s m args below meth c Q G0 ls g hx hb hml hown hts hK hZ hP hS hl hret
  have hown : s.vm.findClass R_ST = some m.cls := hown
  have hl : lv_has ls 5 [(0, .ref (x.2.1 5)), (1, .ref (x.2.1 j1)), (2, .ref (x.2.1 j2))] := hl
  obtain ⟨H, eH⟩ : ∃ z, z = s.heap := ⟨_, rfl⟩
  obtain ⟨locs, eL⟩ : ∃ z, z = ([] : List Loc) := ⟨_, rfl⟩
  rw [← eH] at hP
  have hS : va_S (A0 x) s.heap H locs := by rw [eH, eL]; exact hS
  rw [← eL]
  have key : W p l e r_ST_keep s m args below meth c H locs 0 0 Q (F0 m 0 ls []) := by
    clear eH eL
    unfold s_ST_keep at h
    have J85 : ∀  (M21 : Mem)  (res : Int32 × Mem) (h : j_ST_keep_85 M21 = some res) (g : G0 res) (H : Heap) (locs : List Loc) (ls : Array Slot) (hP : va_P x.1 vwCl (wld x M21) H) (hS : va_S (A0 x) s.heap H locs) (hl : lv_has ls 5 [(0, .ref (x.2.1 5))]), W p l e r_ST_keep s m args below meth c H locs 0 0 Q (F0 m 85 ls []) := by
      intro M21 res h g H locs ls hP hS hl
      unfold j_ST_keep_85 at h
      refine lv_aload_n hx hb d_ST_keep_85 rfl (lv_at hl 0 rfl) ?_
      refine lv_dup hx hb d_ST_keep_86 rfl ?_
      refine gf_ST_27 hx hb hts hown hK hP d_ST_keep_87 ?_
      refine lv_iconst (v := (1 : Int32)) hx hb d_ST_keep_90 (by decide) ?_
      refine lv_iadd hx hb d_ST_keep_91 ?_
      obtain ⟨M22, eM22, h⟩ := nx_e h
      refine pf_ST_27 hx hb hts hown hK hJ hP hS eM22 d_ST_keep_92 (fun H locs hP hS => ?_)
      refine lv_aload_n hx hb d_ST_keep_95 rfl (lv_at hl 0 rfl) ?_
      obtain ⟨M23, c24, h⟩ := bv_e h
      refine cl_ST_65 (rest := []) (R := r_ST_keep) (c_ST_chooseFavoured l x hJ c24) hx hb hml hts hown hK hZ hP hS hl.1 (Nat.le_of_ble_eq_true rfl) (Nat.le_of_ble_eq_true rfl) (Nat.le_of_ble_eq_true rfl) ⟨rfl, rfl, Nat.zero_le _, Nat.zero_le _⟩ d_ST_keep_96 (fun H locs hP hS => ?_)
      refine lv_iconst (v := (1 : Int32)) hx hb d_ST_keep_99 (by decide) ?_
      obtain rfl := Option.some.inj h
      exact hret (by decide) d_ST_keep_100 g hP hS
    refine lv_aload_n hx hb d_ST_keep_0 rfl (lv_at hl 0 rfl) ?_
    refine gf_ST_27 hx hb hts hown hK hP d_ST_keep_1 ?_
    refine lv_bipush (v := (16 : Int32)) hx hb d_ST_keep_4 (by decide) ?_
    refine lv_icmp_lt (tgt := 11) hx hb d_ST_keep_6 rfl (fun hc => ?_) (fun hc => ?_)
    · have h := if_p hc h
      refine lv_aload_n hx hb d_ST_keep_11 rfl (lv_at hl 0 rfl) ?_
      refine gf_ST_13 hx hb hts hown hK hP d_ST_keep_12 ?_
      refine lv_aload_n hx hb d_ST_keep_15 rfl (lv_at hl 0 rfl) ?_
      refine gf_ST_27 hx hb hts hown hK hP d_ST_keep_16 ?_
      obtain ⟨b25, h⟩ := ck_e h
      refine m_aaE hx hb hK hP b25 d_ST_keep_19 ?_
      obtain ⟨j26, ej26, h⟩ := nx_e h
      have kj26 : kd_en j26 := by rw [ej26]; exact kd_en_at b25
      refine tp_r ej26 ?_
      refine lv_astore_n hx hb d_ST_keep_20 rfl hl (by decide) rfl (fun ls hl => ?_)
      have hl : lv_has ls 5 [(3, .ref (x.2.1 j26)), (0, .ref (x.2.1 5)), (1, .ref (x.2.1 j1)), (2, .ref (x.2.1 j2))] := hl
      refine lv_aload_n hx hb d_ST_keep_21 rfl (lv_at hl 0 rfl) ?_
      refine gf_ST_46 hx hb hts hown hK hP kj26 d_ST_keep_22 ?_
      refine lv_aload_n hx hb d_ST_keep_25 rfl (lv_at hl 2 rfl) ?_
      obtain ⟨M27, c28, h⟩ := bv_e h
      refine cl_ST_50 (rest := []) (R := r_ST_keep) (c_IN_copy l x hJ (2 * j26 - 186) (kd_EN_input kj26) j1 k1 c28) (kd_EN_input kj26) hx hb hml hts hown hK hZ hP hS hl.1 (Nat.le_of_ble_eq_true rfl) (Nat.le_of_ble_eq_true rfl) (Nat.le_of_ble_eq_true rfl) ⟨rfl, rfl, Nat.zero_le _, Nat.zero_le _⟩ d_ST_keep_26 (fun H locs hP hS => ?_)
      refine lv_aload_n hx hb d_ST_keep_29 rfl (lv_at hl 0 rfl) ?_
      refine lv_aload_n hx hb d_ST_keep_30 rfl (lv_at hl 3 rfl) ?_
      refine gf_ST_56 hx hb hts hown hK hP k2 d_ST_keep_31 ?_
      obtain ⟨M29, eM29, h⟩ := nx_e h
      refine pf_ST_59 hx hb hts hown hK hJ hP hS kj26 eM29 d_ST_keep_34 (fun H locs hP hS => ?_)
      refine lv_aload_n hx hb d_ST_keep_37 rfl (lv_at hl 0 rfl) ?_
      refine lv_aload_n hx hb d_ST_keep_38 rfl (lv_at hl 3 rfl) ?_
      refine gf_ST_34 hx hb hts hown hK hP k2 d_ST_keep_39 ?_
      obtain ⟨M30, eM30, h⟩ := nx_e h
      refine pf_ST_60 hx hb hts hown hK hJ hP hS kj26 eM30 d_ST_keep_42 (fun H locs hP hS => ?_)
      refine lv_iconst (v := (0 : Int32)) hx hb d_ST_keep_45 (by decide) ?_
      obtain ⟨v31, ev31, h⟩ := nx_e h
      refine tp_i ev31 ?_
      refine lv_istore hx hb d_ST_keep_46 hl (by decide) rfl (fun ls hl => ?_)
      have hl : lv_has ls 5 [(4, .int v31), (3, .ref (x.2.1 j26)), (0, .ref (x.2.1 5)), (1, .ref (x.2.1 j1)), (2, .ref (x.2.1 j2))] := hl
      obtain ⟨P48, eP48⟩ : ∃ P : (Int32 × Mem) → Prop, P = (fun q => ∀ (H : Heap) (locs : List Loc) (ls : Array Slot), va_P x.1 vwCl (wld x (q.2)) H → va_S (A0 x) s.heap H locs → lv_has ls 5 [(0, .ref (x.2.1 5)), (2, .ref (x.2.1 j2)), (4, .int (q.1))] → W p l e r_ST_keep s m args below meth c H locs 0 0 Q (F0 m 48 ls [])) := ⟨_, rfl⟩
      have L48 : P48 (v31, M30) := by
        refine lp_walk (G := G0) ?_ h g
        intro q res h g
        obtain ⟨v32, M33⟩ := q
        rw [eP48]
        intro H locs ls hP hS hl
        have hP : va_P x.1 vwCl (wld x M33) H := hP
        have hl : lv_has ls 5 [(0, .ref (x.2.1 5)), (2, .ref (x.2.1 j2)), (4, .int v32)] := hl
        have h : l_ST_keep_48 j2 v32 M33 = some res := h
        unfold l_ST_keep_48 at h
        refine lv_iload hx hb d_ST_keep_48 (lv_at hl 2 rfl) ?_
        refine lv_aload_n hx hb d_ST_keep_50 rfl (lv_at hl 1 rfl) ?_
        refine gf_ST_34 hx hb hts hown hK hP k2 d_ST_keep_51 ?_
        refine lv_icmp_ge (tgt := 85) hx hb d_ST_keep_54 rfl (fun hc => ?_) (fun hc => ?_)
        · have h := if_p hc h
          obtain ⟨res2, hres, h2⟩ := jw1_e h
          clear h
          subst hres
          have h := h2
          exact J85 M33 _ h g H locs ls hP hS (lv_sub hl [0] rfl)
        · have h := if_m hc h
          refine lv_aload_n hx hb d_ST_keep_57 rfl (lv_at hl 0 rfl) ?_
          refine lv_aload_n hx hb d_ST_keep_58 rfl (lv_at hl 1 rfl) ?_
          refine gf_ST_39 hx hb hts hown hK hP k2 d_ST_keep_59 ?_
          refine lv_iload hx hb d_ST_keep_62 (lv_at hl 2 rfl) ?_
          obtain ⟨b34, h⟩ := ck_e h
          refine m_ald hx hb hK hP (ar_RU_edges k2) b34 d_ST_keep_64 ?_
          refine lv_aload_n hx hb d_ST_keep_65 rfl (lv_at hl 1 rfl) ?_
          refine lv_aload_n hx hb d_ST_keep_66 rfl (lv_at hl 1 rfl) ?_
          refine gf_ST_39 hx hb hts hown hK hP k2 d_ST_keep_67 ?_
          refine lv_iload hx hb d_ST_keep_70 (lv_at hl 2 rfl) ?_
          obtain ⟨b35, h⟩ := ck_e h
          refine m_ald hx hb hK hP (ar_RU_edges k2) b35 d_ST_keep_72 ?_
          obtain ⟨r38, M36, c37, h⟩ := bi_e h
          refine cl_ST_42 (rest := [.int (M33 (j2 + 5) v32.toNatClampNeg), .ref (x.2.1 5)]) (R := r_ST_keep) (c_RU_pairBit l x hJ j2 k2 (M33 (j2 + 5) v32.toNatClampNeg) c37) k2 hx hb hml hts hown hK hZ hP hS hl.1 (Nat.le_of_ble_eq_true rfl) (Nat.le_of_ble_eq_true rfl) (Nat.le_of_ble_eq_true rfl) ⟨rfl, rfl, Nat.zero_le _, Nat.zero_le _⟩ d_ST_keep_73 (fun H locs hP hS => ?_)
          obtain ⟨M39, c40, h⟩ := bv_e h
          refine cl_ST_61 (rest := []) (R := r_ST_keep) (c_ST_markSeen l x hJ (M33 (j2 + 5) v32.toNatClampNeg) r38 c40) hx hb hml hts hown hK hZ hP hS hl.1 (Nat.le_of_ble_eq_true rfl) (Nat.le_of_ble_eq_true rfl) (Nat.le_of_ble_eq_true rfl) ⟨rfl, rfl, Nat.zero_le _, Nat.zero_le _⟩ d_ST_keep_76 (fun H locs hP hS => ?_)
          obtain ⟨v41, ev41, h⟩ := nx_e h
          refine lv_iinc (k := 2) hx hb d_ST_keep_79 hl rfl (iinc_v (k := (1 : Int32)) (by decide) ev41) (by decide) rfl (fun ls hl => ?_)
          have hl : lv_has ls 5 [(4, .int v41), (0, .ref (x.2.1 5)), (2, .ref (x.2.1 j2))] := hl
          refine lv_goto (tgt := 48) hx hb d_ST_keep_82 rfl ?_
          obtain rfl := Option.some.inj h
          have g : P48 (v41, M39) := g
          rw [eP48] at g
          exact g H locs ls hP hS (lv_sub hl [1, 2, 0] rfl)
      rw [eP48] at L48
      exact L48 H locs ls hP hS (lv_sub hl [2, 4, 0] rfl)
    · have h := if_m hc h
      refine lv_iconst (v := (0 : Int32)) hx hb d_ST_keep_9 (by decide) ?_
      obtain rfl := Option.some.inj h
      exact hret (by decide) d_ST_keep_10 g hP hS
  rw [eH] at key
  exact key
theorem d_ST_has_0 : decode b_ST_has 0 = .ok (.iload_n 1, 1) := by decide +kernel
theorem d_ST_has_1 : decode b_ST_has 1 = .ok (.ifCond .lt 15, 3) := by decide +kernel
theorem d_ST_has_4 : decode b_ST_has 4 = .ok (.iload_n 1, 1) := by decide +kernel
theorem d_ST_has_5 : decode b_ST_has 5 = .ok (.aload_n 0, 1) := by decide +kernel
theorem d_ST_has_6 : decode b_ST_has 6 = .ok (.getfield 27, 3) := by decide +kernel
theorem d_ST_has_9 : decode b_ST_has 9 = .ok (.if_icmp .ge 7, 3) := by decide +kernel
theorem d_ST_has_12 : decode b_ST_has 12 = .ok (.iconst 1, 1) := by decide +kernel
theorem d_ST_has_13 : decode b_ST_has 13 = .ok (.goto 4, 3) := by decide +kernel
theorem d_ST_has_16 : decode b_ST_has 16 = .ok (.iconst 0, 1) := by decide +kernel
theorem d_ST_has_17 : decode b_ST_has 17 = .ok (.ireturn, 1) := by decide +kernel
noncomputable def s_ST_has (a1 : Int32) (M : Mem) : Option (Int32 × Mem) :=
  if a1 < 0 then (some ((0 : Int32), M)) else (if (M 5 3) ≤ a1 then (some ((0 : Int32), M)) else (some ((1 : Int32), M)))
set_option maxHeartbeats 4000000 in
set_option maxRecDepth 100000 in
theorem c_ST_has (l : Launch) (x : Cx) (hJ : Inj x) (a1 : Int32) {M : Mem} {out : Int32 × Mem} (h : s_ST_has a1 M = some out) : Ci l x y_ST_has (Cond.code y_ST_has b_ST_has 2 (some .boolean) :: tb) r_ST_has [.ref (x.2.1 5), .int a1] M out := by
  refine ofCz (cc := b_ST_has) (maxL := 2) (by decide) rfl (rfl) (Nat.le_of_ble_eq_true rfl) ?_
  intro p e s m args below meth c Q G0 ls g hx hb hml hown hts hK hZ hP hS hl hret
  have hown : s.vm.findClass R_ST = some m.cls := hown
  have hl : lv_has ls 2 [(0, .ref (x.2.1 5)), (1, .int a1)] := hl
  obtain ⟨H, eH⟩ : ∃ z, z = s.heap := ⟨_, rfl⟩
  obtain ⟨locs, eL⟩ : ∃ z, z = ([] : List Loc) := ⟨_, rfl⟩
  rw [← eH] at hP
  have hS : va_S (A0 x) s.heap H locs := by rw [eH, eL]; exact hS
  rw [← eL]
  have key : W p l e r_ST_has s m args below meth c H locs 0 0 Q (F0 m 0 ls []) := by
    clear eH eL
    unfold s_ST_has at h
    refine lv_iload_n hx hb d_ST_has_0 rfl (lv_at hl 1 rfl) ?_
    refine lv_if_lt (tgt := 16) hx hb d_ST_has_1 rfl (fun hc => ?_) (fun hc => ?_)
    · have h := if_p hc h
      refine lv_iconst (v := (0 : Int32)) hx hb d_ST_has_16 (by decide) ?_
      obtain rfl := Option.some.inj h
      exact hret (by decide) d_ST_has_17 g hP hS
    · have h := if_m hc h
      refine lv_iload_n hx hb d_ST_has_4 rfl (lv_at hl 1 rfl) ?_
      refine lv_aload_n hx hb d_ST_has_5 rfl (lv_at hl 0 rfl) ?_
      refine gf_ST_27 hx hb hts hown hK hP d_ST_has_6 ?_
      refine lv_icmp_ge (tgt := 16) hx hb d_ST_has_9 rfl (fun hc => ?_) (fun hc => ?_)
      · have h := if_p hc h
        refine lv_iconst (v := (0 : Int32)) hx hb d_ST_has_16 (by decide) ?_
        obtain rfl := Option.some.inj h
        exact hret (by decide) d_ST_has_17 g hP hS
      · have h := if_m hc h
        refine lv_iconst (v := (1 : Int32)) hx hb d_ST_has_12 (by decide) ?_
        refine lv_goto (tgt := 17) hx hb d_ST_has_13 rfl ?_
        obtain rfl := Option.some.inj h
        exact hret (by decide) d_ST_has_17 g hP hS
  rw [eH] at key
  exact key
theorem d_ST_isFavoured_0 : decode b_ST_isFavoured 0 = .ok (.aload_n 0, 1) := by decide +kernel
theorem d_ST_isFavoured_1 : decode b_ST_isFavoured 1 = .ok (.getfield 31, 3) := by decide +kernel
theorem d_ST_isFavoured_4 : decode b_ST_isFavoured 4 = .ok (.iload_n 1, 1) := by decide +kernel
theorem d_ST_isFavoured_5 : decode b_ST_isFavoured 5 = .ok (.ishr, 1) := by decide +kernel
theorem d_ST_isFavoured_6 : decode b_ST_isFavoured 6 = .ok (.iconst 1, 1) := by decide +kernel
theorem d_ST_isFavoured_7 : decode b_ST_isFavoured 7 = .ok (.iand, 1) := by decide +kernel
theorem d_ST_isFavoured_8 : decode b_ST_isFavoured 8 = .ok (.iconst 1, 1) := by decide +kernel
theorem d_ST_isFavoured_9 : decode b_ST_isFavoured 9 = .ok (.if_icmp .ne 7, 3) := by decide +kernel
theorem d_ST_isFavoured_12 : decode b_ST_isFavoured 12 = .ok (.iconst 1, 1) := by decide +kernel
theorem d_ST_isFavoured_13 : decode b_ST_isFavoured 13 = .ok (.goto 4, 3) := by decide +kernel
theorem d_ST_isFavoured_16 : decode b_ST_isFavoured 16 = .ok (.iconst 0, 1) := by decide +kernel
theorem d_ST_isFavoured_17 : decode b_ST_isFavoured 17 = .ok (.ireturn, 1) := by decide +kernel
noncomputable def s_ST_isFavoured (a1 : Int32) (M : Mem) : Option (Int32 × Mem) :=
  if (((M 5 4) >>> (a1 &&& 31)) &&& (1 : Int32)) = (1 : Int32) then (some ((1 : Int32), M)) else (some ((0 : Int32), M))
set_option maxHeartbeats 4000000 in
set_option maxRecDepth 100000 in
theorem c_ST_isFavoured (l : Launch) (x : Cx) (hJ : Inj x) (a1 : Int32) {M : Mem} {out : Int32 × Mem} (h : s_ST_isFavoured a1 M = some out) : Ci l x y_ST_isFavoured (Cond.code y_ST_isFavoured b_ST_isFavoured 2 (some .boolean) :: tb) r_ST_isFavoured [.ref (x.2.1 5), .int a1] M out := by
  refine ofCz (cc := b_ST_isFavoured) (maxL := 2) (by decide) rfl (rfl) (Nat.le_of_ble_eq_true rfl) ?_
  intro p e s m args below meth c Q G0 ls g hx hb hml hown hts hK hZ hP hS hl hret
  have hown : s.vm.findClass R_ST = some m.cls := hown
  have hl : lv_has ls 2 [(0, .ref (x.2.1 5)), (1, .int a1)] := hl
  obtain ⟨H, eH⟩ : ∃ z, z = s.heap := ⟨_, rfl⟩
  obtain ⟨locs, eL⟩ : ∃ z, z = ([] : List Loc) := ⟨_, rfl⟩
  rw [← eH] at hP
  have hS : va_S (A0 x) s.heap H locs := by rw [eH, eL]; exact hS
  rw [← eL]
  have key : W p l e r_ST_isFavoured s m args below meth c H locs 0 0 Q (F0 m 0 ls []) := by
    clear eH eL
    unfold s_ST_isFavoured at h
    refine lv_aload_n hx hb d_ST_isFavoured_0 rfl (lv_at hl 0 rfl) ?_
    refine gf_ST_31 hx hb hts hown hK hP d_ST_isFavoured_1 ?_
    refine lv_iload_n hx hb d_ST_isFavoured_4 rfl (lv_at hl 1 rfl) ?_
    refine lv_ishr hx hb d_ST_isFavoured_5 ?_
    refine lv_iconst (v := (1 : Int32)) hx hb d_ST_isFavoured_6 (by decide) ?_
    refine lv_iand hx hb d_ST_isFavoured_7 ?_
    refine lv_iconst (v := (1 : Int32)) hx hb d_ST_isFavoured_8 (by decide) ?_
    refine lv_icmp_ne (tgt := 16) hx hb d_ST_isFavoured_9 rfl (fun hc => ?_) (fun hc => ?_)
    · have h := if_m hc h
      refine lv_iconst (v := (0 : Int32)) hx hb d_ST_isFavoured_16 (by decide) ?_
      obtain rfl := Option.some.inj h
      exact hret (by decide) d_ST_isFavoured_17 g hP hS
    · have h := if_p hc h
      refine lv_iconst (v := (1 : Int32)) hx hb d_ST_isFavoured_12 (by decide) ?_
      refine lv_goto (tgt := 17) hx hb d_ST_isFavoured_13 rfl ?_
      obtain rfl := Option.some.inj h
      exact hret (by decide) d_ST_isFavoured_17 g hP hS
  rw [eH] at key
  exact key
theorem d_ST_behind_0 : decode b_ST_behind 0 = .ok (.iload_n 1, 1) := by decide +kernel
theorem d_ST_behind_1 : decode b_ST_behind 1 = .ok (.iconst 1, 1) := by decide +kernel
theorem d_ST_behind_2 : decode b_ST_behind 2 = .ok (.iadd, 1) := by decide +kernel
theorem d_ST_behind_3 : decode b_ST_behind 3 = .ok (.aload_n 0, 1) := by decide +kernel
theorem d_ST_behind_4 : decode b_ST_behind 4 = .ok (.getfield 27, 3) := by decide +kernel
theorem d_ST_behind_7 : decode b_ST_behind 7 = .ok (.if_icmp .ge 9, 3) := by decide +kernel
theorem d_ST_behind_10 : decode b_ST_behind 10 = .ok (.iload_n 1, 1) := by decide +kernel
theorem d_ST_behind_11 : decode b_ST_behind 11 = .ok (.iconst 1, 1) := by decide +kernel
theorem d_ST_behind_12 : decode b_ST_behind 12 = .ok (.iadd, 1) := by decide +kernel
theorem d_ST_behind_13 : decode b_ST_behind 13 = .ok (.goto 4, 3) := by decide +kernel
theorem d_ST_behind_16 : decode b_ST_behind 16 = .ok (.iconst 0, 1) := by decide +kernel
theorem d_ST_behind_17 : decode b_ST_behind 17 = .ok (.ireturn, 1) := by decide +kernel
noncomputable def s_ST_behind (a1 : Int32) (M : Mem) : Option (Int32 × Mem) :=
  if (M 5 3) ≤ (a1 + (1 : Int32)) then (some ((0 : Int32), M)) else (some (a1 + (1 : Int32), M))
set_option maxHeartbeats 4000000 in
set_option maxRecDepth 100000 in
theorem c_ST_behind (l : Launch) (x : Cx) (hJ : Inj x) (a1 : Int32) {M : Mem} {out : Int32 × Mem} (h : s_ST_behind a1 M = some out) : Ci l x y_ST_behind (Cond.code y_ST_behind b_ST_behind 2 (some .int) :: tb) r_ST_behind [.ref (x.2.1 5), .int a1] M out := by
  refine ofCi (cc := b_ST_behind) (maxL := 2) (by decide) rfl (rfl) (Nat.le_of_ble_eq_true rfl) ?_
  intro p e s m args below meth c Q G0 ls g hx hb hml hown hts hK hZ hP hS hl hret
  have hown : s.vm.findClass R_ST = some m.cls := hown
  have hl : lv_has ls 2 [(0, .ref (x.2.1 5)), (1, .int a1)] := hl
  obtain ⟨H, eH⟩ : ∃ z, z = s.heap := ⟨_, rfl⟩
  obtain ⟨locs, eL⟩ : ∃ z, z = ([] : List Loc) := ⟨_, rfl⟩
  rw [← eH] at hP
  have hS : va_S (A0 x) s.heap H locs := by rw [eH, eL]; exact hS
  rw [← eL]
  have key : W p l e r_ST_behind s m args below meth c H locs 0 0 Q (F0 m 0 ls []) := by
    clear eH eL
    unfold s_ST_behind at h
    refine lv_iload_n hx hb d_ST_behind_0 rfl (lv_at hl 1 rfl) ?_
    refine lv_iconst (v := (1 : Int32)) hx hb d_ST_behind_1 (by decide) ?_
    refine lv_iadd hx hb d_ST_behind_2 ?_
    refine lv_aload_n hx hb d_ST_behind_3 rfl (lv_at hl 0 rfl) ?_
    refine gf_ST_27 hx hb hts hown hK hP d_ST_behind_4 ?_
    refine lv_icmp_ge (tgt := 16) hx hb d_ST_behind_7 rfl (fun hc => ?_) (fun hc => ?_)
    · have h := if_p hc h
      refine lv_iconst (v := (0 : Int32)) hx hb d_ST_behind_16 (by decide) ?_
      obtain rfl := Option.some.inj h
      exact hret d_ST_behind_17 g hP hS
    · have h := if_m hc h
      refine lv_iload_n hx hb d_ST_behind_10 rfl (lv_at hl 1 rfl) ?_
      refine lv_iconst (v := (1 : Int32)) hx hb d_ST_behind_11 (by decide) ?_
      refine lv_iadd hx hb d_ST_behind_12 ?_
      refine lv_goto (tgt := 17) hx hb d_ST_behind_13 rfl ?_
      obtain rfl := Option.some.inj h
      exact hret d_ST_behind_17 g hP hS
  rw [eH] at key
  exact key
end
section
theorem d_FI_hasSignOf_0 : decode b_FI_hasSignOf 0 = .ok (.aload_n 0, 1) := by decide +kernel
theorem d_FI_hasSignOf_1 : decode b_FI_hasSignOf 1 = .ok (.getfield 33, 3) := by decide +kernel
theorem d_FI_hasSignOf_4 : decode b_FI_hasSignOf 4 = .ok (.aload_n 1, 1) := by decide +kernel
theorem d_FI_hasSignOf_5 : decode b_FI_hasSignOf 5 = .ok (.getfield 29, 3) := by decide +kernel
theorem d_FI_hasSignOf_8 : decode b_FI_hasSignOf 8 = .ok (.if_icmp .ne 25, 3) := by decide +kernel
theorem d_FI_hasSignOf_11 : decode b_FI_hasSignOf 11 = .ok (.aload_n 0, 1) := by decide +kernel
theorem d_FI_hasSignOf_12 : decode b_FI_hasSignOf 12 = .ok (.getfield 39, 3) := by decide +kernel
theorem d_FI_hasSignOf_15 : decode b_FI_hasSignOf 15 = .ok (.aload_n 1, 1) := by decide +kernel
theorem d_FI_hasSignOf_16 : decode b_FI_hasSignOf 16 = .ok (.getfield 36, 3) := by decide +kernel
theorem d_FI_hasSignOf_19 : decode b_FI_hasSignOf 19 = .ok (.if_icmp .ne 14, 3) := by decide +kernel
theorem d_FI_hasSignOf_22 : decode b_FI_hasSignOf 22 = .ok (.aload_n 0, 1) := by decide +kernel
theorem d_FI_hasSignOf_23 : decode b_FI_hasSignOf 23 = .ok (.getfield 43, 3) := by decide +kernel
theorem d_FI_hasSignOf_26 : decode b_FI_hasSignOf 26 = .ok (.aload_n 1, 1) := by decide +kernel
theorem d_FI_hasSignOf_27 : decode b_FI_hasSignOf 27 = .ok (.getfield 40, 3) := by decide +kernel
theorem d_FI_hasSignOf_30 : decode b_FI_hasSignOf 30 = .ok (.if_icmp .eq 5, 3) := by decide +kernel
theorem d_FI_hasSignOf_33 : decode b_FI_hasSignOf 33 = .ok (.iconst 0, 1) := by decide +kernel
theorem d_FI_hasSignOf_34 : decode b_FI_hasSignOf 34 = .ok (.ireturn, 1) := by decide +kernel
theorem d_FI_hasSignOf_35 : decode b_FI_hasSignOf 35 = .ok (.iconst 0, 1) := by decide +kernel
theorem d_FI_hasSignOf_36 : decode b_FI_hasSignOf 36 = .ok (.istore_n 2, 1) := by decide +kernel
theorem d_FI_hasSignOf_37 : decode b_FI_hasSignOf 37 = .ok (.iload_n 2, 1) := by decide +kernel
theorem d_FI_hasSignOf_38 : decode b_FI_hasSignOf 38 = .ok (.aload_n 0, 1) := by decide +kernel
theorem d_FI_hasSignOf_39 : decode b_FI_hasSignOf 39 = .ok (.getfield 21, 3) := by decide +kernel
theorem d_FI_hasSignOf_42 : decode b_FI_hasSignOf 42 = .ok (.arraylength, 1) := by decide +kernel
theorem d_FI_hasSignOf_43 : decode b_FI_hasSignOf 43 = .ok (.if_icmp .ge 25, 3) := by decide +kernel
theorem d_FI_hasSignOf_46 : decode b_FI_hasSignOf 46 = .ok (.aload_n 0, 1) := by decide +kernel
theorem d_FI_hasSignOf_47 : decode b_FI_hasSignOf 47 = .ok (.getfield 21, 3) := by decide +kernel
theorem d_FI_hasSignOf_50 : decode b_FI_hasSignOf 50 = .ok (.iload_n 2, 1) := by decide +kernel
theorem d_FI_hasSignOf_51 : decode b_FI_hasSignOf 51 = .ok (.iaload, 1) := by decide +kernel
theorem d_FI_hasSignOf_52 : decode b_FI_hasSignOf 52 = .ok (.aload_n 1, 1) := by decide +kernel
theorem d_FI_hasSignOf_53 : decode b_FI_hasSignOf 53 = .ok (.iload_n 2, 1) := by decide +kernel
theorem d_FI_hasSignOf_54 : decode b_FI_hasSignOf 54 = .ok (.invokevirtual 44, 3) := by decide +kernel
theorem d_FI_hasSignOf_57 : decode b_FI_hasSignOf 57 = .ok (.if_icmp .eq 5, 3) := by decide +kernel
theorem d_FI_hasSignOf_60 : decode b_FI_hasSignOf 60 = .ok (.iconst 0, 1) := by decide +kernel
theorem d_FI_hasSignOf_61 : decode b_FI_hasSignOf 61 = .ok (.ireturn, 1) := by decide +kernel
theorem d_FI_hasSignOf_62 : decode b_FI_hasSignOf 62 = .ok (.iinc 2 1, 3) := by decide +kernel
theorem d_FI_hasSignOf_65 : decode b_FI_hasSignOf 65 = .ok (.goto (-28), 3) := by decide +kernel
theorem d_FI_hasSignOf_68 : decode b_FI_hasSignOf 68 = .ok (.iconst 1, 1) := by decide +kernel
theorem d_FI_hasSignOf_69 : decode b_FI_hasSignOf 69 = .ok (.ireturn, 1) := by decide +kernel
noncomputable def l_FI_hasSignOf_37 (j0 : Nat) (j1 : Nat) (v22 : Int32) (M23 : Mem) : Option ((Int32 × Mem) ⊕ (Int32 × Mem)) :=
  if (3 : Int32) ≤ v22 then (some (.inr ((1 : Int32), M23))) else (ck v22 3 (bi (s_RU_onStack j1 v22 M23) (fun r27 M25 => if (M23 (j0 + 1) v22.toNatClampNeg) = r27 then (nx (v22 + (1 : Int32)) (fun v28 => some (.inl (v28, M25)))) else (some (.inr ((0 : Int32), M25))))))
noncomputable def s_FI_hasSignOf (j0 : Nat) (j1 : Nat) (M : Mem) : Option (Int32 × Mem) :=
  if (M j0 3) = (M j1 10) then (if (M j0 4) = (M j1 8) then (if (M j0 5) = (M j1 6) then (nx ((0 : Int32)) (fun v21 => lp (fun q : Int32 × Mem => l_FI_hasSignOf_37 j0 j1 q.1 q.2) (v21, M))) else (some ((0 : Int32), M))) else (some ((0 : Int32), M))) else (some ((0 : Int32), M))
set_option maxHeartbeats 4000000 in
set_option maxRecDepth 100000 in
theorem c_FI_hasSignOf (l : Launch) (x : Cx) (hJ : Inj x) (j0 : Nat) (k0 : kd_fi j0) (j1 : Nat) (k1 : kd_run j1) {M : Mem} {out : Int32 × Mem} (h : s_FI_hasSignOf j0 j1 M = some out) : Ci l x y_FI_hasSignOf (Cond.code y_FI_hasSignOf b_FI_hasSignOf 3 (some .boolean) :: tb) r_FI_hasSignOf [.ref (x.2.1 j0), .ref (x.2.1 j1)] M out := by
  refine ofCz (cc := b_FI_hasSignOf) (maxL := 3) (by decide) rfl (rfl) (Nat.le_of_ble_eq_true rfl) ?_
  intro p e s m args below meth c Q G0 ls g hx hb hml hown hts hK hZ hP hS hl hret
  have hown : s.vm.findClass R_FI = some m.cls := hown
  have hl : lv_has ls 3 [(0, .ref (x.2.1 j0)), (1, .ref (x.2.1 j1))] := hl
  obtain ⟨H, eH⟩ : ∃ z, z = s.heap := ⟨_, rfl⟩
  obtain ⟨locs, eL⟩ : ∃ z, z = ([] : List Loc) := ⟨_, rfl⟩
  rw [← eH] at hP
  have hS : va_S (A0 x) s.heap H locs := by rw [eH, eL]; exact hS
  rw [← eL]
  have key : W p l e r_FI_hasSignOf s m args below meth c H locs 0 0 Q (F0 m 0 ls []) := by
    clear eH eL
    unfold s_FI_hasSignOf at h
    refine lv_aload_n hx hb d_FI_hasSignOf_0 rfl (lv_at hl 0 rfl) ?_
    refine gf_FI_33 hx hb hts hown hK hP k0 d_FI_hasSignOf_1 ?_
    refine lv_aload_n hx hb d_FI_hasSignOf_4 rfl (lv_at hl 1 rfl) ?_
    refine gf_FI_29 hx hb hts hown hK hP k1 d_FI_hasSignOf_5 ?_
    refine lv_icmp_ne (tgt := 33) hx hb d_FI_hasSignOf_8 rfl (fun hc => ?_) (fun hc => ?_)
    · have h := if_m hc h
      refine lv_iconst (v := (0 : Int32)) hx hb d_FI_hasSignOf_33 (by decide) ?_
      obtain rfl := Option.some.inj h
      exact hret (by decide) d_FI_hasSignOf_34 g hP hS
    · have h := if_p hc h
      refine lv_aload_n hx hb d_FI_hasSignOf_11 rfl (lv_at hl 0 rfl) ?_
      refine gf_FI_39 hx hb hts hown hK hP k0 d_FI_hasSignOf_12 ?_
      refine lv_aload_n hx hb d_FI_hasSignOf_15 rfl (lv_at hl 1 rfl) ?_
      refine gf_FI_36 hx hb hts hown hK hP k1 d_FI_hasSignOf_16 ?_
      refine lv_icmp_ne (tgt := 33) hx hb d_FI_hasSignOf_19 rfl (fun hc => ?_) (fun hc => ?_)
      · have h := if_m hc h
        refine lv_iconst (v := (0 : Int32)) hx hb d_FI_hasSignOf_33 (by decide) ?_
        obtain rfl := Option.some.inj h
        exact hret (by decide) d_FI_hasSignOf_34 g hP hS
      · have h := if_p hc h
        refine lv_aload_n hx hb d_FI_hasSignOf_22 rfl (lv_at hl 0 rfl) ?_
        refine gf_FI_43 hx hb hts hown hK hP k0 d_FI_hasSignOf_23 ?_
        refine lv_aload_n hx hb d_FI_hasSignOf_26 rfl (lv_at hl 1 rfl) ?_
        refine gf_FI_40 hx hb hts hown hK hP k1 d_FI_hasSignOf_27 ?_
        refine lv_icmp_eq (tgt := 35) hx hb d_FI_hasSignOf_30 rfl (fun hc => ?_) (fun hc => ?_)
        · have h := if_p hc h
          refine lv_iconst (v := (0 : Int32)) hx hb d_FI_hasSignOf_35 (by decide) ?_
          obtain ⟨v21, ev21, h⟩ := nx_e h
          refine tp_i ev21 ?_
          refine lv_istore_n hx hb d_FI_hasSignOf_36 rfl hl (by decide) rfl (fun ls hl => ?_)
          have hl : lv_has ls 3 [(2, .int v21), (0, .ref (x.2.1 j0)), (1, .ref (x.2.1 j1))] := hl
          obtain ⟨P37, eP37⟩ : ∃ P : (Int32 × Mem) → Prop, P = (fun q => ∀ (H : Heap) (locs : List Loc) (ls : Array Slot), va_P x.1 vwCl (wld x (q.2)) H → va_S (A0 x) s.heap H locs → lv_has ls 3 [(0, .ref (x.2.1 j0)), (1, .ref (x.2.1 j1)), (2, .int (q.1))] → W p l e r_FI_hasSignOf s m args below meth c H locs 0 0 Q (F0 m 37 ls [])) := ⟨_, rfl⟩
          have L37 : P37 (v21, M) := by
            refine lp_walk (G := G0) ?_ h g
            intro q res h g
            obtain ⟨v22, M23⟩ := q
            rw [eP37]
            intro H locs ls hP hS hl
            have hP : va_P x.1 vwCl (wld x M23) H := hP
            have hl : lv_has ls 3 [(0, .ref (x.2.1 j0)), (1, .ref (x.2.1 j1)), (2, .int v22)] := hl
            have h : l_FI_hasSignOf_37 j0 j1 v22 M23 = some res := h
            unfold l_FI_hasSignOf_37 at h
            refine lv_iload_n hx hb d_FI_hasSignOf_37 rfl (lv_at hl 2 rfl) ?_
            refine lv_aload_n hx hb d_FI_hasSignOf_38 rfl (lv_at hl 0 rfl) ?_
            refine gf_FI_21 hx hb hts hown hK hP k0 d_FI_hasSignOf_39 ?_
            refine m_alen hx hb hK hP (ar_FI_latestFirst k0) (v := (3 : Int32)) rfl d_FI_hasSignOf_42 ?_
            refine lv_icmp_ge (tgt := 68) hx hb d_FI_hasSignOf_43 rfl (fun hc => ?_) (fun hc => ?_)
            · have h := if_p hc h
              refine lv_iconst (v := (1 : Int32)) hx hb d_FI_hasSignOf_68 (by decide) ?_
              obtain rfl := Option.some.inj h
              exact hret (by decide) d_FI_hasSignOf_69 g hP hS
            · have h := if_m hc h
              refine lv_aload_n hx hb d_FI_hasSignOf_46 rfl (lv_at hl 0 rfl) ?_
              refine gf_FI_21 hx hb hts hown hK hP k0 d_FI_hasSignOf_47 ?_
              refine lv_iload_n hx hb d_FI_hasSignOf_50 rfl (lv_at hl 2 rfl) ?_
              obtain ⟨b24, h⟩ := ck_e h
              refine m_ald hx hb hK hP (ar_FI_latestFirst k0) b24 d_FI_hasSignOf_51 ?_
              refine lv_aload_n hx hb d_FI_hasSignOf_52 rfl (lv_at hl 1 rfl) ?_
              refine lv_iload_n hx hb d_FI_hasSignOf_53 rfl (lv_at hl 2 rfl) ?_
              obtain ⟨r27, M25, c26, h⟩ := bi_e h
              refine cl_FI_44 (rest := [.int (M23 (j0 + 1) v22.toNatClampNeg)]) (R := r_FI_hasSignOf) (c_RU_onStack l x hJ j1 k1 v22 c26) k1 hx hb hml hts hown hK hZ hP hS hl.1 (Nat.le_of_ble_eq_true rfl) (Nat.le_of_ble_eq_true rfl) (Nat.le_of_ble_eq_true rfl) ⟨rfl, rfl, Nat.zero_le _, Nat.zero_le _⟩ d_FI_hasSignOf_54 (fun H locs hP hS => ?_)
              refine lv_icmp_eq (tgt := 62) hx hb d_FI_hasSignOf_57 rfl (fun hc => ?_) (fun hc => ?_)
              · have h := if_p hc h
                obtain ⟨v28, ev28, h⟩ := nx_e h
                refine lv_iinc (k := 2) hx hb d_FI_hasSignOf_62 hl rfl (iinc_v (k := (1 : Int32)) (by decide) ev28) (by decide) rfl (fun ls hl => ?_)
                have hl : lv_has ls 3 [(2, .int v28), (0, .ref (x.2.1 j0)), (1, .ref (x.2.1 j1))] := hl
                refine lv_goto (tgt := 37) hx hb d_FI_hasSignOf_65 rfl ?_
                obtain rfl := Option.some.inj h
                have g : P37 (v28, M25) := g
                rw [eP37] at g
                exact g H locs ls hP hS (lv_sub hl [1, 2, 0] rfl)
              · have h := if_m hc h
                refine lv_iconst (v := (0 : Int32)) hx hb d_FI_hasSignOf_60 (by decide) ?_
                obtain rfl := Option.some.inj h
                exact hret (by decide) d_FI_hasSignOf_61 g hP hS
          rw [eP37] at L37
          exact L37 H locs ls hP hS (lv_sub hl [1, 2, 0] rfl)
        · have h := if_m hc h
          refine lv_iconst (v := (0 : Int32)) hx hb d_FI_hasSignOf_33 (by decide) ?_
          obtain rfl := Option.some.inj h
          exact hret (by decide) d_FI_hasSignOf_34 g hP hS
  rw [eH] at key
  exact key
theorem d_FS_countHit_0 : decode b_FS_countHit 0 = .ok (.iconst 0, 1) := by decide +kernel
theorem d_FS_countHit_1 : decode b_FS_countHit 1 = .ok (.istore_n 2, 1) := by decide +kernel
theorem d_FS_countHit_2 : decode b_FS_countHit 2 = .ok (.iload_n 2, 1) := by decide +kernel
theorem d_FS_countHit_3 : decode b_FS_countHit 3 = .ok (.aload_n 0, 1) := by decide +kernel
theorem d_FS_countHit_4 : decode b_FS_countHit 4 = .ok (.getfield 16, 3) := by decide +kernel
theorem d_FS_countHit_7 : decode b_FS_countHit 7 = .ok (.if_icmp .ge 39, 3) := by decide +kernel
theorem d_FS_countHit_10 : decode b_FS_countHit 10 = .ok (.aload_n 0, 1) := by decide +kernel
theorem d_FS_countHit_11 : decode b_FS_countHit 11 = .ok (.getfield 11, 3) := by decide +kernel
theorem d_FS_countHit_14 : decode b_FS_countHit 14 = .ok (.iload_n 2, 1) := by decide +kernel
theorem d_FS_countHit_15 : decode b_FS_countHit 15 = .ok (.aaload, 1) := by decide +kernel
theorem d_FS_countHit_16 : decode b_FS_countHit 16 = .ok (.aload_n 1, 1) := by decide +kernel
theorem d_FS_countHit_17 : decode b_FS_countHit 17 = .ok (.invokevirtual 20, 3) := by decide +kernel
theorem d_FS_countHit_20 : decode b_FS_countHit 20 = .ok (.ifCond .eq 20, 3) := by decide +kernel
theorem d_FS_countHit_23 : decode b_FS_countHit 23 = .ok (.aload_n 0, 1) := by decide +kernel
theorem d_FS_countHit_24 : decode b_FS_countHit 24 = .ok (.getfield 11, 3) := by decide +kernel
theorem d_FS_countHit_27 : decode b_FS_countHit 27 = .ok (.iload_n 2, 1) := by decide +kernel
theorem d_FS_countHit_28 : decode b_FS_countHit 28 = .ok (.aaload, 1) := by decide +kernel
theorem d_FS_countHit_29 : decode b_FS_countHit 29 = .ok (.dup, 1) := by decide +kernel
theorem d_FS_countHit_30 : decode b_FS_countHit 30 = .ok (.getfield 24, 3) := by decide +kernel
theorem d_FS_countHit_33 : decode b_FS_countHit 33 = .ok (.iconst 1, 1) := by decide +kernel
theorem d_FS_countHit_34 : decode b_FS_countHit 34 = .ok (.iadd, 1) := by decide +kernel
theorem d_FS_countHit_35 : decode b_FS_countHit 35 = .ok (.putfield 24, 3) := by decide +kernel
theorem d_FS_countHit_38 : decode b_FS_countHit 38 = .ok (.iconst 1, 1) := by decide +kernel
theorem d_FS_countHit_39 : decode b_FS_countHit 39 = .ok (.ireturn, 1) := by decide +kernel
theorem d_FS_countHit_40 : decode b_FS_countHit 40 = .ok (.iinc 2 1, 3) := by decide +kernel
theorem d_FS_countHit_43 : decode b_FS_countHit 43 = .ok (.goto (-41), 3) := by decide +kernel
theorem d_FS_countHit_46 : decode b_FS_countHit 46 = .ok (.iconst 0, 1) := by decide +kernel
theorem d_FS_countHit_47 : decode b_FS_countHit 47 = .ok (.ireturn, 1) := by decide +kernel
noncomputable def j_FS_countHit_23 (a21 : Int32) (M22 : Mem) : Option (Int32 × Mem) :=
  ck a21 8 (nx (st M22 (138 + 2 * a21.toNatClampNeg) 6 ((M22 (138 + 2 * a21.toNatClampNeg) 6) + (1 : Int32))) (fun M24 => some ((1 : Int32), M24)))
noncomputable def l_FS_countHit_2 (j1 : Nat) (v26 : Int32) (M27 : Mem) : Option ((Int32 × Mem) ⊕ (Int32 × Mem)) :=
  if (M27 9 1) ≤ v26 then (some (.inr ((0 : Int32), M27))) else (ck v26 8 (bi (s_FI_hasSignOf (138 + 2 * v26.toNatClampNeg) j1 M27) (fun r31 M29 => if r31 = 0 then (nx (v26 + (1 : Int32)) (fun v32 => some (.inl (v32, M29)))) else (jw1 (j_FS_countHit_23 v26 M29)))))
noncomputable def s_FS_countHit (j1 : Nat) (M : Mem) : Option (Int32 × Mem) :=
  nx ((0 : Int32)) (fun v25 => lp (fun q : Int32 × Mem => l_FS_countHit_2 j1 q.1 q.2) (v25, M))
set_option maxHeartbeats 4000000 in
set_option maxRecDepth 100000 in
theorem c_FS_countHit (l : Launch) (x : Cx) (hJ : Inj x) (j1 : Nat) (k1 : kd_run j1) {M : Mem} {out : Int32 × Mem} (h : s_FS_countHit j1 M = some out) : Ci l x y_FS_countHit (Cond.code y_FS_countHit b_FS_countHit 3 (some .boolean) :: tb) r_FS_countHit [.ref (x.2.1 9), .ref (x.2.1 j1)] M out := by
  refine ofCz (cc := b_FS_countHit) (maxL := 3) (by decide) rfl (rfl) (Nat.le_of_ble_eq_true rfl) ?_
  intro p e s m args below meth c Q G0 ls g hx hb hml hown hts hK hZ hP hS hl hret
  have hown : s.vm.findClass R_FS = some m.cls := hown
  have hl : lv_has ls 3 [(0, .ref (x.2.1 9)), (1, .ref (x.2.1 j1))] := hl
  obtain ⟨H, eH⟩ : ∃ z, z = s.heap := ⟨_, rfl⟩
  obtain ⟨locs, eL⟩ : ∃ z, z = ([] : List Loc) := ⟨_, rfl⟩
  rw [← eH] at hP
  have hS : va_S (A0 x) s.heap H locs := by rw [eH, eL]; exact hS
  rw [← eL]
  have key : W p l e r_FS_countHit s m args below meth c H locs 0 0 Q (F0 m 0 ls []) := by
    clear eH eL
    unfold s_FS_countHit at h
    have J23 : ∀ (a21 : Int32) (M22 : Mem)  (res : Int32 × Mem) (h : j_FS_countHit_23 a21 M22 = some res) (g : G0 res) (H : Heap) (locs : List Loc) (ls : Array Slot) (hP : va_P x.1 vwCl (wld x M22) H) (hS : va_S (A0 x) s.heap H locs) (hl : lv_has ls 3 [(0, .ref (x.2.1 9)), (2, .int a21)]), W p l e r_FS_countHit s m args below meth c H locs 0 0 Q (F0 m 23 ls []) := by
      intro a21 M22 res h g H locs ls hP hS hl
      unfold j_FS_countHit_23 at h
      refine lv_aload_n hx hb d_FS_countHit_23 rfl (lv_at hl 0 rfl) ?_
      refine gf_FS_11 hx hb hts hown hK hP d_FS_countHit_24 ?_
      refine lv_iload_n hx hb d_FS_countHit_27 rfl (lv_at hl 1 rfl) ?_
      obtain ⟨b23, h⟩ := ck_e h
      refine m_aaF hx hb hK hP b23 d_FS_countHit_28 ?_
      refine lv_dup hx hb d_FS_countHit_29 rfl ?_
      refine gf_FS_24 hx hb hts hown hK hP (kd_fi_at b23) d_FS_countHit_30 ?_
      refine lv_iconst (v := (1 : Int32)) hx hb d_FS_countHit_33 (by decide) ?_
      refine lv_iadd hx hb d_FS_countHit_34 ?_
      obtain ⟨M24, eM24, h⟩ := nx_e h
      refine pf_FS_24 hx hb hts hown hK hJ hP hS (kd_fi_at b23) eM24 d_FS_countHit_35 (fun H locs hP hS => ?_)
      refine lv_iconst (v := (1 : Int32)) hx hb d_FS_countHit_38 (by decide) ?_
      obtain rfl := Option.some.inj h
      exact hret (by decide) d_FS_countHit_39 g hP hS
    refine lv_iconst (v := (0 : Int32)) hx hb d_FS_countHit_0 (by decide) ?_
    obtain ⟨v25, ev25, h⟩ := nx_e h
    refine tp_i ev25 ?_
    refine lv_istore_n hx hb d_FS_countHit_1 rfl hl (by decide) rfl (fun ls hl => ?_)
    have hl : lv_has ls 3 [(2, .int v25), (0, .ref (x.2.1 9)), (1, .ref (x.2.1 j1))] := hl
    obtain ⟨P2, eP2⟩ : ∃ P : (Int32 × Mem) → Prop, P = (fun q => ∀ (H : Heap) (locs : List Loc) (ls : Array Slot), va_P x.1 vwCl (wld x (q.2)) H → va_S (A0 x) s.heap H locs → lv_has ls 3 [(0, .ref (x.2.1 9)), (1, .ref (x.2.1 j1)), (2, .int (q.1))] → W p l e r_FS_countHit s m args below meth c H locs 0 0 Q (F0 m 2 ls [])) := ⟨_, rfl⟩
    have L2 : P2 (v25, M) := by
      refine lp_walk (G := G0) ?_ h g
      intro q res h g
      obtain ⟨v26, M27⟩ := q
      rw [eP2]
      intro H locs ls hP hS hl
      have hP : va_P x.1 vwCl (wld x M27) H := hP
      have hl : lv_has ls 3 [(0, .ref (x.2.1 9)), (1, .ref (x.2.1 j1)), (2, .int v26)] := hl
      have h : l_FS_countHit_2 j1 v26 M27 = some res := h
      unfold l_FS_countHit_2 at h
      refine lv_iload_n hx hb d_FS_countHit_2 rfl (lv_at hl 2 rfl) ?_
      refine lv_aload_n hx hb d_FS_countHit_3 rfl (lv_at hl 0 rfl) ?_
      refine gf_FS_16 hx hb hts hown hK hP d_FS_countHit_4 ?_
      refine lv_icmp_ge (tgt := 46) hx hb d_FS_countHit_7 rfl (fun hc => ?_) (fun hc => ?_)
      · have h := if_p hc h
        refine lv_iconst (v := (0 : Int32)) hx hb d_FS_countHit_46 (by decide) ?_
        obtain rfl := Option.some.inj h
        exact hret (by decide) d_FS_countHit_47 g hP hS
      · have h := if_m hc h
        refine lv_aload_n hx hb d_FS_countHit_10 rfl (lv_at hl 0 rfl) ?_
        refine gf_FS_11 hx hb hts hown hK hP d_FS_countHit_11 ?_
        refine lv_iload_n hx hb d_FS_countHit_14 rfl (lv_at hl 2 rfl) ?_
        obtain ⟨b28, h⟩ := ck_e h
        refine m_aaF hx hb hK hP b28 d_FS_countHit_15 ?_
        refine lv_aload_n hx hb d_FS_countHit_16 rfl (lv_at hl 1 rfl) ?_
        obtain ⟨r31, M29, c30, h⟩ := bi_e h
        refine cl_FS_20 (rest := []) (R := r_FS_countHit) (c_FI_hasSignOf l x hJ (138 + 2 * v26.toNatClampNeg) (kd_fi_at b28) j1 k1 c30) (kd_fi_at b28) hx hb hml hts hown hK hZ hP hS hl.1 (Nat.le_of_ble_eq_true rfl) (Nat.le_of_ble_eq_true rfl) (Nat.le_of_ble_eq_true rfl) ⟨rfl, rfl, Nat.zero_le _, Nat.zero_le _⟩ d_FS_countHit_17 (fun H locs hP hS => ?_)
        refine lv_if_eq (tgt := 40) hx hb d_FS_countHit_20 rfl (fun hc => ?_) (fun hc => ?_)
        · have h := if_p hc h
          obtain ⟨v32, ev32, h⟩ := nx_e h
          refine lv_iinc (k := 2) hx hb d_FS_countHit_40 hl rfl (iinc_v (k := (1 : Int32)) (by decide) ev32) (by decide) rfl (fun ls hl => ?_)
          have hl : lv_has ls 3 [(2, .int v32), (0, .ref (x.2.1 9)), (1, .ref (x.2.1 j1))] := hl
          refine lv_goto (tgt := 2) hx hb d_FS_countHit_43 rfl ?_
          obtain rfl := Option.some.inj h
          have g : P2 (v32, M29) := g
          rw [eP2] at g
          exact g H locs ls hP hS (lv_sub hl [1, 2, 0] rfl)
        · have h := if_m hc h
          obtain ⟨res2, hres, h2⟩ := jw1_e h
          clear h
          subst hres
          have h := h2
          exact J23 v26 M29 _ h g H locs ls hP hS (lv_sub hl [0, 2] rfl)
    rw [eP2] at L2
    exact L2 H locs ls hP hS (lv_sub hl [1, 2, 0] rfl)
  rw [eH] at key
  exact key
theorem d_FI_begin_0 : decode b_FI_begin 0 = .ok (.aload_n 0, 1) := by decide +kernel
theorem d_FI_begin_1 : decode b_FI_begin 1 = .ok (.getfield 10, 3) := by decide +kernel
theorem d_FI_begin_4 : decode b_FI_begin 4 = .ok (.aload_n 1, 1) := by decide +kernel
theorem d_FI_begin_5 : decode b_FI_begin 5 = .ok (.invokevirtual 25, 3) := by decide +kernel
theorem d_FI_begin_8 : decode b_FI_begin 8 = .ok (.aload_n 0, 1) := by decide +kernel
theorem d_FI_begin_9 : decode b_FI_begin 9 = .ok (.getfield 16, 3) := by decide +kernel
theorem d_FI_begin_12 : decode b_FI_begin 12 = .ok (.aload_n 1, 1) := by decide +kernel
theorem d_FI_begin_13 : decode b_FI_begin 13 = .ok (.invokevirtual 25, 3) := by decide +kernel
theorem d_FI_begin_16 : decode b_FI_begin 16 = .ok (.aload_n 0, 1) := by decide +kernel
theorem d_FI_begin_17 : decode b_FI_begin 17 = .ok (.aload_n 2, 1) := by decide +kernel
theorem d_FI_begin_18 : decode b_FI_begin 18 = .ok (.getfield 29, 3) := by decide +kernel
theorem d_FI_begin_21 : decode b_FI_begin 21 = .ok (.putfield 33, 3) := by decide +kernel
theorem d_FI_begin_24 : decode b_FI_begin 24 = .ok (.aload_n 0, 1) := by decide +kernel
theorem d_FI_begin_25 : decode b_FI_begin 25 = .ok (.aload_n 2, 1) := by decide +kernel
theorem d_FI_begin_26 : decode b_FI_begin 26 = .ok (.getfield 36, 3) := by decide +kernel
theorem d_FI_begin_29 : decode b_FI_begin 29 = .ok (.putfield 39, 3) := by decide +kernel
theorem d_FI_begin_32 : decode b_FI_begin 32 = .ok (.aload_n 0, 1) := by decide +kernel
theorem d_FI_begin_33 : decode b_FI_begin 33 = .ok (.aload_n 2, 1) := by decide +kernel
theorem d_FI_begin_34 : decode b_FI_begin 34 = .ok (.getfield 40, 3) := by decide +kernel
theorem d_FI_begin_37 : decode b_FI_begin 37 = .ok (.putfield 43, 3) := by decide +kernel
theorem d_FI_begin_40 : decode b_FI_begin 40 = .ok (.iconst 0, 1) := by decide +kernel
theorem d_FI_begin_41 : decode b_FI_begin 41 = .ok (.istore_n 3, 1) := by decide +kernel
theorem d_FI_begin_42 : decode b_FI_begin 42 = .ok (.iload_n 3, 1) := by decide +kernel
theorem d_FI_begin_43 : decode b_FI_begin 43 = .ok (.aload_n 0, 1) := by decide +kernel
theorem d_FI_begin_44 : decode b_FI_begin 44 = .ok (.getfield 21, 3) := by decide +kernel
theorem d_FI_begin_47 : decode b_FI_begin 47 = .ok (.arraylength, 1) := by decide +kernel
theorem d_FI_begin_48 : decode b_FI_begin 48 = .ok (.if_icmp .ge 20, 3) := by decide +kernel
theorem d_FI_begin_51 : decode b_FI_begin 51 = .ok (.aload_n 0, 1) := by decide +kernel
theorem d_FI_begin_52 : decode b_FI_begin 52 = .ok (.getfield 21, 3) := by decide +kernel
theorem d_FI_begin_55 : decode b_FI_begin 55 = .ok (.iload_n 3, 1) := by decide +kernel
theorem d_FI_begin_56 : decode b_FI_begin 56 = .ok (.aload_n 2, 1) := by decide +kernel
theorem d_FI_begin_57 : decode b_FI_begin 57 = .ok (.iload_n 3, 1) := by decide +kernel
theorem d_FI_begin_58 : decode b_FI_begin 58 = .ok (.invokevirtual 44, 3) := by decide +kernel
theorem d_FI_begin_61 : decode b_FI_begin 61 = .ok (.iastore, 1) := by decide +kernel
theorem d_FI_begin_62 : decode b_FI_begin 62 = .ok (.iinc 3 1, 3) := by decide +kernel
theorem d_FI_begin_65 : decode b_FI_begin 65 = .ok (.goto (-23), 3) := by decide +kernel
theorem d_FI_begin_68 : decode b_FI_begin 68 = .ok (.aload_n 0, 1) := by decide +kernel
theorem d_FI_begin_69 : decode b_FI_begin 69 = .ok (.iconst 1, 1) := by decide +kernel
theorem d_FI_begin_70 : decode b_FI_begin 70 = .ok (.putfield 48, 3) := by decide +kernel
theorem d_FI_begin_73 : decode b_FI_begin 73 = .ok (.return_, 1) := by decide +kernel
noncomputable def l_FI_begin_42 (j0 : Nat) (j2 : Nat) (v29 : Int32) (M30 : Mem) : Option ((Int32 × Mem) ⊕ (Mem)) :=
  if (3 : Int32) ≤ v29 then (nx (st M30 j0 6 (1 : Int32)) (fun M31 => some (.inr M31))) else (bi (s_RU_onStack j2 v29 M30) (fun r34 M32 => ck v29 3 (nx (st M32 (j0 + 1) v29.toNatClampNeg r34) (fun M36 => nx (v29 + (1 : Int32)) (fun v37 => some (.inl (v37, M36)))))))
noncomputable def s_FI_begin (j0 : Nat) (j1 : Nat) (j2 : Nat) (M : Mem) : Option (Mem) :=
  bv (s_IN_copy (2 * j0 - 186) j1 M) (fun M21 => bv (s_IN_copy (2 * j0 - 184) j1 M21) (fun M23 => nx (st M23 j0 3 (M23 j2 10)) (fun M25 => nx (st M25 j0 4 (M25 j2 8)) (fun M26 => nx (st M26 j0 5 (M26 j2 6)) (fun M27 => nx ((0 : Int32)) (fun v28 => lp (fun q : Int32 × Mem => l_FI_begin_42 j0 j2 q.1 q.2) (v28, M27)))))))
set_option maxHeartbeats 4000000 in
set_option maxRecDepth 100000 in
theorem c_FI_begin (l : Launch) (x : Cx) (hJ : Inj x) (j0 : Nat) (k0 : kd_fi j0) (j1 : Nat) (k1 : kd_in j1) (j2 : Nat) (k2 : kd_run j2) {M : Mem} {out : Mem} (h : s_FI_begin j0 j1 j2 M = some out) : Cv l x y_FI_begin (Cond.code y_FI_begin b_FI_begin 4 none :: tb) r_FI_begin [.ref (x.2.1 j0), .ref (x.2.1 j1), .ref (x.2.1 j2)] M out := by
  refine ofCv (cc := b_FI_begin) (maxL := 4) (by decide) rfl (rfl) (Nat.le_of_ble_eq_true rfl) ?_
  intro p e s m args below meth c Q G0 ls g hx hb hml hown hts hK hZ hP hS hl hret
  have hown : s.vm.findClass R_FI = some m.cls := hown
  have hl : lv_has ls 4 [(0, .ref (x.2.1 j0)), (1, .ref (x.2.1 j1)), (2, .ref (x.2.1 j2))] := hl
  obtain ⟨H, eH⟩ : ∃ z, z = s.heap := ⟨_, rfl⟩
  obtain ⟨locs, eL⟩ : ∃ z, z = ([] : List Loc) := ⟨_, rfl⟩
  rw [← eH] at hP
  have hS : va_S (A0 x) s.heap H locs := by rw [eH, eL]; exact hS
  rw [← eL]
  have key : W p l e r_FI_begin s m args below meth c H locs 0 0 Q (F0 m 0 ls []) := by
    clear eH eL
    unfold s_FI_begin at h
    refine lv_aload_n hx hb d_FI_begin_0 rfl (lv_at hl 0 rfl) ?_
    refine gf_FI_10 hx hb hts hown hK hP k0 d_FI_begin_1 ?_
    refine lv_aload_n hx hb d_FI_begin_4 rfl (lv_at hl 1 rfl) ?_
    obtain ⟨M21, c22, h⟩ := bv_e h
    refine cl_FI_25 (rest := []) (R := r_FI_begin) (c_IN_copy l x hJ (2 * j0 - 186) (kd_FI_input k0) j1 k1 c22) (kd_FI_input k0) hx hb hml hts hown hK hZ hP hS hl.1 (Nat.le_of_ble_eq_true rfl) (Nat.le_of_ble_eq_true rfl) (Nat.le_of_ble_eq_true rfl) ⟨rfl, rfl, Nat.zero_le _, Nat.zero_le _⟩ d_FI_begin_5 (fun H locs hP hS => ?_)
    refine lv_aload_n hx hb d_FI_begin_8 rfl (lv_at hl 0 rfl) ?_
    refine gf_FI_16 hx hb hts hown hK hP k0 d_FI_begin_9 ?_
    refine lv_aload_n hx hb d_FI_begin_12 rfl (lv_at hl 1 rfl) ?_
    obtain ⟨M23, c24, h⟩ := bv_e h
    refine cl_FI_25 (rest := []) (R := r_FI_begin) (c_IN_copy l x hJ (2 * j0 - 184) (kd_FI_shortest k0) j1 k1 c24) (kd_FI_shortest k0) hx hb hml hts hown hK hZ hP hS hl.1 (Nat.le_of_ble_eq_true rfl) (Nat.le_of_ble_eq_true rfl) (Nat.le_of_ble_eq_true rfl) ⟨rfl, rfl, Nat.zero_le _, Nat.zero_le _⟩ d_FI_begin_13 (fun H locs hP hS => ?_)
    refine lv_aload_n hx hb d_FI_begin_16 rfl (lv_at hl 0 rfl) ?_
    refine lv_aload_n hx hb d_FI_begin_17 rfl (lv_at hl 2 rfl) ?_
    refine gf_FI_29 hx hb hts hown hK hP k2 d_FI_begin_18 ?_
    obtain ⟨M25, eM25, h⟩ := nx_e h
    refine pf_FI_33 hx hb hts hown hK hJ hP hS k0 eM25 d_FI_begin_21 (fun H locs hP hS => ?_)
    refine lv_aload_n hx hb d_FI_begin_24 rfl (lv_at hl 0 rfl) ?_
    refine lv_aload_n hx hb d_FI_begin_25 rfl (lv_at hl 2 rfl) ?_
    refine gf_FI_36 hx hb hts hown hK hP k2 d_FI_begin_26 ?_
    obtain ⟨M26, eM26, h⟩ := nx_e h
    refine pf_FI_39 hx hb hts hown hK hJ hP hS k0 eM26 d_FI_begin_29 (fun H locs hP hS => ?_)
    refine lv_aload_n hx hb d_FI_begin_32 rfl (lv_at hl 0 rfl) ?_
    refine lv_aload_n hx hb d_FI_begin_33 rfl (lv_at hl 2 rfl) ?_
    refine gf_FI_40 hx hb hts hown hK hP k2 d_FI_begin_34 ?_
    obtain ⟨M27, eM27, h⟩ := nx_e h
    refine pf_FI_43 hx hb hts hown hK hJ hP hS k0 eM27 d_FI_begin_37 (fun H locs hP hS => ?_)
    refine lv_iconst (v := (0 : Int32)) hx hb d_FI_begin_40 (by decide) ?_
    obtain ⟨v28, ev28, h⟩ := nx_e h
    refine tp_i ev28 ?_
    refine lv_istore_n hx hb d_FI_begin_41 rfl hl (by decide) rfl (fun ls hl => ?_)
    have hl : lv_has ls 4 [(3, .int v28), (0, .ref (x.2.1 j0)), (1, .ref (x.2.1 j1)), (2, .ref (x.2.1 j2))] := hl
    obtain ⟨P42, eP42⟩ : ∃ P : (Int32 × Mem) → Prop, P = (fun q => ∀ (H : Heap) (locs : List Loc) (ls : Array Slot), va_P x.1 vwCl (wld x (q.2)) H → va_S (A0 x) s.heap H locs → lv_has ls 4 [(0, .ref (x.2.1 j0)), (2, .ref (x.2.1 j2)), (3, .int (q.1))] → W p l e r_FI_begin s m args below meth c H locs 0 0 Q (F0 m 42 ls [])) := ⟨_, rfl⟩
    have L42 : P42 (v28, M27) := by
      refine lp_walk (G := G0) ?_ h g
      intro q res h g
      obtain ⟨v29, M30⟩ := q
      rw [eP42]
      intro H locs ls hP hS hl
      have hP : va_P x.1 vwCl (wld x M30) H := hP
      have hl : lv_has ls 4 [(0, .ref (x.2.1 j0)), (2, .ref (x.2.1 j2)), (3, .int v29)] := hl
      have h : l_FI_begin_42 j0 j2 v29 M30 = some res := h
      unfold l_FI_begin_42 at h
      refine lv_iload_n hx hb d_FI_begin_42 rfl (lv_at hl 2 rfl) ?_
      refine lv_aload_n hx hb d_FI_begin_43 rfl (lv_at hl 0 rfl) ?_
      refine gf_FI_21 hx hb hts hown hK hP k0 d_FI_begin_44 ?_
      refine m_alen hx hb hK hP (ar_FI_latestFirst k0) (v := (3 : Int32)) rfl d_FI_begin_47 ?_
      refine lv_icmp_ge (tgt := 68) hx hb d_FI_begin_48 rfl (fun hc => ?_) (fun hc => ?_)
      · have h := if_p hc h
        refine lv_aload_n hx hb d_FI_begin_68 rfl (lv_at hl 0 rfl) ?_
        refine lv_iconst (v := (1 : Int32)) hx hb d_FI_begin_69 (by decide) ?_
        obtain ⟨M31, eM31, h⟩ := nx_e h
        refine pf_FI_48 hx hb hts hown hK hJ hP hS k0 eM31 d_FI_begin_70 (fun H locs hP hS => ?_)
        obtain rfl := Option.some.inj h
        exact hret d_FI_begin_73 g hP hS
      · have h := if_m hc h
        refine lv_aload_n hx hb d_FI_begin_51 rfl (lv_at hl 0 rfl) ?_
        refine gf_FI_21 hx hb hts hown hK hP k0 d_FI_begin_52 ?_
        refine lv_iload_n hx hb d_FI_begin_55 rfl (lv_at hl 2 rfl) ?_
        refine lv_aload_n hx hb d_FI_begin_56 rfl (lv_at hl 1 rfl) ?_
        refine lv_iload_n hx hb d_FI_begin_57 rfl (lv_at hl 2 rfl) ?_
        obtain ⟨r34, M32, c33, h⟩ := bi_e h
        refine cl_FI_44 (rest := [.int v29, .ref (x.2.1 (j0 + 1))]) (R := r_FI_begin) (c_RU_onStack l x hJ j2 k2 v29 c33) k2 hx hb hml hts hown hK hZ hP hS hl.1 (Nat.le_of_ble_eq_true rfl) (Nat.le_of_ble_eq_true rfl) (Nat.le_of_ble_eq_true rfl) ⟨rfl, rfl, Nat.zero_le _, Nat.zero_le _⟩ d_FI_begin_58 (fun H locs hP hS => ?_)
        obtain ⟨b35, h⟩ := ck_e h
        obtain ⟨M36, eM36, h⟩ := nx_e h
        refine m_ast hx hb hK hJ hP hS (ar_FI_latestFirst k0) b35 eM36 d_FI_begin_61 (fun H locs hP hS => ?_)
        obtain ⟨v37, ev37, h⟩ := nx_e h
        refine lv_iinc (k := 2) hx hb d_FI_begin_62 hl rfl (iinc_v (k := (1 : Int32)) (by decide) ev37) (by decide) rfl (fun ls hl => ?_)
        have hl : lv_has ls 4 [(3, .int v37), (0, .ref (x.2.1 j0)), (2, .ref (x.2.1 j2))] := hl
        refine lv_goto (tgt := 42) hx hb d_FI_begin_65 rfl ?_
        obtain rfl := Option.some.inj h
        have g : P42 (v37, M36) := g
        rw [eP42] at g
        exact g H locs ls hP hS (lv_sub hl [1, 2, 0] rfl)
    rw [eP42] at L42
    exact L42 H locs ls hP hS (lv_sub hl [1, 3, 0] rfl)
  rw [eH] at key
  exact key
theorem d_FS_begin_0 : decode b_FS_begin 0 = .ok (.aload_n 0, 1) := by decide +kernel
theorem d_FS_begin_1 : decode b_FS_begin 1 = .ok (.getfield 16, 3) := by decide +kernel
theorem d_FS_begin_4 : decode b_FS_begin 4 = .ok (.bipush 8, 2) := by decide +kernel
theorem d_FS_begin_6 : decode b_FS_begin 6 = .ok (.if_icmp .lt 5, 3) := by decide +kernel
theorem d_FS_begin_9 : decode b_FS_begin 9 = .ok (.aconst_null, 1) := by decide +kernel
theorem d_FS_begin_10 : decode b_FS_begin 10 = .ok (.areturn, 1) := by decide +kernel
theorem d_FS_begin_11 : decode b_FS_begin 11 = .ok (.aload_n 0, 1) := by decide +kernel
theorem d_FS_begin_12 : decode b_FS_begin 12 = .ok (.getfield 11, 3) := by decide +kernel
theorem d_FS_begin_15 : decode b_FS_begin 15 = .ok (.aload_n 0, 1) := by decide +kernel
theorem d_FS_begin_16 : decode b_FS_begin 16 = .ok (.getfield 16, 3) := by decide +kernel
theorem d_FS_begin_19 : decode b_FS_begin 19 = .ok (.aaload, 1) := by decide +kernel
theorem d_FS_begin_20 : decode b_FS_begin 20 = .ok (.astore_n 3, 1) := by decide +kernel
theorem d_FS_begin_21 : decode b_FS_begin 21 = .ok (.aload_n 3, 1) := by decide +kernel
theorem d_FS_begin_22 : decode b_FS_begin 22 = .ok (.aload_n 1, 1) := by decide +kernel
theorem d_FS_begin_23 : decode b_FS_begin 23 = .ok (.aload_n 2, 1) := by decide +kernel
theorem d_FS_begin_24 : decode b_FS_begin 24 = .ok (.invokevirtual 27, 3) := by decide +kernel
theorem d_FS_begin_27 : decode b_FS_begin 27 = .ok (.aload_n 0, 1) := by decide +kernel
theorem d_FS_begin_28 : decode b_FS_begin 28 = .ok (.dup, 1) := by decide +kernel
theorem d_FS_begin_29 : decode b_FS_begin 29 = .ok (.getfield 16, 3) := by decide +kernel
theorem d_FS_begin_32 : decode b_FS_begin 32 = .ok (.iconst 1, 1) := by decide +kernel
theorem d_FS_begin_33 : decode b_FS_begin 33 = .ok (.iadd, 1) := by decide +kernel
theorem d_FS_begin_34 : decode b_FS_begin 34 = .ok (.putfield 16, 3) := by decide +kernel
theorem d_FS_begin_37 : decode b_FS_begin 37 = .ok (.aload_n 3, 1) := by decide +kernel
theorem d_FS_begin_38 : decode b_FS_begin 38 = .ok (.areturn, 1) := by decide +kernel
noncomputable def s_FS_begin (j1 : Nat) (j2 : Nat) (M : Mem) : Option (Option Nat × Mem) :=
  if (M 9 1) < (8 : Int32) then (ck (M 9 1) 8 (nx (138 + 2 * (M 9 1).toNatClampNeg) (fun j22 => bv (s_FI_begin j22 j1 j2 M) (fun M23 => nx (st M23 9 1 ((M23 9 1) + (1 : Int32))) (fun M25 => some ((some j22 : Option Nat), M25)))))) else (some ((none : Option Nat), M))
set_option maxHeartbeats 4000000 in
set_option maxRecDepth 100000 in
theorem c_FS_begin (l : Launch) (x : Cx) (hJ : Inj x) (j1 : Nat) (k1 : kd_in j1) (j2 : Nat) (k2 : kd_run j2) {M : Mem} {out : Option Nat × Mem} (h : s_FS_begin j1 j2 M = some out) : Cq l x y_FS_begin (Cond.code y_FS_begin b_FS_begin 4 (some (.object "EdgeCampaign$Finding")) :: tb) r_FS_begin [.ref (x.2.1 9), .ref (x.2.1 j1), .ref (x.2.1 j2)] M out := by
  refine ofCq (cc := b_FS_begin) (maxL := 4) (by decide) rfl (rfl) (Nat.le_of_ble_eq_true rfl) ?_
  intro p e s m args below meth c Q G0 ls g hx hb hml hown hts hK hZ hP hS hl hret
  have hown : s.vm.findClass R_FS = some m.cls := hown
  have hl : lv_has ls 4 [(0, .ref (x.2.1 9)), (1, .ref (x.2.1 j1)), (2, .ref (x.2.1 j2))] := hl
  obtain ⟨H, eH⟩ : ∃ z, z = s.heap := ⟨_, rfl⟩
  obtain ⟨locs, eL⟩ : ∃ z, z = ([] : List Loc) := ⟨_, rfl⟩
  rw [← eH] at hP
  have hS : va_S (A0 x) s.heap H locs := by rw [eH, eL]; exact hS
  rw [← eL]
  have key : W p l e r_FS_begin s m args below meth c H locs 0 0 Q (F0 m 0 ls []) := by
    clear eH eL
    unfold s_FS_begin at h
    refine lv_aload_n hx hb d_FS_begin_0 rfl (lv_at hl 0 rfl) ?_
    refine gf_FS_16 hx hb hts hown hK hP d_FS_begin_1 ?_
    refine lv_bipush (v := (8 : Int32)) hx hb d_FS_begin_4 (by decide) ?_
    refine lv_icmp_lt (tgt := 11) hx hb d_FS_begin_6 rfl (fun hc => ?_) (fun hc => ?_)
    · have h := if_p hc h
      refine lv_aload_n hx hb d_FS_begin_11 rfl (lv_at hl 0 rfl) ?_
      refine gf_FS_11 hx hb hts hown hK hP d_FS_begin_12 ?_
      refine lv_aload_n hx hb d_FS_begin_15 rfl (lv_at hl 0 rfl) ?_
      refine gf_FS_16 hx hb hts hown hK hP d_FS_begin_16 ?_
      obtain ⟨b21, h⟩ := ck_e h
      refine m_aaF hx hb hK hP b21 d_FS_begin_19 ?_
      obtain ⟨j22, ej22, h⟩ := nx_e h
      have kj22 : kd_fi j22 := by rw [ej22]; exact kd_fi_at b21
      refine tp_r ej22 ?_
      refine lv_astore_n hx hb d_FS_begin_20 rfl hl (by decide) rfl (fun ls hl => ?_)
      have hl : lv_has ls 4 [(3, .ref (x.2.1 j22)), (0, .ref (x.2.1 9)), (1, .ref (x.2.1 j1)), (2, .ref (x.2.1 j2))] := hl
      refine lv_aload_n hx hb d_FS_begin_21 rfl (lv_at hl 0 rfl) ?_
      refine lv_aload_n hx hb d_FS_begin_22 rfl (lv_at hl 2 rfl) ?_
      refine lv_aload_n hx hb d_FS_begin_23 rfl (lv_at hl 3 rfl) ?_
      obtain ⟨M23, c24, h⟩ := bv_e h
      refine cl_FS_27 (rest := []) (R := r_FS_begin) (c_FI_begin l x hJ j22 kj22 j1 k1 j2 k2 c24) kj22 hx hb hml hts hown hK hZ hP hS hl.1 (Nat.le_of_ble_eq_true rfl) (Nat.le_of_ble_eq_true rfl) (Nat.le_of_ble_eq_true rfl) ⟨rfl, rfl, Nat.zero_le _, Nat.zero_le _⟩ d_FS_begin_24 (fun H locs hP hS => ?_)
      refine lv_aload_n hx hb d_FS_begin_27 rfl (lv_at hl 1 rfl) ?_
      refine lv_dup hx hb d_FS_begin_28 rfl ?_
      refine gf_FS_16 hx hb hts hown hK hP d_FS_begin_29 ?_
      refine lv_iconst (v := (1 : Int32)) hx hb d_FS_begin_32 (by decide) ?_
      refine lv_iadd hx hb d_FS_begin_33 ?_
      obtain ⟨M25, eM25, h⟩ := nx_e h
      refine pf_FS_16 hx hb hts hown hK hJ hP hS eM25 d_FS_begin_34 (fun H locs hP hS => ?_)
      refine lv_aload_n hx hb d_FS_begin_37 rfl (lv_at hl 0 rfl) ?_
      obtain rfl := Option.some.inj h
      exact hret (r := some j22) d_FS_begin_38 g hP hS
    · have h := if_m hc h
      refine lv_null hx hb d_FS_begin_9 ?_
      obtain rfl := Option.some.inj h
      exact hret (r := none) d_FS_begin_10 g hP hS
  rw [eH] at key
  exact key
theorem d_FS_has_0 : decode b_FS_has 0 = .ok (.iload_n 1, 1) := by decide +kernel
theorem d_FS_has_1 : decode b_FS_has 1 = .ok (.ifCond .lt 15, 3) := by decide +kernel
theorem d_FS_has_4 : decode b_FS_has 4 = .ok (.iload_n 1, 1) := by decide +kernel
theorem d_FS_has_5 : decode b_FS_has 5 = .ok (.aload_n 0, 1) := by decide +kernel
theorem d_FS_has_6 : decode b_FS_has 6 = .ok (.getfield 16, 3) := by decide +kernel
theorem d_FS_has_9 : decode b_FS_has 9 = .ok (.if_icmp .ge 7, 3) := by decide +kernel
theorem d_FS_has_12 : decode b_FS_has 12 = .ok (.iconst 1, 1) := by decide +kernel
theorem d_FS_has_13 : decode b_FS_has 13 = .ok (.goto 4, 3) := by decide +kernel
theorem d_FS_has_16 : decode b_FS_has 16 = .ok (.iconst 0, 1) := by decide +kernel
theorem d_FS_has_17 : decode b_FS_has 17 = .ok (.ireturn, 1) := by decide +kernel
noncomputable def s_FS_has (a1 : Int32) (M : Mem) : Option (Int32 × Mem) :=
  if a1 < 0 then (some ((0 : Int32), M)) else (if (M 9 1) ≤ a1 then (some ((0 : Int32), M)) else (some ((1 : Int32), M)))
set_option maxHeartbeats 4000000 in
set_option maxRecDepth 100000 in
theorem c_FS_has (l : Launch) (x : Cx) (hJ : Inj x) (a1 : Int32) {M : Mem} {out : Int32 × Mem} (h : s_FS_has a1 M = some out) : Ci l x y_FS_has (Cond.code y_FS_has b_FS_has 2 (some .boolean) :: tb) r_FS_has [.ref (x.2.1 9), .int a1] M out := by
  refine ofCz (cc := b_FS_has) (maxL := 2) (by decide) rfl (rfl) (Nat.le_of_ble_eq_true rfl) ?_
  intro p e s m args below meth c Q G0 ls g hx hb hml hown hts hK hZ hP hS hl hret
  have hown : s.vm.findClass R_FS = some m.cls := hown
  have hl : lv_has ls 2 [(0, .ref (x.2.1 9)), (1, .int a1)] := hl
  obtain ⟨H, eH⟩ : ∃ z, z = s.heap := ⟨_, rfl⟩
  obtain ⟨locs, eL⟩ : ∃ z, z = ([] : List Loc) := ⟨_, rfl⟩
  rw [← eH] at hP
  have hS : va_S (A0 x) s.heap H locs := by rw [eH, eL]; exact hS
  rw [← eL]
  have key : W p l e r_FS_has s m args below meth c H locs 0 0 Q (F0 m 0 ls []) := by
    clear eH eL
    unfold s_FS_has at h
    refine lv_iload_n hx hb d_FS_has_0 rfl (lv_at hl 1 rfl) ?_
    refine lv_if_lt (tgt := 16) hx hb d_FS_has_1 rfl (fun hc => ?_) (fun hc => ?_)
    · have h := if_p hc h
      refine lv_iconst (v := (0 : Int32)) hx hb d_FS_has_16 (by decide) ?_
      obtain rfl := Option.some.inj h
      exact hret (by decide) d_FS_has_17 g hP hS
    · have h := if_m hc h
      refine lv_iload_n hx hb d_FS_has_4 rfl (lv_at hl 1 rfl) ?_
      refine lv_aload_n hx hb d_FS_has_5 rfl (lv_at hl 0 rfl) ?_
      refine gf_FS_16 hx hb hts hown hK hP d_FS_has_6 ?_
      refine lv_icmp_ge (tgt := 16) hx hb d_FS_has_9 rfl (fun hc => ?_) (fun hc => ?_)
      · have h := if_p hc h
        refine lv_iconst (v := (0 : Int32)) hx hb d_FS_has_16 (by decide) ?_
        obtain rfl := Option.some.inj h
        exact hret (by decide) d_FS_has_17 g hP hS
      · have h := if_m hc h
        refine lv_iconst (v := (1 : Int32)) hx hb d_FS_has_12 (by decide) ?_
        refine lv_goto (tgt := 17) hx hb d_FS_has_13 rfl ?_
        obtain rfl := Option.some.inj h
        exact hret (by decide) d_FS_has_17 g hP hS
  rw [eH] at key
  exact key
end
section
theorem d_SH_makePart_0 : decode b_SH_makePart 0 = .ok (.aload_n 0, 1) := by decide +kernel
theorem d_SH_makePart_1 : decode b_SH_makePart 1 = .ok (.getfield 19, 3) := by decide +kernel
theorem d_SH_makePart_4 : decode b_SH_makePart 4 = .ok (.iconst 0, 1) := by decide +kernel
theorem d_SH_makePart_5 : decode b_SH_makePart 5 = .ok (.invokevirtual 64, 3) := by decide +kernel
theorem d_SH_makePart_8 : decode b_SH_makePart 8 = .ok (.aload_n 0, 1) := by decide +kernel
theorem d_SH_makePart_9 : decode b_SH_makePart 9 = .ok (.getfield 19, 3) := by decide +kernel
theorem d_SH_makePart_12 : decode b_SH_makePart 12 = .ok (.aload_n 1, 1) := by decide +kernel
theorem d_SH_makePart_13 : decode b_SH_makePart 13 = .ok (.iload_n 2, 1) := by decide +kernel
theorem d_SH_makePart_14 : decode b_SH_makePart 14 = .ok (.iload_n 3, 1) := by decide +kernel
theorem d_SH_makePart_15 : decode b_SH_makePart 15 = .ok (.invokevirtual 68, 3) := by decide +kernel
theorem d_SH_makePart_18 : decode b_SH_makePart 18 = .ok (.return_, 1) := by decide +kernel
noncomputable def s_SH_makePart (j1 : Nat) (a2 : Int32) (a3 : Int32) (M : Mem) : Option (Mem) :=
  bv (s_IN_cutTo 56 (0 : Int32) M) (fun M21 => bv (s_IN_appendPart 56 j1 a2 a3 M21) (fun M23 => some M23))
set_option maxHeartbeats 4000000 in
set_option maxRecDepth 100000 in
theorem c_SH_makePart (l : Launch) (x : Cx) (hJ : Inj x) (j1 : Nat) (k1 : kd_in j1) (a2 : Int32) (a3 : Int32) {M : Mem} {out : Mem} (h : s_SH_makePart j1 a2 a3 M = some out) : Cv l x y_SH_makePart (Cond.code y_SH_makePart b_SH_makePart 4 none :: tb) r_SH_makePart [.ref (x.2.1 11), .ref (x.2.1 j1), .int a2, .int a3] M out := by
  refine ofCv (cc := b_SH_makePart) (maxL := 4) (by decide) rfl (rfl) (Nat.le_of_ble_eq_true rfl) ?_
  intro p e s m args below meth c Q G0 ls g hx hb hml hown hts hK hZ hP hS hl hret
  have hown : s.vm.findClass R_SH = some m.cls := hown
  have hl : lv_has ls 4 [(0, .ref (x.2.1 11)), (1, .ref (x.2.1 j1)), (2, .int a2), (3, .int a3)] := hl
  obtain ⟨H, eH⟩ : ∃ z, z = s.heap := ⟨_, rfl⟩
  obtain ⟨locs, eL⟩ : ∃ z, z = ([] : List Loc) := ⟨_, rfl⟩
  rw [← eH] at hP
  have hS : va_S (A0 x) s.heap H locs := by rw [eH, eL]; exact hS
  rw [← eL]
  have key : W p l e r_SH_makePart s m args below meth c H locs 0 0 Q (F0 m 0 ls []) := by
    clear eH eL
    unfold s_SH_makePart at h
    refine lv_aload_n hx hb d_SH_makePart_0 rfl (lv_at hl 0 rfl) ?_
    refine gf_SH_19 hx hb hts hown hK hP d_SH_makePart_1 ?_
    refine lv_iconst (v := (0 : Int32)) hx hb d_SH_makePart_4 (by decide) ?_
    obtain ⟨M21, c22, h⟩ := bv_e h
    refine cl_SH_64 (rest := []) (R := r_SH_makePart) (c_IN_cutTo l x hJ 56 kd_SH_candidate (0 : Int32) c22) kd_SH_candidate hx hb hml hts hown hK hZ hP hS hl.1 (Nat.le_of_ble_eq_true rfl) (Nat.le_of_ble_eq_true rfl) (Nat.le_of_ble_eq_true rfl) ⟨rfl, rfl, Nat.zero_le _, Nat.zero_le _⟩ d_SH_makePart_5 (fun H locs hP hS => ?_)
    refine lv_aload_n hx hb d_SH_makePart_8 rfl (lv_at hl 0 rfl) ?_
    refine gf_SH_19 hx hb hts hown hK hP d_SH_makePart_9 ?_
    refine lv_aload_n hx hb d_SH_makePart_12 rfl (lv_at hl 1 rfl) ?_
    refine lv_iload_n hx hb d_SH_makePart_13 rfl (lv_at hl 2 rfl) ?_
    refine lv_iload_n hx hb d_SH_makePart_14 rfl (lv_at hl 3 rfl) ?_
    obtain ⟨M23, c24, h⟩ := bv_e h
    refine cl_SH_68 (rest := []) (R := r_SH_makePart) (c_IN_appendPart l x hJ 56 kd_SH_candidate j1 k1 a2 a3 c24) kd_SH_candidate hx hb hml hts hown hK hZ hP hS hl.1 (Nat.le_of_ble_eq_true rfl) (Nat.le_of_ble_eq_true rfl) (Nat.le_of_ble_eq_true rfl) ⟨rfl, rfl, Nat.zero_le _, Nat.zero_le _⟩ d_SH_makePart_15 (fun H locs hP hS => ?_)
    obtain rfl := Option.some.inj h
    exact hret d_SH_makePart_18 g hP hS
  rw [eH] at key
  exact key
theorem d_SH_makeRest_0 : decode b_SH_makeRest 0 = .ok (.aload_n 0, 1) := by decide +kernel
theorem d_SH_makeRest_1 : decode b_SH_makeRest 1 = .ok (.getfield 19, 3) := by decide +kernel
theorem d_SH_makeRest_4 : decode b_SH_makeRest 4 = .ok (.iconst 0, 1) := by decide +kernel
theorem d_SH_makeRest_5 : decode b_SH_makeRest 5 = .ok (.invokevirtual 64, 3) := by decide +kernel
theorem d_SH_makeRest_8 : decode b_SH_makeRest 8 = .ok (.aload_n 0, 1) := by decide +kernel
theorem d_SH_makeRest_9 : decode b_SH_makeRest 9 = .ok (.getfield 19, 3) := by decide +kernel
theorem d_SH_makeRest_12 : decode b_SH_makeRest 12 = .ok (.aload_n 1, 1) := by decide +kernel
theorem d_SH_makeRest_13 : decode b_SH_makeRest 13 = .ok (.iconst 0, 1) := by decide +kernel
theorem d_SH_makeRest_14 : decode b_SH_makeRest 14 = .ok (.iload_n 2, 1) := by decide +kernel
theorem d_SH_makeRest_15 : decode b_SH_makeRest 15 = .ok (.invokevirtual 68, 3) := by decide +kernel
theorem d_SH_makeRest_18 : decode b_SH_makeRest 18 = .ok (.aload_n 0, 1) := by decide +kernel
theorem d_SH_makeRest_19 : decode b_SH_makeRest 19 = .ok (.getfield 19, 3) := by decide +kernel
theorem d_SH_makeRest_22 : decode b_SH_makeRest 22 = .ok (.aload_n 1, 1) := by decide +kernel
theorem d_SH_makeRest_23 : decode b_SH_makeRest 23 = .ok (.iload_n 3, 1) := by decide +kernel
theorem d_SH_makeRest_24 : decode b_SH_makeRest 24 = .ok (.aload_n 1, 1) := by decide +kernel
theorem d_SH_makeRest_25 : decode b_SH_makeRest 25 = .ok (.getfield 28, 3) := by decide +kernel
theorem d_SH_makeRest_28 : decode b_SH_makeRest 28 = .ok (.invokevirtual 68, 3) := by decide +kernel
theorem d_SH_makeRest_31 : decode b_SH_makeRest 31 = .ok (.return_, 1) := by decide +kernel
noncomputable def s_SH_makeRest (j1 : Nat) (a2 : Int32) (a3 : Int32) (M : Mem) : Option (Mem) :=
  bv (s_IN_cutTo 56 (0 : Int32) M) (fun M21 => bv (s_IN_appendPart 56 j1 (0 : Int32) a2 M21) (fun M23 => bv (s_IN_appendPart 56 j1 a3 (M23 j1 1) M23) (fun M25 => some M25)))
set_option maxHeartbeats 4000000 in
set_option maxRecDepth 100000 in
theorem c_SH_makeRest (l : Launch) (x : Cx) (hJ : Inj x) (j1 : Nat) (k1 : kd_in j1) (a2 : Int32) (a3 : Int32) {M : Mem} {out : Mem} (h : s_SH_makeRest j1 a2 a3 M = some out) : Cv l x y_SH_makeRest (Cond.code y_SH_makeRest b_SH_makeRest 4 none :: tb) r_SH_makeRest [.ref (x.2.1 11), .ref (x.2.1 j1), .int a2, .int a3] M out := by
  refine ofCv (cc := b_SH_makeRest) (maxL := 4) (by decide) rfl (rfl) (Nat.le_of_ble_eq_true rfl) ?_
  intro p e s m args below meth c Q G0 ls g hx hb hml hown hts hK hZ hP hS hl hret
  have hown : s.vm.findClass R_SH = some m.cls := hown
  have hl : lv_has ls 4 [(0, .ref (x.2.1 11)), (1, .ref (x.2.1 j1)), (2, .int a2), (3, .int a3)] := hl
  obtain ⟨H, eH⟩ : ∃ z, z = s.heap := ⟨_, rfl⟩
  obtain ⟨locs, eL⟩ : ∃ z, z = ([] : List Loc) := ⟨_, rfl⟩
  rw [← eH] at hP
  have hS : va_S (A0 x) s.heap H locs := by rw [eH, eL]; exact hS
  rw [← eL]
  have key : W p l e r_SH_makeRest s m args below meth c H locs 0 0 Q (F0 m 0 ls []) := by
    clear eH eL
    unfold s_SH_makeRest at h
    refine lv_aload_n hx hb d_SH_makeRest_0 rfl (lv_at hl 0 rfl) ?_
    refine gf_SH_19 hx hb hts hown hK hP d_SH_makeRest_1 ?_
    refine lv_iconst (v := (0 : Int32)) hx hb d_SH_makeRest_4 (by decide) ?_
    obtain ⟨M21, c22, h⟩ := bv_e h
    refine cl_SH_64 (rest := []) (R := r_SH_makeRest) (c_IN_cutTo l x hJ 56 kd_SH_candidate (0 : Int32) c22) kd_SH_candidate hx hb hml hts hown hK hZ hP hS hl.1 (Nat.le_of_ble_eq_true rfl) (Nat.le_of_ble_eq_true rfl) (Nat.le_of_ble_eq_true rfl) ⟨rfl, rfl, Nat.zero_le _, Nat.zero_le _⟩ d_SH_makeRest_5 (fun H locs hP hS => ?_)
    refine lv_aload_n hx hb d_SH_makeRest_8 rfl (lv_at hl 0 rfl) ?_
    refine gf_SH_19 hx hb hts hown hK hP d_SH_makeRest_9 ?_
    refine lv_aload_n hx hb d_SH_makeRest_12 rfl (lv_at hl 1 rfl) ?_
    refine lv_iconst (v := (0 : Int32)) hx hb d_SH_makeRest_13 (by decide) ?_
    refine lv_iload_n hx hb d_SH_makeRest_14 rfl (lv_at hl 2 rfl) ?_
    obtain ⟨M23, c24, h⟩ := bv_e h
    refine cl_SH_68 (rest := []) (R := r_SH_makeRest) (c_IN_appendPart l x hJ 56 kd_SH_candidate j1 k1 (0 : Int32) a2 c24) kd_SH_candidate hx hb hml hts hown hK hZ hP hS hl.1 (Nat.le_of_ble_eq_true rfl) (Nat.le_of_ble_eq_true rfl) (Nat.le_of_ble_eq_true rfl) ⟨rfl, rfl, Nat.zero_le _, Nat.zero_le _⟩ d_SH_makeRest_15 (fun H locs hP hS => ?_)
    refine lv_aload_n hx hb d_SH_makeRest_18 rfl (lv_at hl 0 rfl) ?_
    refine gf_SH_19 hx hb hts hown hK hP d_SH_makeRest_19 ?_
    refine lv_aload_n hx hb d_SH_makeRest_22 rfl (lv_at hl 1 rfl) ?_
    refine lv_iload_n hx hb d_SH_makeRest_23 rfl (lv_at hl 3 rfl) ?_
    refine lv_aload_n hx hb d_SH_makeRest_24 rfl (lv_at hl 1 rfl) ?_
    refine gf_SH_28 hx hb hts hown hK hP k1 d_SH_makeRest_25 ?_
    obtain ⟨M25, c26, h⟩ := bv_e h
    refine cl_SH_68 (rest := []) (R := r_SH_makeRest) (c_IN_appendPart l x hJ 56 kd_SH_candidate j1 k1 a3 (M23 j1 1) c26) kd_SH_candidate hx hb hml hts hown hK hZ hP hS hl.1 (Nat.le_of_ble_eq_true rfl) (Nat.le_of_ble_eq_true rfl) (Nat.le_of_ble_eq_true rfl) ⟨rfl, rfl, Nat.zero_le _, Nat.zero_le _⟩ d_SH_makeRest_28 (fun H locs hP hS => ?_)
    obtain rfl := Option.some.inj h
    exact hret d_SH_makeRest_31 g hP hS
  rw [eH] at key
  exact key
theorem d_SH_keepFirst_0 : decode b_SH_keepFirst 0 = .ok (.aload_n 1, 1) := by decide +kernel
theorem d_SH_keepFirst_1 : decode b_SH_keepFirst 1 = .ok (.getfield 23, 3) := by decide +kernel
theorem d_SH_keepFirst_4 : decode b_SH_keepFirst 4 = .ok (.astore 5, 2) := by decide +kernel
theorem d_SH_keepFirst_6 : decode b_SH_keepFirst 6 = .ok (.iconst 0, 1) := by decide +kernel
theorem d_SH_keepFirst_7 : decode b_SH_keepFirst 7 = .ok (.istore 6, 2) := by decide +kernel
theorem d_SH_keepFirst_9 : decode b_SH_keepFirst 9 = .ok (.iload 6, 2) := by decide +kernel
theorem d_SH_keepFirst_11 : decode b_SH_keepFirst 11 = .ok (.iload_n 3, 1) := by decide +kernel
theorem d_SH_keepFirst_12 : decode b_SH_keepFirst 12 = .ok (.if_icmp .ge 97, 3) := by decide +kernel
theorem d_SH_keepFirst_15 : decode b_SH_keepFirst 15 = .ok (.iload 6, 2) := by decide +kernel
theorem d_SH_keepFirst_17 : decode b_SH_keepFirst 17 = .ok (.aload 5, 2) := by decide +kernel
theorem d_SH_keepFirst_19 : decode b_SH_keepFirst 19 = .ok (.getfield 28, 3) := by decide +kernel
theorem d_SH_keepFirst_22 : decode b_SH_keepFirst 22 = .ok (.imul, 1) := by decide +kernel
theorem d_SH_keepFirst_23 : decode b_SH_keepFirst 23 = .ok (.iload_n 3, 1) := by decide +kernel
theorem d_SH_keepFirst_24 : decode b_SH_keepFirst 24 = .ok (.idiv, 1) := by decide +kernel
theorem d_SH_keepFirst_25 : decode b_SH_keepFirst 25 = .ok (.istore 7, 2) := by decide +kernel
theorem d_SH_keepFirst_27 : decode b_SH_keepFirst 27 = .ok (.iload 6, 2) := by decide +kernel
theorem d_SH_keepFirst_29 : decode b_SH_keepFirst 29 = .ok (.iconst 1, 1) := by decide +kernel
theorem d_SH_keepFirst_30 : decode b_SH_keepFirst 30 = .ok (.iadd, 1) := by decide +kernel
theorem d_SH_keepFirst_31 : decode b_SH_keepFirst 31 = .ok (.aload 5, 2) := by decide +kernel
theorem d_SH_keepFirst_33 : decode b_SH_keepFirst 33 = .ok (.getfield 28, 3) := by decide +kernel
theorem d_SH_keepFirst_36 : decode b_SH_keepFirst 36 = .ok (.imul, 1) := by decide +kernel
theorem d_SH_keepFirst_37 : decode b_SH_keepFirst 37 = .ok (.iload_n 3, 1) := by decide +kernel
theorem d_SH_keepFirst_38 : decode b_SH_keepFirst 38 = .ok (.idiv, 1) := by decide +kernel
theorem d_SH_keepFirst_39 : decode b_SH_keepFirst 39 = .ok (.istore 8, 2) := by decide +kernel
theorem d_SH_keepFirst_41 : decode b_SH_keepFirst 41 = .ok (.iload 4, 2) := by decide +kernel
theorem d_SH_keepFirst_43 : decode b_SH_keepFirst 43 = .ok (.ifCond .eq 16, 3) := by decide +kernel
theorem d_SH_keepFirst_46 : decode b_SH_keepFirst 46 = .ok (.aload_n 0, 1) := by decide +kernel
theorem d_SH_keepFirst_47 : decode b_SH_keepFirst 47 = .ok (.aload 5, 2) := by decide +kernel
theorem d_SH_keepFirst_49 : decode b_SH_keepFirst 49 = .ok (.iload 7, 2) := by decide +kernel
theorem d_SH_keepFirst_51 : decode b_SH_keepFirst 51 = .ok (.iload 8, 2) := by decide +kernel
theorem d_SH_keepFirst_53 : decode b_SH_keepFirst 53 = .ok (.invokevirtual 45, 3) := by decide +kernel
theorem d_SH_keepFirst_56 : decode b_SH_keepFirst 56 = .ok (.goto 13, 3) := by decide +kernel
theorem d_SH_keepFirst_59 : decode b_SH_keepFirst 59 = .ok (.aload_n 0, 1) := by decide +kernel
theorem d_SH_keepFirst_60 : decode b_SH_keepFirst 60 = .ok (.aload 5, 2) := by decide +kernel
theorem d_SH_keepFirst_62 : decode b_SH_keepFirst 62 = .ok (.iload 7, 2) := by decide +kernel
theorem d_SH_keepFirst_64 : decode b_SH_keepFirst 64 = .ok (.iload 8, 2) := by decide +kernel
theorem d_SH_keepFirst_66 : decode b_SH_keepFirst 66 = .ok (.invokevirtual 49, 3) := by decide +kernel
theorem d_SH_keepFirst_69 : decode b_SH_keepFirst 69 = .ok (.aload_n 0, 1) := by decide +kernel
theorem d_SH_keepFirst_70 : decode b_SH_keepFirst 70 = .ok (.getfield 10, 3) := by decide +kernel
theorem d_SH_keepFirst_73 : decode b_SH_keepFirst 73 = .ok (.aload_n 2, 1) := by decide +kernel
theorem d_SH_keepFirst_74 : decode b_SH_keepFirst 74 = .ok (.aload_n 0, 1) := by decide +kernel
theorem d_SH_keepFirst_75 : decode b_SH_keepFirst 75 = .ok (.getfield 19, 3) := by decide +kernel
theorem d_SH_keepFirst_78 : decode b_SH_keepFirst 78 = .ok (.invokevirtual 52, 3) := by decide +kernel
theorem d_SH_keepFirst_81 : decode b_SH_keepFirst 81 = .ok (.aload_n 1, 1) := by decide +kernel
theorem d_SH_keepFirst_82 : decode b_SH_keepFirst 82 = .ok (.aload_n 0, 1) := by decide +kernel
theorem d_SH_keepFirst_83 : decode b_SH_keepFirst 83 = .ok (.getfield 10, 3) := by decide +kernel
theorem d_SH_keepFirst_86 : decode b_SH_keepFirst 86 = .ok (.invokevirtual 56, 3) := by decide +kernel
theorem d_SH_keepFirst_89 : decode b_SH_keepFirst 89 = .ok (.ifCond .eq 14, 3) := by decide +kernel
theorem d_SH_keepFirst_92 : decode b_SH_keepFirst 92 = .ok (.aload 5, 2) := by decide +kernel
theorem d_SH_keepFirst_94 : decode b_SH_keepFirst 94 = .ok (.aload_n 0, 1) := by decide +kernel
theorem d_SH_keepFirst_95 : decode b_SH_keepFirst 95 = .ok (.getfield 19, 3) := by decide +kernel
theorem d_SH_keepFirst_98 : decode b_SH_keepFirst 98 = .ok (.invokevirtual 60, 3) := by decide +kernel
theorem d_SH_keepFirst_101 : decode b_SH_keepFirst 101 = .ok (.iconst 1, 1) := by decide +kernel
theorem d_SH_keepFirst_102 : decode b_SH_keepFirst 102 = .ok (.ireturn, 1) := by decide +kernel
theorem d_SH_keepFirst_103 : decode b_SH_keepFirst 103 = .ok (.iinc 6 1, 3) := by decide +kernel
theorem d_SH_keepFirst_106 : decode b_SH_keepFirst 106 = .ok (.goto (-97), 3) := by decide +kernel
theorem d_SH_keepFirst_109 : decode b_SH_keepFirst 109 = .ok (.iconst 0, 1) := by decide +kernel
theorem d_SH_keepFirst_110 : decode b_SH_keepFirst 110 = .ok (.ireturn, 1) := by decide +kernel
noncomputable def j_SH_keepFirst_92 (j21 : Nat) (M23 : Mem) : Option (Int32 × Mem) :=
  bv (s_IN_copy j21 56 M23) (fun M24 => some ((1 : Int32), M24))
noncomputable def j_SH_keepFirst_69 (j1 : Nat) (a3 : Int32) (a4 : Int32) (j26 : Nat) (a30 : Int32) (M31 : Mem) : Option ((Int32 × Mem) ⊕ (Int32 × Mem)) :=
  bv (s_RU_perform 20 56 M31) (fun M32 => bi (s_FI_hasSignOf j1 20 M32) (fun r36 M34 => if r36 = 0 then (nx (a30 + (1 : Int32)) (fun v37 => some (.inl (v37, M34)))) else (jw1 (j_SH_keepFirst_92 j26 M34))))
noncomputable def l_SH_keepFirst_9 (j1 : Nat) (a3 : Int32) (a4 : Int32) (j26 : Nat) (v28 : Int32) (M29 : Mem) : Option ((Int32 × Mem) ⊕ (Int32 × Mem)) :=
  if a3 ≤ v28 then (some (.inr ((0 : Int32), M29))) else (cz a3 (nx ((v28 * (M29 j26 1)) / a3) (fun v39 => cz a3 (nx (((v28 + (1 : Int32)) * (M29 j26 1)) / a3) (fun v41 => if a4 = 0 then (bv (s_SH_makeRest j26 v39 v41 M29) (fun M42 => j_SH_keepFirst_69 j1 a3 a4 j26 v28 M42)) else (bv (s_SH_makePart j26 v39 v41 M29) (fun M44 => j_SH_keepFirst_69 j1 a3 a4 j26 v28 M44)))))))
noncomputable def s_SH_keepFirst (j1 : Nat) (a3 : Int32) (a4 : Int32) (M : Mem) : Option (Int32 × Mem) :=
  nx (2 * j1 - 184) (fun j26 => nx ((0 : Int32)) (fun v27 => lp (fun q : Int32 × Mem => l_SH_keepFirst_9 j1 a3 a4 j26 q.1 q.2) (v27, M)))
set_option maxHeartbeats 4000000 in
set_option maxRecDepth 100000 in
theorem c_SH_keepFirst (l : Launch) (x : Cx) (hJ : Inj x) (j1 : Nat) (k1 : kd_fi j1) (a3 : Int32) (a4 : Int32) {M : Mem} {out : Int32 × Mem} (h : s_SH_keepFirst j1 a3 a4 M = some out) : Ci l x y_SH_keepFirst (Cond.code y_SH_keepFirst b_SH_keepFirst 9 (some .boolean) :: tb) r_SH_keepFirst [.ref (x.2.1 11), .ref (x.2.1 j1), .ref (x.2.1 1), .int a3, .int a4] M out := by
  refine ofCz (cc := b_SH_keepFirst) (maxL := 9) (by decide) rfl (rfl) (Nat.le_of_ble_eq_true rfl) ?_
  intro p e s m args below meth c Q G0 ls g hx hb hml hown hts hK hZ hP hS hl hret
  have hown : s.vm.findClass R_SH = some m.cls := hown
  have hl : lv_has ls 9 [(0, .ref (x.2.1 11)), (1, .ref (x.2.1 j1)), (2, .ref (x.2.1 1)), (3, .int a3), (4, .int a4)] := hl
  obtain ⟨H, eH⟩ : ∃ z, z = s.heap := ⟨_, rfl⟩
  obtain ⟨locs, eL⟩ : ∃ z, z = ([] : List Loc) := ⟨_, rfl⟩
  rw [← eH] at hP
  have hS : va_S (A0 x) s.heap H locs := by rw [eH, eL]; exact hS
  rw [← eL]
  have key : W p l e r_SH_keepFirst s m args below meth c H locs 0 0 Q (F0 m 0 ls []) := by
    clear eH eL
    unfold s_SH_keepFirst at h
    have J92 : ∀ (j21 : Nat) (M23 : Mem) (k22 : kd_in j21) (res : Int32 × Mem) (h : j_SH_keepFirst_92 j21 M23 = some res) (g : G0 res) (H : Heap) (locs : List Loc) (ls : Array Slot) (hP : va_P x.1 vwCl (wld x M23) H) (hS : va_S (A0 x) s.heap H locs) (hl : lv_has ls 9 [(0, .ref (x.2.1 11)), (5, .ref (x.2.1 j21))]), W p l e r_SH_keepFirst s m args below meth c H locs 0 0 Q (F0 m 92 ls []) := by
      intro j21 M23 k22 res h g H locs ls hP hS hl
      unfold j_SH_keepFirst_92 at h
      refine lv_aload hx hb d_SH_keepFirst_92 (lv_at hl 1 rfl) ?_
      refine lv_aload_n hx hb d_SH_keepFirst_94 rfl (lv_at hl 0 rfl) ?_
      refine gf_SH_19 hx hb hts hown hK hP d_SH_keepFirst_95 ?_
      obtain ⟨M24, c25, h⟩ := bv_e h
      refine cl_SH_60 (rest := []) (R := r_SH_keepFirst) (c_IN_copy l x hJ j21 k22 56 kd_SH_candidate c25) k22 hx hb hml hts hown hK hZ hP hS hl.1 (Nat.le_of_ble_eq_true rfl) (Nat.le_of_ble_eq_true rfl) (Nat.le_of_ble_eq_true rfl) ⟨rfl, rfl, Nat.zero_le _, Nat.zero_le _⟩ d_SH_keepFirst_98 (fun H locs hP hS => ?_)
      refine lv_iconst (v := (1 : Int32)) hx hb d_SH_keepFirst_101 (by decide) ?_
      obtain rfl := Option.some.inj h
      exact hret (by decide) d_SH_keepFirst_102 g hP hS
    refine lv_aload_n hx hb d_SH_keepFirst_0 rfl (lv_at hl 1 rfl) ?_
    refine gf_SH_23 hx hb hts hown hK hP k1 d_SH_keepFirst_1 ?_
    obtain ⟨j26, ej26, h⟩ := nx_e h
    have kj26 : kd_in j26 := by rw [ej26]; exact kd_FI_shortest k1
    refine tp_r ej26 ?_
    refine lv_astore hx hb d_SH_keepFirst_4 hl (by decide) rfl (fun ls hl => ?_)
    have hl : lv_has ls 9 [(5, .ref (x.2.1 j26)), (0, .ref (x.2.1 11)), (1, .ref (x.2.1 j1)), (2, .ref (x.2.1 1)), (3, .int a3), (4, .int a4)] := hl
    refine lv_iconst (v := (0 : Int32)) hx hb d_SH_keepFirst_6 (by decide) ?_
    obtain ⟨v27, ev27, h⟩ := nx_e h
    refine tp_i ev27 ?_
    refine lv_istore hx hb d_SH_keepFirst_7 hl (by decide) rfl (fun ls hl => ?_)
    have hl : lv_has ls 9 [(6, .int v27), (5, .ref (x.2.1 j26)), (0, .ref (x.2.1 11)), (1, .ref (x.2.1 j1)), (2, .ref (x.2.1 1)), (3, .int a3), (4, .int a4)] := hl
    obtain ⟨P9, eP9⟩ : ∃ P : (Int32 × Mem) → Prop, P = (fun q => ∀ (H : Heap) (locs : List Loc) (ls : Array Slot), va_P x.1 vwCl (wld x (q.2)) H → va_S (A0 x) s.heap H locs → lv_has ls 9 [(0, .ref (x.2.1 11)), (1, .ref (x.2.1 j1)), (2, .ref (x.2.1 1)), (3, .int a3), (4, .int a4), (5, .ref (x.2.1 j26)), (6, .int (q.1))] → W p l e r_SH_keepFirst s m args below meth c H locs 0 0 Q (F0 m 9 ls [])) := ⟨_, rfl⟩
    have L9 : P9 (v27, M) := by
      refine lp_walk (G := G0) ?_ h g
      intro q res h g
      obtain ⟨v28, M29⟩ := q
      rw [eP9]
      intro H locs ls hP hS hl
      have hP : va_P x.1 vwCl (wld x M29) H := hP
      have hl : lv_has ls 9 [(0, .ref (x.2.1 11)), (1, .ref (x.2.1 j1)), (2, .ref (x.2.1 1)), (3, .int a3), (4, .int a4), (5, .ref (x.2.1 j26)), (6, .int v28)] := hl
      have h : l_SH_keepFirst_9 j1 a3 a4 j26 v28 M29 = some res := h
      unfold l_SH_keepFirst_9 at h
      have J69 : ∀ (a30 : Int32) (M31 : Mem)  (res : (Int32 × Mem) ⊕ (Int32 × Mem)) (h : j_SH_keepFirst_69 j1 a3 a4 j26 a30 M31 = some res) (g : (lpG P9 G0) res) (H : Heap) (locs : List Loc) (ls : Array Slot) (hP : va_P x.1 vwCl (wld x M31) H) (hS : va_S (A0 x) s.heap H locs) (hl : lv_has ls 9 [(0, .ref (x.2.1 11)), (1, .ref (x.2.1 j1)), (2, .ref (x.2.1 1)), (3, .int a3), (4, .int a4), (5, .ref (x.2.1 j26)), (6, .int a30)]), W p l e r_SH_keepFirst s m args below meth c H locs 0 0 Q (F0 m 69 ls []) := by
        intro a30 M31 res h g H locs ls hP hS hl
        unfold j_SH_keepFirst_69 at h
        refine lv_aload_n hx hb d_SH_keepFirst_69 rfl (lv_at hl 0 rfl) ?_
        refine gf_SH_10 hx hb hts hown hK hP d_SH_keepFirst_70 ?_
        refine lv_aload_n hx hb d_SH_keepFirst_73 rfl (lv_at hl 2 rfl) ?_
        refine lv_aload_n hx hb d_SH_keepFirst_74 rfl (lv_at hl 0 rfl) ?_
        refine gf_SH_19 hx hb hts hown hK hP d_SH_keepFirst_75 ?_
        obtain ⟨M32, c33, h⟩ := bv_e h
        refine cl_SH_52 (rest := []) (R := r_SH_keepFirst) (c_RU_perform l x hJ 20 kd_SH_run 56 kd_SH_candidate c33) kd_SH_run hx hb hml hts hown hK hZ hP hS hl.1 (Nat.le_of_ble_eq_true rfl) (Nat.le_of_ble_eq_true rfl) (Nat.le_of_ble_eq_true rfl) ⟨rfl, rfl, Nat.zero_le _, Nat.zero_le _⟩ d_SH_keepFirst_78 (fun H locs hP hS => ?_)
        refine lv_aload_n hx hb d_SH_keepFirst_81 rfl (lv_at hl 1 rfl) ?_
        refine lv_aload_n hx hb d_SH_keepFirst_82 rfl (lv_at hl 0 rfl) ?_
        refine gf_SH_10 hx hb hts hown hK hP d_SH_keepFirst_83 ?_
        obtain ⟨r36, M34, c35, h⟩ := bi_e h
        refine cl_SH_56 (rest := []) (R := r_SH_keepFirst) (c_FI_hasSignOf l x hJ j1 k1 20 kd_SH_run c35) k1 hx hb hml hts hown hK hZ hP hS hl.1 (Nat.le_of_ble_eq_true rfl) (Nat.le_of_ble_eq_true rfl) (Nat.le_of_ble_eq_true rfl) ⟨rfl, rfl, Nat.zero_le _, Nat.zero_le _⟩ d_SH_keepFirst_86 (fun H locs hP hS => ?_)
        refine lv_if_eq (tgt := 103) hx hb d_SH_keepFirst_89 rfl (fun hc => ?_) (fun hc => ?_)
        · have h := if_p hc h
          obtain ⟨v37, ev37, h⟩ := nx_e h
          refine lv_iinc (k := 6) hx hb d_SH_keepFirst_103 hl rfl (iinc_v (k := (1 : Int32)) (by decide) ev37) (by decide) rfl (fun ls hl => ?_)
          have hl : lv_has ls 9 [(6, .int v37), (0, .ref (x.2.1 11)), (1, .ref (x.2.1 j1)), (2, .ref (x.2.1 1)), (3, .int a3), (4, .int a4), (5, .ref (x.2.1 j26))] := hl
          refine lv_goto (tgt := 9) hx hb d_SH_keepFirst_106 rfl ?_
          obtain rfl := Option.some.inj h
          have g : P9 (v37, M34) := g
          rw [eP9] at g
          exact g H locs ls hP hS (lv_sub hl [1, 2, 3, 4, 5, 6, 0] rfl)
        · have h := if_m hc h
          obtain ⟨res2, hres, h2⟩ := jw1_e h
          clear h
          subst hres
          have h := h2
          exact J92 j26 M34 kj26 _ h g H locs ls hP hS (lv_sub hl [0, 5] rfl)
      refine lv_iload hx hb d_SH_keepFirst_9 (lv_at hl 6 rfl) ?_
      refine lv_iload_n hx hb d_SH_keepFirst_11 rfl (lv_at hl 3 rfl) ?_
      refine lv_icmp_ge (tgt := 109) hx hb d_SH_keepFirst_12 rfl (fun hc => ?_) (fun hc => ?_)
      · have h := if_p hc h
        refine lv_iconst (v := (0 : Int32)) hx hb d_SH_keepFirst_109 (by decide) ?_
        obtain rfl := Option.some.inj h
        exact hret (by decide) d_SH_keepFirst_110 g hP hS
      · have h := if_m hc h
        refine lv_iload hx hb d_SH_keepFirst_15 (lv_at hl 6 rfl) ?_
        refine lv_aload hx hb d_SH_keepFirst_17 (lv_at hl 5 rfl) ?_
        refine gf_SH_28 hx hb hts hown hK hP kj26 d_SH_keepFirst_19 ?_
        refine lv_imul hx hb d_SH_keepFirst_22 ?_
        refine lv_iload_n hx hb d_SH_keepFirst_23 rfl (lv_at hl 3 rfl) ?_
        obtain ⟨z38, h⟩ := cz_e h
        refine lv_idiv hx hb d_SH_keepFirst_24 z38 ?_
        obtain ⟨v39, ev39, h⟩ := nx_e h
        refine tp_i ev39 ?_
        refine lv_istore hx hb d_SH_keepFirst_25 hl (by decide) rfl (fun ls hl => ?_)
        have hl : lv_has ls 9 [(7, .int v39), (0, .ref (x.2.1 11)), (1, .ref (x.2.1 j1)), (2, .ref (x.2.1 1)), (3, .int a3), (4, .int a4), (5, .ref (x.2.1 j26)), (6, .int v28)] := hl
        refine lv_iload hx hb d_SH_keepFirst_27 (lv_at hl 7 rfl) ?_
        refine lv_iconst (v := (1 : Int32)) hx hb d_SH_keepFirst_29 (by decide) ?_
        refine lv_iadd hx hb d_SH_keepFirst_30 ?_
        refine lv_aload hx hb d_SH_keepFirst_31 (lv_at hl 6 rfl) ?_
        refine gf_SH_28 hx hb hts hown hK hP kj26 d_SH_keepFirst_33 ?_
        refine lv_imul hx hb d_SH_keepFirst_36 ?_
        refine lv_iload_n hx hb d_SH_keepFirst_37 rfl (lv_at hl 4 rfl) ?_
        obtain ⟨z40, h⟩ := cz_e h
        refine lv_idiv hx hb d_SH_keepFirst_38 z40 ?_
        obtain ⟨v41, ev41, h⟩ := nx_e h
        refine tp_i ev41 ?_
        refine lv_istore hx hb d_SH_keepFirst_39 hl (by decide) rfl (fun ls hl => ?_)
        have hl : lv_has ls 9 [(8, .int v41), (7, .int v39), (0, .ref (x.2.1 11)), (1, .ref (x.2.1 j1)), (2, .ref (x.2.1 1)), (3, .int a3), (4, .int a4), (5, .ref (x.2.1 j26)), (6, .int v28)] := hl
        refine lv_iload hx hb d_SH_keepFirst_41 (lv_at hl 6 rfl) ?_
        refine lv_if_eq (tgt := 59) hx hb d_SH_keepFirst_43 rfl (fun hc => ?_) (fun hc => ?_)
        · have h := if_p hc h
          refine lv_aload_n hx hb d_SH_keepFirst_59 rfl (lv_at hl 2 rfl) ?_
          refine lv_aload hx hb d_SH_keepFirst_60 (lv_at hl 7 rfl) ?_
          refine lv_iload hx hb d_SH_keepFirst_62 (lv_at hl 1 rfl) ?_
          refine lv_iload hx hb d_SH_keepFirst_64 (lv_at hl 0 rfl) ?_
          obtain ⟨M42, c43, h⟩ := bv_e h
          refine cl_SH_49 (rest := []) (R := r_SH_keepFirst) (c_SH_makeRest l x hJ j26 kj26 v39 v41 c43) hx hb hml hts hown hK hZ hP hS hl.1 (Nat.le_of_ble_eq_true rfl) (Nat.le_of_ble_eq_true rfl) (Nat.le_of_ble_eq_true rfl) ⟨rfl, rfl, Nat.zero_le _, Nat.zero_le _⟩ d_SH_keepFirst_66 (fun H locs hP hS => ?_)
          exact J69 v28 M42 _ h g H locs ls hP hS (lv_sub hl [2, 3, 4, 5, 6, 7, 8] rfl)
        · have h := if_m hc h
          refine lv_aload_n hx hb d_SH_keepFirst_46 rfl (lv_at hl 2 rfl) ?_
          refine lv_aload hx hb d_SH_keepFirst_47 (lv_at hl 7 rfl) ?_
          refine lv_iload hx hb d_SH_keepFirst_49 (lv_at hl 1 rfl) ?_
          refine lv_iload hx hb d_SH_keepFirst_51 (lv_at hl 0 rfl) ?_
          obtain ⟨M44, c45, h⟩ := bv_e h
          refine cl_SH_45 (rest := []) (R := r_SH_keepFirst) (c_SH_makePart l x hJ j26 kj26 v39 v41 c45) hx hb hml hts hown hK hZ hP hS hl.1 (Nat.le_of_ble_eq_true rfl) (Nat.le_of_ble_eq_true rfl) (Nat.le_of_ble_eq_true rfl) ⟨rfl, rfl, Nat.zero_le _, Nat.zero_le _⟩ d_SH_keepFirst_53 (fun H locs hP hS => ?_)
          refine lv_goto (tgt := 69) hx hb d_SH_keepFirst_56 rfl ?_
          exact J69 v28 M44 _ h g H locs ls hP hS (lv_sub hl [2, 3, 4, 5, 6, 7, 8] rfl)
    rw [eP9] at L9
    exact L9 H locs ls hP hS (lv_sub hl [2, 3, 4, 5, 6, 1, 0] rfl)
  rw [eH] at key
  exact key
theorem d_SH_shorten_0 : decode b_SH_shorten 0 = .ok (.iconst 2, 1) := by decide +kernel
theorem d_SH_shorten_1 : decode b_SH_shorten 1 = .ok (.istore_n 3, 1) := by decide +kernel
theorem d_SH_shorten_2 : decode b_SH_shorten 2 = .ok (.iconst 0, 1) := by decide +kernel
theorem d_SH_shorten_3 : decode b_SH_shorten 3 = .ok (.istore 4, 2) := by decide +kernel
theorem d_SH_shorten_5 : decode b_SH_shorten 5 = .ok (.iload 4, 2) := by decide +kernel
theorem d_SH_shorten_7 : decode b_SH_shorten 7 = .ok (.bipush 64, 2) := by decide +kernel
theorem d_SH_shorten_9 : decode b_SH_shorten 9 = .ok (.if_icmp .ge 97, 3) := by decide +kernel
theorem d_SH_shorten_12 : decode b_SH_shorten 12 = .ok (.aload_n 1, 1) := by decide +kernel
theorem d_SH_shorten_13 : decode b_SH_shorten 13 = .ok (.getfield 23, 3) := by decide +kernel
theorem d_SH_shorten_16 : decode b_SH_shorten 16 = .ok (.getfield 28, 3) := by decide +kernel
theorem d_SH_shorten_19 : decode b_SH_shorten 19 = .ok (.istore 5, 2) := by decide +kernel
theorem d_SH_shorten_21 : decode b_SH_shorten 21 = .ok (.iload_n 3, 1) := by decide +kernel
theorem d_SH_shorten_22 : decode b_SH_shorten 22 = .ok (.iload 5, 2) := by decide +kernel
theorem d_SH_shorten_24 : decode b_SH_shorten 24 = .ok (.invokestatic 32, 3) := by decide +kernel
theorem d_SH_shorten_27 : decode b_SH_shorten 27 = .ok (.istore 6, 2) := by decide +kernel
theorem d_SH_shorten_29 : decode b_SH_shorten 29 = .ok (.iload 5, 2) := by decide +kernel
theorem d_SH_shorten_31 : decode b_SH_shorten 31 = .ok (.ifCond .ne 4, 3) := by decide +kernel
theorem d_SH_shorten_34 : decode b_SH_shorten 34 = .ok (.return_, 1) := by decide +kernel
theorem d_SH_shorten_35 : decode b_SH_shorten 35 = .ok (.iload 6, 2) := by decide +kernel
theorem d_SH_shorten_37 : decode b_SH_shorten 37 = .ok (.iconst 2, 1) := by decide +kernel
theorem d_SH_shorten_38 : decode b_SH_shorten 38 = .ok (.if_icmp .lt 20, 3) := by decide +kernel
theorem d_SH_shorten_41 : decode b_SH_shorten 41 = .ok (.aload_n 0, 1) := by decide +kernel
theorem d_SH_shorten_42 : decode b_SH_shorten 42 = .ok (.aload_n 1, 1) := by decide +kernel
theorem d_SH_shorten_43 : decode b_SH_shorten 43 = .ok (.aload_n 2, 1) := by decide +kernel
theorem d_SH_shorten_44 : decode b_SH_shorten 44 = .ok (.iload 6, 2) := by decide +kernel
theorem d_SH_shorten_46 : decode b_SH_shorten 46 = .ok (.iconst 1, 1) := by decide +kernel
theorem d_SH_shorten_47 : decode b_SH_shorten 47 = .ok (.invokevirtual 38, 3) := by decide +kernel
theorem d_SH_shorten_50 : decode b_SH_shorten 50 = .ok (.ifCond .eq 8, 3) := by decide +kernel
theorem d_SH_shorten_53 : decode b_SH_shorten 53 = .ok (.iconst 2, 1) := by decide +kernel
theorem d_SH_shorten_54 : decode b_SH_shorten 54 = .ok (.istore_n 3, 1) := by decide +kernel
theorem d_SH_shorten_55 : decode b_SH_shorten 55 = .ok (.goto 45, 3) := by decide +kernel
theorem d_SH_shorten_58 : decode b_SH_shorten 58 = .ok (.aload_n 0, 1) := by decide +kernel
theorem d_SH_shorten_59 : decode b_SH_shorten 59 = .ok (.aload_n 1, 1) := by decide +kernel
theorem d_SH_shorten_60 : decode b_SH_shorten 60 = .ok (.aload_n 2, 1) := by decide +kernel
theorem d_SH_shorten_61 : decode b_SH_shorten 61 = .ok (.iload 6, 2) := by decide +kernel
theorem d_SH_shorten_63 : decode b_SH_shorten 63 = .ok (.iconst 0, 1) := by decide +kernel
theorem d_SH_shorten_64 : decode b_SH_shorten 64 = .ok (.invokevirtual 38, 3) := by decide +kernel
theorem d_SH_shorten_67 : decode b_SH_shorten 67 = .ok (.ifCond .eq 15, 3) := by decide +kernel
theorem d_SH_shorten_70 : decode b_SH_shorten 70 = .ok (.iload 6, 2) := by decide +kernel
theorem d_SH_shorten_72 : decode b_SH_shorten 72 = .ok (.iconst 1, 1) := by decide +kernel
theorem d_SH_shorten_73 : decode b_SH_shorten 73 = .ok (.isub, 1) := by decide +kernel
theorem d_SH_shorten_74 : decode b_SH_shorten 74 = .ok (.iconst 2, 1) := by decide +kernel
theorem d_SH_shorten_75 : decode b_SH_shorten 75 = .ok (.invokestatic 42, 3) := by decide +kernel
theorem d_SH_shorten_78 : decode b_SH_shorten 78 = .ok (.istore_n 3, 1) := by decide +kernel
theorem d_SH_shorten_79 : decode b_SH_shorten 79 = .ok (.goto 21, 3) := by decide +kernel
theorem d_SH_shorten_82 : decode b_SH_shorten 82 = .ok (.iload 6, 2) := by decide +kernel
theorem d_SH_shorten_84 : decode b_SH_shorten 84 = .ok (.iload 5, 2) := by decide +kernel
theorem d_SH_shorten_86 : decode b_SH_shorten 86 = .ok (.if_icmp .ne 4, 3) := by decide +kernel
theorem d_SH_shorten_89 : decode b_SH_shorten 89 = .ok (.return_, 1) := by decide +kernel
theorem d_SH_shorten_90 : decode b_SH_shorten 90 = .ok (.iconst 2, 1) := by decide +kernel
theorem d_SH_shorten_91 : decode b_SH_shorten 91 = .ok (.iload 6, 2) := by decide +kernel
theorem d_SH_shorten_93 : decode b_SH_shorten 93 = .ok (.imul, 1) := by decide +kernel
theorem d_SH_shorten_94 : decode b_SH_shorten 94 = .ok (.iload 5, 2) := by decide +kernel
theorem d_SH_shorten_96 : decode b_SH_shorten 96 = .ok (.invokestatic 32, 3) := by decide +kernel
theorem d_SH_shorten_99 : decode b_SH_shorten 99 = .ok (.istore_n 3, 1) := by decide +kernel
theorem d_SH_shorten_100 : decode b_SH_shorten 100 = .ok (.iinc 4 1, 3) := by decide +kernel
theorem d_SH_shorten_103 : decode b_SH_shorten 103 = .ok (.goto (-98), 3) := by decide +kernel
theorem d_SH_shorten_106 : decode b_SH_shorten 106 = .ok (.return_, 1) := by decide +kernel
noncomputable def j_SH_shorten_100 (j1 : Nat) (a26 : Int32) (a27 : Int32) (M28 : Mem) : Option ((Int32 × Int32 × Mem) ⊕ Mem) :=
  nx (a27 + (1 : Int32)) (fun v29 => some (.inl (a26, v29, M28)))
noncomputable def j_SH_shorten_58 (j1 : Nat) (a30 : Int32) (a31 : Int32) (a32 : Int32) (M33 : Mem) : Option ((Int32 × Int32 × Mem) ⊕ Mem) :=
  bi (s_SH_keepFirst j1 a32 (0 : Int32) M33) (fun r36 M34 => if r36 = 0 then (if a32 = a31 then (some (.inr M34)) else (nx (if a31 < ((2 : Int32) * a32) then a31 else ((2 : Int32) * a32)) (fun v37 => j_SH_shorten_100 j1 v37 a30 M34))) else (nx (if (a32 - (1 : Int32)) < (2 : Int32) then (2 : Int32) else (a32 - (1 : Int32))) (fun v38 => j_SH_shorten_100 j1 v38 a30 M34)))
noncomputable def l_SH_shorten_5 (j1 : Nat) (v23 : Int32) (v24 : Int32) (M25 : Mem) : Option ((Int32 × Int32 × Mem) ⊕ (Mem)) :=
  if (64 : Int32) ≤ v24 then (some (.inr M25)) else (nx (M25 (2 * j1 - 184) 1) (fun v39 => nx (if v39 < v23 then v39 else v23) (fun v40 => if v39 = 0 then (some (.inr M25)) else (if v40 < (2 : Int32) then (j_SH_shorten_58 j1 v24 v39 v40 M25) else (bi (s_SH_keepFirst j1 v40 (1 : Int32) M25) (fun r43 M41 => if r43 = 0 then (j_SH_shorten_58 j1 v24 v39 v40 M41) else (nx ((2 : Int32)) (fun v44 => j_SH_shorten_100 j1 v44 v24 M41))))))))
noncomputable def s_SH_shorten (j1 : Nat) (M : Mem) : Option (Mem) :=
  nx ((2 : Int32)) (fun v21 => nx ((0 : Int32)) (fun v22 => lp (fun q : Int32 × Int32 × Mem => l_SH_shorten_5 j1 q.1 q.2.1 q.2.2) (v21, v22, M)))
set_option maxHeartbeats 4000000 in
set_option maxRecDepth 100000 in
theorem c_SH_shorten (l : Launch) (x : Cx) (hJ : Inj x) (j1 : Nat) (k1 : kd_fi j1) {M : Mem} {out : Mem} (h : s_SH_shorten j1 M = some out) : Cv l x y_SH_shorten (Cond.code y_SH_shorten b_SH_shorten 7 none :: tb) r_SH_shorten [.ref (x.2.1 11), .ref (x.2.1 j1), .ref (x.2.1 1)] M out := by
  refine ofCv (cc := b_SH_shorten) (maxL := 7) (by decide) rfl (rfl) (Nat.le_of_ble_eq_true rfl) ?_
  intro p e s m args below meth c Q G0 ls g hx hb hml hown hts hK hZ hP hS hl hret
  have hown : s.vm.findClass R_SH = some m.cls := hown
  have hl : lv_has ls 7 [(0, .ref (x.2.1 11)), (1, .ref (x.2.1 j1)), (2, .ref (x.2.1 1))] := hl
  obtain ⟨H, eH⟩ : ∃ z, z = s.heap := ⟨_, rfl⟩
  obtain ⟨locs, eL⟩ : ∃ z, z = ([] : List Loc) := ⟨_, rfl⟩
  rw [← eH] at hP
  have hS : va_S (A0 x) s.heap H locs := by rw [eH, eL]; exact hS
  rw [← eL]
  have key : W p l e r_SH_shorten s m args below meth c H locs 0 0 Q (F0 m 0 ls []) := by
    clear eH eL
    unfold s_SH_shorten at h
    refine lv_iconst (v := (2 : Int32)) hx hb d_SH_shorten_0 (by decide) ?_
    obtain ⟨v21, ev21, h⟩ := nx_e h
    refine tp_i ev21 ?_
    refine lv_istore_n hx hb d_SH_shorten_1 rfl hl (by decide) rfl (fun ls hl => ?_)
    have hl : lv_has ls 7 [(3, .int v21), (0, .ref (x.2.1 11)), (1, .ref (x.2.1 j1)), (2, .ref (x.2.1 1))] := hl
    refine lv_iconst (v := (0 : Int32)) hx hb d_SH_shorten_2 (by decide) ?_
    obtain ⟨v22, ev22, h⟩ := nx_e h
    refine tp_i ev22 ?_
    refine lv_istore hx hb d_SH_shorten_3 hl (by decide) rfl (fun ls hl => ?_)
    have hl : lv_has ls 7 [(4, .int v22), (3, .int v21), (0, .ref (x.2.1 11)), (1, .ref (x.2.1 j1)), (2, .ref (x.2.1 1))] := hl
    obtain ⟨P5, eP5⟩ : ∃ P : (Int32 × Int32 × Mem) → Prop, P = (fun q => ∀ (H : Heap) (locs : List Loc) (ls : Array Slot), va_P x.1 vwCl (wld x (q.2.2)) H → va_S (A0 x) s.heap H locs → lv_has ls 7 [(0, .ref (x.2.1 11)), (1, .ref (x.2.1 j1)), (2, .ref (x.2.1 1)), (3, .int (q.1)), (4, .int (q.2.1))] → W p l e r_SH_shorten s m args below meth c H locs 0 0 Q (F0 m 5 ls [])) := ⟨_, rfl⟩
    have L5 : P5 (v21, v22, M) := by
      refine lp_walk (G := G0) ?_ h g
      intro q res h g
      obtain ⟨v23, v24, M25⟩ := q
      rw [eP5]
      intro H locs ls hP hS hl
      have hP : va_P x.1 vwCl (wld x M25) H := hP
      have hl : lv_has ls 7 [(0, .ref (x.2.1 11)), (1, .ref (x.2.1 j1)), (2, .ref (x.2.1 1)), (3, .int v23), (4, .int v24)] := hl
      have h : l_SH_shorten_5 j1 v23 v24 M25 = some res := h
      unfold l_SH_shorten_5 at h
      have J100 : ∀ (a26 : Int32) (a27 : Int32) (M28 : Mem)  (res : (Int32 × Int32 × Mem) ⊕ Mem) (h : j_SH_shorten_100 j1 a26 a27 M28 = some res) (g : (lpG P5 G0) res) (H : Heap) (locs : List Loc) (ls : Array Slot) (hP : va_P x.1 vwCl (wld x M28) H) (hS : va_S (A0 x) s.heap H locs) (hl : lv_has ls 7 [(0, .ref (x.2.1 11)), (1, .ref (x.2.1 j1)), (2, .ref (x.2.1 1)), (3, .int a26), (4, .int a27)]), W p l e r_SH_shorten s m args below meth c H locs 0 0 Q (F0 m 100 ls []) := by
        intro a26 a27 M28 res h g H locs ls hP hS hl
        unfold j_SH_shorten_100 at h
        obtain ⟨v29, ev29, h⟩ := nx_e h
        refine lv_iinc (k := 4) hx hb d_SH_shorten_100 hl rfl (iinc_v (k := (1 : Int32)) (by decide) ev29) (by decide) rfl (fun ls hl => ?_)
        have hl : lv_has ls 7 [(4, .int v29), (0, .ref (x.2.1 11)), (1, .ref (x.2.1 j1)), (2, .ref (x.2.1 1)), (3, .int a26)] := hl
        refine lv_goto (tgt := 5) hx hb d_SH_shorten_103 rfl ?_
        obtain rfl := Option.some.inj h
        have g : P5 (a26, v29, M28) := g
        rw [eP5] at g
        exact g H locs ls hP hS (lv_sub hl [1, 2, 3, 4, 0] rfl)
      have J58 : ∀ (a30 : Int32) (a31 : Int32) (a32 : Int32) (M33 : Mem)  (res : (Int32 × Int32 × Mem) ⊕ Mem) (h : j_SH_shorten_58 j1 a30 a31 a32 M33 = some res) (g : (lpG P5 G0) res) (H : Heap) (locs : List Loc) (ls : Array Slot) (hP : va_P x.1 vwCl (wld x M33) H) (hS : va_S (A0 x) s.heap H locs) (hl : lv_has ls 7 [(0, .ref (x.2.1 11)), (1, .ref (x.2.1 j1)), (2, .ref (x.2.1 1)), (4, .int a30), (5, .int a31), (6, .int a32)]), W p l e r_SH_shorten s m args below meth c H locs 0 0 Q (F0 m 58 ls []) := by
        intro a30 a31 a32 M33 res h g H locs ls hP hS hl
        unfold j_SH_shorten_58 at h
        refine lv_aload_n hx hb d_SH_shorten_58 rfl (lv_at hl 0 rfl) ?_
        refine lv_aload_n hx hb d_SH_shorten_59 rfl (lv_at hl 1 rfl) ?_
        refine lv_aload_n hx hb d_SH_shorten_60 rfl (lv_at hl 2 rfl) ?_
        refine lv_iload hx hb d_SH_shorten_61 (lv_at hl 5 rfl) ?_
        refine lv_iconst (v := (0 : Int32)) hx hb d_SH_shorten_63 (by decide) ?_
        obtain ⟨r36, M34, c35, h⟩ := bi_e h
        refine cl_SH_38 (rest := []) (R := r_SH_shorten) (c_SH_keepFirst l x hJ j1 k1 a32 (0 : Int32) c35) hx hb hml hts hown hK hZ hP hS hl.1 (Nat.le_of_ble_eq_true rfl) (Nat.le_of_ble_eq_true rfl) (Nat.le_of_ble_eq_true rfl) ⟨rfl, rfl, Nat.zero_le _, Nat.zero_le _⟩ d_SH_shorten_64 (fun H locs hP hS => ?_)
        refine lv_if_eq (tgt := 82) hx hb d_SH_shorten_67 rfl (fun hc => ?_) (fun hc => ?_)
        · have h := if_p hc h
          refine lv_iload hx hb d_SH_shorten_82 (lv_at hl 5 rfl) ?_
          refine lv_iload hx hb d_SH_shorten_84 (lv_at hl 4 rfl) ?_
          refine lv_icmp_ne (tgt := 90) hx hb d_SH_shorten_86 rfl (fun hc => ?_) (fun hc => ?_)
          · have h := if_m hc h
            refine lv_iconst (v := (2 : Int32)) hx hb d_SH_shorten_90 (by decide) ?_
            refine lv_iload hx hb d_SH_shorten_91 (lv_at hl 5 rfl) ?_
            refine lv_imul hx hb d_SH_shorten_93 ?_
            refine lv_iload hx hb d_SH_shorten_94 (lv_at hl 4 rfl) ?_
            refine va_mmin hx hb (hml.trans hl.1.symm) hown (hts.1 _ q_184) (hts.1 _ q_93) (hts.1 _ q_94) (hts.1 _ q_95) (Nat.le_of_ble_eq_true rfl) (Nat.le_of_ble_eq_true rfl) (Nat.zero_le _) (Nat.zero_le _) d_SH_shorten_96 ?_
            obtain ⟨v37, ev37, h⟩ := nx_e h
            refine tp_i ev37 ?_
            refine lv_istore_n hx hb d_SH_shorten_99 rfl hl (by decide) rfl (fun ls hl => ?_)
            have hl : lv_has ls 7 [(3, .int v37), (0, .ref (x.2.1 11)), (1, .ref (x.2.1 j1)), (2, .ref (x.2.1 1)), (4, .int a30), (5, .int a31), (6, .int a32)] := hl
            exact J100 v37 a30 M34 _ h g H locs ls hP hS (lv_sub hl [1, 2, 3, 0, 4] rfl)
          · have h := if_p hc h
            obtain rfl := Option.some.inj h
            exact hret d_SH_shorten_89 g hP hS
        · have h := if_m hc h
          refine lv_iload hx hb d_SH_shorten_70 (lv_at hl 5 rfl) ?_
          refine lv_iconst (v := (1 : Int32)) hx hb d_SH_shorten_72 (by decide) ?_
          refine lv_isub hx hb d_SH_shorten_73 ?_
          refine lv_iconst (v := (2 : Int32)) hx hb d_SH_shorten_74 (by decide) ?_
          refine va_mmax hx hb (hml.trans hl.1.symm) hown (hts.1 _ q_185) (hts.1 _ q_156) (hts.1 _ q_94) (hts.1 _ q_157) (Nat.le_of_ble_eq_true rfl) (Nat.le_of_ble_eq_true rfl) (Nat.zero_le _) (Nat.zero_le _) d_SH_shorten_75 ?_
          obtain ⟨v38, ev38, h⟩ := nx_e h
          refine tp_i ev38 ?_
          refine lv_istore_n hx hb d_SH_shorten_78 rfl hl (by decide) rfl (fun ls hl => ?_)
          have hl : lv_has ls 7 [(3, .int v38), (0, .ref (x.2.1 11)), (1, .ref (x.2.1 j1)), (2, .ref (x.2.1 1)), (4, .int a30), (5, .int a31), (6, .int a32)] := hl
          refine lv_goto (tgt := 100) hx hb d_SH_shorten_79 rfl ?_
          exact J100 v38 a30 M34 _ h g H locs ls hP hS (lv_sub hl [1, 2, 3, 0, 4] rfl)
      refine lv_iload hx hb d_SH_shorten_5 (lv_at hl 4 rfl) ?_
      refine lv_bipush (v := (64 : Int32)) hx hb d_SH_shorten_7 (by decide) ?_
      refine lv_icmp_ge (tgt := 106) hx hb d_SH_shorten_9 rfl (fun hc => ?_) (fun hc => ?_)
      · have h := if_p hc h
        obtain rfl := Option.some.inj h
        exact hret d_SH_shorten_106 g hP hS
      · have h := if_m hc h
        refine lv_aload_n hx hb d_SH_shorten_12 rfl (lv_at hl 1 rfl) ?_
        refine gf_SH_23 hx hb hts hown hK hP k1 d_SH_shorten_13 ?_
        refine gf_SH_28 hx hb hts hown hK hP (kd_FI_shortest k1) d_SH_shorten_16 ?_
        obtain ⟨v39, ev39, h⟩ := nx_e h
        refine tp_i ev39 ?_
        refine lv_istore hx hb d_SH_shorten_19 hl (by decide) rfl (fun ls hl => ?_)
        have hl : lv_has ls 7 [(5, .int v39), (0, .ref (x.2.1 11)), (1, .ref (x.2.1 j1)), (2, .ref (x.2.1 1)), (3, .int v23), (4, .int v24)] := hl
        refine lv_iload_n hx hb d_SH_shorten_21 rfl (lv_at hl 4 rfl) ?_
        refine lv_iload hx hb d_SH_shorten_22 (lv_at hl 0 rfl) ?_
        refine va_mmin hx hb (hml.trans hl.1.symm) hown (hts.1 _ q_184) (hts.1 _ q_93) (hts.1 _ q_94) (hts.1 _ q_95) (Nat.le_of_ble_eq_true rfl) (Nat.le_of_ble_eq_true rfl) (Nat.zero_le _) (Nat.zero_le _) d_SH_shorten_24 ?_
        obtain ⟨v40, ev40, h⟩ := nx_e h
        refine tp_i ev40 ?_
        refine lv_istore hx hb d_SH_shorten_27 hl (by decide) rfl (fun ls hl => ?_)
        have hl : lv_has ls 7 [(6, .int v40), (5, .int v39), (0, .ref (x.2.1 11)), (1, .ref (x.2.1 j1)), (2, .ref (x.2.1 1)), (3, .int v23), (4, .int v24)] := hl
        refine lv_iload hx hb d_SH_shorten_29 (lv_at hl 1 rfl) ?_
        refine lv_if_ne (tgt := 35) hx hb d_SH_shorten_31 rfl (fun hc => ?_) (fun hc => ?_)
        · have h := if_m hc h
          refine lv_iload hx hb d_SH_shorten_35 (lv_at hl 0 rfl) ?_
          refine lv_iconst (v := (2 : Int32)) hx hb d_SH_shorten_37 (by decide) ?_
          refine lv_icmp_lt (tgt := 58) hx hb d_SH_shorten_38 rfl (fun hc => ?_) (fun hc => ?_)
          · have h := if_p hc h
            exact J58 v24 v39 v40 M25 _ h g H locs ls hP hS (lv_sub hl [2, 3, 4, 6, 1, 0] rfl)
          · have h := if_m hc h
            refine lv_aload_n hx hb d_SH_shorten_41 rfl (lv_at hl 2 rfl) ?_
            refine lv_aload_n hx hb d_SH_shorten_42 rfl (lv_at hl 3 rfl) ?_
            refine lv_aload_n hx hb d_SH_shorten_43 rfl (lv_at hl 4 rfl) ?_
            refine lv_iload hx hb d_SH_shorten_44 (lv_at hl 0 rfl) ?_
            refine lv_iconst (v := (1 : Int32)) hx hb d_SH_shorten_46 (by decide) ?_
            obtain ⟨r43, M41, c42, h⟩ := bi_e h
            refine cl_SH_38 (rest := []) (R := r_SH_shorten) (c_SH_keepFirst l x hJ j1 k1 v40 (1 : Int32) c42) hx hb hml hts hown hK hZ hP hS hl.1 (Nat.le_of_ble_eq_true rfl) (Nat.le_of_ble_eq_true rfl) (Nat.le_of_ble_eq_true rfl) ⟨rfl, rfl, Nat.zero_le _, Nat.zero_le _⟩ d_SH_shorten_47 (fun H locs hP hS => ?_)
            refine lv_if_eq (tgt := 58) hx hb d_SH_shorten_50 rfl (fun hc => ?_) (fun hc => ?_)
            · have h := if_p hc h
              exact J58 v24 v39 v40 M41 _ h g H locs ls hP hS (lv_sub hl [2, 3, 4, 6, 1, 0] rfl)
            · have h := if_m hc h
              refine lv_iconst (v := (2 : Int32)) hx hb d_SH_shorten_53 (by decide) ?_
              obtain ⟨v44, ev44, h⟩ := nx_e h
              refine tp_i ev44 ?_
              refine lv_istore_n hx hb d_SH_shorten_54 rfl hl (by decide) rfl (fun ls hl => ?_)
              have hl : lv_has ls 7 [(3, .int v44), (6, .int v40), (5, .int v39), (0, .ref (x.2.1 11)), (1, .ref (x.2.1 j1)), (2, .ref (x.2.1 1)), (4, .int v24)] := hl
              refine lv_goto (tgt := 100) hx hb d_SH_shorten_55 rfl ?_
              exact J100 v44 v24 M41 _ h g H locs ls hP hS (lv_sub hl [3, 4, 5, 0, 6] rfl)
        · have h := if_p hc h
          obtain rfl := Option.some.inj h
          exact hret d_SH_shorten_34 g hP hS
    rw [eP5] at L5
    exact L5 H locs ls hP hS (lv_sub hl [2, 3, 4, 1, 0] rfl)
  rw [eH] at key
  exact key
end
