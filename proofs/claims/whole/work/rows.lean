section
-- ===== PART A: goes FIRST, ahead of the names: the tables' words, and 'selects' of the private methods out of them =====
/-- a private method of a class that the tables say can be made, by its rows of tables_1 -/
def lw_okq (q : MethodName × Nat) : Prop := (q.1.cls ≠ "java/lang/invoke/MethodHandle" ∧ q.1.cls ≠ "java/lang/invoke/VarHandle") ∧ Cond.instantiable q.1.cls q.2 ∈ tables_1 ∧ Cond.privateMethod q.1 ∈ tables_1 ∧ Cond.instanceMethod q.1 ∈ tables_1
theorem lw_p0 : lw_okq (⟨"NounChoice$Phrase", "take", "(I)Z"⟩, 11) := ⟨⟨by decide +kernel, by decide +kernel⟩, List.mem_of_getElem? (i := 53) (by decide +kernel), List.mem_of_getElem? (i := 271) (by decide +kernel), List.mem_of_getElem? (i := 272) (by decide +kernel)⟩
theorem lw_p1 : lw_okq (⟨"NounChoice$Phrase", "mayEnd", "()Z"⟩, 11) := ⟨⟨by decide +kernel, by decide +kernel⟩, List.mem_of_getElem? (i := 53) (by decide +kernel), List.mem_of_getElem? (i := 275) (by decide +kernel), List.mem_of_getElem? (i := 276) (by decide +kernel)⟩
theorem lw_p2 : lw_okq (⟨"NounChoice$Phrase", "closePart", "()Z"⟩, 11) := ⟨⟨by decide +kernel, by decide +kernel⟩, List.mem_of_getElem? (i := 53) (by decide +kernel), List.mem_of_getElem? (i := 279) (by decide +kernel), List.mem_of_getElem? (i := 280) (by decide +kernel)⟩
theorem lw_p3 : lw_okq (⟨"NounChoice$Phrase", "isPart", "(I)Z"⟩, 11) := ⟨⟨by decide +kernel, by decide +kernel⟩, List.mem_of_getElem? (i := 53) (by decide +kernel), List.mem_of_getElem? (i := 287) (by decide +kernel), List.mem_of_getElem? (i := 288) (by decide +kernel)⟩
theorem lw_p4 : lw_okq (⟨"NounChoice$Phrase", "openDescription", "()Z"⟩, 11) := ⟨⟨by decide +kernel, by decide +kernel⟩, List.mem_of_getElem? (i := 53) (by decide +kernel), List.mem_of_getElem? (i := 291) (by decide +kernel), List.mem_of_getElem? (i := 292) (by decide +kernel)⟩
theorem lw_p5 : lw_okq (⟨"NounChoice$Phrase", "takeAtPart", "(I)Z"⟩, 11) := ⟨⟨by decide +kernel, by decide +kernel⟩, List.mem_of_getElem? (i := 53) (by decide +kernel), List.mem_of_getElem? (i := 295) (by decide +kernel), List.mem_of_getElem? (i := 296) (by decide +kernel)⟩
theorem lw_p6 : lw_okq (⟨"NounChoice$Phrase", "openPart", "()Z"⟩, 11) := ⟨⟨by decide +kernel, by decide +kernel⟩, List.mem_of_getElem? (i := 53) (by decide +kernel), List.mem_of_getElem? (i := 299) (by decide +kernel), List.mem_of_getElem? (i := 300) (by decide +kernel)⟩
theorem lw_p7 : lw_okq (⟨"NounChoice$Phrase", "setAmount", "(II)Z"⟩, 11) := ⟨⟨by decide +kernel, by decide +kernel⟩, List.mem_of_getElem? (i := 53) (by decide +kernel), List.mem_of_getElem? (i := 303) (by decide +kernel), List.mem_of_getElem? (i := 304) (by decide +kernel)⟩
theorem lw_p8 : lw_okq (⟨"NounChoice$Phrase", "openMain", "()Z"⟩, 11) := ⟨⟨by decide +kernel, by decide +kernel⟩, List.mem_of_getElem? (i := 53) (by decide +kernel), List.mem_of_getElem? (i := 308) (by decide +kernel), List.mem_of_getElem? (i := 309) (by decide +kernel)⟩
theorem lw_p9 : lw_okq (⟨"NounChoice$Phrase", "takeInDescription", "(I)Z"⟩, 11) := ⟨⟨by decide +kernel, by decide +kernel⟩, List.mem_of_getElem? (i := 53) (by decide +kernel), List.mem_of_getElem? (i := 312) (by decide +kernel), List.mem_of_getElem? (i := 313) (by decide +kernel)⟩
theorem lw_p10 : lw_okq (⟨"NounChoice$Phrase", "addWord", "(I)Z"⟩, 11) := ⟨⟨by decide +kernel, by decide +kernel⟩, List.mem_of_getElem? (i := 53) (by decide +kernel), List.mem_of_getElem? (i := 317) (by decide +kernel), List.mem_of_getElem? (i := 318) (by decide +kernel)⟩
theorem lw_p11 : lw_okq (⟨"NounChoice$Phrase", "isOwn", "(I)Z"⟩, 11) := ⟨⟨by decide +kernel, by decide +kernel⟩, List.mem_of_getElem? (i := 53) (by decide +kernel), List.mem_of_getElem? (i := 321) (by decide +kernel), List.mem_of_getElem? (i := 322) (by decide +kernel)⟩
theorem lw_p12 : lw_okq (⟨"NounChoice", "fittingSet", "(LNounChoice$Phrase;II)I"⟩, 15) := ⟨⟨by decide +kernel, by decide +kernel⟩, List.mem_of_getElem? (i := 9) (by decide +kernel), List.mem_of_getElem? (i := 336) (by decide +kernel), List.mem_of_getElem? (i := 337) (by decide +kernel)⟩
theorem lw_p13 : lw_okq (⟨"NounChoice", "refuseRow", "(I)I"⟩, 15) := ⟨⟨by decide +kernel, by decide +kernel⟩, List.mem_of_getElem? (i := 9) (by decide +kernel), List.mem_of_getElem? (i := 364) (by decide +kernel), List.mem_of_getElem? (i := 365) (by decide +kernel)⟩
theorem lw_p14 : lw_okq (⟨"NounChoice", "tell", "(III)V"⟩, 15) := ⟨⟨by decide +kernel, by decide +kernel⟩, List.mem_of_getElem? (i := 9) (by decide +kernel), List.mem_of_getElem? (i := 368) (by decide +kernel), List.mem_of_getElem? (i := 369) (by decide +kernel)⟩
theorem lw_p15 : lw_okq (⟨"NounChoice", "goThrough", "()I"⟩, 15) := ⟨⟨by decide +kernel, by decide +kernel⟩, List.mem_of_getElem? (i := 9) (by decide +kernel), List.mem_of_getElem? (i := 372) (by decide +kernel), List.mem_of_getElem? (i := 373) (by decide +kernel)⟩
def lw_privs_1 : List (MethodName × Nat) := [(⟨"NounChoice$Phrase", "take", "(I)Z"⟩, 11), (⟨"NounChoice$Phrase", "mayEnd", "()Z"⟩, 11), (⟨"NounChoice$Phrase", "closePart", "()Z"⟩, 11), (⟨"NounChoice$Phrase", "isPart", "(I)Z"⟩, 11), (⟨"NounChoice$Phrase", "openDescription", "()Z"⟩, 11), (⟨"NounChoice$Phrase", "takeAtPart", "(I)Z"⟩, 11), (⟨"NounChoice$Phrase", "openPart", "()Z"⟩, 11), (⟨"NounChoice$Phrase", "setAmount", "(II)Z"⟩, 11), (⟨"NounChoice$Phrase", "openMain", "()Z"⟩, 11), (⟨"NounChoice$Phrase", "takeInDescription", "(I)Z"⟩, 11), (⟨"NounChoice$Phrase", "addWord", "(I)Z"⟩, 11), (⟨"NounChoice$Phrase", "isOwn", "(I)Z"⟩, 11), (⟨"NounChoice", "fittingSet", "(LNounChoice$Phrase;II)I"⟩, 15), (⟨"NounChoice", "refuseRow", "(I)I"⟩, 15), (⟨"NounChoice", "tell", "(III)V"⟩, 15), (⟨"NounChoice", "goThrough", "()I"⟩, 15)]
theorem lw_r1 : ∀ q ∈ lw_privs_1, lw_okq q := List.forall_mem_cons.mpr ⟨lw_p0, List.forall_mem_cons.mpr ⟨lw_p1, List.forall_mem_cons.mpr ⟨lw_p2, List.forall_mem_cons.mpr ⟨lw_p3, List.forall_mem_cons.mpr ⟨lw_p4, List.forall_mem_cons.mpr ⟨lw_p5, List.forall_mem_cons.mpr ⟨lw_p6, List.forall_mem_cons.mpr ⟨lw_p7, List.forall_mem_cons.mpr ⟨lw_p8, List.forall_mem_cons.mpr ⟨lw_p9, List.forall_mem_cons.mpr ⟨lw_p10, List.forall_mem_cons.mpr ⟨lw_p11, List.forall_mem_cons.mpr ⟨lw_p12, List.forall_mem_cons.mpr ⟨lw_p13, List.forall_mem_cons.mpr ⟨lw_p14, List.forall_mem_cons.mpr ⟨lw_p15, fun _ h => absurd h List.not_mem_nil⟩⟩⟩⟩⟩⟩⟩⟩⟩⟩⟩⟩⟩⟩⟩⟩
theorem lw_p16 : lw_okq (⟨"NounChoice", "goThroughPart", "(I)I"⟩, 15) := ⟨⟨by decide +kernel, by decide +kernel⟩, List.mem_of_getElem? (i := 9) (by decide +kernel), List.mem_of_getElem? (i := 380) (by decide +kernel), List.mem_of_getElem? (i := 381) (by decide +kernel)⟩
theorem lw_p17 : lw_okq (⟨"NounChoice", "takeExceptsAway", "(I)Z"⟩, 15) := ⟨⟨by decide +kernel, by decide +kernel⟩, List.mem_of_getElem? (i := 9) (by decide +kernel), List.mem_of_getElem? (i := 397) (by decide +kernel), List.mem_of_getElem? (i := 398) (by decide +kernel)⟩
theorem lw_p18 : lw_okq (⟨"NounChoice", "giveNumber", "(I)I"⟩, 15) := ⟨⟨by decide +kernel, by decide +kernel⟩, List.mem_of_getElem? (i := 9) (by decide +kernel), List.mem_of_getElem? (i := 410) (by decide +kernel), List.mem_of_getElem? (i := 411) (by decide +kernel)⟩
theorem lw_p19 : lw_okq (⟨"NounChoice", "bestOf", "(I)I"⟩, 15) := ⟨⟨by decide +kernel, by decide +kernel⟩, List.mem_of_getElem? (i := 9) (by decide +kernel), List.mem_of_getElem? (i := 420) (by decide +kernel), List.mem_of_getElem? (i := 421) (by decide +kernel)⟩
theorem lw_p20 : lw_okq (⟨"NounChoice", "giveMeant", "(II)I"⟩, 15) := ⟨⟨by decide +kernel, by decide +kernel⟩, List.mem_of_getElem? (i := 9) (by decide +kernel), List.mem_of_getElem? (i := 433) (by decide +kernel), List.mem_of_getElem? (i := 434) (by decide +kernel)⟩
theorem lw_p21 : lw_okq (⟨"NounChoice", "leadersOf", "(I)I"⟩, 15) := ⟨⟨by decide +kernel, by decide +kernel⟩, List.mem_of_getElem? (i := 9) (by decide +kernel), List.mem_of_getElem? (i := 437) (by decide +kernel), List.mem_of_getElem? (i := 438) (by decide +kernel)⟩
theorem lw_p22 : lw_okq (⟨"NounChoice", "endAt", "(II)I"⟩, 15) := ⟨⟨by decide +kernel, by decide +kernel⟩, List.mem_of_getElem? (i := 9) (by decide +kernel), List.mem_of_getElem? (i := 441) (by decide +kernel), List.mem_of_getElem? (i := 442) (by decide +kernel)⟩
theorem lw_p23 : lw_okq (⟨"NounChoice", "replyFault", "()I"⟩, 15) := ⟨⟨by decide +kernel, by decide +kernel⟩, List.mem_of_getElem? (i := 9) (by decide +kernel), List.mem_of_getElem? (i := 449) (by decide +kernel), List.mem_of_getElem? (i := 450) (by decide +kernel)⟩
theorem lw_p24 : lw_okq (⟨"NounChoice", "leftByRow", "()I"⟩, 15) := ⟨⟨by decide +kernel, by decide +kernel⟩, List.mem_of_getElem? (i := 9) (by decide +kernel), List.mem_of_getElem? (i := 454) (by decide +kernel), List.mem_of_getElem? (i := 455) (by decide +kernel)⟩
theorem lw_p25 : lw_okq (⟨"NounChoice", "groupAt", "(I)I"⟩, 15) := ⟨⟨by decide +kernel, by decide +kernel⟩, List.mem_of_getElem? (i := 9) (by decide +kernel), List.mem_of_getElem? (i := 458) (by decide +kernel), List.mem_of_getElem? (i := 459) (by decide +kernel)⟩
theorem lw_p26 : lw_okq (⟨"NounChoiceModel", "noThing", "(I)Z"⟩, 39) := ⟨⟨by decide +kernel, by decide +kernel⟩, List.mem_of_getElem? (i := 489) (by decide +kernel), List.mem_of_getElem? (i := 622) (by decide +kernel), List.mem_of_getElem? (i := 623) (by decide +kernel)⟩
theorem lw_p27 : lw_okq (⟨"NounChoiceModel", "scoreOf", "(I)I"⟩, 39) := ⟨⟨by decide +kernel, by decide +kernel⟩, List.mem_of_getElem? (i := 489) (by decide +kernel), List.mem_of_getElem? (i := 657) (by decide +kernel), List.mem_of_getElem? (i := 658) (by decide +kernel)⟩
theorem lw_p28 : lw_okq (⟨"NounChoiceModel", "isAlike", "(II)Z"⟩, 39) := ⟨⟨by decide +kernel, by decide +kernel⟩, List.mem_of_getElem? (i := 489) (by decide +kernel), List.mem_of_getElem? (i := 665) (by decide +kernel), List.mem_of_getElem? (i := 666) (by decide +kernel)⟩
theorem lw_p29 : lw_okq (⟨"NounChoiceModel", "begin", "([II)V"⟩, 39) := ⟨⟨by decide +kernel, by decide +kernel⟩, List.mem_of_getElem? (i := 489) (by decide +kernel), List.mem_of_getElem? (i := 681) (by decide +kernel), List.mem_of_getElem? (i := 682) (by decide +kernel)⟩
theorem lw_p30 : lw_okq (⟨"NounChoiceModel", "readDescription", "()V"⟩, 39) := ⟨⟨by decide +kernel, by decide +kernel⟩, List.mem_of_getElem? (i := 489) (by decide +kernel), List.mem_of_getElem? (i := 685) (by decide +kernel), List.mem_of_getElem? (i := 686) (by decide +kernel)⟩
theorem lw_p31 : lw_okq (⟨"NounChoiceModel", "here", "()I"⟩, 39) := ⟨⟨by decide +kernel, by decide +kernel⟩, List.mem_of_getElem? (i := 489) (by decide +kernel), List.mem_of_getElem? (i := 689) (by decide +kernel), List.mem_of_getElem? (i := 690) (by decide +kernel)⟩
def lw_privs_2 : List (MethodName × Nat) := [(⟨"NounChoice", "goThroughPart", "(I)I"⟩, 15), (⟨"NounChoice", "takeExceptsAway", "(I)Z"⟩, 15), (⟨"NounChoice", "giveNumber", "(I)I"⟩, 15), (⟨"NounChoice", "bestOf", "(I)I"⟩, 15), (⟨"NounChoice", "giveMeant", "(II)I"⟩, 15), (⟨"NounChoice", "leadersOf", "(I)I"⟩, 15), (⟨"NounChoice", "endAt", "(II)I"⟩, 15), (⟨"NounChoice", "replyFault", "()I"⟩, 15), (⟨"NounChoice", "leftByRow", "()I"⟩, 15), (⟨"NounChoice", "groupAt", "(I)I"⟩, 15), (⟨"NounChoiceModel", "noThing", "(I)Z"⟩, 39), (⟨"NounChoiceModel", "scoreOf", "(I)I"⟩, 39), (⟨"NounChoiceModel", "isAlike", "(II)Z"⟩, 39), (⟨"NounChoiceModel", "begin", "([II)V"⟩, 39), (⟨"NounChoiceModel", "readDescription", "()V"⟩, 39), (⟨"NounChoiceModel", "here", "()I"⟩, 39)]
theorem lw_r2 : ∀ q ∈ lw_privs_2, lw_okq q := List.forall_mem_cons.mpr ⟨lw_p16, List.forall_mem_cons.mpr ⟨lw_p17, List.forall_mem_cons.mpr ⟨lw_p18, List.forall_mem_cons.mpr ⟨lw_p19, List.forall_mem_cons.mpr ⟨lw_p20, List.forall_mem_cons.mpr ⟨lw_p21, List.forall_mem_cons.mpr ⟨lw_p22, List.forall_mem_cons.mpr ⟨lw_p23, List.forall_mem_cons.mpr ⟨lw_p24, List.forall_mem_cons.mpr ⟨lw_p25, List.forall_mem_cons.mpr ⟨lw_p26, List.forall_mem_cons.mpr ⟨lw_p27, List.forall_mem_cons.mpr ⟨lw_p28, List.forall_mem_cons.mpr ⟨lw_p29, List.forall_mem_cons.mpr ⟨lw_p30, List.forall_mem_cons.mpr ⟨lw_p31, fun _ h => absurd h List.not_mem_nil⟩⟩⟩⟩⟩⟩⟩⟩⟩⟩⟩⟩⟩⟩⟩⟩
theorem lw_p32 : lw_okq (⟨"NounChoiceModel", "isWord", "()Z"⟩, 39) := ⟨⟨by decide +kernel, by decide +kernel⟩, List.mem_of_getElem? (i := 489) (by decide +kernel), List.mem_of_getElem? (i := 696) (by decide +kernel), List.mem_of_getElem? (i := 697) (by decide +kernel)⟩
theorem lw_p33 : lw_okq (⟨"NounChoiceModel", "fit", "(I)I"⟩, 39) := ⟨⟨by decide +kernel, by decide +kernel⟩, List.mem_of_getElem? (i := 489) (by decide +kernel), List.mem_of_getElem? (i := 700) (by decide +kernel), List.mem_of_getElem? (i := 701) (by decide +kernel)⟩
theorem lw_p34 : lw_okq (⟨"NounChoiceModel", "hasWord", "(II)Z"⟩, 39) := ⟨⟨by decide +kernel, by decide +kernel⟩, List.mem_of_getElem? (i := 489) (by decide +kernel), List.mem_of_getElem? (i := 704) (by decide +kernel), List.mem_of_getElem? (i := 705) (by decide +kernel)⟩
theorem lw_p35 : lw_okq (⟨"NounChoiceModel", "isPhrase", "([II)Z"⟩, 39) := ⟨⟨by decide +kernel, by decide +kernel⟩, List.mem_of_getElem? (i := 489) (by decide +kernel), List.mem_of_getElem? (i := 712) (by decide +kernel), List.mem_of_getElem? (i := 713) (by decide +kernel)⟩
theorem lw_p36 : lw_okq (⟨"NounChoiceModel", "part", "(ZIZ)V"⟩, 39) := ⟨⟨by decide +kernel, by decide +kernel⟩, List.mem_of_getElem? (i := 489) (by decide +kernel), List.mem_of_getElem? (i := 716) (by decide +kernel), List.mem_of_getElem? (i := 717) (by decide +kernel)⟩
theorem lw_p37 : lw_okq (⟨"NounChoiceModel", "everything", "()I"⟩, 39) := ⟨⟨by decide +kernel, by decide +kernel⟩, List.mem_of_getElem? (i := 489) (by decide +kernel), List.mem_of_getElem? (i := 720) (by decide +kernel), List.mem_of_getElem? (i := 721) (by decide +kernel)⟩
theorem lw_p38 : lw_okq (⟨"NounChoiceModel", "fitting", "(I)I"⟩, 39) := ⟨⟨by decide +kernel, by decide +kernel⟩, List.mem_of_getElem? (i := 489) (by decide +kernel), List.mem_of_getElem? (i := 724) (by decide +kernel), List.mem_of_getElem? (i := 725) (by decide +kernel)⟩
theorem lw_p39 : lw_okq (⟨"NounChoiceModel", "there", "()I"⟩, 39) := ⟨⟨by decide +kernel, by decide +kernel⟩, List.mem_of_getElem? (i := 489) (by decide +kernel), List.mem_of_getElem? (i := 728) (by decide +kernel), List.mem_of_getElem? (i := 729) (by decide +kernel)⟩
theorem lw_p40 : lw_okq (⟨"NounChoiceModel", "likeliest", "(I)I"⟩, 39) := ⟨⟨by decide +kernel, by decide +kernel⟩, List.mem_of_getElem? (i := 489) (by decide +kernel), List.mem_of_getElem? (i := 733) (by decide +kernel), List.mem_of_getElem? (i := 734) (by decide +kernel)⟩
theorem lw_p41 : lw_okq (⟨"NounChoiceModel", "areAlike", "(I)Z"⟩, 39) := ⟨⟨by decide +kernel, by decide +kernel⟩, List.mem_of_getElem? (i := 489) (by decide +kernel), List.mem_of_getElem? (i := 740) (by decide +kernel), List.mem_of_getElem? (i := 741) (by decide +kernel)⟩
theorem lw_p42 : lw_okq (⟨"NounChoiceModel", "tell", "(III)V"⟩, 39) := ⟨⟨by decide +kernel, by decide +kernel⟩, List.mem_of_getElem? (i := 489) (by decide +kernel), List.mem_of_getElem? (i := 744) (by decide +kernel), List.mem_of_getElem? (i := 745) (by decide +kernel)⟩
theorem lw_p43 : lw_okq (⟨"NounChoiceModel", "go", "()I"⟩, 39) := ⟨⟨by decide +kernel, by decide +kernel⟩, List.mem_of_getElem? (i := 489) (by decide +kernel), List.mem_of_getElem? (i := 748) (by decide +kernel), List.mem_of_getElem? (i := 749) (by decide +kernel)⟩
theorem lw_p44 : lw_okq (⟨"NounChoiceModel", "groupOf", "(II)I"⟩, 39) := ⟨⟨by decide +kernel, by decide +kernel⟩, List.mem_of_getElem? (i := 489) (by decide +kernel), List.mem_of_getElem? (i := 756) (by decide +kernel), List.mem_of_getElem? (i := 757) (by decide +kernel)⟩
def lw_privs_3 : List (MethodName × Nat) := [(⟨"NounChoiceModel", "isWord", "()Z"⟩, 39), (⟨"NounChoiceModel", "fit", "(I)I"⟩, 39), (⟨"NounChoiceModel", "hasWord", "(II)Z"⟩, 39), (⟨"NounChoiceModel", "isPhrase", "([II)Z"⟩, 39), (⟨"NounChoiceModel", "part", "(ZIZ)V"⟩, 39), (⟨"NounChoiceModel", "everything", "()I"⟩, 39), (⟨"NounChoiceModel", "fitting", "(I)I"⟩, 39), (⟨"NounChoiceModel", "there", "()I"⟩, 39), (⟨"NounChoiceModel", "likeliest", "(I)I"⟩, 39), (⟨"NounChoiceModel", "areAlike", "(I)Z"⟩, 39), (⟨"NounChoiceModel", "tell", "(III)V"⟩, 39), (⟨"NounChoiceModel", "go", "()I"⟩, 39), (⟨"NounChoiceModel", "groupOf", "(II)I"⟩, 39)]
theorem lw_r3 : ∀ q ∈ lw_privs_3, lw_okq q := List.forall_mem_cons.mpr ⟨lw_p32, List.forall_mem_cons.mpr ⟨lw_p33, List.forall_mem_cons.mpr ⟨lw_p34, List.forall_mem_cons.mpr ⟨lw_p35, List.forall_mem_cons.mpr ⟨lw_p36, List.forall_mem_cons.mpr ⟨lw_p37, List.forall_mem_cons.mpr ⟨lw_p38, List.forall_mem_cons.mpr ⟨lw_p39, List.forall_mem_cons.mpr ⟨lw_p40, List.forall_mem_cons.mpr ⟨lw_p41, List.forall_mem_cons.mpr ⟨lw_p42, List.forall_mem_cons.mpr ⟨lw_p43, List.forall_mem_cons.mpr ⟨lw_p44, fun _ h => absurd h List.not_mem_nil⟩⟩⟩⟩⟩⟩⟩⟩⟩⟩⟩⟩⟩
def lw_privs : List (MethodName × Nat) := lw_privs_1 ++ (lw_privs_2 ++ (lw_privs_3))
def lw_tbl : List Cond := k2_sels lw_privs ++ tables_1
theorem lw_privs_ok : ∀ q ∈ lw_privs, lw_okq q := by
  show ∀ q ∈ lw_privs_1 ++ (lw_privs_2 ++ (lw_privs_3)), lw_okq q
  exact List.forall_mem_append.mpr ⟨lw_r1, List.forall_mem_append.mpr ⟨lw_r2, lw_r3⟩⟩
end
section
def lw_G : List Cond := lw_tbl.filter goodWord
def R_NC : String := "NounChoice"
def R_Things : String := "NounChoice$Things"
def R_Phrase : String := "NounChoice$Phrase"
def R_Picks : String := "NounChoice$Picks"
def R_M : String := "NounChoiceModel"
def R_Integer : String := "java/lang/Integer"
def R_Arrays : String := "java/util/Arrays"
def F_NC : u_T := fun k => match k with
  | 0 => ("NounChoice", "things", "LNounChoice$Things;", true)
  | 1 => ("NounChoice", "row", "[I", true)
  | 2 => ("NounChoice", "rowSize", "I", false)
  | 3 => ("NounChoice", "mostChosen", "I", false)
  | 4 => ("NounChoice", "phrase", "LNounChoice$Phrase;", false)
  | 5 => ("NounChoice", "draft", "LNounChoice$Phrase;", false)
  | 6 => ("NounChoice", "leftBy", "[I", true)
  | 7 => ("NounChoice", "latest", "LNounChoice$Picks;", false)
  | 8 => ("NounChoice", "given", "LNounChoice$Picks;", false)
  | 9 => ("NounChoice", "candidates", "I", false)
  | 10 => ("NounChoice", "askedSet", "I", false)
  | 11 => ("NounChoice", "askedPart", "I", false)
  | 12 => ("NounChoice", "toldPart", "I", false)
  | 13 => ("NounChoice", "toldFault", "I", false)
  | _ => ("NounChoice", "toldSize", "I", false)
def t_NC : Nat → FieldType := fun k => match k with
  | 0 => .object "NounChoice$Things"
  | 1 => .array .int
  | 2 => .int
  | 3 => .int
  | 4 => .object "NounChoice$Phrase"
  | 5 => .object "NounChoice$Phrase"
  | 6 => .array .int
  | 7 => .object "NounChoice$Picks"
  | 8 => .object "NounChoice$Picks"
  | 9 => .int
  | 10 => .int
  | 11 => .int
  | 12 => .int
  | 13 => .int
  | _ => .int
theorem n_NC : ∀ a, a < 15 → ∀ b, b < 15 → a ≠ b → (F_NC a).2.1 ≠ (F_NC b).2.1 := by decide +kernel
theorem t_NC_ok : ∀ k, k < 15 → parseFieldDescriptor (F_NC k).2.2.1 = some (t_NC k) := by decide +kernel
set_option maxRecDepth 20000 in
theorem i_NC : ∀ w ∈ u_ws R_NC F_NC 15, w ∈ lw_G := by decide +kernel
def F_Things : u_T := fun k => match k with
  | 0 => ("NounChoice$Things", "nouns", "[I", true)
  | 1 => ("NounChoice$Things", "adjectives", "[I", true)
  | 2 => ("NounChoice$Things", "kinds", "[I", true)
  | 3 => ("NounChoice$Things", "places", "[I", true)
  | 4 => ("NounChoice$Things", "marks", "[I", true)
  | 5 => ("NounChoice$Things", "plurals", "[I", true)
  | 6 => ("NounChoice$Things", "weights", "[I", true)
  | _ => ("NounChoice$Things", "number", "I", false)
def t_Things : Nat → FieldType := fun k => match k with
  | 0 => .array .int
  | 1 => .array .int
  | 2 => .array .int
  | 3 => .array .int
  | 4 => .array .int
  | 5 => .array .int
  | 6 => .array .int
  | _ => .int
theorem n_Things : ∀ a, a < 8 → ∀ b, b < 8 → a ≠ b → (F_Things a).2.1 ≠ (F_Things b).2.1 := by decide +kernel
theorem t_Things_ok : ∀ k, k < 8 → parseFieldDescriptor (F_Things k).2.2.1 = some (t_Things k) := by decide +kernel
set_option maxRecDepth 20000 in
theorem i_Things : ∀ w ∈ u_ws R_Things F_Things 8, w ∈ lw_G := by decide +kernel
def F_Phrase : u_T := fun k => match k with
  | 0 => ("NounChoice$Phrase", "amounts", "[I", true)
  | 1 => ("NounChoice$Phrase", "mains", "[I", true)
  | 2 => ("NounChoice$Phrase", "starts", "[I", true)
  | 3 => ("NounChoice$Phrase", "ends", "[I", true)
  | 4 => ("NounChoice$Phrase", "parts", "I", false)
  | 5 => ("NounChoice$Phrase", "articles", "[I", true)
  | 6 => ("NounChoice$Phrase", "leading", "[I", true)
  | 7 => ("NounChoice$Phrase", "lasts", "[I", true)
  | 8 => ("NounChoice$Phrase", "descriptions", "I", false)
  | 9 => ("NounChoice$Phrase", "state", "I", false)
  | _ => ("NounChoice$Phrase", "words", "I", false)
def t_Phrase : Nat → FieldType := fun k => match k with
  | 0 => .array .int
  | 1 => .array .int
  | 2 => .array .int
  | 3 => .array .int
  | 4 => .int
  | 5 => .array .int
  | 6 => .array .int
  | 7 => .array .int
  | 8 => .int
  | 9 => .int
  | _ => .int
theorem n_Phrase : ∀ a, a < 11 → ∀ b, b < 11 → a ≠ b → (F_Phrase a).2.1 ≠ (F_Phrase b).2.1 := by decide +kernel
theorem t_Phrase_ok : ∀ k, k < 11 → parseFieldDescriptor (F_Phrase k).2.2.1 = some (t_Phrase k) := by decide +kernel
set_option maxRecDepth 20000 in
theorem i_Phrase : ∀ w ∈ u_ws R_Phrase F_Phrase 11, w ∈ lw_G := by decide +kernel
def F_Picks : u_T := fun k => match k with
  | 0 => ("NounChoice$Picks", "order", "[I", true)
  | 1 => ("NounChoice$Picks", "size", "I", false)
  | _ => ("NounChoice$Picks", "set", "I", false)
def t_Picks : Nat → FieldType := fun k => match k with
  | 0 => .array .int
  | 1 => .int
  | _ => .int
theorem n_Picks : ∀ a, a < 3 → ∀ b, b < 3 → a ≠ b → (F_Picks a).2.1 ≠ (F_Picks b).2.1 := by decide +kernel
theorem t_Picks_ok : ∀ k, k < 3 → parseFieldDescriptor (F_Picks k).2.2.1 = some (t_Picks k) := by decide +kernel
set_option maxRecDepth 20000 in
theorem i_Picks : ∀ w ∈ u_ws R_Picks F_Picks 3, w ∈ lw_G := by decide +kernel
abbrev classes : List vw_C := [(R_NC, F_NC, 15), (R_Things, F_Things, 8), (R_Phrase, F_Phrase, 11), (R_Picks, F_Picks, 3)]
abbrev b_Integer_bitCount : ByteArray := prog_7_method_49_code
def y_Integer_bitCount : MethodName := ⟨R_Integer, "bitCount", "(I)I"⟩
abbrev b_Arrays_fill : ByteArray := prog_8_method_103_code
def y_Arrays_fill : MethodName := ⟨R_Arrays, "fill", "([II)V"⟩
abbrev b_NC_isWord : ByteArray := prog_1_method_21_code
def y_NC_isWord : MethodName := ⟨R_NC, "isWord", "(I)Z"⟩
abbrev b_NC_isArticle : ByteArray := prog_1_method_22_code
def y_NC_isArticle : MethodName := ⟨R_NC, "isArticle", "(I)Z"⟩
abbrev b_NC_isNumber : ByteArray := prog_1_method_23_code
def y_NC_isNumber : MethodName := ⟨R_NC, "isNumber", "(I)Z"⟩
abbrev b_NC_isToken : ByteArray := prog_1_method_24_code
def y_NC_isToken : MethodName := ⟨R_NC, "isToken", "(I)Z"⟩
abbrev b_NC_holds : ByteArray := prog_1_method_25_code
def y_NC_holds : MethodName := ⟨R_NC, "holds", "(II)Z"⟩
abbrev b_NC_leastOf : ByteArray := prog_1_method_26_code
def y_NC_leastOf : MethodName := ⟨R_NC, "leastOf", "(I)I"⟩
abbrev b_NC_memberAt : ByteArray := prog_1_method_27_code
def y_NC_memberAt : MethodName := ⟨R_NC, "memberAt", "(II)I"⟩
abbrev b_Things_isRule : ByteArray := prog_4_method_3_code
def y_Things_isRule : MethodName := ⟨R_Things, "isRule", "(I)Z"⟩
abbrev b_Things_isKind : ByteArray := prog_4_method_4_code
def y_Things_isKind : MethodName := ⟨R_Things, "isKind", "(I)Z"⟩
abbrev b_Things_has : ByteArray := prog_4_method_2_code
def y_Things_has : MethodName := ⟨R_Things, "has", "(I)Z"⟩
abbrev b_Things_add : ByteArray := prog_4_method_5_code
def y_Things_add : MethodName := ⟨R_Things, "add", "()I"⟩
abbrev b_Things_setWord : ByteArray := prog_4_method_6_code
def y_Things_setWord : MethodName := ⟨R_Things, "setWord", "(IIZZ)I"⟩
abbrev b_Things_setKind : ByteArray := prog_4_method_7_code
def y_Things_setKind : MethodName := ⟨R_Things, "setKind", "(II)I"⟩
abbrev b_Things_setPlace : ByteArray := prog_4_method_8_code
def y_Things_setPlace : MethodName := ⟨R_Things, "setPlace", "(II)I"⟩
abbrev b_Things_setMark : ByteArray := prog_4_method_9_code
def y_Things_setMark : MethodName := ⟨R_Things, "setMark", "(III)I"⟩
abbrev b_Things_setPlural : ByteArray := prog_4_method_10_code
def y_Things_setPlural : MethodName := ⟨R_Things, "setPlural", "(II)I"⟩
abbrev b_Things_setWeight : ByteArray := prog_4_method_11_code
def y_Things_setWeight : MethodName := ⟨R_Things, "setWeight", "(II)I"⟩
abbrev b_Things_scoreOf : ByteArray := prog_4_method_12_code
def y_Things_scoreOf : MethodName := ⟨R_Things, "scoreOf", "(I)I"⟩
abbrev b_Things_areAlike : ByteArray := prog_4_method_13_code
def y_Things_areAlike : MethodName := ⟨R_Things, "areAlike", "(II)Z"⟩
abbrev b_Things_allSet : ByteArray := prog_4_method_14_code
def y_Things_allSet : MethodName := ⟨R_Things, "allSet", "()I"⟩
abbrev b_Things_placedSet : ByteArray := prog_4_method_16_code
def y_Things_placedSet : MethodName := ⟨R_Things, "placedSet", "(I)I"⟩
abbrev b_Things_thereSet : ByteArray := prog_4_method_15_code
def y_Things_thereSet : MethodName := ⟨R_Things, "thereSet", "()I"⟩
abbrev b_Things_hasWords : ByteArray := prog_4_method_17_code
def y_Things_hasWords : MethodName := ⟨R_Things, "hasWords", "(II)Z"⟩
abbrev b_Things_fitByWords : ByteArray := prog_4_method_18_code
def y_Things_fitByWords : MethodName := ⟨R_Things, "fitByWords", "(III)I"⟩
abbrev b_Picks_clear : ByteArray := prog_3_method_2_code
def y_Picks_clear : MethodName := ⟨R_Picks, "clear", "()V"⟩
abbrev b_Picks_add : ByteArray := prog_3_method_3_code
def y_Picks_add : MethodName := ⟨R_Picks, "add", "(I)V"⟩
abbrev b_Picks_at : ByteArray := prog_3_method_4_code
def y_Picks_at : MethodName := ⟨R_Picks, "at", "(I)I"⟩
abbrev b_Phrase_isPart : ByteArray := prog_2_method_11_code
def y_Phrase_isPart : MethodName := ⟨R_Phrase, "isPart", "(I)Z"⟩
abbrev b_Phrase_isOwn : ByteArray := prog_2_method_12_code
def y_Phrase_isOwn : MethodName := ⟨R_Phrase, "isOwn", "(I)Z"⟩
abbrev b_Phrase_isDescription : ByteArray := prog_2_method_3_code
def y_Phrase_isDescription : MethodName := ⟨R_Phrase, "isDescription", "()Z"⟩
abbrev b_Phrase_mayEnd : ByteArray := prog_2_method_14_code
def y_Phrase_mayEnd : MethodName := ⟨R_Phrase, "mayEnd", "()Z"⟩
abbrev b_Phrase_amountOf : ByteArray := prog_2_method_4_code
def y_Phrase_amountOf : MethodName := ⟨R_Phrase, "amountOf", "(I)I"⟩
abbrev b_Phrase_mainOf : ByteArray := prog_2_method_5_code
def y_Phrase_mainOf : MethodName := ⟨R_Phrase, "mainOf", "(I)I"⟩
abbrev b_Phrase_exceptsStart : ByteArray := prog_2_method_6_code
def y_Phrase_exceptsStart : MethodName := ⟨R_Phrase, "exceptsStart", "(I)I"⟩
abbrev b_Phrase_exceptsEnd : ByteArray := prog_2_method_7_code
def y_Phrase_exceptsEnd : MethodName := ⟨R_Phrase, "exceptsEnd", "(I)I"⟩
abbrev b_Phrase_leadingOf : ByteArray := prog_2_method_9_code
def y_Phrase_leadingOf : MethodName := ⟨R_Phrase, "leadingOf", "(I)I"⟩
abbrev b_Phrase_lastOf : ByteArray := prog_2_method_10_code
def y_Phrase_lastOf : MethodName := ⟨R_Phrase, "lastOf", "(I)I"⟩
abbrev b_Phrase_tells : ByteArray := prog_2_method_8_code
def y_Phrase_tells : MethodName := ⟨R_Phrase, "tells", "(II)Z"⟩
abbrev b_Phrase_closePart : ByteArray := prog_2_method_17_code
def y_Phrase_closePart : MethodName := ⟨R_Phrase, "closePart", "()Z"⟩
abbrev b_Phrase_openPart : ByteArray := prog_2_method_18_code
def y_Phrase_openPart : MethodName := ⟨R_Phrase, "openPart", "()Z"⟩
abbrev b_Phrase_setAmount : ByteArray := prog_2_method_19_code
def y_Phrase_setAmount : MethodName := ⟨R_Phrase, "setAmount", "(II)Z"⟩
abbrev b_Phrase_openDescription : ByteArray := prog_2_method_21_code
def y_Phrase_openDescription : MethodName := ⟨R_Phrase, "openDescription", "()Z"⟩
abbrev b_Phrase_openMain : ByteArray := prog_2_method_20_code
def y_Phrase_openMain : MethodName := ⟨R_Phrase, "openMain", "()Z"⟩
abbrev b_Phrase_addWord : ByteArray := prog_2_method_22_code
def y_Phrase_addWord : MethodName := ⟨R_Phrase, "addWord", "(I)Z"⟩
abbrev b_Phrase_takeInDescription : ByteArray := prog_2_method_16_code
def y_Phrase_takeInDescription : MethodName := ⟨R_Phrase, "takeInDescription", "(I)Z"⟩
abbrev b_Phrase_takeAtPart : ByteArray := prog_2_method_15_code
def y_Phrase_takeAtPart : MethodName := ⟨R_Phrase, "takeAtPart", "(I)Z"⟩
abbrev b_Phrase_take : ByteArray := prog_2_method_13_code
def y_Phrase_take : MethodName := ⟨R_Phrase, "take", "(I)Z"⟩
abbrev b_Phrase_read : ByteArray := prog_2_method_2_code
def y_Phrase_read : MethodName := ⟨R_Phrase, "read", "([II)I"⟩
abbrev b_NC_leadersOf : ByteArray := prog_1_method_29_code
def y_NC_leadersOf : MethodName := ⟨R_NC, "leadersOf", "(I)I"⟩
abbrev b_NC_groupAt : ByteArray := prog_1_method_28_code
def y_NC_groupAt : MethodName := ⟨R_NC, "groupAt", "(I)I"⟩
abbrev b_NC_tell : ByteArray := prog_1_method_30_code
def y_NC_tell : MethodName := ⟨R_NC, "tell", "(III)V"⟩
abbrev b_NC_refuseRow : ByteArray := prog_1_method_31_code
def y_NC_refuseRow : MethodName := ⟨R_NC, "refuseRow", "(I)I"⟩
abbrev b_NC_bestOf : ByteArray := prog_1_method_38_code
def y_NC_bestOf : MethodName := ⟨R_NC, "bestOf", "(I)I"⟩
abbrev b_NC_fittingSet : ByteArray := prog_1_method_39_code
def y_NC_fittingSet : MethodName := ⟨R_NC, "fittingSet", "(LNounChoice$Phrase;II)I"⟩
abbrev b_NC_replyFault : ByteArray := prog_1_method_40_code
def y_NC_replyFault : MethodName := ⟨R_NC, "replyFault", "()I"⟩
abbrev b_NC_leftByRow : ByteArray := prog_1_method_41_code
def y_NC_leftByRow : MethodName := ⟨R_NC, "leftByRow", "()I"⟩
abbrev b_NC_endAt : ByteArray := prog_1_method_33_code
def y_NC_endAt : MethodName := ⟨R_NC, "endAt", "(II)I"⟩
abbrev b_NC_takeExceptsAway : ByteArray := prog_1_method_35_code
def y_NC_takeExceptsAway : MethodName := ⟨R_NC, "takeExceptsAway", "(I)Z"⟩
abbrev b_NC_giveNumber : ByteArray := prog_1_method_36_code
def y_NC_giveNumber : MethodName := ⟨R_NC, "giveNumber", "(I)I"⟩
abbrev b_NC_giveMeant : ByteArray := prog_1_method_37_code
def y_NC_giveMeant : MethodName := ⟨R_NC, "giveMeant", "(II)I"⟩
abbrev b_NC_goThroughPart : ByteArray := prog_1_method_34_code
def y_NC_goThroughPart : MethodName := ⟨R_NC, "goThroughPart", "(I)I"⟩
abbrev b_NC_goThrough : ByteArray := prog_1_method_32_code
def y_NC_goThrough : MethodName := ⟨R_NC, "goThrough", "()I"⟩
abbrev b_NC_thing : ByteArray := prog_1_method_2_code
def y_NC_thing : MethodName := ⟨R_NC, "thing", "()I"⟩
abbrev b_NC_word : ByteArray := prog_1_method_3_code
def y_NC_word : MethodName := ⟨R_NC, "word", "(IIZZ)I"⟩
abbrev b_NC_kind : ByteArray := prog_1_method_4_code
def y_NC_kind : MethodName := ⟨R_NC, "kind", "(II)I"⟩
abbrev b_NC_place : ByteArray := prog_1_method_5_code
def y_NC_place : MethodName := ⟨R_NC, "place", "(II)I"⟩
abbrev b_NC_mark : ByteArray := prog_1_method_6_code
def y_NC_mark : MethodName := ⟨R_NC, "mark", "(III)I"⟩
abbrev b_NC_plural : ByteArray := prog_1_method_7_code
def y_NC_plural : MethodName := ⟨R_NC, "plural", "(II)I"⟩
abbrev b_NC_weight : ByteArray := prog_1_method_8_code
def y_NC_weight : MethodName := ⟨R_NC, "weight", "(II)I"⟩
abbrev b_NC_limit : ByteArray := prog_1_method_9_code
def y_NC_limit : MethodName := ⟨R_NC, "limit", "(I)I"⟩
abbrev b_NC_score : ByteArray := prog_1_method_10_code
def y_NC_score : MethodName := ⟨R_NC, "score", "(I)I"⟩
abbrev b_NC_alike : ByteArray := prog_1_method_11_code
def y_NC_alike : MethodName := ⟨R_NC, "alike", "(II)I"⟩
abbrev b_NC_type : ByteArray := prog_1_method_12_code
def y_NC_type : MethodName := ⟨R_NC, "type", "(I)I"⟩
abbrev b_NC_wipe : ByteArray := prog_1_method_13_code
def y_NC_wipe : MethodName := ⟨R_NC, "wipe", "()I"⟩
abbrev b_NC_fits : ByteArray := prog_1_method_14_code
def y_NC_fits : MethodName := ⟨R_NC, "fits", "(I)I"⟩
abbrev b_NC_choose : ByteArray := prog_1_method_15_code
def y_NC_choose : MethodName := ⟨R_NC, "choose", "()I"⟩
abbrev b_NC_reply : ByteArray := prog_1_method_16_code
def y_NC_reply : MethodName := ⟨R_NC, "reply", "()I"⟩
abbrev b_NC_chosen : ByteArray := prog_1_method_17_code
def y_NC_chosen : MethodName := ⟨R_NC, "chosen", "(I)I"⟩
abbrev b_NC_asked : ByteArray := prog_1_method_18_code
def y_NC_asked : MethodName := ⟨R_NC, "asked", "(II)I"⟩
abbrev b_NC_told : ByteArray := prog_1_method_19_code
def y_NC_told : MethodName := ⟨R_NC, "told", "(I)I"⟩
abbrev b_NC_count : ByteArray := prog_1_method_20_code
def y_NC_count : MethodName := ⟨R_NC, "count", "(I)I"⟩
abbrev b_Things_init : ByteArray := prog_4_method_1_code
def y_Things_init : MethodName := ⟨R_Things, "<init>", "()V"⟩
abbrev b_Phrase_init : ByteArray := prog_2_method_1_code
def y_Phrase_init : MethodName := ⟨R_Phrase, "<init>", "()V"⟩
abbrev b_Picks_init : ByteArray := prog_3_method_1_code
def y_Picks_init : MethodName := ⟨R_Picks, "<init>", "()V"⟩
abbrev b_NC_init : ByteArray := prog_1_method_1_code
def y_NC_init : MethodName := ⟨R_NC, "<init>", "()V"⟩
end
section
theorem m_s_Phrase_take : Cond.selects R_Phrase y_Phrase_take y_Phrase_take ∈ lw_G := List.mem_filter.mpr ⟨List.mem_of_getElem? (i := 0) (by decide +kernel), rfl⟩
theorem m_s_Phrase_mayEnd : Cond.selects R_Phrase y_Phrase_mayEnd y_Phrase_mayEnd ∈ lw_G := List.mem_filter.mpr ⟨List.mem_of_getElem? (i := 1) (by decide +kernel), rfl⟩
theorem m_s_Phrase_closePart : Cond.selects R_Phrase y_Phrase_closePart y_Phrase_closePart ∈ lw_G := List.mem_filter.mpr ⟨List.mem_of_getElem? (i := 2) (by decide +kernel), rfl⟩
theorem m_s_Phrase_isPart : Cond.selects R_Phrase y_Phrase_isPart y_Phrase_isPart ∈ lw_G := List.mem_filter.mpr ⟨List.mem_of_getElem? (i := 3) (by decide +kernel), rfl⟩
theorem m_s_Phrase_openDescription : Cond.selects R_Phrase y_Phrase_openDescription y_Phrase_openDescription ∈ lw_G := List.mem_filter.mpr ⟨List.mem_of_getElem? (i := 4) (by decide +kernel), rfl⟩
theorem m_s_Phrase_takeAtPart : Cond.selects R_Phrase y_Phrase_takeAtPart y_Phrase_takeAtPart ∈ lw_G := List.mem_filter.mpr ⟨List.mem_of_getElem? (i := 5) (by decide +kernel), rfl⟩
theorem m_s_Phrase_openPart : Cond.selects R_Phrase y_Phrase_openPart y_Phrase_openPart ∈ lw_G := List.mem_filter.mpr ⟨List.mem_of_getElem? (i := 6) (by decide +kernel), rfl⟩
theorem m_s_Phrase_setAmount : Cond.selects R_Phrase y_Phrase_setAmount y_Phrase_setAmount ∈ lw_G := List.mem_filter.mpr ⟨List.mem_of_getElem? (i := 7) (by decide +kernel), rfl⟩
theorem m_s_Phrase_openMain : Cond.selects R_Phrase y_Phrase_openMain y_Phrase_openMain ∈ lw_G := List.mem_filter.mpr ⟨List.mem_of_getElem? (i := 8) (by decide +kernel), rfl⟩
theorem m_s_Phrase_takeInDescription : Cond.selects R_Phrase y_Phrase_takeInDescription y_Phrase_takeInDescription ∈ lw_G := List.mem_filter.mpr ⟨List.mem_of_getElem? (i := 9) (by decide +kernel), rfl⟩
theorem m_s_Phrase_addWord : Cond.selects R_Phrase y_Phrase_addWord y_Phrase_addWord ∈ lw_G := List.mem_filter.mpr ⟨List.mem_of_getElem? (i := 10) (by decide +kernel), rfl⟩
theorem m_s_Phrase_isOwn : Cond.selects R_Phrase y_Phrase_isOwn y_Phrase_isOwn ∈ lw_G := List.mem_filter.mpr ⟨List.mem_of_getElem? (i := 11) (by decide +kernel), rfl⟩
theorem m_s_NC_fittingSet : Cond.selects R_NC y_NC_fittingSet y_NC_fittingSet ∈ lw_G := List.mem_filter.mpr ⟨List.mem_of_getElem? (i := 12) (by decide +kernel), rfl⟩
theorem m_s_NC_refuseRow : Cond.selects R_NC y_NC_refuseRow y_NC_refuseRow ∈ lw_G := List.mem_filter.mpr ⟨List.mem_of_getElem? (i := 13) (by decide +kernel), rfl⟩
theorem m_s_NC_tell : Cond.selects R_NC y_NC_tell y_NC_tell ∈ lw_G := List.mem_filter.mpr ⟨List.mem_of_getElem? (i := 14) (by decide +kernel), rfl⟩
theorem m_s_NC_goThrough : Cond.selects R_NC y_NC_goThrough y_NC_goThrough ∈ lw_G := List.mem_filter.mpr ⟨List.mem_of_getElem? (i := 15) (by decide +kernel), rfl⟩
theorem m_s_NC_goThroughPart : Cond.selects R_NC y_NC_goThroughPart y_NC_goThroughPart ∈ lw_G := List.mem_filter.mpr ⟨List.mem_of_getElem? (i := 16) (by decide +kernel), rfl⟩
theorem m_s_NC_takeExceptsAway : Cond.selects R_NC y_NC_takeExceptsAway y_NC_takeExceptsAway ∈ lw_G := List.mem_filter.mpr ⟨List.mem_of_getElem? (i := 17) (by decide +kernel), rfl⟩
theorem m_s_NC_giveNumber : Cond.selects R_NC y_NC_giveNumber y_NC_giveNumber ∈ lw_G := List.mem_filter.mpr ⟨List.mem_of_getElem? (i := 18) (by decide +kernel), rfl⟩
theorem m_s_NC_bestOf : Cond.selects R_NC y_NC_bestOf y_NC_bestOf ∈ lw_G := List.mem_filter.mpr ⟨List.mem_of_getElem? (i := 19) (by decide +kernel), rfl⟩
theorem m_s_NC_giveMeant : Cond.selects R_NC y_NC_giveMeant y_NC_giveMeant ∈ lw_G := List.mem_filter.mpr ⟨List.mem_of_getElem? (i := 20) (by decide +kernel), rfl⟩
theorem m_s_NC_leadersOf : Cond.selects R_NC y_NC_leadersOf y_NC_leadersOf ∈ lw_G := List.mem_filter.mpr ⟨List.mem_of_getElem? (i := 21) (by decide +kernel), rfl⟩
theorem m_s_NC_endAt : Cond.selects R_NC y_NC_endAt y_NC_endAt ∈ lw_G := List.mem_filter.mpr ⟨List.mem_of_getElem? (i := 22) (by decide +kernel), rfl⟩
theorem m_s_NC_replyFault : Cond.selects R_NC y_NC_replyFault y_NC_replyFault ∈ lw_G := List.mem_filter.mpr ⟨List.mem_of_getElem? (i := 23) (by decide +kernel), rfl⟩
theorem m_s_NC_leftByRow : Cond.selects R_NC y_NC_leftByRow y_NC_leftByRow ∈ lw_G := List.mem_filter.mpr ⟨List.mem_of_getElem? (i := 24) (by decide +kernel), rfl⟩
theorem m_s_NC_groupAt : Cond.selects R_NC y_NC_groupAt y_NC_groupAt ∈ lw_G := List.mem_filter.mpr ⟨List.mem_of_getElem? (i := 25) (by decide +kernel), rfl⟩
theorem m_ini_NC : Cond.initialized R_NC ∈ lw_G := List.mem_filter.mpr ⟨List.mem_of_getElem? (i := 46) (by decide +kernel), rfl⟩
theorem m_ini_Things : Cond.initialized R_Things ∈ lw_G := List.mem_filter.mpr ⟨List.mem_of_getElem? (i := 47) (by decide +kernel), rfl⟩
theorem m_ini_Arrays : Cond.initialized R_Arrays ∈ lw_G := List.mem_filter.mpr ⟨List.mem_of_getElem? (i := 48) (by decide +kernel), rfl⟩
theorem m_ini_Phrase : Cond.initialized R_Phrase ∈ lw_G := List.mem_filter.mpr ⟨List.mem_of_getElem? (i := 49) (by decide +kernel), rfl⟩
theorem m_ini_Picks : Cond.initialized R_Picks ∈ lw_G := List.mem_filter.mpr ⟨List.mem_of_getElem? (i := 50) (by decide +kernel), rfl⟩
theorem m_ini_Integer : Cond.initialized R_Integer ∈ lw_G := List.mem_filter.mpr ⟨List.mem_of_getElem? (i := 52) (by decide +kernel), rfl⟩
theorem m_o_NC_1 : Cond.methodLink R_NC 1 objectInit ∈ lw_G := List.mem_filter.mpr ⟨List.mem_of_getElem? (i := 58) (by decide +kernel), rfl⟩
theorem m_oi : Cond.instanceMethod objectInit ∈ lw_G := List.mem_filter.mpr ⟨List.mem_of_getElem? (i := 59) (by decide +kernel), rfl⟩
theorem m_oc : Cond.code objectInit ⟨#[0xb1]⟩ 1 none ∈ lw_G := List.mem_filter.mpr ⟨List.mem_of_getElem? (i := 60) (by decide +kernel), rfl⟩
theorem m_l_NC_7 : Cond.classLink R_NC 7 R_Things ∈ lw_G := List.mem_filter.mpr ⟨List.mem_of_getElem? (i := 61) (by decide +kernel), rfl⟩
theorem m_inst_Things : Cond.instantiable R_Things 8 ∈ lw_G := List.mem_filter.mpr ⟨List.mem_of_getElem? (i := 62) (by decide +kernel), rfl⟩
theorem m_m_NC_9 : Cond.methodLink R_NC 9 y_Things_init ∈ lw_G := List.mem_filter.mpr ⟨List.mem_of_getElem? (i := 63) (by decide +kernel), rfl⟩
theorem m_i_Things_init : Cond.instanceMethod y_Things_init ∈ lw_G := List.mem_filter.mpr ⟨List.mem_of_getElem? (i := 64) (by decide +kernel), rfl⟩
theorem m_code_Things_init : Cond.code y_Things_init b_Things_init 1 none ∈ lw_G := List.mem_filter.mpr ⟨List.mem_of_getElem? (i := 65) (by decide +kernel), rfl⟩
theorem m_o_Things_3 : Cond.methodLink R_Things 3 objectInit ∈ lw_G := List.mem_filter.mpr ⟨List.mem_of_getElem? (i := 66) (by decide +kernel), rfl⟩
theorem m_m_Things_37 : Cond.methodLink R_Things 37 y_Arrays_fill ∈ lw_G := List.mem_filter.mpr ⟨List.mem_of_getElem? (i := 67) (by decide +kernel), rfl⟩
theorem m_t_Arrays_fill : Cond.static y_Arrays_fill ∈ lw_G := List.mem_filter.mpr ⟨List.mem_of_getElem? (i := 68) (by decide +kernel), rfl⟩
theorem m_code_Arrays_fill : Cond.code y_Arrays_fill b_Arrays_fill 4 none ∈ lw_G := List.mem_filter.mpr ⟨List.mem_of_getElem? (i := 69) (by decide +kernel), rfl⟩
theorem m_f_Things_9 : Cond.fieldLink R_Things 9 "NounChoice$Things" "nouns" "[I" ∈ lw_G := List.mem_filter.mpr ⟨List.mem_of_getElem? (i := 70) (by decide +kernel), rfl⟩
theorem m_f_Things_15 : Cond.fieldLink R_Things 15 "NounChoice$Things" "adjectives" "[I" ∈ lw_G := List.mem_filter.mpr ⟨List.mem_of_getElem? (i := 71) (by decide +kernel), rfl⟩
theorem m_f_Things_18 : Cond.fieldLink R_Things 18 "NounChoice$Things" "kinds" "[I" ∈ lw_G := List.mem_filter.mpr ⟨List.mem_of_getElem? (i := 72) (by decide +kernel), rfl⟩
theorem m_f_Things_21 : Cond.fieldLink R_Things 21 "NounChoice$Things" "places" "[I" ∈ lw_G := List.mem_filter.mpr ⟨List.mem_of_getElem? (i := 73) (by decide +kernel), rfl⟩
theorem m_f_Things_24 : Cond.fieldLink R_Things 24 "NounChoice$Things" "marks" "[I" ∈ lw_G := List.mem_filter.mpr ⟨List.mem_of_getElem? (i := 74) (by decide +kernel), rfl⟩
theorem m_f_Things_27 : Cond.fieldLink R_Things 27 "NounChoice$Things" "plurals" "[I" ∈ lw_G := List.mem_filter.mpr ⟨List.mem_of_getElem? (i := 75) (by decide +kernel), rfl⟩
theorem m_f_Things_30 : Cond.fieldLink R_Things 30 "NounChoice$Things" "weights" "[I" ∈ lw_G := List.mem_filter.mpr ⟨List.mem_of_getElem? (i := 76) (by decide +kernel), rfl⟩
theorem m_f_Things_33 : Cond.fieldLink R_Things 33 "NounChoice$Things" "number" "I" ∈ lw_G := List.mem_filter.mpr ⟨List.mem_of_getElem? (i := 77) (by decide +kernel), rfl⟩
theorem m_arr_int : Cond.arrayClass .int ∈ lw_G := List.mem_filter.mpr ⟨List.mem_of_getElem? (i := 96) (by decide +kernel), rfl⟩
theorem m_l_NC_27 : Cond.classLink R_NC 27 R_Phrase ∈ lw_G := List.mem_filter.mpr ⟨List.mem_of_getElem? (i := 97) (by decide +kernel), rfl⟩
theorem m_inst_Phrase : Cond.instantiable R_Phrase 11 ∈ lw_G := List.mem_filter.mpr ⟨List.mem_of_getElem? (i := 98) (by decide +kernel), rfl⟩
theorem m_i_Phrase_init : Cond.instanceMethod y_Phrase_init ∈ lw_G := List.mem_filter.mpr ⟨List.mem_of_getElem? (i := 100) (by decide +kernel), rfl⟩
theorem m_code_Phrase_init : Cond.code y_Phrase_init b_Phrase_init 1 none ∈ lw_G := List.mem_filter.mpr ⟨List.mem_of_getElem? (i := 101) (by decide +kernel), rfl⟩
theorem m_o_Phrase_3 : Cond.methodLink R_Phrase 3 objectInit ∈ lw_G := List.mem_filter.mpr ⟨List.mem_of_getElem? (i := 102) (by decide +kernel), rfl⟩
theorem m_f_Phrase_9 : Cond.fieldLink R_Phrase 9 "NounChoice$Phrase" "amounts" "[I" ∈ lw_G := List.mem_filter.mpr ⟨List.mem_of_getElem? (i := 103) (by decide +kernel), rfl⟩
theorem m_f_Phrase_15 : Cond.fieldLink R_Phrase 15 "NounChoice$Phrase" "mains" "[I" ∈ lw_G := List.mem_filter.mpr ⟨List.mem_of_getElem? (i := 104) (by decide +kernel), rfl⟩
theorem m_f_Phrase_18 : Cond.fieldLink R_Phrase 18 "NounChoice$Phrase" "starts" "[I" ∈ lw_G := List.mem_filter.mpr ⟨List.mem_of_getElem? (i := 105) (by decide +kernel), rfl⟩
theorem m_f_Phrase_21 : Cond.fieldLink R_Phrase 21 "NounChoice$Phrase" "ends" "[I" ∈ lw_G := List.mem_filter.mpr ⟨List.mem_of_getElem? (i := 106) (by decide +kernel), rfl⟩
theorem m_f_Phrase_24 : Cond.fieldLink R_Phrase 24 "NounChoice$Phrase" "parts" "I" ∈ lw_G := List.mem_filter.mpr ⟨List.mem_of_getElem? (i := 107) (by decide +kernel), rfl⟩
theorem m_f_Phrase_28 : Cond.fieldLink R_Phrase 28 "NounChoice$Phrase" "articles" "[I" ∈ lw_G := List.mem_filter.mpr ⟨List.mem_of_getElem? (i := 109) (by decide +kernel), rfl⟩
theorem m_f_Phrase_31 : Cond.fieldLink R_Phrase 31 "NounChoice$Phrase" "leading" "[I" ∈ lw_G := List.mem_filter.mpr ⟨List.mem_of_getElem? (i := 110) (by decide +kernel), rfl⟩
theorem m_f_Phrase_34 : Cond.fieldLink R_Phrase 34 "NounChoice$Phrase" "lasts" "[I" ∈ lw_G := List.mem_filter.mpr ⟨List.mem_of_getElem? (i := 111) (by decide +kernel), rfl⟩
theorem m_f_Phrase_37 : Cond.fieldLink R_Phrase 37 "NounChoice$Phrase" "descriptions" "I" ∈ lw_G := List.mem_filter.mpr ⟨List.mem_of_getElem? (i := 112) (by decide +kernel), rfl⟩
theorem m_f_Phrase_40 : Cond.fieldLink R_Phrase 40 "NounChoice$Phrase" "state" "I" ∈ lw_G := List.mem_filter.mpr ⟨List.mem_of_getElem? (i := 113) (by decide +kernel), rfl⟩
theorem m_f_Phrase_43 : Cond.fieldLink R_Phrase 43 "NounChoice$Phrase" "words" "I" ∈ lw_G := List.mem_filter.mpr ⟨List.mem_of_getElem? (i := 114) (by decide +kernel), rfl⟩
theorem m_l_NC_40 : Cond.classLink R_NC 40 R_Picks ∈ lw_G := List.mem_filter.mpr ⟨List.mem_of_getElem? (i := 138) (by decide +kernel), rfl⟩
theorem m_inst_Picks : Cond.instantiable R_Picks 3 ∈ lw_G := List.mem_filter.mpr ⟨List.mem_of_getElem? (i := 139) (by decide +kernel), rfl⟩
theorem m_i_Picks_init : Cond.instanceMethod y_Picks_init ∈ lw_G := List.mem_filter.mpr ⟨List.mem_of_getElem? (i := 141) (by decide +kernel), rfl⟩
theorem m_code_Picks_init : Cond.code y_Picks_init b_Picks_init 1 none ∈ lw_G := List.mem_filter.mpr ⟨List.mem_of_getElem? (i := 142) (by decide +kernel), rfl⟩
theorem m_o_Picks_3 : Cond.methodLink R_Picks 3 objectInit ∈ lw_G := List.mem_filter.mpr ⟨List.mem_of_getElem? (i := 143) (by decide +kernel), rfl⟩
theorem m_f_Picks_9 : Cond.fieldLink R_Picks 9 "NounChoice$Picks" "order" "[I" ∈ lw_G := List.mem_filter.mpr ⟨List.mem_of_getElem? (i := 144) (by decide +kernel), rfl⟩
theorem m_f_Picks_15 : Cond.fieldLink R_Picks 15 "NounChoice$Picks" "size" "I" ∈ lw_G := List.mem_filter.mpr ⟨List.mem_of_getElem? (i := 145) (by decide +kernel), rfl⟩
theorem m_f_Picks_19 : Cond.fieldLink R_Picks 19 "NounChoice$Picks" "set" "I" ∈ lw_G := List.mem_filter.mpr ⟨List.mem_of_getElem? (i := 147) (by decide +kernel), rfl⟩
theorem m_m_NC_68 : Cond.methodLink R_NC 68 y_Arrays_fill ∈ lw_G := List.mem_filter.mpr ⟨List.mem_of_getElem? (i := 156) (by decide +kernel), rfl⟩
theorem m_f_NC_10 : Cond.fieldLink R_NC 10 "NounChoice" "things" "LNounChoice$Things;" ∈ lw_G := List.mem_filter.mpr ⟨List.mem_of_getElem? (i := 157) (by decide +kernel), rfl⟩
theorem m_f_NC_16 : Cond.fieldLink R_NC 16 "NounChoice" "row" "[I" ∈ lw_G := List.mem_filter.mpr ⟨List.mem_of_getElem? (i := 158) (by decide +kernel), rfl⟩
theorem m_f_NC_20 : Cond.fieldLink R_NC 20 "NounChoice" "rowSize" "I" ∈ lw_G := List.mem_filter.mpr ⟨List.mem_of_getElem? (i := 159) (by decide +kernel), rfl⟩
theorem m_f_NC_24 : Cond.fieldLink R_NC 24 "NounChoice" "mostChosen" "I" ∈ lw_G := List.mem_filter.mpr ⟨List.mem_of_getElem? (i := 160) (by decide +kernel), rfl⟩
theorem m_f_NC_30 : Cond.fieldLink R_NC 30 "NounChoice" "phrase" "LNounChoice$Phrase;" ∈ lw_G := List.mem_filter.mpr ⟨List.mem_of_getElem? (i := 161) (by decide +kernel), rfl⟩
theorem m_f_NC_34 : Cond.fieldLink R_NC 34 "NounChoice" "draft" "LNounChoice$Phrase;" ∈ lw_G := List.mem_filter.mpr ⟨List.mem_of_getElem? (i := 162) (by decide +kernel), rfl⟩
theorem m_f_NC_37 : Cond.fieldLink R_NC 37 "NounChoice" "leftBy" "[I" ∈ lw_G := List.mem_filter.mpr ⟨List.mem_of_getElem? (i := 163) (by decide +kernel), rfl⟩
theorem m_f_NC_43 : Cond.fieldLink R_NC 43 "NounChoice" "latest" "LNounChoice$Picks;" ∈ lw_G := List.mem_filter.mpr ⟨List.mem_of_getElem? (i := 164) (by decide +kernel), rfl⟩
theorem m_f_NC_47 : Cond.fieldLink R_NC 47 "NounChoice" "given" "LNounChoice$Picks;" ∈ lw_G := List.mem_filter.mpr ⟨List.mem_of_getElem? (i := 165) (by decide +kernel), rfl⟩
theorem m_f_NC_50 : Cond.fieldLink R_NC 50 "NounChoice" "candidates" "I" ∈ lw_G := List.mem_filter.mpr ⟨List.mem_of_getElem? (i := 166) (by decide +kernel), rfl⟩
theorem m_f_NC_53 : Cond.fieldLink R_NC 53 "NounChoice" "askedSet" "I" ∈ lw_G := List.mem_filter.mpr ⟨List.mem_of_getElem? (i := 167) (by decide +kernel), rfl⟩
theorem m_f_NC_56 : Cond.fieldLink R_NC 56 "NounChoice" "askedPart" "I" ∈ lw_G := List.mem_filter.mpr ⟨List.mem_of_getElem? (i := 168) (by decide +kernel), rfl⟩
theorem m_f_NC_59 : Cond.fieldLink R_NC 59 "NounChoice" "toldPart" "I" ∈ lw_G := List.mem_filter.mpr ⟨List.mem_of_getElem? (i := 169) (by decide +kernel), rfl⟩
theorem m_f_NC_62 : Cond.fieldLink R_NC 62 "NounChoice" "toldFault" "I" ∈ lw_G := List.mem_filter.mpr ⟨List.mem_of_getElem? (i := 170) (by decide +kernel), rfl⟩
theorem m_f_NC_65 : Cond.fieldLink R_NC 65 "NounChoice" "toldSize" "I" ∈ lw_G := List.mem_filter.mpr ⟨List.mem_of_getElem? (i := 171) (by decide +kernel), rfl⟩
theorem m_m_NC_74 : Cond.methodLink R_NC 74 y_Things_add ∈ lw_G := List.mem_filter.mpr ⟨List.mem_of_getElem? (i := 207) (by decide +kernel), rfl⟩
theorem m_i_Things_add : Cond.instanceMethod y_Things_add ∈ lw_G := List.mem_filter.mpr ⟨List.mem_of_getElem? (i := 208) (by decide +kernel), rfl⟩
theorem m_s_Things_add : Cond.selects R_Things y_Things_add y_Things_add ∈ lw_G := List.mem_filter.mpr ⟨List.mem_of_getElem? (i := 209) (by decide +kernel), rfl⟩
theorem m_code_Things_add : Cond.code y_Things_add b_Things_add 1 (some .int) ∈ lw_G := List.mem_filter.mpr ⟨List.mem_of_getElem? (i := 210) (by decide +kernel), rfl⟩
theorem m_m_NC_78 : Cond.methodLink R_NC 78 y_Things_setWord ∈ lw_G := List.mem_filter.mpr ⟨List.mem_of_getElem? (i := 215) (by decide +kernel), rfl⟩
theorem m_i_Things_setWord : Cond.instanceMethod y_Things_setWord ∈ lw_G := List.mem_filter.mpr ⟨List.mem_of_getElem? (i := 216) (by decide +kernel), rfl⟩
theorem m_s_Things_setWord : Cond.selects R_Things y_Things_setWord y_Things_setWord ∈ lw_G := List.mem_filter.mpr ⟨List.mem_of_getElem? (i := 217) (by decide +kernel), rfl⟩
theorem m_code_Things_setWord : Cond.code y_Things_setWord b_Things_setWord 7 (some .int) ∈ lw_G := List.mem_filter.mpr ⟨List.mem_of_getElem? (i := 218) (by decide +kernel), rfl⟩
theorem m_m_Things_43 : Cond.methodLink R_Things 43 y_Things_has ∈ lw_G := List.mem_filter.mpr ⟨List.mem_of_getElem? (i := 219) (by decide +kernel), rfl⟩
theorem m_i_Things_has : Cond.instanceMethod y_Things_has ∈ lw_G := List.mem_filter.mpr ⟨List.mem_of_getElem? (i := 220) (by decide +kernel), rfl⟩
theorem m_s_Things_has : Cond.selects R_Things y_Things_has y_Things_has ∈ lw_G := List.mem_filter.mpr ⟨List.mem_of_getElem? (i := 221) (by decide +kernel), rfl⟩
theorem m_code_Things_has : Cond.code y_Things_has b_Things_has 2 (some .boolean) ∈ lw_G := List.mem_filter.mpr ⟨List.mem_of_getElem? (i := 222) (by decide +kernel), rfl⟩
theorem m_t_NC_isWord : Cond.static y_NC_isWord ∈ lw_G := List.mem_filter.mpr ⟨List.mem_of_getElem? (i := 224) (by decide +kernel), rfl⟩
theorem m_code_NC_isWord : Cond.code y_NC_isWord b_NC_isWord 1 (some .boolean) ∈ lw_G := List.mem_filter.mpr ⟨List.mem_of_getElem? (i := 225) (by decide +kernel), rfl⟩
theorem m_m_NC_82 : Cond.methodLink R_NC 82 y_Things_setKind ∈ lw_G := List.mem_filter.mpr ⟨List.mem_of_getElem? (i := 230) (by decide +kernel), rfl⟩
theorem m_i_Things_setKind : Cond.instanceMethod y_Things_setKind ∈ lw_G := List.mem_filter.mpr ⟨List.mem_of_getElem? (i := 231) (by decide +kernel), rfl⟩
theorem m_s_Things_setKind : Cond.selects R_Things y_Things_setKind y_Things_setKind ∈ lw_G := List.mem_filter.mpr ⟨List.mem_of_getElem? (i := 232) (by decide +kernel), rfl⟩
theorem m_code_Things_setKind : Cond.code y_Things_setKind b_Things_setKind 4 (some .int) ∈ lw_G := List.mem_filter.mpr ⟨List.mem_of_getElem? (i := 233) (by decide +kernel), rfl⟩
theorem m_m_Things_50 : Cond.methodLink R_Things 50 y_Things_isKind ∈ lw_G := List.mem_filter.mpr ⟨List.mem_of_getElem? (i := 234) (by decide +kernel), rfl⟩
theorem m_t_Things_isKind : Cond.static y_Things_isKind ∈ lw_G := List.mem_filter.mpr ⟨List.mem_of_getElem? (i := 235) (by decide +kernel), rfl⟩
theorem m_code_Things_isKind : Cond.code y_Things_isKind b_Things_isKind 1 (some .boolean) ∈ lw_G := List.mem_filter.mpr ⟨List.mem_of_getElem? (i := 236) (by decide +kernel), rfl⟩
theorem m_m_NC_86 : Cond.methodLink R_NC 86 y_Things_setPlace ∈ lw_G := List.mem_filter.mpr ⟨List.mem_of_getElem? (i := 241) (by decide +kernel), rfl⟩
theorem m_i_Things_setPlace : Cond.instanceMethod y_Things_setPlace ∈ lw_G := List.mem_filter.mpr ⟨List.mem_of_getElem? (i := 242) (by decide +kernel), rfl⟩
theorem m_s_Things_setPlace : Cond.selects R_Things y_Things_setPlace y_Things_setPlace ∈ lw_G := List.mem_filter.mpr ⟨List.mem_of_getElem? (i := 243) (by decide +kernel), rfl⟩
theorem m_code_Things_setPlace : Cond.code y_Things_setPlace b_Things_setPlace 4 (some .int) ∈ lw_G := List.mem_filter.mpr ⟨List.mem_of_getElem? (i := 244) (by decide +kernel), rfl⟩
theorem m_m_NC_89 : Cond.methodLink R_NC 89 y_Things_setMark ∈ lw_G := List.mem_filter.mpr ⟨List.mem_of_getElem? (i := 249) (by decide +kernel), rfl⟩
theorem m_i_Things_setMark : Cond.instanceMethod y_Things_setMark ∈ lw_G := List.mem_filter.mpr ⟨List.mem_of_getElem? (i := 250) (by decide +kernel), rfl⟩
theorem m_s_Things_setMark : Cond.selects R_Things y_Things_setMark y_Things_setMark ∈ lw_G := List.mem_filter.mpr ⟨List.mem_of_getElem? (i := 251) (by decide +kernel), rfl⟩
theorem m_code_Things_setMark : Cond.code y_Things_setMark b_Things_setMark 6 (some .int) ∈ lw_G := List.mem_filter.mpr ⟨List.mem_of_getElem? (i := 252) (by decide +kernel), rfl⟩
theorem m_m_Things_53 : Cond.methodLink R_Things 53 y_Things_isRule ∈ lw_G := List.mem_filter.mpr ⟨List.mem_of_getElem? (i := 253) (by decide +kernel), rfl⟩
theorem m_t_Things_isRule : Cond.static y_Things_isRule ∈ lw_G := List.mem_filter.mpr ⟨List.mem_of_getElem? (i := 254) (by decide +kernel), rfl⟩
theorem m_code_Things_isRule : Cond.code y_Things_isRule b_Things_isRule 1 (some .boolean) ∈ lw_G := List.mem_filter.mpr ⟨List.mem_of_getElem? (i := 255) (by decide +kernel), rfl⟩
theorem m_m_NC_93 : Cond.methodLink R_NC 93 y_Things_setPlural ∈ lw_G := List.mem_filter.mpr ⟨List.mem_of_getElem? (i := 260) (by decide +kernel), rfl⟩
theorem m_i_Things_setPlural : Cond.instanceMethod y_Things_setPlural ∈ lw_G := List.mem_filter.mpr ⟨List.mem_of_getElem? (i := 261) (by decide +kernel), rfl⟩
theorem m_s_Things_setPlural : Cond.selects R_Things y_Things_setPlural y_Things_setPlural ∈ lw_G := List.mem_filter.mpr ⟨List.mem_of_getElem? (i := 262) (by decide +kernel), rfl⟩
theorem m_code_Things_setPlural : Cond.code y_Things_setPlural b_Things_setPlural 4 (some .int) ∈ lw_G := List.mem_filter.mpr ⟨List.mem_of_getElem? (i := 263) (by decide +kernel), rfl⟩
theorem m_m_NC_96 : Cond.methodLink R_NC 96 y_Things_setWeight ∈ lw_G := List.mem_filter.mpr ⟨List.mem_of_getElem? (i := 268) (by decide +kernel), rfl⟩
theorem m_i_Things_setWeight : Cond.instanceMethod y_Things_setWeight ∈ lw_G := List.mem_filter.mpr ⟨List.mem_of_getElem? (i := 269) (by decide +kernel), rfl⟩
theorem m_s_Things_setWeight : Cond.selects R_Things y_Things_setWeight y_Things_setWeight ∈ lw_G := List.mem_filter.mpr ⟨List.mem_of_getElem? (i := 270) (by decide +kernel), rfl⟩
theorem m_code_Things_setWeight : Cond.code y_Things_setWeight b_Things_setWeight 4 (some .int) ∈ lw_G := List.mem_filter.mpr ⟨List.mem_of_getElem? (i := 271) (by decide +kernel), rfl⟩
theorem m_m_NC_99 : Cond.methodLink R_NC 99 y_Things_has ∈ lw_G := List.mem_filter.mpr ⟨List.mem_of_getElem? (i := 280) (by decide +kernel), rfl⟩
theorem m_m_NC_103 : Cond.methodLink R_NC 103 y_Things_scoreOf ∈ lw_G := List.mem_filter.mpr ⟨List.mem_of_getElem? (i := 281) (by decide +kernel), rfl⟩
theorem m_i_Things_scoreOf : Cond.instanceMethod y_Things_scoreOf ∈ lw_G := List.mem_filter.mpr ⟨List.mem_of_getElem? (i := 282) (by decide +kernel), rfl⟩
theorem m_s_Things_scoreOf : Cond.selects R_Things y_Things_scoreOf y_Things_scoreOf ∈ lw_G := List.mem_filter.mpr ⟨List.mem_of_getElem? (i := 283) (by decide +kernel), rfl⟩
theorem m_code_Things_scoreOf : Cond.code y_Things_scoreOf b_Things_scoreOf 4 (some .int) ∈ lw_G := List.mem_filter.mpr ⟨List.mem_of_getElem? (i := 284) (by decide +kernel), rfl⟩
theorem m_m_NC_107 : Cond.methodLink R_NC 107 y_Things_areAlike ∈ lw_G := List.mem_filter.mpr ⟨List.mem_of_getElem? (i := 289) (by decide +kernel), rfl⟩
theorem m_i_Things_areAlike : Cond.instanceMethod y_Things_areAlike ∈ lw_G := List.mem_filter.mpr ⟨List.mem_of_getElem? (i := 290) (by decide +kernel), rfl⟩
theorem m_s_Things_areAlike : Cond.selects R_Things y_Things_areAlike y_Things_areAlike ∈ lw_G := List.mem_filter.mpr ⟨List.mem_of_getElem? (i := 291) (by decide +kernel), rfl⟩
theorem m_code_Things_areAlike : Cond.code y_Things_areAlike b_Things_areAlike 4 (some .boolean) ∈ lw_G := List.mem_filter.mpr ⟨List.mem_of_getElem? (i := 292) (by decide +kernel), rfl⟩
theorem m_m_NC_111 : Cond.methodLink R_NC 111 y_NC_isToken ∈ lw_G := List.mem_filter.mpr ⟨List.mem_of_getElem? (i := 297) (by decide +kernel), rfl⟩
theorem m_t_NC_isToken : Cond.static y_NC_isToken ∈ lw_G := List.mem_filter.mpr ⟨List.mem_of_getElem? (i := 298) (by decide +kernel), rfl⟩
theorem m_code_NC_isToken : Cond.code y_NC_isToken b_NC_isToken 1 (some .boolean) ∈ lw_G := List.mem_filter.mpr ⟨List.mem_of_getElem? (i := 299) (by decide +kernel), rfl⟩
theorem m_m_NC_177 : Cond.methodLink R_NC 177 y_NC_isNumber ∈ lw_G := List.mem_filter.mpr ⟨List.mem_of_getElem? (i := 300) (by decide +kernel), rfl⟩
theorem m_t_NC_isNumber : Cond.static y_NC_isNumber ∈ lw_G := List.mem_filter.mpr ⟨List.mem_of_getElem? (i := 301) (by decide +kernel), rfl⟩
theorem m_code_NC_isNumber : Cond.code y_NC_isNumber b_NC_isNumber 1 (some .boolean) ∈ lw_G := List.mem_filter.mpr ⟨List.mem_of_getElem? (i := 302) (by decide +kernel), rfl⟩
theorem m_m_NC_114 : Cond.methodLink R_NC 114 y_Phrase_read ∈ lw_G := List.mem_filter.mpr ⟨List.mem_of_getElem? (i := 311) (by decide +kernel), rfl⟩
theorem m_i_Phrase_read : Cond.instanceMethod y_Phrase_read ∈ lw_G := List.mem_filter.mpr ⟨List.mem_of_getElem? (i := 312) (by decide +kernel), rfl⟩
theorem m_s_Phrase_read : Cond.selects R_Phrase y_Phrase_read y_Phrase_read ∈ lw_G := List.mem_filter.mpr ⟨List.mem_of_getElem? (i := 313) (by decide +kernel), rfl⟩
theorem m_code_Phrase_read : Cond.code y_Phrase_read b_Phrase_read 4 (some .int) ∈ lw_G := List.mem_filter.mpr ⟨List.mem_of_getElem? (i := 314) (by decide +kernel), rfl⟩
theorem m_m_Phrase_46 : Cond.methodLink R_Phrase 46 y_Phrase_take ∈ lw_G := List.mem_filter.mpr ⟨List.mem_of_getElem? (i := 315) (by decide +kernel), rfl⟩
theorem m_i_Phrase_take : Cond.instanceMethod y_Phrase_take ∈ lw_G := List.mem_filter.mpr ⟨List.mem_of_getElem? (i := 317) (by decide +kernel), rfl⟩
theorem m_code_Phrase_take : Cond.code y_Phrase_take b_Phrase_take 2 (some .boolean) ∈ lw_G := List.mem_filter.mpr ⟨List.mem_of_getElem? (i := 318) (by decide +kernel), rfl⟩
theorem m_m_Phrase_50 : Cond.methodLink R_Phrase 50 y_Phrase_mayEnd ∈ lw_G := List.mem_filter.mpr ⟨List.mem_of_getElem? (i := 319) (by decide +kernel), rfl⟩
theorem m_i_Phrase_mayEnd : Cond.instanceMethod y_Phrase_mayEnd ∈ lw_G := List.mem_filter.mpr ⟨List.mem_of_getElem? (i := 321) (by decide +kernel), rfl⟩
theorem m_code_Phrase_mayEnd : Cond.code y_Phrase_mayEnd b_Phrase_mayEnd 1 (some .boolean) ∈ lw_G := List.mem_filter.mpr ⟨List.mem_of_getElem? (i := 322) (by decide +kernel), rfl⟩
theorem m_m_Phrase_60 : Cond.methodLink R_Phrase 60 y_Phrase_closePart ∈ lw_G := List.mem_filter.mpr ⟨List.mem_of_getElem? (i := 323) (by decide +kernel), rfl⟩
theorem m_i_Phrase_closePart : Cond.instanceMethod y_Phrase_closePart ∈ lw_G := List.mem_filter.mpr ⟨List.mem_of_getElem? (i := 325) (by decide +kernel), rfl⟩
theorem m_code_Phrase_closePart : Cond.code y_Phrase_closePart b_Phrase_closePart 1 (some .boolean) ∈ lw_G := List.mem_filter.mpr ⟨List.mem_of_getElem? (i := 326) (by decide +kernel), rfl⟩
theorem m_m_Phrase_63 : Cond.methodLink R_Phrase 63 y_Phrase_amountOf ∈ lw_G := List.mem_filter.mpr ⟨List.mem_of_getElem? (i := 327) (by decide +kernel), rfl⟩
theorem m_i_Phrase_amountOf : Cond.instanceMethod y_Phrase_amountOf ∈ lw_G := List.mem_filter.mpr ⟨List.mem_of_getElem? (i := 328) (by decide +kernel), rfl⟩
theorem m_s_Phrase_amountOf : Cond.selects R_Phrase y_Phrase_amountOf y_Phrase_amountOf ∈ lw_G := List.mem_filter.mpr ⟨List.mem_of_getElem? (i := 329) (by decide +kernel), rfl⟩
theorem m_code_Phrase_amountOf : Cond.code y_Phrase_amountOf b_Phrase_amountOf 2 (some .int) ∈ lw_G := List.mem_filter.mpr ⟨List.mem_of_getElem? (i := 330) (by decide +kernel), rfl⟩
theorem m_m_Phrase_54 : Cond.methodLink R_Phrase 54 y_Phrase_isPart ∈ lw_G := List.mem_filter.mpr ⟨List.mem_of_getElem? (i := 331) (by decide +kernel), rfl⟩
theorem m_i_Phrase_isPart : Cond.instanceMethod y_Phrase_isPart ∈ lw_G := List.mem_filter.mpr ⟨List.mem_of_getElem? (i := 333) (by decide +kernel), rfl⟩
theorem m_code_Phrase_isPart : Cond.code y_Phrase_isPart b_Phrase_isPart 2 (some .boolean) ∈ lw_G := List.mem_filter.mpr ⟨List.mem_of_getElem? (i := 334) (by decide +kernel), rfl⟩
theorem m_m_Phrase_67 : Cond.methodLink R_Phrase 67 y_Phrase_openDescription ∈ lw_G := List.mem_filter.mpr ⟨List.mem_of_getElem? (i := 335) (by decide +kernel), rfl⟩
theorem m_i_Phrase_openDescription : Cond.instanceMethod y_Phrase_openDescription ∈ lw_G := List.mem_filter.mpr ⟨List.mem_of_getElem? (i := 337) (by decide +kernel), rfl⟩
theorem m_code_Phrase_openDescription : Cond.code y_Phrase_openDescription b_Phrase_openDescription 2 (some .boolean) ∈ lw_G := List.mem_filter.mpr ⟨List.mem_of_getElem? (i := 338) (by decide +kernel), rfl⟩
theorem m_m_Phrase_70 : Cond.methodLink R_Phrase 70 y_Phrase_takeAtPart ∈ lw_G := List.mem_filter.mpr ⟨List.mem_of_getElem? (i := 339) (by decide +kernel), rfl⟩
theorem m_i_Phrase_takeAtPart : Cond.instanceMethod y_Phrase_takeAtPart ∈ lw_G := List.mem_filter.mpr ⟨List.mem_of_getElem? (i := 341) (by decide +kernel), rfl⟩
theorem m_code_Phrase_takeAtPart : Cond.code y_Phrase_takeAtPart b_Phrase_takeAtPart 2 (some .boolean) ∈ lw_G := List.mem_filter.mpr ⟨List.mem_of_getElem? (i := 342) (by decide +kernel), rfl⟩
theorem m_m_Phrase_79 : Cond.methodLink R_Phrase 79 y_Phrase_openPart ∈ lw_G := List.mem_filter.mpr ⟨List.mem_of_getElem? (i := 343) (by decide +kernel), rfl⟩
theorem m_i_Phrase_openPart : Cond.instanceMethod y_Phrase_openPart ∈ lw_G := List.mem_filter.mpr ⟨List.mem_of_getElem? (i := 345) (by decide +kernel), rfl⟩
theorem m_code_Phrase_openPart : Cond.code y_Phrase_openPart b_Phrase_openPart 1 (some .boolean) ∈ lw_G := List.mem_filter.mpr ⟨List.mem_of_getElem? (i := 346) (by decide +kernel), rfl⟩
theorem m_m_Phrase_82 : Cond.methodLink R_Phrase 82 y_Phrase_setAmount ∈ lw_G := List.mem_filter.mpr ⟨List.mem_of_getElem? (i := 347) (by decide +kernel), rfl⟩
theorem m_i_Phrase_setAmount : Cond.instanceMethod y_Phrase_setAmount ∈ lw_G := List.mem_filter.mpr ⟨List.mem_of_getElem? (i := 349) (by decide +kernel), rfl⟩
theorem m_code_Phrase_setAmount : Cond.code y_Phrase_setAmount b_Phrase_setAmount 4 (some .boolean) ∈ lw_G := List.mem_filter.mpr ⟨List.mem_of_getElem? (i := 350) (by decide +kernel), rfl⟩
theorem m_m_Phrase_73 : Cond.methodLink R_Phrase 73 y_Phrase_openMain ∈ lw_G := List.mem_filter.mpr ⟨List.mem_of_getElem? (i := 352) (by decide +kernel), rfl⟩
theorem m_i_Phrase_openMain : Cond.instanceMethod y_Phrase_openMain ∈ lw_G := List.mem_filter.mpr ⟨List.mem_of_getElem? (i := 354) (by decide +kernel), rfl⟩
theorem m_code_Phrase_openMain : Cond.code y_Phrase_openMain b_Phrase_openMain 2 (some .boolean) ∈ lw_G := List.mem_filter.mpr ⟨List.mem_of_getElem? (i := 355) (by decide +kernel), rfl⟩
theorem m_m_Phrase_76 : Cond.methodLink R_Phrase 76 y_Phrase_takeInDescription ∈ lw_G := List.mem_filter.mpr ⟨List.mem_of_getElem? (i := 356) (by decide +kernel), rfl⟩
theorem m_i_Phrase_takeInDescription : Cond.instanceMethod y_Phrase_takeInDescription ∈ lw_G := List.mem_filter.mpr ⟨List.mem_of_getElem? (i := 358) (by decide +kernel), rfl⟩
theorem m_code_Phrase_takeInDescription : Cond.code y_Phrase_takeInDescription b_Phrase_takeInDescription 3 (some .boolean) ∈ lw_G := List.mem_filter.mpr ⟨List.mem_of_getElem? (i := 359) (by decide +kernel), rfl⟩
theorem m_m_Phrase_92 : Cond.methodLink R_Phrase 92 y_Phrase_addWord ∈ lw_G := List.mem_filter.mpr ⟨List.mem_of_getElem? (i := 361) (by decide +kernel), rfl⟩
theorem m_i_Phrase_addWord : Cond.instanceMethod y_Phrase_addWord ∈ lw_G := List.mem_filter.mpr ⟨List.mem_of_getElem? (i := 363) (by decide +kernel), rfl⟩
theorem m_code_Phrase_addWord : Cond.code y_Phrase_addWord b_Phrase_addWord 3 (some .boolean) ∈ lw_G := List.mem_filter.mpr ⟨List.mem_of_getElem? (i := 364) (by decide +kernel), rfl⟩
theorem m_m_Phrase_57 : Cond.methodLink R_Phrase 57 y_Phrase_isOwn ∈ lw_G := List.mem_filter.mpr ⟨List.mem_of_getElem? (i := 365) (by decide +kernel), rfl⟩
theorem m_i_Phrase_isOwn : Cond.instanceMethod y_Phrase_isOwn ∈ lw_G := List.mem_filter.mpr ⟨List.mem_of_getElem? (i := 367) (by decide +kernel), rfl⟩
theorem m_code_Phrase_isOwn : Cond.code y_Phrase_isOwn b_Phrase_isOwn 2 (some .boolean) ∈ lw_G := List.mem_filter.mpr ⟨List.mem_of_getElem? (i := 368) (by decide +kernel), rfl⟩
theorem m_t_NC_isArticle : Cond.static y_NC_isArticle ∈ lw_G := List.mem_filter.mpr ⟨List.mem_of_getElem? (i := 370) (by decide +kernel), rfl⟩
theorem m_code_NC_isArticle : Cond.code y_NC_isArticle b_NC_isArticle 1 (some .boolean) ∈ lw_G := List.mem_filter.mpr ⟨List.mem_of_getElem? (i := 371) (by decide +kernel), rfl⟩
theorem m_m_Phrase_98 : Cond.methodLink R_Phrase 98 y_Phrase_tells ∈ lw_G := List.mem_filter.mpr ⟨List.mem_of_getElem? (i := 372) (by decide +kernel), rfl⟩
theorem m_i_Phrase_tells : Cond.instanceMethod y_Phrase_tells ∈ lw_G := List.mem_filter.mpr ⟨List.mem_of_getElem? (i := 373) (by decide +kernel), rfl⟩
theorem m_s_Phrase_tells : Cond.selects R_Phrase y_Phrase_tells y_Phrase_tells ∈ lw_G := List.mem_filter.mpr ⟨List.mem_of_getElem? (i := 374) (by decide +kernel), rfl⟩
theorem m_code_Phrase_tells : Cond.code y_Phrase_tells b_Phrase_tells 3 (some .boolean) ∈ lw_G := List.mem_filter.mpr ⟨List.mem_of_getElem? (i := 375) (by decide +kernel), rfl⟩
theorem m_m_NC_118 : Cond.methodLink R_NC 118 y_Phrase_isDescription ∈ lw_G := List.mem_filter.mpr ⟨List.mem_of_getElem? (i := 376) (by decide +kernel), rfl⟩
theorem m_i_Phrase_isDescription : Cond.instanceMethod y_Phrase_isDescription ∈ lw_G := List.mem_filter.mpr ⟨List.mem_of_getElem? (i := 377) (by decide +kernel), rfl⟩
theorem m_s_Phrase_isDescription : Cond.selects R_Phrase y_Phrase_isDescription y_Phrase_isDescription ∈ lw_G := List.mem_filter.mpr ⟨List.mem_of_getElem? (i := 378) (by decide +kernel), rfl⟩
theorem m_code_Phrase_isDescription : Cond.code y_Phrase_isDescription b_Phrase_isDescription 1 (some .boolean) ∈ lw_G := List.mem_filter.mpr ⟨List.mem_of_getElem? (i := 379) (by decide +kernel), rfl⟩
theorem m_m_NC_122 : Cond.methodLink R_NC 122 y_NC_fittingSet ∈ lw_G := List.mem_filter.mpr ⟨List.mem_of_getElem? (i := 380) (by decide +kernel), rfl⟩
theorem m_i_NC_fittingSet : Cond.instanceMethod y_NC_fittingSet ∈ lw_G := List.mem_filter.mpr ⟨List.mem_of_getElem? (i := 382) (by decide +kernel), rfl⟩
theorem m_code_NC_fittingSet : Cond.code y_NC_fittingSet b_NC_fittingSet 8 (some .int) ∈ lw_G := List.mem_filter.mpr ⟨List.mem_of_getElem? (i := 383) (by decide +kernel), rfl⟩
theorem m_m_NC_226 : Cond.methodLink R_NC 226 y_Phrase_leadingOf ∈ lw_G := List.mem_filter.mpr ⟨List.mem_of_getElem? (i := 384) (by decide +kernel), rfl⟩
theorem m_i_Phrase_leadingOf : Cond.instanceMethod y_Phrase_leadingOf ∈ lw_G := List.mem_filter.mpr ⟨List.mem_of_getElem? (i := 385) (by decide +kernel), rfl⟩
theorem m_s_Phrase_leadingOf : Cond.selects R_Phrase y_Phrase_leadingOf y_Phrase_leadingOf ∈ lw_G := List.mem_filter.mpr ⟨List.mem_of_getElem? (i := 386) (by decide +kernel), rfl⟩
theorem m_code_Phrase_leadingOf : Cond.code y_Phrase_leadingOf b_Phrase_leadingOf 2 (some .int) ∈ lw_G := List.mem_filter.mpr ⟨List.mem_of_getElem? (i := 387) (by decide +kernel), rfl⟩
theorem m_m_NC_229 : Cond.methodLink R_NC 229 y_Phrase_lastOf ∈ lw_G := List.mem_filter.mpr ⟨List.mem_of_getElem? (i := 388) (by decide +kernel), rfl⟩
theorem m_i_Phrase_lastOf : Cond.instanceMethod y_Phrase_lastOf ∈ lw_G := List.mem_filter.mpr ⟨List.mem_of_getElem? (i := 389) (by decide +kernel), rfl⟩
theorem m_s_Phrase_lastOf : Cond.selects R_Phrase y_Phrase_lastOf y_Phrase_lastOf ∈ lw_G := List.mem_filter.mpr ⟨List.mem_of_getElem? (i := 390) (by decide +kernel), rfl⟩
theorem m_code_Phrase_lastOf : Cond.code y_Phrase_lastOf b_Phrase_lastOf 2 (some .int) ∈ lw_G := List.mem_filter.mpr ⟨List.mem_of_getElem? (i := 391) (by decide +kernel), rfl⟩
theorem m_m_NC_232 : Cond.methodLink R_NC 232 y_Things_fitByWords ∈ lw_G := List.mem_filter.mpr ⟨List.mem_of_getElem? (i := 392) (by decide +kernel), rfl⟩
theorem m_i_Things_fitByWords : Cond.instanceMethod y_Things_fitByWords ∈ lw_G := List.mem_filter.mpr ⟨List.mem_of_getElem? (i := 393) (by decide +kernel), rfl⟩
theorem m_s_Things_fitByWords : Cond.selects R_Things y_Things_fitByWords y_Things_fitByWords ∈ lw_G := List.mem_filter.mpr ⟨List.mem_of_getElem? (i := 394) (by decide +kernel), rfl⟩
theorem m_code_Things_fitByWords : Cond.code y_Things_fitByWords b_Things_fitByWords 7 (some .int) ∈ lw_G := List.mem_filter.mpr ⟨List.mem_of_getElem? (i := 395) (by decide +kernel), rfl⟩
theorem m_m_NC_222 : Cond.methodLink R_NC 222 y_Phrase_tells ∈ lw_G := List.mem_filter.mpr ⟨List.mem_of_getElem? (i := 396) (by decide +kernel), rfl⟩
theorem m_m_NC_171 : Cond.methodLink R_NC 171 y_Things_placedSet ∈ lw_G := List.mem_filter.mpr ⟨List.mem_of_getElem? (i := 397) (by decide +kernel), rfl⟩
theorem m_i_Things_placedSet : Cond.instanceMethod y_Things_placedSet ∈ lw_G := List.mem_filter.mpr ⟨List.mem_of_getElem? (i := 398) (by decide +kernel), rfl⟩
theorem m_s_Things_placedSet : Cond.selects R_Things y_Things_placedSet y_Things_placedSet ∈ lw_G := List.mem_filter.mpr ⟨List.mem_of_getElem? (i := 399) (by decide +kernel), rfl⟩
theorem m_code_Things_placedSet : Cond.code y_Things_placedSet b_Things_placedSet 4 (some .int) ∈ lw_G := List.mem_filter.mpr ⟨List.mem_of_getElem? (i := 400) (by decide +kernel), rfl⟩
theorem m_m_NC_126 : Cond.methodLink R_NC 126 y_NC_holds ∈ lw_G := List.mem_filter.mpr ⟨List.mem_of_getElem? (i := 401) (by decide +kernel), rfl⟩
theorem m_t_NC_holds : Cond.static y_NC_holds ∈ lw_G := List.mem_filter.mpr ⟨List.mem_of_getElem? (i := 402) (by decide +kernel), rfl⟩
theorem m_code_NC_holds : Cond.code y_NC_holds b_NC_holds 2 (some .boolean) ∈ lw_G := List.mem_filter.mpr ⟨List.mem_of_getElem? (i := 403) (by decide +kernel), rfl⟩
theorem m_m_NC_129 : Cond.methodLink R_NC 129 y_NC_refuseRow ∈ lw_G := List.mem_filter.mpr ⟨List.mem_of_getElem? (i := 408) (by decide +kernel), rfl⟩
theorem m_i_NC_refuseRow : Cond.instanceMethod y_NC_refuseRow ∈ lw_G := List.mem_filter.mpr ⟨List.mem_of_getElem? (i := 410) (by decide +kernel), rfl⟩
theorem m_code_NC_refuseRow : Cond.code y_NC_refuseRow b_NC_refuseRow 2 (some .int) ∈ lw_G := List.mem_filter.mpr ⟨List.mem_of_getElem? (i := 411) (by decide +kernel), rfl⟩
theorem m_m_NC_141 : Cond.methodLink R_NC 141 y_NC_tell ∈ lw_G := List.mem_filter.mpr ⟨List.mem_of_getElem? (i := 412) (by decide +kernel), rfl⟩
theorem m_i_NC_tell : Cond.instanceMethod y_NC_tell ∈ lw_G := List.mem_filter.mpr ⟨List.mem_of_getElem? (i := 414) (by decide +kernel), rfl⟩
theorem m_code_NC_tell : Cond.code y_NC_tell b_NC_tell 4 none ∈ lw_G := List.mem_filter.mpr ⟨List.mem_of_getElem? (i := 415) (by decide +kernel), rfl⟩
theorem m_m_NC_132 : Cond.methodLink R_NC 132 y_NC_goThrough ∈ lw_G := List.mem_filter.mpr ⟨List.mem_of_getElem? (i := 416) (by decide +kernel), rfl⟩
theorem m_i_NC_goThrough : Cond.instanceMethod y_NC_goThrough ∈ lw_G := List.mem_filter.mpr ⟨List.mem_of_getElem? (i := 418) (by decide +kernel), rfl⟩
theorem m_code_NC_goThrough : Cond.code y_NC_goThrough b_NC_goThrough 3 (some .int) ∈ lw_G := List.mem_filter.mpr ⟨List.mem_of_getElem? (i := 419) (by decide +kernel), rfl⟩
theorem m_m_NC_180 : Cond.methodLink R_NC 180 y_Picks_clear ∈ lw_G := List.mem_filter.mpr ⟨List.mem_of_getElem? (i := 420) (by decide +kernel), rfl⟩
theorem m_i_Picks_clear : Cond.instanceMethod y_Picks_clear ∈ lw_G := List.mem_filter.mpr ⟨List.mem_of_getElem? (i := 421) (by decide +kernel), rfl⟩
theorem m_s_Picks_clear : Cond.selects R_Picks y_Picks_clear y_Picks_clear ∈ lw_G := List.mem_filter.mpr ⟨List.mem_of_getElem? (i := 422) (by decide +kernel), rfl⟩
theorem m_code_Picks_clear : Cond.code y_Picks_clear b_Picks_clear 1 none ∈ lw_G := List.mem_filter.mpr ⟨List.mem_of_getElem? (i := 423) (by decide +kernel), rfl⟩
theorem m_m_NC_183 : Cond.methodLink R_NC 183 y_NC_goThroughPart ∈ lw_G := List.mem_filter.mpr ⟨List.mem_of_getElem? (i := 424) (by decide +kernel), rfl⟩
theorem m_i_NC_goThroughPart : Cond.instanceMethod y_NC_goThroughPart ∈ lw_G := List.mem_filter.mpr ⟨List.mem_of_getElem? (i := 426) (by decide +kernel), rfl⟩
theorem m_code_NC_goThroughPart : Cond.code y_NC_goThroughPart b_NC_goThroughPart 5 (some .int) ∈ lw_G := List.mem_filter.mpr ⟨List.mem_of_getElem? (i := 427) (by decide +kernel), rfl⟩
theorem m_m_NC_189 : Cond.methodLink R_NC 189 y_Phrase_mainOf ∈ lw_G := List.mem_filter.mpr ⟨List.mem_of_getElem? (i := 428) (by decide +kernel), rfl⟩
theorem m_i_Phrase_mainOf : Cond.instanceMethod y_Phrase_mainOf ∈ lw_G := List.mem_filter.mpr ⟨List.mem_of_getElem? (i := 429) (by decide +kernel), rfl⟩
theorem m_s_Phrase_mainOf : Cond.selects R_Phrase y_Phrase_mainOf y_Phrase_mainOf ∈ lw_G := List.mem_filter.mpr ⟨List.mem_of_getElem? (i := 430) (by decide +kernel), rfl⟩
theorem m_code_Phrase_mainOf : Cond.code y_Phrase_mainOf b_Phrase_mainOf 2 (some .int) ∈ lw_G := List.mem_filter.mpr ⟨List.mem_of_getElem? (i := 431) (by decide +kernel), rfl⟩
theorem m_m_NC_192 : Cond.methodLink R_NC 192 y_Things_allSet ∈ lw_G := List.mem_filter.mpr ⟨List.mem_of_getElem? (i := 432) (by decide +kernel), rfl⟩
theorem m_i_Things_allSet : Cond.instanceMethod y_Things_allSet ∈ lw_G := List.mem_filter.mpr ⟨List.mem_of_getElem? (i := 433) (by decide +kernel), rfl⟩
theorem m_s_Things_allSet : Cond.selects R_Things y_Things_allSet y_Things_allSet ∈ lw_G := List.mem_filter.mpr ⟨List.mem_of_getElem? (i := 434) (by decide +kernel), rfl⟩
theorem m_code_Things_allSet : Cond.code y_Things_allSet b_Things_allSet 3 (some .int) ∈ lw_G := List.mem_filter.mpr ⟨List.mem_of_getElem? (i := 435) (by decide +kernel), rfl⟩
theorem m_m_NC_168 : Cond.methodLink R_NC 168 y_Things_thereSet ∈ lw_G := List.mem_filter.mpr ⟨List.mem_of_getElem? (i := 436) (by decide +kernel), rfl⟩
theorem m_i_Things_thereSet : Cond.instanceMethod y_Things_thereSet ∈ lw_G := List.mem_filter.mpr ⟨List.mem_of_getElem? (i := 437) (by decide +kernel), rfl⟩
theorem m_s_Things_thereSet : Cond.selects R_Things y_Things_thereSet y_Things_thereSet ∈ lw_G := List.mem_filter.mpr ⟨List.mem_of_getElem? (i := 438) (by decide +kernel), rfl⟩
theorem m_code_Things_thereSet : Cond.code y_Things_thereSet b_Things_thereSet 1 (some .int) ∈ lw_G := List.mem_filter.mpr ⟨List.mem_of_getElem? (i := 439) (by decide +kernel), rfl⟩
theorem m_m_Things_56 : Cond.methodLink R_Things 56 y_Things_placedSet ∈ lw_G := List.mem_filter.mpr ⟨List.mem_of_getElem? (i := 440) (by decide +kernel), rfl⟩
theorem m_m_NC_195 : Cond.methodLink R_NC 195 y_NC_takeExceptsAway ∈ lw_G := List.mem_filter.mpr ⟨List.mem_of_getElem? (i := 441) (by decide +kernel), rfl⟩
theorem m_i_NC_takeExceptsAway : Cond.instanceMethod y_NC_takeExceptsAway ∈ lw_G := List.mem_filter.mpr ⟨List.mem_of_getElem? (i := 443) (by decide +kernel), rfl⟩
theorem m_code_NC_takeExceptsAway : Cond.code y_NC_takeExceptsAway b_NC_takeExceptsAway 5 (some .boolean) ∈ lw_G := List.mem_filter.mpr ⟨List.mem_of_getElem? (i := 444) (by decide +kernel), rfl⟩
theorem m_m_NC_210 : Cond.methodLink R_NC 210 y_Phrase_exceptsEnd ∈ lw_G := List.mem_filter.mpr ⟨List.mem_of_getElem? (i := 445) (by decide +kernel), rfl⟩
theorem m_i_Phrase_exceptsEnd : Cond.instanceMethod y_Phrase_exceptsEnd ∈ lw_G := List.mem_filter.mpr ⟨List.mem_of_getElem? (i := 446) (by decide +kernel), rfl⟩
theorem m_s_Phrase_exceptsEnd : Cond.selects R_Phrase y_Phrase_exceptsEnd y_Phrase_exceptsEnd ∈ lw_G := List.mem_filter.mpr ⟨List.mem_of_getElem? (i := 447) (by decide +kernel), rfl⟩
theorem m_code_Phrase_exceptsEnd : Cond.code y_Phrase_exceptsEnd b_Phrase_exceptsEnd 2 (some .int) ∈ lw_G := List.mem_filter.mpr ⟨List.mem_of_getElem? (i := 448) (by decide +kernel), rfl⟩
theorem m_m_NC_213 : Cond.methodLink R_NC 213 y_Phrase_exceptsStart ∈ lw_G := List.mem_filter.mpr ⟨List.mem_of_getElem? (i := 449) (by decide +kernel), rfl⟩
theorem m_i_Phrase_exceptsStart : Cond.instanceMethod y_Phrase_exceptsStart ∈ lw_G := List.mem_filter.mpr ⟨List.mem_of_getElem? (i := 450) (by decide +kernel), rfl⟩
theorem m_s_Phrase_exceptsStart : Cond.selects R_Phrase y_Phrase_exceptsStart y_Phrase_exceptsStart ∈ lw_G := List.mem_filter.mpr ⟨List.mem_of_getElem? (i := 451) (by decide +kernel), rfl⟩
theorem m_code_Phrase_exceptsStart : Cond.code y_Phrase_exceptsStart b_Phrase_exceptsStart 2 (some .int) ∈ lw_G := List.mem_filter.mpr ⟨List.mem_of_getElem? (i := 452) (by decide +kernel), rfl⟩
theorem m_m_NC_198 : Cond.methodLink R_NC 198 y_Phrase_amountOf ∈ lw_G := List.mem_filter.mpr ⟨List.mem_of_getElem? (i := 453) (by decide +kernel), rfl⟩
theorem m_m_NC_201 : Cond.methodLink R_NC 201 y_NC_giveNumber ∈ lw_G := List.mem_filter.mpr ⟨List.mem_of_getElem? (i := 454) (by decide +kernel), rfl⟩
theorem m_i_NC_giveNumber : Cond.instanceMethod y_NC_giveNumber ∈ lw_G := List.mem_filter.mpr ⟨List.mem_of_getElem? (i := 456) (by decide +kernel), rfl⟩
theorem m_code_NC_giveNumber : Cond.code y_NC_giveNumber b_NC_giveNumber 4 (some .int) ∈ lw_G := List.mem_filter.mpr ⟨List.mem_of_getElem? (i := 457) (by decide +kernel), rfl⟩
theorem m_m_NC_154 : Cond.methodLink R_NC 154 y_Integer_bitCount ∈ lw_G := List.mem_filter.mpr ⟨List.mem_of_getElem? (i := 458) (by decide +kernel), rfl⟩
theorem m_t_Integer_bitCount : Cond.static y_Integer_bitCount ∈ lw_G := List.mem_filter.mpr ⟨List.mem_of_getElem? (i := 459) (by decide +kernel), rfl⟩
theorem m_code_Integer_bitCount : Cond.code y_Integer_bitCount b_Integer_bitCount 1 (some .int) ∈ lw_G := List.mem_filter.mpr ⟨List.mem_of_getElem? (i := 460) (by decide +kernel), rfl⟩
theorem m_c_Integer_265 : Cond.constant R_Integer 265 1431655765 ∈ lw_G := List.mem_filter.mpr ⟨List.mem_of_getElem? (i := 461) (by decide +kernel), rfl⟩
theorem m_c_Integer_266 : Cond.constant R_Integer 266 858993459 ∈ lw_G := List.mem_filter.mpr ⟨List.mem_of_getElem? (i := 462) (by decide +kernel), rfl⟩
theorem m_c_Integer_267 : Cond.constant R_Integer 267 252645135 ∈ lw_G := List.mem_filter.mpr ⟨List.mem_of_getElem? (i := 463) (by decide +kernel), rfl⟩
theorem m_m_NC_216 : Cond.methodLink R_NC 216 y_NC_bestOf ∈ lw_G := List.mem_filter.mpr ⟨List.mem_of_getElem? (i := 464) (by decide +kernel), rfl⟩
theorem m_i_NC_bestOf : Cond.instanceMethod y_NC_bestOf ∈ lw_G := List.mem_filter.mpr ⟨List.mem_of_getElem? (i := 466) (by decide +kernel), rfl⟩
theorem m_code_NC_bestOf : Cond.code y_NC_bestOf b_NC_bestOf 6 (some .int) ∈ lw_G := List.mem_filter.mpr ⟨List.mem_of_getElem? (i := 467) (by decide +kernel), rfl⟩
theorem m_c_NC_225 : Cond.constant R_NC 225 (-2147483648) ∈ lw_G := List.mem_filter.mpr ⟨List.mem_of_getElem? (i := 468) (by decide +kernel), rfl⟩
theorem m_m_NC_219 : Cond.methodLink R_NC 219 y_NC_leastOf ∈ lw_G := List.mem_filter.mpr ⟨List.mem_of_getElem? (i := 469) (by decide +kernel), rfl⟩
theorem m_t_NC_leastOf : Cond.static y_NC_leastOf ∈ lw_G := List.mem_filter.mpr ⟨List.mem_of_getElem? (i := 470) (by decide +kernel), rfl⟩
theorem m_code_NC_leastOf : Cond.code y_NC_leastOf b_NC_leastOf 1 (some .int) ∈ lw_G := List.mem_filter.mpr ⟨List.mem_of_getElem? (i := 471) (by decide +kernel), rfl⟩
theorem m_m_NC_204 : Cond.methodLink R_NC 204 y_Picks_add ∈ lw_G := List.mem_filter.mpr ⟨List.mem_of_getElem? (i := 472) (by decide +kernel), rfl⟩
theorem m_i_Picks_add : Cond.instanceMethod y_Picks_add ∈ lw_G := List.mem_filter.mpr ⟨List.mem_of_getElem? (i := 473) (by decide +kernel), rfl⟩
theorem m_s_Picks_add : Cond.selects R_Picks y_Picks_add y_Picks_add ∈ lw_G := List.mem_filter.mpr ⟨List.mem_of_getElem? (i := 474) (by decide +kernel), rfl⟩
theorem m_code_Picks_add : Cond.code y_Picks_add b_Picks_add 3 none ∈ lw_G := List.mem_filter.mpr ⟨List.mem_of_getElem? (i := 475) (by decide +kernel), rfl⟩
theorem m_m_NC_207 : Cond.methodLink R_NC 207 y_NC_giveMeant ∈ lw_G := List.mem_filter.mpr ⟨List.mem_of_getElem? (i := 477) (by decide +kernel), rfl⟩
theorem m_i_NC_giveMeant : Cond.instanceMethod y_NC_giveMeant ∈ lw_G := List.mem_filter.mpr ⟨List.mem_of_getElem? (i := 479) (by decide +kernel), rfl⟩
theorem m_code_NC_giveMeant : Cond.code y_NC_giveMeant b_NC_giveMeant 6 (some .int) ∈ lw_G := List.mem_filter.mpr ⟨List.mem_of_getElem? (i := 480) (by decide +kernel), rfl⟩
theorem m_m_NC_151 : Cond.methodLink R_NC 151 y_NC_leadersOf ∈ lw_G := List.mem_filter.mpr ⟨List.mem_of_getElem? (i := 481) (by decide +kernel), rfl⟩
theorem m_i_NC_leadersOf : Cond.instanceMethod y_NC_leadersOf ∈ lw_G := List.mem_filter.mpr ⟨List.mem_of_getElem? (i := 483) (by decide +kernel), rfl⟩
theorem m_code_NC_leadersOf : Cond.code y_NC_leadersOf b_NC_leadersOf 6 (some .int) ∈ lw_G := List.mem_filter.mpr ⟨List.mem_of_getElem? (i := 484) (by decide +kernel), rfl⟩
theorem m_m_NC_186 : Cond.methodLink R_NC 186 y_NC_endAt ∈ lw_G := List.mem_filter.mpr ⟨List.mem_of_getElem? (i := 485) (by decide +kernel), rfl⟩
theorem m_i_NC_endAt : Cond.instanceMethod y_NC_endAt ∈ lw_G := List.mem_filter.mpr ⟨List.mem_of_getElem? (i := 487) (by decide +kernel), rfl⟩
theorem m_code_NC_endAt : Cond.code y_NC_endAt b_NC_endAt 4 (some .int) ∈ lw_G := List.mem_filter.mpr ⟨List.mem_of_getElem? (i := 488) (by decide +kernel), rfl⟩
theorem m_m_NC_135 : Cond.methodLink R_NC 135 y_NC_replyFault ∈ lw_G := List.mem_filter.mpr ⟨List.mem_of_getElem? (i := 493) (by decide +kernel), rfl⟩
theorem m_i_NC_replyFault : Cond.instanceMethod y_NC_replyFault ∈ lw_G := List.mem_filter.mpr ⟨List.mem_of_getElem? (i := 495) (by decide +kernel), rfl⟩
theorem m_code_NC_replyFault : Cond.code y_NC_replyFault b_NC_replyFault 2 (some .int) ∈ lw_G := List.mem_filter.mpr ⟨List.mem_of_getElem? (i := 496) (by decide +kernel), rfl⟩
theorem m_m_NC_238 : Cond.methodLink R_NC 238 y_NC_isWord ∈ lw_G := List.mem_filter.mpr ⟨List.mem_of_getElem? (i := 497) (by decide +kernel), rfl⟩
theorem m_m_NC_138 : Cond.methodLink R_NC 138 y_NC_leftByRow ∈ lw_G := List.mem_filter.mpr ⟨List.mem_of_getElem? (i := 498) (by decide +kernel), rfl⟩
theorem m_i_NC_leftByRow : Cond.instanceMethod y_NC_leftByRow ∈ lw_G := List.mem_filter.mpr ⟨List.mem_of_getElem? (i := 500) (by decide +kernel), rfl⟩
theorem m_code_NC_leftByRow : Cond.code y_NC_leftByRow b_NC_leftByRow 4 (some .int) ∈ lw_G := List.mem_filter.mpr ⟨List.mem_of_getElem? (i := 501) (by decide +kernel), rfl⟩
theorem m_m_NC_159 : Cond.methodLink R_NC 159 y_NC_groupAt ∈ lw_G := List.mem_filter.mpr ⟨List.mem_of_getElem? (i := 502) (by decide +kernel), rfl⟩
theorem m_i_NC_groupAt : Cond.instanceMethod y_NC_groupAt ∈ lw_G := List.mem_filter.mpr ⟨List.mem_of_getElem? (i := 504) (by decide +kernel), rfl⟩
theorem m_code_NC_groupAt : Cond.code y_NC_groupAt b_NC_groupAt 5 (some .int) ∈ lw_G := List.mem_filter.mpr ⟨List.mem_of_getElem? (i := 505) (by decide +kernel), rfl⟩
theorem m_m_NC_162 : Cond.methodLink R_NC 162 y_NC_memberAt ∈ lw_G := List.mem_filter.mpr ⟨List.mem_of_getElem? (i := 506) (by decide +kernel), rfl⟩
theorem m_t_NC_memberAt : Cond.static y_NC_memberAt ∈ lw_G := List.mem_filter.mpr ⟨List.mem_of_getElem? (i := 507) (by decide +kernel), rfl⟩
theorem m_code_NC_memberAt : Cond.code y_NC_memberAt b_NC_memberAt 4 (some .int) ∈ lw_G := List.mem_filter.mpr ⟨List.mem_of_getElem? (i := 508) (by decide +kernel), rfl⟩
theorem m_m_NC_241 : Cond.methodLink R_NC 241 y_Things_hasWords ∈ lw_G := List.mem_filter.mpr ⟨List.mem_of_getElem? (i := 509) (by decide +kernel), rfl⟩
theorem m_i_Things_hasWords : Cond.instanceMethod y_Things_hasWords ∈ lw_G := List.mem_filter.mpr ⟨List.mem_of_getElem? (i := 510) (by decide +kernel), rfl⟩
theorem m_s_Things_hasWords : Cond.selects R_Things y_Things_hasWords y_Things_hasWords ∈ lw_G := List.mem_filter.mpr ⟨List.mem_of_getElem? (i := 511) (by decide +kernel), rfl⟩
theorem m_code_Things_hasWords : Cond.code y_Things_hasWords b_Things_hasWords 3 (some .boolean) ∈ lw_G := List.mem_filter.mpr ⟨List.mem_of_getElem? (i := 512) (by decide +kernel), rfl⟩
theorem m_m_NC_148 : Cond.methodLink R_NC 148 y_Picks_at ∈ lw_G := List.mem_filter.mpr ⟨List.mem_of_getElem? (i := 517) (by decide +kernel), rfl⟩
theorem m_i_Picks_at : Cond.instanceMethod y_Picks_at ∈ lw_G := List.mem_filter.mpr ⟨List.mem_of_getElem? (i := 518) (by decide +kernel), rfl⟩
theorem m_s_Picks_at : Cond.selects R_Picks y_Picks_at y_Picks_at ∈ lw_G := List.mem_filter.mpr ⟨List.mem_of_getElem? (i := 519) (by decide +kernel), rfl⟩
theorem m_code_Picks_at : Cond.code y_Picks_at b_Picks_at 2 (some .int) ∈ lw_G := List.mem_filter.mpr ⟨List.mem_of_getElem? (i := 520) (by decide +kernel), rfl⟩
def nestW : List Cond := [Cond.fieldLinkNest R_NC 165 "NounChoice$Things" "number" "I" "NounChoice", Cond.methodLinkNest R_NC 29 y_Phrase_init "NounChoice", Cond.fieldLinkNest R_NC 174 "NounChoice$Phrase" "parts" "I" "NounChoice", Cond.methodLinkNest R_NC 42 y_Picks_init "NounChoice", Cond.fieldLinkNest R_NC 145 "NounChoice$Picks" "size" "I" "NounChoice", Cond.fieldLinkNest R_NC 235 "NounChoice$Picks" "set" "I" "NounChoice", Cond.methodLinkNest R_Things 47 y_NC_isWord "NounChoice", Cond.methodLinkNest R_Phrase 86 y_NC_isNumber "NounChoice", Cond.methodLinkNest R_Phrase 89 y_NC_isWord "NounChoice", Cond.methodLinkNest R_Phrase 95 y_NC_isArticle "NounChoice", Cond.methodLinkNest R_Picks 22 y_NC_holds "NounChoice"]
theorem m_f_NC_165 : Cond.fieldLinkNest R_NC 165 "NounChoice$Things" "number" "I" "NounChoice" ∈ nestW := List.mem_of_getElem? (i := 0) rfl
theorem m_n_NC_29 : Cond.methodLinkNest R_NC 29 y_Phrase_init "NounChoice" ∈ nestW := List.mem_of_getElem? (i := 1) rfl
theorem m_f_NC_174 : Cond.fieldLinkNest R_NC 174 "NounChoice$Phrase" "parts" "I" "NounChoice" ∈ nestW := List.mem_of_getElem? (i := 2) rfl
theorem m_n_NC_42 : Cond.methodLinkNest R_NC 42 y_Picks_init "NounChoice" ∈ nestW := List.mem_of_getElem? (i := 3) rfl
theorem m_f_NC_145 : Cond.fieldLinkNest R_NC 145 "NounChoice$Picks" "size" "I" "NounChoice" ∈ nestW := List.mem_of_getElem? (i := 4) rfl
theorem m_f_NC_235 : Cond.fieldLinkNest R_NC 235 "NounChoice$Picks" "set" "I" "NounChoice" ∈ nestW := List.mem_of_getElem? (i := 5) rfl
theorem m_n_Things_47 : Cond.methodLinkNest R_Things 47 y_NC_isWord "NounChoice" ∈ nestW := List.mem_of_getElem? (i := 6) rfl
theorem m_n_Phrase_86 : Cond.methodLinkNest R_Phrase 86 y_NC_isNumber "NounChoice" ∈ nestW := List.mem_of_getElem? (i := 7) rfl
theorem m_n_Phrase_89 : Cond.methodLinkNest R_Phrase 89 y_NC_isWord "NounChoice" ∈ nestW := List.mem_of_getElem? (i := 8) rfl
theorem m_n_Phrase_95 : Cond.methodLinkNest R_Phrase 95 y_NC_isArticle "NounChoice" ∈ nestW := List.mem_of_getElem? (i := 9) rfl
theorem m_n_Picks_22 : Cond.methodLinkNest R_Picks 22 y_NC_holds "NounChoice" ∈ nestW := List.mem_of_getElem? (i := 10) rfl
theorem nestW_in : ∀ w ∈ nestW, w ∈ lw_tbl := by decide +kernel
end
section
theorem d_Integer_bitCount_0 : decode b_Integer_bitCount 0 = .ok (.iload_n 0, 1) := by decide +kernel
theorem d_Integer_bitCount_1 : decode b_Integer_bitCount 1 = .ok (.iload_n 0, 1) := by decide +kernel
theorem d_Integer_bitCount_2 : decode b_Integer_bitCount 2 = .ok (.iconst 1, 1) := by decide +kernel
theorem d_Integer_bitCount_3 : decode b_Integer_bitCount 3 = .ok (.iushr, 1) := by decide +kernel
theorem d_Integer_bitCount_4 : decode b_Integer_bitCount 4 = .ok (.ldc_w 265, 3) := by decide +kernel
theorem d_Integer_bitCount_7 : decode b_Integer_bitCount 7 = .ok (.iand, 1) := by decide +kernel
theorem d_Integer_bitCount_8 : decode b_Integer_bitCount 8 = .ok (.isub, 1) := by decide +kernel
theorem d_Integer_bitCount_9 : decode b_Integer_bitCount 9 = .ok (.istore_n 0, 1) := by decide +kernel
theorem d_Integer_bitCount_10 : decode b_Integer_bitCount 10 = .ok (.iload_n 0, 1) := by decide +kernel
theorem d_Integer_bitCount_11 : decode b_Integer_bitCount 11 = .ok (.ldc_w 266, 3) := by decide +kernel
theorem d_Integer_bitCount_14 : decode b_Integer_bitCount 14 = .ok (.iand, 1) := by decide +kernel
theorem d_Integer_bitCount_15 : decode b_Integer_bitCount 15 = .ok (.iload_n 0, 1) := by decide +kernel
theorem d_Integer_bitCount_16 : decode b_Integer_bitCount 16 = .ok (.iconst 2, 1) := by decide +kernel
theorem d_Integer_bitCount_17 : decode b_Integer_bitCount 17 = .ok (.iushr, 1) := by decide +kernel
theorem d_Integer_bitCount_18 : decode b_Integer_bitCount 18 = .ok (.ldc_w 266, 3) := by decide +kernel
theorem d_Integer_bitCount_21 : decode b_Integer_bitCount 21 = .ok (.iand, 1) := by decide +kernel
theorem d_Integer_bitCount_22 : decode b_Integer_bitCount 22 = .ok (.iadd, 1) := by decide +kernel
theorem d_Integer_bitCount_23 : decode b_Integer_bitCount 23 = .ok (.istore_n 0, 1) := by decide +kernel
theorem d_Integer_bitCount_24 : decode b_Integer_bitCount 24 = .ok (.iload_n 0, 1) := by decide +kernel
theorem d_Integer_bitCount_25 : decode b_Integer_bitCount 25 = .ok (.iload_n 0, 1) := by decide +kernel
theorem d_Integer_bitCount_26 : decode b_Integer_bitCount 26 = .ok (.iconst 4, 1) := by decide +kernel
theorem d_Integer_bitCount_27 : decode b_Integer_bitCount 27 = .ok (.iushr, 1) := by decide +kernel
theorem d_Integer_bitCount_28 : decode b_Integer_bitCount 28 = .ok (.iadd, 1) := by decide +kernel
theorem d_Integer_bitCount_29 : decode b_Integer_bitCount 29 = .ok (.ldc_w 267, 3) := by decide +kernel
theorem d_Integer_bitCount_32 : decode b_Integer_bitCount 32 = .ok (.iand, 1) := by decide +kernel
theorem d_Integer_bitCount_33 : decode b_Integer_bitCount 33 = .ok (.istore_n 0, 1) := by decide +kernel
theorem d_Integer_bitCount_34 : decode b_Integer_bitCount 34 = .ok (.iload_n 0, 1) := by decide +kernel
theorem d_Integer_bitCount_35 : decode b_Integer_bitCount 35 = .ok (.iload_n 0, 1) := by decide +kernel
theorem d_Integer_bitCount_36 : decode b_Integer_bitCount 36 = .ok (.bipush 8, 2) := by decide +kernel
theorem d_Integer_bitCount_38 : decode b_Integer_bitCount 38 = .ok (.iushr, 1) := by decide +kernel
theorem d_Integer_bitCount_39 : decode b_Integer_bitCount 39 = .ok (.iadd, 1) := by decide +kernel
theorem d_Integer_bitCount_40 : decode b_Integer_bitCount 40 = .ok (.istore_n 0, 1) := by decide +kernel
theorem d_Integer_bitCount_41 : decode b_Integer_bitCount 41 = .ok (.iload_n 0, 1) := by decide +kernel
theorem d_Integer_bitCount_42 : decode b_Integer_bitCount 42 = .ok (.iload_n 0, 1) := by decide +kernel
theorem d_Integer_bitCount_43 : decode b_Integer_bitCount 43 = .ok (.bipush 16, 2) := by decide +kernel
theorem d_Integer_bitCount_45 : decode b_Integer_bitCount 45 = .ok (.iushr, 1) := by decide +kernel
theorem d_Integer_bitCount_46 : decode b_Integer_bitCount 46 = .ok (.iadd, 1) := by decide +kernel
theorem d_Integer_bitCount_47 : decode b_Integer_bitCount 47 = .ok (.istore_n 0, 1) := by decide +kernel
theorem d_Integer_bitCount_48 : decode b_Integer_bitCount 48 = .ok (.iload_n 0, 1) := by decide +kernel
theorem d_Integer_bitCount_49 : decode b_Integer_bitCount 49 = .ok (.bipush 63, 2) := by decide +kernel
theorem d_Integer_bitCount_51 : decode b_Integer_bitCount 51 = .ok (.iand, 1) := by decide +kernel
theorem d_Integer_bitCount_52 : decode b_Integer_bitCount 52 = .ok (.ireturn, 1) := by decide +kernel
theorem d_Arrays_fill_0 : decode b_Arrays_fill 0 = .ok (.iconst 0, 1) := by decide +kernel
theorem d_Arrays_fill_1 : decode b_Arrays_fill 1 = .ok (.istore_n 2, 1) := by decide +kernel
theorem d_Arrays_fill_2 : decode b_Arrays_fill 2 = .ok (.aload_n 0, 1) := by decide +kernel
theorem d_Arrays_fill_3 : decode b_Arrays_fill 3 = .ok (.arraylength, 1) := by decide +kernel
theorem d_Arrays_fill_4 : decode b_Arrays_fill 4 = .ok (.istore_n 3, 1) := by decide +kernel
theorem d_Arrays_fill_5 : decode b_Arrays_fill 5 = .ok (.iload_n 2, 1) := by decide +kernel
theorem d_Arrays_fill_6 : decode b_Arrays_fill 6 = .ok (.iload_n 3, 1) := by decide +kernel
theorem d_Arrays_fill_7 : decode b_Arrays_fill 7 = .ok (.if_icmp .ge 13, 3) := by decide +kernel
theorem d_Arrays_fill_10 : decode b_Arrays_fill 10 = .ok (.aload_n 0, 1) := by decide +kernel
theorem d_Arrays_fill_11 : decode b_Arrays_fill 11 = .ok (.iload_n 2, 1) := by decide +kernel
theorem d_Arrays_fill_12 : decode b_Arrays_fill 12 = .ok (.iload_n 1, 1) := by decide +kernel
theorem d_Arrays_fill_13 : decode b_Arrays_fill 13 = .ok (.iastore, 1) := by decide +kernel
theorem d_Arrays_fill_14 : decode b_Arrays_fill 14 = .ok (.iinc 2 1, 3) := by decide +kernel
theorem d_Arrays_fill_17 : decode b_Arrays_fill 17 = .ok (.goto (-12), 3) := by decide +kernel
theorem d_Arrays_fill_20 : decode b_Arrays_fill 20 = .ok (.return_, 1) := by decide +kernel
theorem d_Things_isRule_0 : decode b_Things_isRule 0 = .ok (.iload_n 0, 1) := by decide +kernel
theorem d_Things_isRule_1 : decode b_Things_isRule 1 = .ok (.ifCond .lt 12, 3) := by decide +kernel
theorem d_Things_isRule_4 : decode b_Things_isRule 4 = .ok (.iload_n 0, 1) := by decide +kernel
theorem d_Things_isRule_5 : decode b_Things_isRule 5 = .ok (.iconst 4, 1) := by decide +kernel
theorem d_Things_isRule_6 : decode b_Things_isRule 6 = .ok (.if_icmp .ge 7, 3) := by decide +kernel
theorem d_Things_isRule_9 : decode b_Things_isRule 9 = .ok (.iconst 1, 1) := by decide +kernel
theorem d_Things_isRule_10 : decode b_Things_isRule 10 = .ok (.goto 4, 3) := by decide +kernel
theorem d_Things_isRule_13 : decode b_Things_isRule 13 = .ok (.iconst 0, 1) := by decide +kernel
theorem d_Things_isRule_14 : decode b_Things_isRule 14 = .ok (.ireturn, 1) := by decide +kernel
theorem d_Things_isKind_0 : decode b_Things_isKind 0 = .ok (.iload_n 0, 1) := by decide +kernel
theorem d_Things_isKind_1 : decode b_Things_isKind 1 = .ok (.ifCond .lt 13, 3) := by decide +kernel
theorem d_Things_isKind_4 : decode b_Things_isKind 4 = .ok (.iload_n 0, 1) := by decide +kernel
theorem d_Things_isKind_5 : decode b_Things_isKind 5 = .ok (.bipush 16, 2) := by decide +kernel
theorem d_Things_isKind_7 : decode b_Things_isKind 7 = .ok (.if_icmp .ge 7, 3) := by decide +kernel
theorem d_Things_isKind_10 : decode b_Things_isKind 10 = .ok (.iconst 1, 1) := by decide +kernel
theorem d_Things_isKind_11 : decode b_Things_isKind 11 = .ok (.goto 4, 3) := by decide +kernel
theorem d_Things_isKind_14 : decode b_Things_isKind 14 = .ok (.iconst 0, 1) := by decide +kernel
theorem d_Things_isKind_15 : decode b_Things_isKind 15 = .ok (.ireturn, 1) := by decide +kernel
theorem d_Things_has_0 : decode b_Things_has 0 = .ok (.iload_n 1, 1) := by decide +kernel
theorem d_Things_has_1 : decode b_Things_has 1 = .ok (.ifCond .lt 21, 3) := by decide +kernel
theorem d_Things_has_4 : decode b_Things_has 4 = .ok (.iload_n 1, 1) := by decide +kernel
theorem d_Things_has_5 : decode b_Things_has 5 = .ok (.aload_n 0, 1) := by decide +kernel
theorem d_Things_has_6 : decode b_Things_has 6 = .ok (.getfield 33, 3) := by decide +kernel
theorem d_Things_has_9 : decode b_Things_has 9 = .ok (.if_icmp .ge 13, 3) := by decide +kernel
theorem d_Things_has_12 : decode b_Things_has 12 = .ok (.iload_n 1, 1) := by decide +kernel
theorem d_Things_has_13 : decode b_Things_has 13 = .ok (.bipush 32, 2) := by decide +kernel
theorem d_Things_has_15 : decode b_Things_has 15 = .ok (.if_icmp .ge 7, 3) := by decide +kernel
theorem d_Things_has_18 : decode b_Things_has 18 = .ok (.iconst 1, 1) := by decide +kernel
theorem d_Things_has_19 : decode b_Things_has 19 = .ok (.goto 4, 3) := by decide +kernel
theorem d_Things_has_22 : decode b_Things_has 22 = .ok (.iconst 0, 1) := by decide +kernel
theorem d_Things_has_23 : decode b_Things_has 23 = .ok (.ireturn, 1) := by decide +kernel
theorem d_Things_add_0 : decode b_Things_add 0 = .ok (.aload_n 0, 1) := by decide +kernel
theorem d_Things_add_1 : decode b_Things_add 1 = .ok (.getfield 33, 3) := by decide +kernel
theorem d_Things_add_4 : decode b_Things_add 4 = .ok (.bipush 32, 2) := by decide +kernel
theorem d_Things_add_6 : decode b_Things_add 6 = .ok (.if_icmp .lt 6, 3) := by decide +kernel
theorem d_Things_add_9 : decode b_Things_add 9 = .ok (.bipush (-3), 2) := by decide +kernel
theorem d_Things_add_11 : decode b_Things_add 11 = .ok (.ireturn, 1) := by decide +kernel
theorem d_Things_add_12 : decode b_Things_add 12 = .ok (.aload_n 0, 1) := by decide +kernel
theorem d_Things_add_13 : decode b_Things_add 13 = .ok (.dup, 1) := by decide +kernel
theorem d_Things_add_14 : decode b_Things_add 14 = .ok (.getfield 33, 3) := by decide +kernel
theorem d_Things_add_17 : decode b_Things_add 17 = .ok (.iconst 1, 1) := by decide +kernel
theorem d_Things_add_18 : decode b_Things_add 18 = .ok (.iadd, 1) := by decide +kernel
theorem d_Things_add_19 : decode b_Things_add 19 = .ok (.putfield 33, 3) := by decide +kernel
theorem d_Things_add_22 : decode b_Things_add 22 = .ok (.aload_n 0, 1) := by decide +kernel
theorem d_Things_add_23 : decode b_Things_add 23 = .ok (.getfield 33, 3) := by decide +kernel
theorem d_Things_add_26 : decode b_Things_add 26 = .ok (.iconst 1, 1) := by decide +kernel
theorem d_Things_add_27 : decode b_Things_add 27 = .ok (.isub, 1) := by decide +kernel
theorem d_Things_add_28 : decode b_Things_add 28 = .ok (.ireturn, 1) := by decide +kernel
theorem d_Things_setWord_0 : decode b_Things_setWord 0 = .ok (.aload_n 0, 1) := by decide +kernel
theorem d_Things_setWord_1 : decode b_Things_setWord 1 = .ok (.iload_n 1, 1) := by decide +kernel
theorem d_Things_setWord_2 : decode b_Things_setWord 2 = .ok (.invokevirtual 43, 3) := by decide +kernel
theorem d_Things_setWord_5 : decode b_Things_setWord 5 = .ok (.ifCond .eq 10, 3) := by decide +kernel
theorem d_Things_setWord_8 : decode b_Things_setWord 8 = .ok (.iload_n 2, 1) := by decide +kernel
theorem d_Things_setWord_9 : decode b_Things_setWord 9 = .ok (.invokestatic 47, 3) := by decide +kernel
theorem d_Things_setWord_12 : decode b_Things_setWord 12 = .ok (.ifCond .ne 5, 3) := by decide +kernel
theorem d_Things_setWord_15 : decode b_Things_setWord 15 = .ok (.iconst (-1), 1) := by decide +kernel
theorem d_Things_setWord_16 : decode b_Things_setWord 16 = .ok (.ireturn, 1) := by decide +kernel
theorem d_Things_setWord_17 : decode b_Things_setWord 17 = .ok (.iload_n 3, 1) := by decide +kernel
theorem d_Things_setWord_18 : decode b_Things_setWord 18 = .ok (.ifCond .eq 10, 3) := by decide +kernel
theorem d_Things_setWord_21 : decode b_Things_setWord 21 = .ok (.aload_n 0, 1) := by decide +kernel
theorem d_Things_setWord_22 : decode b_Things_setWord 22 = .ok (.getfield 9, 3) := by decide +kernel
theorem d_Things_setWord_25 : decode b_Things_setWord 25 = .ok (.goto 7, 3) := by decide +kernel
theorem d_Things_setWord_28 : decode b_Things_setWord 28 = .ok (.aload_n 0, 1) := by decide +kernel
theorem d_Things_setWord_29 : decode b_Things_setWord 29 = .ok (.getfield 15, 3) := by decide +kernel
theorem d_Things_setWord_32 : decode b_Things_setWord 32 = .ok (.astore 5, 2) := by decide +kernel
theorem d_Things_setWord_34 : decode b_Things_setWord 34 = .ok (.aload 5, 2) := by decide +kernel
theorem d_Things_setWord_36 : decode b_Things_setWord 36 = .ok (.iload_n 1, 1) := by decide +kernel
theorem d_Things_setWord_37 : decode b_Things_setWord 37 = .ok (.iaload, 1) := by decide +kernel
theorem d_Things_setWord_38 : decode b_Things_setWord 38 = .ok (.iload_n 2, 1) := by decide +kernel
theorem d_Things_setWord_39 : decode b_Things_setWord 39 = .ok (.iushr, 1) := by decide +kernel
theorem d_Things_setWord_40 : decode b_Things_setWord 40 = .ok (.iconst 1, 1) := by decide +kernel
theorem d_Things_setWord_41 : decode b_Things_setWord 41 = .ok (.iand, 1) := by decide +kernel
theorem d_Things_setWord_42 : decode b_Things_setWord 42 = .ok (.istore 6, 2) := by decide +kernel
theorem d_Things_setWord_44 : decode b_Things_setWord 44 = .ok (.aload 5, 2) := by decide +kernel
theorem d_Things_setWord_46 : decode b_Things_setWord 46 = .ok (.iload_n 1, 1) := by decide +kernel
theorem d_Things_setWord_47 : decode b_Things_setWord 47 = .ok (.iload 4, 2) := by decide +kernel
theorem d_Things_setWord_49 : decode b_Things_setWord 49 = .ok (.ifCond .eq 14, 3) := by decide +kernel
theorem d_Things_setWord_52 : decode b_Things_setWord 52 = .ok (.aload 5, 2) := by decide +kernel
theorem d_Things_setWord_54 : decode b_Things_setWord 54 = .ok (.iload_n 1, 1) := by decide +kernel
theorem d_Things_setWord_55 : decode b_Things_setWord 55 = .ok (.iaload, 1) := by decide +kernel
theorem d_Things_setWord_56 : decode b_Things_setWord 56 = .ok (.iconst 1, 1) := by decide +kernel
theorem d_Things_setWord_57 : decode b_Things_setWord 57 = .ok (.iload_n 2, 1) := by decide +kernel
theorem d_Things_setWord_58 : decode b_Things_setWord 58 = .ok (.ishl, 1) := by decide +kernel
theorem d_Things_setWord_59 : decode b_Things_setWord 59 = .ok (.ior, 1) := by decide +kernel
theorem d_Things_setWord_60 : decode b_Things_setWord 60 = .ok (.goto 13, 3) := by decide +kernel
theorem d_Things_setWord_63 : decode b_Things_setWord 63 = .ok (.aload 5, 2) := by decide +kernel
theorem d_Things_setWord_65 : decode b_Things_setWord 65 = .ok (.iload_n 1, 1) := by decide +kernel
theorem d_Things_setWord_66 : decode b_Things_setWord 66 = .ok (.iaload, 1) := by decide +kernel
theorem d_Things_setWord_67 : decode b_Things_setWord 67 = .ok (.iconst 1, 1) := by decide +kernel
theorem d_Things_setWord_68 : decode b_Things_setWord 68 = .ok (.iload_n 2, 1) := by decide +kernel
theorem d_Things_setWord_69 : decode b_Things_setWord 69 = .ok (.ishl, 1) := by decide +kernel
theorem d_Things_setWord_70 : decode b_Things_setWord 70 = .ok (.iconst (-1), 1) := by decide +kernel
theorem d_Things_setWord_71 : decode b_Things_setWord 71 = .ok (.ixor, 1) := by decide +kernel
theorem d_Things_setWord_72 : decode b_Things_setWord 72 = .ok (.iand, 1) := by decide +kernel
theorem d_Things_setWord_73 : decode b_Things_setWord 73 = .ok (.iastore, 1) := by decide +kernel
theorem d_Things_setWord_74 : decode b_Things_setWord 74 = .ok (.iload 6, 2) := by decide +kernel
theorem d_Things_setWord_76 : decode b_Things_setWord 76 = .ok (.ireturn, 1) := by decide +kernel
theorem d_Things_setKind_0 : decode b_Things_setKind 0 = .ok (.aload_n 0, 1) := by decide +kernel
theorem d_Things_setKind_1 : decode b_Things_setKind 1 = .ok (.iload_n 1, 1) := by decide +kernel
theorem d_Things_setKind_2 : decode b_Things_setKind 2 = .ok (.invokevirtual 43, 3) := by decide +kernel
theorem d_Things_setKind_5 : decode b_Things_setKind 5 = .ok (.ifCond .eq 15, 3) := by decide +kernel
theorem d_Things_setKind_8 : decode b_Things_setKind 8 = .ok (.iload_n 2, 1) := by decide +kernel
theorem d_Things_setKind_9 : decode b_Things_setKind 9 = .ok (.iconst (-1), 1) := by decide +kernel
theorem d_Things_setKind_10 : decode b_Things_setKind 10 = .ok (.if_icmp .eq 12, 3) := by decide +kernel
theorem d_Things_setKind_13 : decode b_Things_setKind 13 = .ok (.iload_n 2, 1) := by decide +kernel
theorem d_Things_setKind_14 : decode b_Things_setKind 14 = .ok (.invokestatic 50, 3) := by decide +kernel
theorem d_Things_setKind_17 : decode b_Things_setKind 17 = .ok (.ifCond .ne 5, 3) := by decide +kernel
theorem d_Things_setKind_20 : decode b_Things_setKind 20 = .ok (.iconst (-1), 1) := by decide +kernel
theorem d_Things_setKind_21 : decode b_Things_setKind 21 = .ok (.ireturn, 1) := by decide +kernel
theorem d_Things_setKind_22 : decode b_Things_setKind 22 = .ok (.aload_n 0, 1) := by decide +kernel
theorem d_Things_setKind_23 : decode b_Things_setKind 23 = .ok (.getfield 18, 3) := by decide +kernel
theorem d_Things_setKind_26 : decode b_Things_setKind 26 = .ok (.iload_n 1, 1) := by decide +kernel
theorem d_Things_setKind_27 : decode b_Things_setKind 27 = .ok (.iaload, 1) := by decide +kernel
theorem d_Things_setKind_28 : decode b_Things_setKind 28 = .ok (.istore_n 3, 1) := by decide +kernel
theorem d_Things_setKind_29 : decode b_Things_setKind 29 = .ok (.aload_n 0, 1) := by decide +kernel
theorem d_Things_setKind_30 : decode b_Things_setKind 30 = .ok (.getfield 18, 3) := by decide +kernel
theorem d_Things_setKind_33 : decode b_Things_setKind 33 = .ok (.iload_n 1, 1) := by decide +kernel
theorem d_Things_setKind_34 : decode b_Things_setKind 34 = .ok (.iload_n 2, 1) := by decide +kernel
theorem d_Things_setKind_35 : decode b_Things_setKind 35 = .ok (.iastore, 1) := by decide +kernel
theorem d_Things_setKind_36 : decode b_Things_setKind 36 = .ok (.iload_n 3, 1) := by decide +kernel
theorem d_Things_setKind_37 : decode b_Things_setKind 37 = .ok (.iconst 1, 1) := by decide +kernel
theorem d_Things_setKind_38 : decode b_Things_setKind 38 = .ok (.iadd, 1) := by decide +kernel
theorem d_Things_setKind_39 : decode b_Things_setKind 39 = .ok (.ireturn, 1) := by decide +kernel
theorem d_Things_setPlace_0 : decode b_Things_setPlace 0 = .ok (.aload_n 0, 1) := by decide +kernel
theorem d_Things_setPlace_1 : decode b_Things_setPlace 1 = .ok (.iload_n 1, 1) := by decide +kernel
theorem d_Things_setPlace_2 : decode b_Things_setPlace 2 = .ok (.invokevirtual 43, 3) := by decide +kernel
theorem d_Things_setPlace_5 : decode b_Things_setPlace 5 = .ok (.ifCond .eq 12, 3) := by decide +kernel
theorem d_Things_setPlace_8 : decode b_Things_setPlace 8 = .ok (.iload_n 2, 1) := by decide +kernel
theorem d_Things_setPlace_9 : decode b_Things_setPlace 9 = .ok (.ifCond .lt 8, 3) := by decide +kernel
theorem d_Things_setPlace_12 : decode b_Things_setPlace 12 = .ok (.iload_n 2, 1) := by decide +kernel
theorem d_Things_setPlace_13 : decode b_Things_setPlace 13 = .ok (.iconst 3, 1) := by decide +kernel
theorem d_Things_setPlace_14 : decode b_Things_setPlace 14 = .ok (.if_icmp .le 5, 3) := by decide +kernel
theorem d_Things_setPlace_17 : decode b_Things_setPlace 17 = .ok (.iconst (-1), 1) := by decide +kernel
theorem d_Things_setPlace_18 : decode b_Things_setPlace 18 = .ok (.ireturn, 1) := by decide +kernel
theorem d_Things_setPlace_19 : decode b_Things_setPlace 19 = .ok (.aload_n 0, 1) := by decide +kernel
theorem d_Things_setPlace_20 : decode b_Things_setPlace 20 = .ok (.getfield 21, 3) := by decide +kernel
theorem d_Things_setPlace_23 : decode b_Things_setPlace 23 = .ok (.iload_n 1, 1) := by decide +kernel
theorem d_Things_setPlace_24 : decode b_Things_setPlace 24 = .ok (.iaload, 1) := by decide +kernel
theorem d_Things_setPlace_25 : decode b_Things_setPlace 25 = .ok (.istore_n 3, 1) := by decide +kernel
theorem d_Things_setPlace_26 : decode b_Things_setPlace 26 = .ok (.aload_n 0, 1) := by decide +kernel
theorem d_Things_setPlace_27 : decode b_Things_setPlace 27 = .ok (.getfield 21, 3) := by decide +kernel
theorem d_Things_setPlace_30 : decode b_Things_setPlace 30 = .ok (.iload_n 1, 1) := by decide +kernel
theorem d_Things_setPlace_31 : decode b_Things_setPlace 31 = .ok (.iload_n 2, 1) := by decide +kernel
theorem d_Things_setPlace_32 : decode b_Things_setPlace 32 = .ok (.iastore, 1) := by decide +kernel
theorem d_Things_setPlace_33 : decode b_Things_setPlace 33 = .ok (.iload_n 3, 1) := by decide +kernel
theorem d_Things_setPlace_34 : decode b_Things_setPlace 34 = .ok (.ireturn, 1) := by decide +kernel
theorem d_Things_setMark_0 : decode b_Things_setMark 0 = .ok (.aload_n 0, 1) := by decide +kernel
theorem d_Things_setMark_1 : decode b_Things_setMark 1 = .ok (.iload_n 1, 1) := by decide +kernel
theorem d_Things_setMark_2 : decode b_Things_setMark 2 = .ok (.invokevirtual 43, 3) := by decide +kernel
theorem d_Things_setMark_5 : decode b_Things_setMark 5 = .ok (.ifCond .eq 22, 3) := by decide +kernel
theorem d_Things_setMark_8 : decode b_Things_setMark 8 = .ok (.iload_n 2, 1) := by decide +kernel
theorem d_Things_setMark_9 : decode b_Things_setMark 9 = .ok (.invokestatic 53, 3) := by decide +kernel
theorem d_Things_setMark_12 : decode b_Things_setMark 12 = .ok (.ifCond .eq 15, 3) := by decide +kernel
theorem d_Things_setMark_15 : decode b_Things_setMark 15 = .ok (.iload_n 3, 1) := by decide +kernel
theorem d_Things_setMark_16 : decode b_Things_setMark 16 = .ok (.bipush (-9), 2) := by decide +kernel
theorem d_Things_setMark_18 : decode b_Things_setMark 18 = .ok (.if_icmp .lt 9, 3) := by decide +kernel
theorem d_Things_setMark_21 : decode b_Things_setMark 21 = .ok (.iload_n 3, 1) := by decide +kernel
theorem d_Things_setMark_22 : decode b_Things_setMark 22 = .ok (.bipush 9, 2) := by decide +kernel
theorem d_Things_setMark_24 : decode b_Things_setMark 24 = .ok (.if_icmp .le 5, 3) := by decide +kernel
theorem d_Things_setMark_27 : decode b_Things_setMark 27 = .ok (.iconst (-1), 1) := by decide +kernel
theorem d_Things_setMark_28 : decode b_Things_setMark 28 = .ok (.ireturn, 1) := by decide +kernel
theorem d_Things_setMark_29 : decode b_Things_setMark 29 = .ok (.iload_n 1, 1) := by decide +kernel
theorem d_Things_setMark_30 : decode b_Things_setMark 30 = .ok (.iconst 4, 1) := by decide +kernel
theorem d_Things_setMark_31 : decode b_Things_setMark 31 = .ok (.imul, 1) := by decide +kernel
theorem d_Things_setMark_32 : decode b_Things_setMark 32 = .ok (.iload_n 2, 1) := by decide +kernel
theorem d_Things_setMark_33 : decode b_Things_setMark 33 = .ok (.iadd, 1) := by decide +kernel
theorem d_Things_setMark_34 : decode b_Things_setMark 34 = .ok (.istore 4, 2) := by decide +kernel
theorem d_Things_setMark_36 : decode b_Things_setMark 36 = .ok (.aload_n 0, 1) := by decide +kernel
theorem d_Things_setMark_37 : decode b_Things_setMark 37 = .ok (.getfield 24, 3) := by decide +kernel
theorem d_Things_setMark_40 : decode b_Things_setMark 40 = .ok (.iload 4, 2) := by decide +kernel
theorem d_Things_setMark_42 : decode b_Things_setMark 42 = .ok (.iaload, 1) := by decide +kernel
theorem d_Things_setMark_43 : decode b_Things_setMark 43 = .ok (.istore 5, 2) := by decide +kernel
theorem d_Things_setMark_45 : decode b_Things_setMark 45 = .ok (.aload_n 0, 1) := by decide +kernel
theorem d_Things_setMark_46 : decode b_Things_setMark 46 = .ok (.getfield 24, 3) := by decide +kernel
theorem d_Things_setMark_49 : decode b_Things_setMark 49 = .ok (.iload 4, 2) := by decide +kernel
theorem d_Things_setMark_51 : decode b_Things_setMark 51 = .ok (.iload_n 3, 1) := by decide +kernel
theorem d_Things_setMark_52 : decode b_Things_setMark 52 = .ok (.iastore, 1) := by decide +kernel
theorem d_Things_setMark_53 : decode b_Things_setMark 53 = .ok (.iload 5, 2) := by decide +kernel
theorem d_Things_setMark_55 : decode b_Things_setMark 55 = .ok (.bipush 9, 2) := by decide +kernel
theorem d_Things_setMark_57 : decode b_Things_setMark 57 = .ok (.iadd, 1) := by decide +kernel
theorem d_Things_setMark_58 : decode b_Things_setMark 58 = .ok (.ireturn, 1) := by decide +kernel
theorem d_Things_setPlural_0 : decode b_Things_setPlural 0 = .ok (.iload_n 1, 1) := by decide +kernel
theorem d_Things_setPlural_1 : decode b_Things_setPlural 1 = .ok (.invokestatic 50, 3) := by decide +kernel
theorem d_Things_setPlural_4 : decode b_Things_setPlural 4 = .ok (.ifCond .eq 15, 3) := by decide +kernel
theorem d_Things_setPlural_7 : decode b_Things_setPlural 7 = .ok (.iload_n 2, 1) := by decide +kernel
theorem d_Things_setPlural_8 : decode b_Things_setPlural 8 = .ok (.iconst (-1), 1) := by decide +kernel
theorem d_Things_setPlural_9 : decode b_Things_setPlural 9 = .ok (.if_icmp .eq 12, 3) := by decide +kernel
theorem d_Things_setPlural_12 : decode b_Things_setPlural 12 = .ok (.iload_n 2, 1) := by decide +kernel
theorem d_Things_setPlural_13 : decode b_Things_setPlural 13 = .ok (.invokestatic 47, 3) := by decide +kernel
theorem d_Things_setPlural_16 : decode b_Things_setPlural 16 = .ok (.ifCond .ne 5, 3) := by decide +kernel
theorem d_Things_setPlural_19 : decode b_Things_setPlural 19 = .ok (.iconst (-1), 1) := by decide +kernel
theorem d_Things_setPlural_20 : decode b_Things_setPlural 20 = .ok (.ireturn, 1) := by decide +kernel
theorem d_Things_setPlural_21 : decode b_Things_setPlural 21 = .ok (.aload_n 0, 1) := by decide +kernel
theorem d_Things_setPlural_22 : decode b_Things_setPlural 22 = .ok (.getfield 27, 3) := by decide +kernel
theorem d_Things_setPlural_25 : decode b_Things_setPlural 25 = .ok (.iload_n 1, 1) := by decide +kernel
theorem d_Things_setPlural_26 : decode b_Things_setPlural 26 = .ok (.iaload, 1) := by decide +kernel
theorem d_Things_setPlural_27 : decode b_Things_setPlural 27 = .ok (.istore_n 3, 1) := by decide +kernel
theorem d_Things_setPlural_28 : decode b_Things_setPlural 28 = .ok (.aload_n 0, 1) := by decide +kernel
theorem d_Things_setPlural_29 : decode b_Things_setPlural 29 = .ok (.getfield 27, 3) := by decide +kernel
theorem d_Things_setPlural_32 : decode b_Things_setPlural 32 = .ok (.iload_n 1, 1) := by decide +kernel
theorem d_Things_setPlural_33 : decode b_Things_setPlural 33 = .ok (.iload_n 2, 1) := by decide +kernel
theorem d_Things_setPlural_34 : decode b_Things_setPlural 34 = .ok (.iastore, 1) := by decide +kernel
theorem d_Things_setPlural_35 : decode b_Things_setPlural 35 = .ok (.iload_n 3, 1) := by decide +kernel
theorem d_Things_setPlural_36 : decode b_Things_setPlural 36 = .ok (.iconst 1, 1) := by decide +kernel
theorem d_Things_setPlural_37 : decode b_Things_setPlural 37 = .ok (.iadd, 1) := by decide +kernel
theorem d_Things_setPlural_38 : decode b_Things_setPlural 38 = .ok (.ireturn, 1) := by decide +kernel
theorem d_Things_setWeight_0 : decode b_Things_setWeight 0 = .ok (.iload_n 1, 1) := by decide +kernel
theorem d_Things_setWeight_1 : decode b_Things_setWeight 1 = .ok (.invokestatic 53, 3) := by decide +kernel
theorem d_Things_setWeight_4 : decode b_Things_setWeight 4 = .ok (.ifCond .eq 13, 3) := by decide +kernel
theorem d_Things_setWeight_7 : decode b_Things_setWeight 7 = .ok (.iload_n 2, 1) := by decide +kernel
theorem d_Things_setWeight_8 : decode b_Things_setWeight 8 = .ok (.ifCond .lt 9, 3) := by decide +kernel
theorem d_Things_setWeight_11 : decode b_Things_setWeight 11 = .ok (.iload_n 2, 1) := by decide +kernel
theorem d_Things_setWeight_12 : decode b_Things_setWeight 12 = .ok (.bipush 9, 2) := by decide +kernel
theorem d_Things_setWeight_14 : decode b_Things_setWeight 14 = .ok (.if_icmp .le 5, 3) := by decide +kernel
theorem d_Things_setWeight_17 : decode b_Things_setWeight 17 = .ok (.iconst (-1), 1) := by decide +kernel
theorem d_Things_setWeight_18 : decode b_Things_setWeight 18 = .ok (.ireturn, 1) := by decide +kernel
theorem d_Things_setWeight_19 : decode b_Things_setWeight 19 = .ok (.aload_n 0, 1) := by decide +kernel
theorem d_Things_setWeight_20 : decode b_Things_setWeight 20 = .ok (.getfield 30, 3) := by decide +kernel
theorem d_Things_setWeight_23 : decode b_Things_setWeight 23 = .ok (.iload_n 1, 1) := by decide +kernel
theorem d_Things_setWeight_24 : decode b_Things_setWeight 24 = .ok (.iaload, 1) := by decide +kernel
theorem d_Things_setWeight_25 : decode b_Things_setWeight 25 = .ok (.istore_n 3, 1) := by decide +kernel
theorem d_Things_setWeight_26 : decode b_Things_setWeight 26 = .ok (.aload_n 0, 1) := by decide +kernel
theorem d_Things_setWeight_27 : decode b_Things_setWeight 27 = .ok (.getfield 30, 3) := by decide +kernel
theorem d_Things_setWeight_30 : decode b_Things_setWeight 30 = .ok (.iload_n 1, 1) := by decide +kernel
theorem d_Things_setWeight_31 : decode b_Things_setWeight 31 = .ok (.iload_n 2, 1) := by decide +kernel
theorem d_Things_setWeight_32 : decode b_Things_setWeight 32 = .ok (.iastore, 1) := by decide +kernel
theorem d_Things_setWeight_33 : decode b_Things_setWeight 33 = .ok (.iload_n 3, 1) := by decide +kernel
theorem d_Things_setWeight_34 : decode b_Things_setWeight 34 = .ok (.ireturn, 1) := by decide +kernel
theorem d_Things_scoreOf_0 : decode b_Things_scoreOf 0 = .ok (.aload_n 0, 1) := by decide +kernel
theorem d_Things_scoreOf_1 : decode b_Things_scoreOf 1 = .ok (.iload_n 1, 1) := by decide +kernel
theorem d_Things_scoreOf_2 : decode b_Things_scoreOf 2 = .ok (.invokevirtual 43, 3) := by decide +kernel
theorem d_Things_scoreOf_5 : decode b_Things_scoreOf 5 = .ok (.ifCond .ne 5, 3) := by decide +kernel
theorem d_Things_scoreOf_8 : decode b_Things_scoreOf 8 = .ok (.iconst 0, 1) := by decide +kernel
theorem d_Things_scoreOf_9 : decode b_Things_scoreOf 9 = .ok (.ireturn, 1) := by decide +kernel
theorem d_Things_scoreOf_10 : decode b_Things_scoreOf 10 = .ok (.iconst 0, 1) := by decide +kernel
theorem d_Things_scoreOf_11 : decode b_Things_scoreOf 11 = .ok (.istore_n 2, 1) := by decide +kernel
theorem d_Things_scoreOf_12 : decode b_Things_scoreOf 12 = .ok (.iconst 0, 1) := by decide +kernel
theorem d_Things_scoreOf_13 : decode b_Things_scoreOf 13 = .ok (.istore_n 3, 1) := by decide +kernel
theorem d_Things_scoreOf_14 : decode b_Things_scoreOf 14 = .ok (.iload_n 3, 1) := by decide +kernel
theorem d_Things_scoreOf_15 : decode b_Things_scoreOf 15 = .ok (.iconst 4, 1) := by decide +kernel
theorem d_Things_scoreOf_16 : decode b_Things_scoreOf 16 = .ok (.if_icmp .ge 29, 3) := by decide +kernel
theorem d_Things_scoreOf_19 : decode b_Things_scoreOf 19 = .ok (.iload_n 2, 1) := by decide +kernel
theorem d_Things_scoreOf_20 : decode b_Things_scoreOf 20 = .ok (.aload_n 0, 1) := by decide +kernel
theorem d_Things_scoreOf_21 : decode b_Things_scoreOf 21 = .ok (.getfield 30, 3) := by decide +kernel
theorem d_Things_scoreOf_24 : decode b_Things_scoreOf 24 = .ok (.iload_n 3, 1) := by decide +kernel
theorem d_Things_scoreOf_25 : decode b_Things_scoreOf 25 = .ok (.iaload, 1) := by decide +kernel
theorem d_Things_scoreOf_26 : decode b_Things_scoreOf 26 = .ok (.aload_n 0, 1) := by decide +kernel
theorem d_Things_scoreOf_27 : decode b_Things_scoreOf 27 = .ok (.getfield 24, 3) := by decide +kernel
theorem d_Things_scoreOf_30 : decode b_Things_scoreOf 30 = .ok (.iload_n 1, 1) := by decide +kernel
theorem d_Things_scoreOf_31 : decode b_Things_scoreOf 31 = .ok (.iconst 4, 1) := by decide +kernel
theorem d_Things_scoreOf_32 : decode b_Things_scoreOf 32 = .ok (.imul, 1) := by decide +kernel
theorem d_Things_scoreOf_33 : decode b_Things_scoreOf 33 = .ok (.iload_n 3, 1) := by decide +kernel
theorem d_Things_scoreOf_34 : decode b_Things_scoreOf 34 = .ok (.iadd, 1) := by decide +kernel
theorem d_Things_scoreOf_35 : decode b_Things_scoreOf 35 = .ok (.iaload, 1) := by decide +kernel
theorem d_Things_scoreOf_36 : decode b_Things_scoreOf 36 = .ok (.imul, 1) := by decide +kernel
theorem d_Things_scoreOf_37 : decode b_Things_scoreOf 37 = .ok (.iadd, 1) := by decide +kernel
theorem d_Things_scoreOf_38 : decode b_Things_scoreOf 38 = .ok (.istore_n 2, 1) := by decide +kernel
theorem d_Things_scoreOf_39 : decode b_Things_scoreOf 39 = .ok (.iinc 3 1, 3) := by decide +kernel
theorem d_Things_scoreOf_42 : decode b_Things_scoreOf 42 = .ok (.goto (-28), 3) := by decide +kernel
theorem d_Things_scoreOf_45 : decode b_Things_scoreOf 45 = .ok (.iload_n 2, 1) := by decide +kernel
theorem d_Things_scoreOf_46 : decode b_Things_scoreOf 46 = .ok (.ireturn, 1) := by decide +kernel
theorem d_Things_areAlike_0 : decode b_Things_areAlike 0 = .ok (.aload_n 0, 1) := by decide +kernel
theorem d_Things_areAlike_1 : decode b_Things_areAlike 1 = .ok (.iload_n 1, 1) := by decide +kernel
theorem d_Things_areAlike_2 : decode b_Things_areAlike 2 = .ok (.invokevirtual 43, 3) := by decide +kernel
theorem d_Things_areAlike_5 : decode b_Things_areAlike 5 = .ok (.ifCond .eq 21, 3) := by decide +kernel
theorem d_Things_areAlike_8 : decode b_Things_areAlike 8 = .ok (.aload_n 0, 1) := by decide +kernel
theorem d_Things_areAlike_9 : decode b_Things_areAlike 9 = .ok (.iload_n 2, 1) := by decide +kernel
theorem d_Things_areAlike_10 : decode b_Things_areAlike 10 = .ok (.invokevirtual 43, 3) := by decide +kernel
theorem d_Things_areAlike_13 : decode b_Things_areAlike 13 = .ok (.ifCond .eq 13, 3) := by decide +kernel
theorem d_Things_areAlike_16 : decode b_Things_areAlike 16 = .ok (.aload_n 0, 1) := by decide +kernel
theorem d_Things_areAlike_17 : decode b_Things_areAlike 17 = .ok (.getfield 18, 3) := by decide +kernel
theorem d_Things_areAlike_20 : decode b_Things_areAlike 20 = .ok (.iload_n 1, 1) := by decide +kernel
theorem d_Things_areAlike_21 : decode b_Things_areAlike 21 = .ok (.iaload, 1) := by decide +kernel
theorem d_Things_areAlike_22 : decode b_Things_areAlike 22 = .ok (.iconst (-1), 1) := by decide +kernel
theorem d_Things_areAlike_23 : decode b_Things_areAlike 23 = .ok (.if_icmp .ne 5, 3) := by decide +kernel
theorem d_Things_areAlike_26 : decode b_Things_areAlike 26 = .ok (.iconst 0, 1) := by decide +kernel
theorem d_Things_areAlike_27 : decode b_Things_areAlike 27 = .ok (.ireturn, 1) := by decide +kernel
theorem d_Things_areAlike_28 : decode b_Things_areAlike 28 = .ok (.iconst 0, 1) := by decide +kernel
theorem d_Things_areAlike_29 : decode b_Things_areAlike 29 = .ok (.istore_n 3, 1) := by decide +kernel
theorem d_Things_areAlike_30 : decode b_Things_areAlike 30 = .ok (.iload_n 3, 1) := by decide +kernel
theorem d_Things_areAlike_31 : decode b_Things_areAlike 31 = .ok (.iconst 4, 1) := by decide +kernel
theorem d_Things_areAlike_32 : decode b_Things_areAlike 32 = .ok (.if_icmp .ge 34, 3) := by decide +kernel
theorem d_Things_areAlike_35 : decode b_Things_areAlike 35 = .ok (.aload_n 0, 1) := by decide +kernel
theorem d_Things_areAlike_36 : decode b_Things_areAlike 36 = .ok (.getfield 24, 3) := by decide +kernel
theorem d_Things_areAlike_39 : decode b_Things_areAlike 39 = .ok (.iload_n 1, 1) := by decide +kernel
theorem d_Things_areAlike_40 : decode b_Things_areAlike 40 = .ok (.iconst 4, 1) := by decide +kernel
theorem d_Things_areAlike_41 : decode b_Things_areAlike 41 = .ok (.imul, 1) := by decide +kernel
theorem d_Things_areAlike_42 : decode b_Things_areAlike 42 = .ok (.iload_n 3, 1) := by decide +kernel
theorem d_Things_areAlike_43 : decode b_Things_areAlike 43 = .ok (.iadd, 1) := by decide +kernel
theorem d_Things_areAlike_44 : decode b_Things_areAlike 44 = .ok (.iaload, 1) := by decide +kernel
theorem d_Things_areAlike_45 : decode b_Things_areAlike 45 = .ok (.aload_n 0, 1) := by decide +kernel
theorem d_Things_areAlike_46 : decode b_Things_areAlike 46 = .ok (.getfield 24, 3) := by decide +kernel
theorem d_Things_areAlike_49 : decode b_Things_areAlike 49 = .ok (.iload_n 2, 1) := by decide +kernel
theorem d_Things_areAlike_50 : decode b_Things_areAlike 50 = .ok (.iconst 4, 1) := by decide +kernel
theorem d_Things_areAlike_51 : decode b_Things_areAlike 51 = .ok (.imul, 1) := by decide +kernel
theorem d_Things_areAlike_52 : decode b_Things_areAlike 52 = .ok (.iload_n 3, 1) := by decide +kernel
theorem d_Things_areAlike_53 : decode b_Things_areAlike 53 = .ok (.iadd, 1) := by decide +kernel
theorem d_Things_areAlike_54 : decode b_Things_areAlike 54 = .ok (.iaload, 1) := by decide +kernel
theorem d_Things_areAlike_55 : decode b_Things_areAlike 55 = .ok (.if_icmp .eq 5, 3) := by decide +kernel
theorem d_Things_areAlike_58 : decode b_Things_areAlike 58 = .ok (.iconst 0, 1) := by decide +kernel
theorem d_Things_areAlike_59 : decode b_Things_areAlike 59 = .ok (.ireturn, 1) := by decide +kernel
theorem d_Things_areAlike_60 : decode b_Things_areAlike 60 = .ok (.iinc 3 1, 3) := by decide +kernel
theorem d_Things_areAlike_63 : decode b_Things_areAlike 63 = .ok (.goto (-33), 3) := by decide +kernel
theorem d_Things_areAlike_66 : decode b_Things_areAlike 66 = .ok (.aload_n 0, 1) := by decide +kernel
theorem d_Things_areAlike_67 : decode b_Things_areAlike 67 = .ok (.getfield 18, 3) := by decide +kernel
theorem d_Things_areAlike_70 : decode b_Things_areAlike 70 = .ok (.iload_n 1, 1) := by decide +kernel
theorem d_Things_areAlike_71 : decode b_Things_areAlike 71 = .ok (.iaload, 1) := by decide +kernel
theorem d_Things_areAlike_72 : decode b_Things_areAlike 72 = .ok (.aload_n 0, 1) := by decide +kernel
theorem d_Things_areAlike_73 : decode b_Things_areAlike 73 = .ok (.getfield 18, 3) := by decide +kernel
theorem d_Things_areAlike_76 : decode b_Things_areAlike 76 = .ok (.iload_n 2, 1) := by decide +kernel
theorem d_Things_areAlike_77 : decode b_Things_areAlike 77 = .ok (.iaload, 1) := by decide +kernel
theorem d_Things_areAlike_78 : decode b_Things_areAlike 78 = .ok (.if_icmp .ne 52, 3) := by decide +kernel
theorem d_Things_areAlike_81 : decode b_Things_areAlike 81 = .ok (.aload_n 0, 1) := by decide +kernel
theorem d_Things_areAlike_82 : decode b_Things_areAlike 82 = .ok (.getfield 9, 3) := by decide +kernel
theorem d_Things_areAlike_85 : decode b_Things_areAlike 85 = .ok (.iload_n 1, 1) := by decide +kernel
theorem d_Things_areAlike_86 : decode b_Things_areAlike 86 = .ok (.iaload, 1) := by decide +kernel
theorem d_Things_areAlike_87 : decode b_Things_areAlike 87 = .ok (.aload_n 0, 1) := by decide +kernel
theorem d_Things_areAlike_88 : decode b_Things_areAlike 88 = .ok (.getfield 9, 3) := by decide +kernel
theorem d_Things_areAlike_91 : decode b_Things_areAlike 91 = .ok (.iload_n 2, 1) := by decide +kernel
theorem d_Things_areAlike_92 : decode b_Things_areAlike 92 = .ok (.iaload, 1) := by decide +kernel
theorem d_Things_areAlike_93 : decode b_Things_areAlike 93 = .ok (.if_icmp .ne 37, 3) := by decide +kernel
theorem d_Things_areAlike_96 : decode b_Things_areAlike 96 = .ok (.aload_n 0, 1) := by decide +kernel
theorem d_Things_areAlike_97 : decode b_Things_areAlike 97 = .ok (.getfield 15, 3) := by decide +kernel
theorem d_Things_areAlike_100 : decode b_Things_areAlike 100 = .ok (.iload_n 1, 1) := by decide +kernel
theorem d_Things_areAlike_101 : decode b_Things_areAlike 101 = .ok (.iaload, 1) := by decide +kernel
theorem d_Things_areAlike_102 : decode b_Things_areAlike 102 = .ok (.aload_n 0, 1) := by decide +kernel
theorem d_Things_areAlike_103 : decode b_Things_areAlike 103 = .ok (.getfield 15, 3) := by decide +kernel
theorem d_Things_areAlike_106 : decode b_Things_areAlike 106 = .ok (.iload_n 2, 1) := by decide +kernel
theorem d_Things_areAlike_107 : decode b_Things_areAlike 107 = .ok (.iaload, 1) := by decide +kernel
theorem d_Things_areAlike_108 : decode b_Things_areAlike 108 = .ok (.if_icmp .ne 22, 3) := by decide +kernel
theorem d_Things_areAlike_111 : decode b_Things_areAlike 111 = .ok (.aload_n 0, 1) := by decide +kernel
theorem d_Things_areAlike_112 : decode b_Things_areAlike 112 = .ok (.getfield 21, 3) := by decide +kernel
theorem d_Things_areAlike_115 : decode b_Things_areAlike 115 = .ok (.iload_n 1, 1) := by decide +kernel
theorem d_Things_areAlike_116 : decode b_Things_areAlike 116 = .ok (.iaload, 1) := by decide +kernel
theorem d_Things_areAlike_117 : decode b_Things_areAlike 117 = .ok (.aload_n 0, 1) := by decide +kernel
theorem d_Things_areAlike_118 : decode b_Things_areAlike 118 = .ok (.getfield 21, 3) := by decide +kernel
theorem d_Things_areAlike_121 : decode b_Things_areAlike 121 = .ok (.iload_n 2, 1) := by decide +kernel
theorem d_Things_areAlike_122 : decode b_Things_areAlike 122 = .ok (.iaload, 1) := by decide +kernel
theorem d_Things_areAlike_123 : decode b_Things_areAlike 123 = .ok (.if_icmp .ne 7, 3) := by decide +kernel
theorem d_Things_areAlike_126 : decode b_Things_areAlike 126 = .ok (.iconst 1, 1) := by decide +kernel
theorem d_Things_areAlike_127 : decode b_Things_areAlike 127 = .ok (.goto 4, 3) := by decide +kernel
theorem d_Things_areAlike_130 : decode b_Things_areAlike 130 = .ok (.iconst 0, 1) := by decide +kernel
theorem d_Things_areAlike_131 : decode b_Things_areAlike 131 = .ok (.ireturn, 1) := by decide +kernel
theorem d_Things_allSet_0 : decode b_Things_allSet 0 = .ok (.iconst 0, 1) := by decide +kernel
theorem d_Things_allSet_1 : decode b_Things_allSet 1 = .ok (.istore_n 1, 1) := by decide +kernel
theorem d_Things_allSet_2 : decode b_Things_allSet 2 = .ok (.iconst 0, 1) := by decide +kernel
theorem d_Things_allSet_3 : decode b_Things_allSet 3 = .ok (.istore_n 2, 1) := by decide +kernel
theorem d_Things_allSet_4 : decode b_Things_allSet 4 = .ok (.iload_n 2, 1) := by decide +kernel
theorem d_Things_allSet_5 : decode b_Things_allSet 5 = .ok (.aload_n 0, 1) := by decide +kernel
theorem d_Things_allSet_6 : decode b_Things_allSet 6 = .ok (.getfield 33, 3) := by decide +kernel
theorem d_Things_allSet_9 : decode b_Things_allSet 9 = .ok (.if_icmp .ge 15, 3) := by decide +kernel
theorem d_Things_allSet_12 : decode b_Things_allSet 12 = .ok (.iload_n 1, 1) := by decide +kernel
theorem d_Things_allSet_13 : decode b_Things_allSet 13 = .ok (.iconst 1, 1) := by decide +kernel
theorem d_Things_allSet_14 : decode b_Things_allSet 14 = .ok (.iload_n 2, 1) := by decide +kernel
theorem d_Things_allSet_15 : decode b_Things_allSet 15 = .ok (.ishl, 1) := by decide +kernel
theorem d_Things_allSet_16 : decode b_Things_allSet 16 = .ok (.ior, 1) := by decide +kernel
theorem d_Things_allSet_17 : decode b_Things_allSet 17 = .ok (.istore_n 1, 1) := by decide +kernel
theorem d_Things_allSet_18 : decode b_Things_allSet 18 = .ok (.iinc 2 1, 3) := by decide +kernel
theorem d_Things_allSet_21 : decode b_Things_allSet 21 = .ok (.goto (-17), 3) := by decide +kernel
theorem d_Things_allSet_24 : decode b_Things_allSet 24 = .ok (.iload_n 1, 1) := by decide +kernel
theorem d_Things_allSet_25 : decode b_Things_allSet 25 = .ok (.ireturn, 1) := by decide +kernel
theorem d_Things_placedSet_0 : decode b_Things_placedSet 0 = .ok (.iconst 0, 1) := by decide +kernel
theorem d_Things_placedSet_1 : decode b_Things_placedSet 1 = .ok (.istore_n 2, 1) := by decide +kernel
theorem d_Things_placedSet_2 : decode b_Things_placedSet 2 = .ok (.iconst 0, 1) := by decide +kernel
theorem d_Things_placedSet_3 : decode b_Things_placedSet 3 = .ok (.istore_n 3, 1) := by decide +kernel
theorem d_Things_placedSet_4 : decode b_Things_placedSet 4 = .ok (.iload_n 3, 1) := by decide +kernel
theorem d_Things_placedSet_5 : decode b_Things_placedSet 5 = .ok (.aload_n 0, 1) := by decide +kernel
theorem d_Things_placedSet_6 : decode b_Things_placedSet 6 = .ok (.getfield 33, 3) := by decide +kernel
theorem d_Things_placedSet_9 : decode b_Things_placedSet 9 = .ok (.if_icmp .ge 31, 3) := by decide +kernel
theorem d_Things_placedSet_12 : decode b_Things_placedSet 12 = .ok (.iload_n 3, 1) := by decide +kernel
theorem d_Things_placedSet_13 : decode b_Things_placedSet 13 = .ok (.bipush 32, 2) := by decide +kernel
theorem d_Things_placedSet_15 : decode b_Things_placedSet 15 = .ok (.if_icmp .ge 25, 3) := by decide +kernel
theorem d_Things_placedSet_18 : decode b_Things_placedSet 18 = .ok (.aload_n 0, 1) := by decide +kernel
theorem d_Things_placedSet_19 : decode b_Things_placedSet 19 = .ok (.getfield 21, 3) := by decide +kernel
theorem d_Things_placedSet_22 : decode b_Things_placedSet 22 = .ok (.iload_n 3, 1) := by decide +kernel
theorem d_Things_placedSet_23 : decode b_Things_placedSet 23 = .ok (.iaload, 1) := by decide +kernel
theorem d_Things_placedSet_24 : decode b_Things_placedSet 24 = .ok (.iload_n 1, 1) := by decide +kernel
theorem d_Things_placedSet_25 : decode b_Things_placedSet 25 = .ok (.if_icmp .ne 9, 3) := by decide +kernel
theorem d_Things_placedSet_28 : decode b_Things_placedSet 28 = .ok (.iload_n 2, 1) := by decide +kernel
theorem d_Things_placedSet_29 : decode b_Things_placedSet 29 = .ok (.iconst 1, 1) := by decide +kernel
theorem d_Things_placedSet_30 : decode b_Things_placedSet 30 = .ok (.iload_n 3, 1) := by decide +kernel
theorem d_Things_placedSet_31 : decode b_Things_placedSet 31 = .ok (.ishl, 1) := by decide +kernel
theorem d_Things_placedSet_32 : decode b_Things_placedSet 32 = .ok (.ior, 1) := by decide +kernel
theorem d_Things_placedSet_33 : decode b_Things_placedSet 33 = .ok (.istore_n 2, 1) := by decide +kernel
theorem d_Things_placedSet_34 : decode b_Things_placedSet 34 = .ok (.iinc 3 1, 3) := by decide +kernel
theorem d_Things_placedSet_37 : decode b_Things_placedSet 37 = .ok (.goto (-33), 3) := by decide +kernel
theorem d_Things_placedSet_40 : decode b_Things_placedSet 40 = .ok (.iload_n 2, 1) := by decide +kernel
theorem d_Things_placedSet_41 : decode b_Things_placedSet 41 = .ok (.ireturn, 1) := by decide +kernel
theorem d_Things_thereSet_0 : decode b_Things_thereSet 0 = .ok (.aload_n 0, 1) := by decide +kernel
theorem d_Things_thereSet_1 : decode b_Things_thereSet 1 = .ok (.iconst 1, 1) := by decide +kernel
theorem d_Things_thereSet_2 : decode b_Things_thereSet 2 = .ok (.invokevirtual 56, 3) := by decide +kernel
theorem d_Things_thereSet_5 : decode b_Things_thereSet 5 = .ok (.aload_n 0, 1) := by decide +kernel
theorem d_Things_thereSet_6 : decode b_Things_thereSet 6 = .ok (.iconst 2, 1) := by decide +kernel
theorem d_Things_thereSet_7 : decode b_Things_thereSet 7 = .ok (.invokevirtual 56, 3) := by decide +kernel
theorem d_Things_thereSet_10 : decode b_Things_thereSet 10 = .ok (.ior, 1) := by decide +kernel
theorem d_Things_thereSet_11 : decode b_Things_thereSet 11 = .ok (.ireturn, 1) := by decide +kernel
theorem d_Things_hasWords_0 : decode b_Things_hasWords 0 = .ok (.aload_n 0, 1) := by decide +kernel
theorem d_Things_hasWords_1 : decode b_Things_hasWords 1 = .ok (.iload_n 1, 1) := by decide +kernel
theorem d_Things_hasWords_2 : decode b_Things_hasWords 2 = .ok (.invokevirtual 43, 3) := by decide +kernel
theorem d_Things_hasWords_5 : decode b_Things_hasWords 5 = .ok (.ifCond .eq 27, 3) := by decide +kernel
theorem d_Things_hasWords_8 : decode b_Things_hasWords 8 = .ok (.iload_n 2, 1) := by decide +kernel
theorem d_Things_hasWords_9 : decode b_Things_hasWords 9 = .ok (.aload_n 0, 1) := by decide +kernel
theorem d_Things_hasWords_10 : decode b_Things_hasWords 10 = .ok (.getfield 9, 3) := by decide +kernel
theorem d_Things_hasWords_13 : decode b_Things_hasWords 13 = .ok (.iload_n 1, 1) := by decide +kernel
theorem d_Things_hasWords_14 : decode b_Things_hasWords 14 = .ok (.iaload, 1) := by decide +kernel
theorem d_Things_hasWords_15 : decode b_Things_hasWords 15 = .ok (.aload_n 0, 1) := by decide +kernel
theorem d_Things_hasWords_16 : decode b_Things_hasWords 16 = .ok (.getfield 15, 3) := by decide +kernel
theorem d_Things_hasWords_19 : decode b_Things_hasWords 19 = .ok (.iload_n 1, 1) := by decide +kernel
theorem d_Things_hasWords_20 : decode b_Things_hasWords 20 = .ok (.iaload, 1) := by decide +kernel
theorem d_Things_hasWords_21 : decode b_Things_hasWords 21 = .ok (.ior, 1) := by decide +kernel
theorem d_Things_hasWords_22 : decode b_Things_hasWords 22 = .ok (.iconst (-1), 1) := by decide +kernel
theorem d_Things_hasWords_23 : decode b_Things_hasWords 23 = .ok (.ixor, 1) := by decide +kernel
theorem d_Things_hasWords_24 : decode b_Things_hasWords 24 = .ok (.iand, 1) := by decide +kernel
theorem d_Things_hasWords_25 : decode b_Things_hasWords 25 = .ok (.ifCond .ne 7, 3) := by decide +kernel
theorem d_Things_hasWords_28 : decode b_Things_hasWords 28 = .ok (.iconst 1, 1) := by decide +kernel
theorem d_Things_hasWords_29 : decode b_Things_hasWords 29 = .ok (.goto 4, 3) := by decide +kernel
theorem d_Things_hasWords_32 : decode b_Things_hasWords 32 = .ok (.iconst 0, 1) := by decide +kernel
theorem d_Things_hasWords_33 : decode b_Things_hasWords 33 = .ok (.ireturn, 1) := by decide +kernel
theorem d_Things_fitByWords_0 : decode b_Things_fitByWords 0 = .ok (.aload_n 0, 1) := by decide +kernel
theorem d_Things_fitByWords_1 : decode b_Things_fitByWords 1 = .ok (.iload_n 1, 1) := by decide +kernel
theorem d_Things_fitByWords_2 : decode b_Things_fitByWords 2 = .ok (.invokevirtual 43, 3) := by decide +kernel
theorem d_Things_fitByWords_5 : decode b_Things_fitByWords 5 = .ok (.ifCond .eq 30, 3) := by decide +kernel
theorem d_Things_fitByWords_8 : decode b_Things_fitByWords 8 = .ok (.iload_n 3, 1) := by decide +kernel
theorem d_Things_fitByWords_9 : decode b_Things_fitByWords 9 = .ok (.invokestatic 47, 3) := by decide +kernel
theorem d_Things_fitByWords_12 : decode b_Things_fitByWords 12 = .ok (.ifCond .eq 23, 3) := by decide +kernel
theorem d_Things_fitByWords_15 : decode b_Things_fitByWords 15 = .ok (.iload_n 2, 1) := by decide +kernel
theorem d_Things_fitByWords_16 : decode b_Things_fitByWords 16 = .ok (.aload_n 0, 1) := by decide +kernel
theorem d_Things_fitByWords_17 : decode b_Things_fitByWords 17 = .ok (.getfield 9, 3) := by decide +kernel
theorem d_Things_fitByWords_20 : decode b_Things_fitByWords 20 = .ok (.iload_n 1, 1) := by decide +kernel
theorem d_Things_fitByWords_21 : decode b_Things_fitByWords 21 = .ok (.iaload, 1) := by decide +kernel
theorem d_Things_fitByWords_22 : decode b_Things_fitByWords 22 = .ok (.aload_n 0, 1) := by decide +kernel
theorem d_Things_fitByWords_23 : decode b_Things_fitByWords 23 = .ok (.getfield 15, 3) := by decide +kernel
theorem d_Things_fitByWords_26 : decode b_Things_fitByWords 26 = .ok (.iload_n 1, 1) := by decide +kernel
theorem d_Things_fitByWords_27 : decode b_Things_fitByWords 27 = .ok (.iaload, 1) := by decide +kernel
theorem d_Things_fitByWords_28 : decode b_Things_fitByWords 28 = .ok (.ior, 1) := by decide +kernel
theorem d_Things_fitByWords_29 : decode b_Things_fitByWords 29 = .ok (.iconst (-1), 1) := by decide +kernel
theorem d_Things_fitByWords_30 : decode b_Things_fitByWords 30 = .ok (.ixor, 1) := by decide +kernel
theorem d_Things_fitByWords_31 : decode b_Things_fitByWords 31 = .ok (.iand, 1) := by decide +kernel
theorem d_Things_fitByWords_32 : decode b_Things_fitByWords 32 = .ok (.ifCond .eq 5, 3) := by decide +kernel
theorem d_Things_fitByWords_35 : decode b_Things_fitByWords 35 = .ok (.iconst 0, 1) := by decide +kernel
theorem d_Things_fitByWords_36 : decode b_Things_fitByWords 36 = .ok (.ireturn, 1) := by decide +kernel
theorem d_Things_fitByWords_37 : decode b_Things_fitByWords 37 = .ok (.aload_n 0, 1) := by decide +kernel
theorem d_Things_fitByWords_38 : decode b_Things_fitByWords 38 = .ok (.getfield 18, 3) := by decide +kernel
theorem d_Things_fitByWords_41 : decode b_Things_fitByWords 41 = .ok (.iload_n 1, 1) := by decide +kernel
theorem d_Things_fitByWords_42 : decode b_Things_fitByWords 42 = .ok (.iaload, 1) := by decide +kernel
theorem d_Things_fitByWords_43 : decode b_Things_fitByWords 43 = .ok (.istore 4, 2) := by decide +kernel
theorem d_Things_fitByWords_45 : decode b_Things_fitByWords 45 = .ok (.aload_n 0, 1) := by decide +kernel
theorem d_Things_fitByWords_46 : decode b_Things_fitByWords 46 = .ok (.getfield 9, 3) := by decide +kernel
theorem d_Things_fitByWords_49 : decode b_Things_fitByWords 49 = .ok (.iload_n 1, 1) := by decide +kernel
theorem d_Things_fitByWords_50 : decode b_Things_fitByWords 50 = .ok (.iaload, 1) := by decide +kernel
theorem d_Things_fitByWords_51 : decode b_Things_fitByWords 51 = .ok (.iload_n 3, 1) := by decide +kernel
theorem d_Things_fitByWords_52 : decode b_Things_fitByWords 52 = .ok (.iushr, 1) := by decide +kernel
theorem d_Things_fitByWords_53 : decode b_Things_fitByWords 53 = .ok (.iconst 1, 1) := by decide +kernel
theorem d_Things_fitByWords_54 : decode b_Things_fitByWords 54 = .ok (.iand, 1) := by decide +kernel
theorem d_Things_fitByWords_55 : decode b_Things_fitByWords 55 = .ok (.ifCond .eq 7, 3) := by decide +kernel
theorem d_Things_fitByWords_58 : decode b_Things_fitByWords 58 = .ok (.iconst 1, 1) := by decide +kernel
theorem d_Things_fitByWords_59 : decode b_Things_fitByWords 59 = .ok (.goto 4, 3) := by decide +kernel
theorem d_Things_fitByWords_62 : decode b_Things_fitByWords 62 = .ok (.iconst 0, 1) := by decide +kernel
theorem d_Things_fitByWords_63 : decode b_Things_fitByWords 63 = .ok (.istore 5, 2) := by decide +kernel
theorem d_Things_fitByWords_65 : decode b_Things_fitByWords 65 = .ok (.iload 4, 2) := by decide +kernel
theorem d_Things_fitByWords_67 : decode b_Things_fitByWords 67 = .ok (.invokestatic 50, 3) := by decide +kernel
theorem d_Things_fitByWords_70 : decode b_Things_fitByWords 70 = .ok (.ifCond .eq 18, 3) := by decide +kernel
theorem d_Things_fitByWords_73 : decode b_Things_fitByWords 73 = .ok (.aload_n 0, 1) := by decide +kernel
theorem d_Things_fitByWords_74 : decode b_Things_fitByWords 74 = .ok (.getfield 27, 3) := by decide +kernel
theorem d_Things_fitByWords_77 : decode b_Things_fitByWords 77 = .ok (.iload 4, 2) := by decide +kernel
theorem d_Things_fitByWords_79 : decode b_Things_fitByWords 79 = .ok (.iaload, 1) := by decide +kernel
theorem d_Things_fitByWords_80 : decode b_Things_fitByWords 80 = .ok (.iload_n 3, 1) := by decide +kernel
theorem d_Things_fitByWords_81 : decode b_Things_fitByWords 81 = .ok (.if_icmp .ne 7, 3) := by decide +kernel
theorem d_Things_fitByWords_84 : decode b_Things_fitByWords 84 = .ok (.iconst 2, 1) := by decide +kernel
theorem d_Things_fitByWords_85 : decode b_Things_fitByWords 85 = .ok (.goto 4, 3) := by decide +kernel
theorem d_Things_fitByWords_88 : decode b_Things_fitByWords 88 = .ok (.iconst 0, 1) := by decide +kernel
theorem d_Things_fitByWords_89 : decode b_Things_fitByWords 89 = .ok (.istore 6, 2) := by decide +kernel
theorem d_Things_fitByWords_91 : decode b_Things_fitByWords 91 = .ok (.iload 5, 2) := by decide +kernel
theorem d_Things_fitByWords_93 : decode b_Things_fitByWords 93 = .ok (.iload 6, 2) := by decide +kernel
theorem d_Things_fitByWords_95 : decode b_Things_fitByWords 95 = .ok (.ior, 1) := by decide +kernel
theorem d_Things_fitByWords_96 : decode b_Things_fitByWords 96 = .ok (.ireturn, 1) := by decide +kernel
theorem d_Picks_clear_0 : decode b_Picks_clear 0 = .ok (.aload_n 0, 1) := by decide +kernel
theorem d_Picks_clear_1 : decode b_Picks_clear 1 = .ok (.iconst 0, 1) := by decide +kernel
theorem d_Picks_clear_2 : decode b_Picks_clear 2 = .ok (.putfield 15, 3) := by decide +kernel
theorem d_Picks_clear_5 : decode b_Picks_clear 5 = .ok (.aload_n 0, 1) := by decide +kernel
theorem d_Picks_clear_6 : decode b_Picks_clear 6 = .ok (.iconst 0, 1) := by decide +kernel
theorem d_Picks_clear_7 : decode b_Picks_clear 7 = .ok (.putfield 19, 3) := by decide +kernel
theorem d_Picks_clear_10 : decode b_Picks_clear 10 = .ok (.return_, 1) := by decide +kernel
theorem d_Picks_add_0 : decode b_Picks_add 0 = .ok (.iconst 0, 1) := by decide +kernel
theorem d_Picks_add_1 : decode b_Picks_add 1 = .ok (.istore_n 2, 1) := by decide +kernel
theorem d_Picks_add_2 : decode b_Picks_add 2 = .ok (.iload_n 2, 1) := by decide +kernel
theorem d_Picks_add_3 : decode b_Picks_add 3 = .ok (.bipush 32, 2) := by decide +kernel
theorem d_Picks_add_5 : decode b_Picks_add 5 = .ok (.if_icmp .ge 69, 3) := by decide +kernel
theorem d_Picks_add_8 : decode b_Picks_add 8 = .ok (.iload_n 1, 1) := by decide +kernel
theorem d_Picks_add_9 : decode b_Picks_add 9 = .ok (.iload_n 2, 1) := by decide +kernel
theorem d_Picks_add_10 : decode b_Picks_add 10 = .ok (.invokestatic 22, 3) := by decide +kernel
theorem d_Picks_add_13 : decode b_Picks_add 13 = .ok (.ifCond .eq 55, 3) := by decide +kernel
theorem d_Picks_add_16 : decode b_Picks_add 16 = .ok (.aload_n 0, 1) := by decide +kernel
theorem d_Picks_add_17 : decode b_Picks_add 17 = .ok (.getfield 19, 3) := by decide +kernel
theorem d_Picks_add_20 : decode b_Picks_add 20 = .ok (.iload_n 2, 1) := by decide +kernel
theorem d_Picks_add_21 : decode b_Picks_add 21 = .ok (.invokestatic 22, 3) := by decide +kernel
theorem d_Picks_add_24 : decode b_Picks_add 24 = .ok (.ifCond .ne 44, 3) := by decide +kernel
theorem d_Picks_add_27 : decode b_Picks_add 27 = .ok (.aload_n 0, 1) := by decide +kernel
theorem d_Picks_add_28 : decode b_Picks_add 28 = .ok (.getfield 15, 3) := by decide +kernel
theorem d_Picks_add_31 : decode b_Picks_add 31 = .ok (.bipush 32, 2) := by decide +kernel
theorem d_Picks_add_33 : decode b_Picks_add 33 = .ok (.if_icmp .ge 35, 3) := by decide +kernel
theorem d_Picks_add_36 : decode b_Picks_add 36 = .ok (.aload_n 0, 1) := by decide +kernel
theorem d_Picks_add_37 : decode b_Picks_add 37 = .ok (.getfield 9, 3) := by decide +kernel
theorem d_Picks_add_40 : decode b_Picks_add 40 = .ok (.aload_n 0, 1) := by decide +kernel
theorem d_Picks_add_41 : decode b_Picks_add 41 = .ok (.getfield 15, 3) := by decide +kernel
theorem d_Picks_add_44 : decode b_Picks_add 44 = .ok (.iload_n 2, 1) := by decide +kernel
theorem d_Picks_add_45 : decode b_Picks_add 45 = .ok (.iastore, 1) := by decide +kernel
theorem d_Picks_add_46 : decode b_Picks_add 46 = .ok (.aload_n 0, 1) := by decide +kernel
theorem d_Picks_add_47 : decode b_Picks_add 47 = .ok (.dup, 1) := by decide +kernel
theorem d_Picks_add_48 : decode b_Picks_add 48 = .ok (.getfield 15, 3) := by decide +kernel
theorem d_Picks_add_51 : decode b_Picks_add 51 = .ok (.iconst 1, 1) := by decide +kernel
theorem d_Picks_add_52 : decode b_Picks_add 52 = .ok (.iadd, 1) := by decide +kernel
theorem d_Picks_add_53 : decode b_Picks_add 53 = .ok (.putfield 15, 3) := by decide +kernel
theorem d_Picks_add_56 : decode b_Picks_add 56 = .ok (.aload_n 0, 1) := by decide +kernel
theorem d_Picks_add_57 : decode b_Picks_add 57 = .ok (.dup, 1) := by decide +kernel
theorem d_Picks_add_58 : decode b_Picks_add 58 = .ok (.getfield 19, 3) := by decide +kernel
theorem d_Picks_add_61 : decode b_Picks_add 61 = .ok (.iconst 1, 1) := by decide +kernel
theorem d_Picks_add_62 : decode b_Picks_add 62 = .ok (.iload_n 2, 1) := by decide +kernel
theorem d_Picks_add_63 : decode b_Picks_add 63 = .ok (.ishl, 1) := by decide +kernel
theorem d_Picks_add_64 : decode b_Picks_add 64 = .ok (.ior, 1) := by decide +kernel
theorem d_Picks_add_65 : decode b_Picks_add 65 = .ok (.putfield 19, 3) := by decide +kernel
theorem d_Picks_add_68 : decode b_Picks_add 68 = .ok (.iinc 2 1, 3) := by decide +kernel
theorem d_Picks_add_71 : decode b_Picks_add 71 = .ok (.goto (-69), 3) := by decide +kernel
theorem d_Picks_add_74 : decode b_Picks_add 74 = .ok (.return_, 1) := by decide +kernel
theorem d_Picks_at_0 : decode b_Picks_at 0 = .ok (.iload_n 1, 1) := by decide +kernel
theorem d_Picks_at_1 : decode b_Picks_at 1 = .ok (.ifCond .lt 29, 3) := by decide +kernel
theorem d_Picks_at_4 : decode b_Picks_at 4 = .ok (.iload_n 1, 1) := by decide +kernel
theorem d_Picks_at_5 : decode b_Picks_at 5 = .ok (.aload_n 0, 1) := by decide +kernel
theorem d_Picks_at_6 : decode b_Picks_at 6 = .ok (.getfield 15, 3) := by decide +kernel
theorem d_Picks_at_9 : decode b_Picks_at 9 = .ok (.if_icmp .ge 21, 3) := by decide +kernel
theorem d_Picks_at_12 : decode b_Picks_at 12 = .ok (.iload_n 1, 1) := by decide +kernel
theorem d_Picks_at_13 : decode b_Picks_at 13 = .ok (.aload_n 0, 1) := by decide +kernel
theorem d_Picks_at_14 : decode b_Picks_at 14 = .ok (.getfield 9, 3) := by decide +kernel
theorem d_Picks_at_17 : decode b_Picks_at 17 = .ok (.arraylength, 1) := by decide +kernel
theorem d_Picks_at_18 : decode b_Picks_at 18 = .ok (.if_icmp .ge 12, 3) := by decide +kernel
theorem d_Picks_at_21 : decode b_Picks_at 21 = .ok (.aload_n 0, 1) := by decide +kernel
theorem d_Picks_at_22 : decode b_Picks_at 22 = .ok (.getfield 9, 3) := by decide +kernel
theorem d_Picks_at_25 : decode b_Picks_at 25 = .ok (.iload_n 1, 1) := by decide +kernel
theorem d_Picks_at_26 : decode b_Picks_at 26 = .ok (.iaload, 1) := by decide +kernel
theorem d_Picks_at_27 : decode b_Picks_at 27 = .ok (.goto 4, 3) := by decide +kernel
theorem d_Picks_at_30 : decode b_Picks_at 30 = .ok (.iconst (-1), 1) := by decide +kernel
theorem d_Picks_at_31 : decode b_Picks_at 31 = .ok (.ireturn, 1) := by decide +kernel
theorem d_Things_init_0 : decode b_Things_init 0 = .ok (.aload_n 0, 1) := by decide +kernel
theorem d_Things_init_1 : decode b_Things_init 1 = .ok (.invokespecial 3, 3) := by decide +kernel
theorem d_Things_init_4 : decode b_Things_init 4 = .ok (.aload_n 0, 1) := by decide +kernel
theorem d_Things_init_5 : decode b_Things_init 5 = .ok (.bipush 32, 2) := by decide +kernel
theorem d_Things_init_7 : decode b_Things_init 7 = .ok (.newarray .int, 2) := by decide +kernel
theorem d_Things_init_9 : decode b_Things_init 9 = .ok (.putfield 9, 3) := by decide +kernel
theorem d_Things_init_12 : decode b_Things_init 12 = .ok (.aload_n 0, 1) := by decide +kernel
theorem d_Things_init_13 : decode b_Things_init 13 = .ok (.bipush 32, 2) := by decide +kernel
theorem d_Things_init_15 : decode b_Things_init 15 = .ok (.newarray .int, 2) := by decide +kernel
theorem d_Things_init_17 : decode b_Things_init 17 = .ok (.putfield 15, 3) := by decide +kernel
theorem d_Things_init_20 : decode b_Things_init 20 = .ok (.aload_n 0, 1) := by decide +kernel
theorem d_Things_init_21 : decode b_Things_init 21 = .ok (.bipush 32, 2) := by decide +kernel
theorem d_Things_init_23 : decode b_Things_init 23 = .ok (.newarray .int, 2) := by decide +kernel
theorem d_Things_init_25 : decode b_Things_init 25 = .ok (.putfield 18, 3) := by decide +kernel
theorem d_Things_init_28 : decode b_Things_init 28 = .ok (.aload_n 0, 1) := by decide +kernel
theorem d_Things_init_29 : decode b_Things_init 29 = .ok (.bipush 32, 2) := by decide +kernel
theorem d_Things_init_31 : decode b_Things_init 31 = .ok (.newarray .int, 2) := by decide +kernel
theorem d_Things_init_33 : decode b_Things_init 33 = .ok (.putfield 21, 3) := by decide +kernel
theorem d_Things_init_36 : decode b_Things_init 36 = .ok (.aload_n 0, 1) := by decide +kernel
theorem d_Things_init_37 : decode b_Things_init 37 = .ok (.sipush 128, 3) := by decide +kernel
theorem d_Things_init_40 : decode b_Things_init 40 = .ok (.newarray .int, 2) := by decide +kernel
theorem d_Things_init_42 : decode b_Things_init 42 = .ok (.putfield 24, 3) := by decide +kernel
theorem d_Things_init_45 : decode b_Things_init 45 = .ok (.aload_n 0, 1) := by decide +kernel
theorem d_Things_init_46 : decode b_Things_init 46 = .ok (.bipush 16, 2) := by decide +kernel
theorem d_Things_init_48 : decode b_Things_init 48 = .ok (.newarray .int, 2) := by decide +kernel
theorem d_Things_init_50 : decode b_Things_init 50 = .ok (.putfield 27, 3) := by decide +kernel
theorem d_Things_init_53 : decode b_Things_init 53 = .ok (.aload_n 0, 1) := by decide +kernel
theorem d_Things_init_54 : decode b_Things_init 54 = .ok (.iconst 4, 1) := by decide +kernel
theorem d_Things_init_55 : decode b_Things_init 55 = .ok (.newarray .int, 2) := by decide +kernel
theorem d_Things_init_57 : decode b_Things_init 57 = .ok (.putfield 30, 3) := by decide +kernel
theorem d_Things_init_60 : decode b_Things_init 60 = .ok (.aload_n 0, 1) := by decide +kernel
theorem d_Things_init_61 : decode b_Things_init 61 = .ok (.iconst 0, 1) := by decide +kernel
theorem d_Things_init_62 : decode b_Things_init 62 = .ok (.putfield 33, 3) := by decide +kernel
theorem d_Things_init_65 : decode b_Things_init 65 = .ok (.aload_n 0, 1) := by decide +kernel
theorem d_Things_init_66 : decode b_Things_init 66 = .ok (.getfield 18, 3) := by decide +kernel
theorem d_Things_init_69 : decode b_Things_init 69 = .ok (.iconst (-1), 1) := by decide +kernel
theorem d_Things_init_70 : decode b_Things_init 70 = .ok (.invokestatic 37, 3) := by decide +kernel
theorem d_Things_init_73 : decode b_Things_init 73 = .ok (.aload_n 0, 1) := by decide +kernel
theorem d_Things_init_74 : decode b_Things_init 74 = .ok (.getfield 21, 3) := by decide +kernel
theorem d_Things_init_77 : decode b_Things_init 77 = .ok (.iconst 1, 1) := by decide +kernel
theorem d_Things_init_78 : decode b_Things_init 78 = .ok (.invokestatic 37, 3) := by decide +kernel
theorem d_Things_init_81 : decode b_Things_init 81 = .ok (.aload_n 0, 1) := by decide +kernel
theorem d_Things_init_82 : decode b_Things_init 82 = .ok (.getfield 27, 3) := by decide +kernel
theorem d_Things_init_85 : decode b_Things_init 85 = .ok (.iconst (-1), 1) := by decide +kernel
theorem d_Things_init_86 : decode b_Things_init 86 = .ok (.invokestatic 37, 3) := by decide +kernel
theorem d_Things_init_89 : decode b_Things_init 89 = .ok (.aload_n 0, 1) := by decide +kernel
theorem d_Things_init_90 : decode b_Things_init 90 = .ok (.getfield 30, 3) := by decide +kernel
theorem d_Things_init_93 : decode b_Things_init 93 = .ok (.iconst 1, 1) := by decide +kernel
theorem d_Things_init_94 : decode b_Things_init 94 = .ok (.invokestatic 37, 3) := by decide +kernel
theorem d_Things_init_97 : decode b_Things_init 97 = .ok (.return_, 1) := by decide +kernel
theorem d_Picks_init_0 : decode b_Picks_init 0 = .ok (.aload_n 0, 1) := by decide +kernel
theorem d_Picks_init_1 : decode b_Picks_init 1 = .ok (.invokespecial 3, 3) := by decide +kernel
theorem d_Picks_init_4 : decode b_Picks_init 4 = .ok (.aload_n 0, 1) := by decide +kernel
theorem d_Picks_init_5 : decode b_Picks_init 5 = .ok (.bipush 32, 2) := by decide +kernel
theorem d_Picks_init_7 : decode b_Picks_init 7 = .ok (.newarray .int, 2) := by decide +kernel
theorem d_Picks_init_9 : decode b_Picks_init 9 = .ok (.putfield 9, 3) := by decide +kernel
theorem d_Picks_init_12 : decode b_Picks_init 12 = .ok (.aload_n 0, 1) := by decide +kernel
theorem d_Picks_init_13 : decode b_Picks_init 13 = .ok (.iconst 0, 1) := by decide +kernel
theorem d_Picks_init_14 : decode b_Picks_init 14 = .ok (.putfield 15, 3) := by decide +kernel
theorem d_Picks_init_17 : decode b_Picks_init 17 = .ok (.aload_n 0, 1) := by decide +kernel
theorem d_Picks_init_18 : decode b_Picks_init 18 = .ok (.iconst 0, 1) := by decide +kernel
theorem d_Picks_init_19 : decode b_Picks_init 19 = .ok (.putfield 19, 3) := by decide +kernel
theorem d_Picks_init_22 : decode b_Picks_init 22 = .ok (.return_, 1) := by decide +kernel
end
section
theorem d_Phrase_isPart_0 : decode b_Phrase_isPart 0 = .ok (.iload_n 1, 1) := by decide +kernel
theorem d_Phrase_isPart_1 : decode b_Phrase_isPart 1 = .ok (.ifCond .lt 21, 3) := by decide +kernel
theorem d_Phrase_isPart_4 : decode b_Phrase_isPart 4 = .ok (.iload_n 1, 1) := by decide +kernel
theorem d_Phrase_isPart_5 : decode b_Phrase_isPart 5 = .ok (.aload_n 0, 1) := by decide +kernel
theorem d_Phrase_isPart_6 : decode b_Phrase_isPart 6 = .ok (.getfield 24, 3) := by decide +kernel
theorem d_Phrase_isPart_9 : decode b_Phrase_isPart 9 = .ok (.if_icmp .ge 13, 3) := by decide +kernel
theorem d_Phrase_isPart_12 : decode b_Phrase_isPart 12 = .ok (.iload_n 1, 1) := by decide +kernel
theorem d_Phrase_isPart_13 : decode b_Phrase_isPart 13 = .ok (.bipush 30, 2) := by decide +kernel
theorem d_Phrase_isPart_15 : decode b_Phrase_isPart 15 = .ok (.if_icmp .ge 7, 3) := by decide +kernel
theorem d_Phrase_isPart_18 : decode b_Phrase_isPart 18 = .ok (.iconst 1, 1) := by decide +kernel
theorem d_Phrase_isPart_19 : decode b_Phrase_isPart 19 = .ok (.goto 4, 3) := by decide +kernel
theorem d_Phrase_isPart_22 : decode b_Phrase_isPart 22 = .ok (.iconst 0, 1) := by decide +kernel
theorem d_Phrase_isPart_23 : decode b_Phrase_isPart 23 = .ok (.ireturn, 1) := by decide +kernel
theorem d_Phrase_isOwn_0 : decode b_Phrase_isOwn 0 = .ok (.iload_n 1, 1) := by decide +kernel
theorem d_Phrase_isOwn_1 : decode b_Phrase_isOwn 1 = .ok (.ifCond .lt 21, 3) := by decide +kernel
theorem d_Phrase_isOwn_4 : decode b_Phrase_isOwn 4 = .ok (.iload_n 1, 1) := by decide +kernel
theorem d_Phrase_isOwn_5 : decode b_Phrase_isOwn 5 = .ok (.aload_n 0, 1) := by decide +kernel
theorem d_Phrase_isOwn_6 : decode b_Phrase_isOwn 6 = .ok (.getfield 37, 3) := by decide +kernel
theorem d_Phrase_isOwn_9 : decode b_Phrase_isOwn 9 = .ok (.if_icmp .ge 13, 3) := by decide +kernel
theorem d_Phrase_isOwn_12 : decode b_Phrase_isOwn 12 = .ok (.iload_n 1, 1) := by decide +kernel
theorem d_Phrase_isOwn_13 : decode b_Phrase_isOwn 13 = .ok (.bipush 30, 2) := by decide +kernel
theorem d_Phrase_isOwn_15 : decode b_Phrase_isOwn 15 = .ok (.if_icmp .ge 7, 3) := by decide +kernel
theorem d_Phrase_isOwn_18 : decode b_Phrase_isOwn 18 = .ok (.iconst 1, 1) := by decide +kernel
theorem d_Phrase_isOwn_19 : decode b_Phrase_isOwn 19 = .ok (.goto 4, 3) := by decide +kernel
theorem d_Phrase_isOwn_22 : decode b_Phrase_isOwn 22 = .ok (.iconst 0, 1) := by decide +kernel
theorem d_Phrase_isOwn_23 : decode b_Phrase_isOwn 23 = .ok (.ireturn, 1) := by decide +kernel
theorem d_Phrase_isDescription_0 : decode b_Phrase_isDescription 0 = .ok (.aload_n 0, 1) := by decide +kernel
theorem d_Phrase_isDescription_1 : decode b_Phrase_isDescription 1 = .ok (.getfield 24, 3) := by decide +kernel
theorem d_Phrase_isDescription_4 : decode b_Phrase_isDescription 4 = .ok (.iconst 1, 1) := by decide +kernel
theorem d_Phrase_isDescription_5 : decode b_Phrase_isDescription 5 = .ok (.if_icmp .ne 24, 3) := by decide +kernel
theorem d_Phrase_isDescription_8 : decode b_Phrase_isDescription 8 = .ok (.aload_n 0, 1) := by decide +kernel
theorem d_Phrase_isDescription_9 : decode b_Phrase_isDescription 9 = .ok (.getfield 37, 3) := by decide +kernel
theorem d_Phrase_isDescription_12 : decode b_Phrase_isDescription 12 = .ok (.iconst 1, 1) := by decide +kernel
theorem d_Phrase_isDescription_13 : decode b_Phrase_isDescription 13 = .ok (.if_icmp .ne 16, 3) := by decide +kernel
theorem d_Phrase_isDescription_16 : decode b_Phrase_isDescription 16 = .ok (.aload_n 0, 1) := by decide +kernel
theorem d_Phrase_isDescription_17 : decode b_Phrase_isDescription 17 = .ok (.getfield 9, 3) := by decide +kernel
theorem d_Phrase_isDescription_20 : decode b_Phrase_isDescription 20 = .ok (.iconst 0, 1) := by decide +kernel
theorem d_Phrase_isDescription_21 : decode b_Phrase_isDescription 21 = .ok (.iaload, 1) := by decide +kernel
theorem d_Phrase_isDescription_22 : decode b_Phrase_isDescription 22 = .ok (.ifCond .ne 7, 3) := by decide +kernel
theorem d_Phrase_isDescription_25 : decode b_Phrase_isDescription 25 = .ok (.iconst 1, 1) := by decide +kernel
theorem d_Phrase_isDescription_26 : decode b_Phrase_isDescription 26 = .ok (.goto 4, 3) := by decide +kernel
theorem d_Phrase_isDescription_29 : decode b_Phrase_isDescription 29 = .ok (.iconst 0, 1) := by decide +kernel
theorem d_Phrase_isDescription_30 : decode b_Phrase_isDescription 30 = .ok (.ireturn, 1) := by decide +kernel
theorem d_Phrase_mayEnd_0 : decode b_Phrase_mayEnd 0 = .ok (.aload_n 0, 1) := by decide +kernel
theorem d_Phrase_mayEnd_1 : decode b_Phrase_mayEnd 1 = .ok (.getfield 40, 3) := by decide +kernel
theorem d_Phrase_mayEnd_4 : decode b_Phrase_mayEnd 4 = .ok (.iconst 1, 1) := by decide +kernel
theorem d_Phrase_mayEnd_5 : decode b_Phrase_mayEnd 5 = .ok (.if_icmp .eq 11, 3) := by decide +kernel
theorem d_Phrase_mayEnd_8 : decode b_Phrase_mayEnd 8 = .ok (.aload_n 0, 1) := by decide +kernel
theorem d_Phrase_mayEnd_9 : decode b_Phrase_mayEnd 9 = .ok (.getfield 40, 3) := by decide +kernel
theorem d_Phrase_mayEnd_12 : decode b_Phrase_mayEnd 12 = .ok (.iconst 4, 1) := by decide +kernel
theorem d_Phrase_mayEnd_13 : decode b_Phrase_mayEnd 13 = .ok (.if_icmp .ne 7, 3) := by decide +kernel
theorem d_Phrase_mayEnd_16 : decode b_Phrase_mayEnd 16 = .ok (.iconst 1, 1) := by decide +kernel
theorem d_Phrase_mayEnd_17 : decode b_Phrase_mayEnd 17 = .ok (.goto 4, 3) := by decide +kernel
theorem d_Phrase_mayEnd_20 : decode b_Phrase_mayEnd 20 = .ok (.iconst 0, 1) := by decide +kernel
theorem d_Phrase_mayEnd_21 : decode b_Phrase_mayEnd 21 = .ok (.ireturn, 1) := by decide +kernel
theorem d_Phrase_amountOf_0 : decode b_Phrase_amountOf 0 = .ok (.aload_n 0, 1) := by decide +kernel
theorem d_Phrase_amountOf_1 : decode b_Phrase_amountOf 1 = .ok (.iload_n 1, 1) := by decide +kernel
theorem d_Phrase_amountOf_2 : decode b_Phrase_amountOf 2 = .ok (.invokevirtual 54, 3) := by decide +kernel
theorem d_Phrase_amountOf_5 : decode b_Phrase_amountOf 5 = .ok (.ifCond .eq 12, 3) := by decide +kernel
theorem d_Phrase_amountOf_8 : decode b_Phrase_amountOf 8 = .ok (.aload_n 0, 1) := by decide +kernel
theorem d_Phrase_amountOf_9 : decode b_Phrase_amountOf 9 = .ok (.getfield 9, 3) := by decide +kernel
theorem d_Phrase_amountOf_12 : decode b_Phrase_amountOf 12 = .ok (.iload_n 1, 1) := by decide +kernel
theorem d_Phrase_amountOf_13 : decode b_Phrase_amountOf 13 = .ok (.iaload, 1) := by decide +kernel
theorem d_Phrase_amountOf_14 : decode b_Phrase_amountOf 14 = .ok (.goto 4, 3) := by decide +kernel
theorem d_Phrase_amountOf_17 : decode b_Phrase_amountOf 17 = .ok (.iconst 0, 1) := by decide +kernel
theorem d_Phrase_amountOf_18 : decode b_Phrase_amountOf 18 = .ok (.ireturn, 1) := by decide +kernel
theorem d_Phrase_mainOf_0 : decode b_Phrase_mainOf 0 = .ok (.aload_n 0, 1) := by decide +kernel
theorem d_Phrase_mainOf_1 : decode b_Phrase_mainOf 1 = .ok (.iload_n 1, 1) := by decide +kernel
theorem d_Phrase_mainOf_2 : decode b_Phrase_mainOf 2 = .ok (.invokevirtual 54, 3) := by decide +kernel
theorem d_Phrase_mainOf_5 : decode b_Phrase_mainOf 5 = .ok (.ifCond .eq 12, 3) := by decide +kernel
theorem d_Phrase_mainOf_8 : decode b_Phrase_mainOf 8 = .ok (.aload_n 0, 1) := by decide +kernel
theorem d_Phrase_mainOf_9 : decode b_Phrase_mainOf 9 = .ok (.getfield 15, 3) := by decide +kernel
theorem d_Phrase_mainOf_12 : decode b_Phrase_mainOf 12 = .ok (.iload_n 1, 1) := by decide +kernel
theorem d_Phrase_mainOf_13 : decode b_Phrase_mainOf 13 = .ok (.iaload, 1) := by decide +kernel
theorem d_Phrase_mainOf_14 : decode b_Phrase_mainOf 14 = .ok (.goto 4, 3) := by decide +kernel
theorem d_Phrase_mainOf_17 : decode b_Phrase_mainOf 17 = .ok (.iconst (-1), 1) := by decide +kernel
theorem d_Phrase_mainOf_18 : decode b_Phrase_mainOf 18 = .ok (.ireturn, 1) := by decide +kernel
theorem d_Phrase_exceptsStart_0 : decode b_Phrase_exceptsStart 0 = .ok (.aload_n 0, 1) := by decide +kernel
theorem d_Phrase_exceptsStart_1 : decode b_Phrase_exceptsStart 1 = .ok (.iload_n 1, 1) := by decide +kernel
theorem d_Phrase_exceptsStart_2 : decode b_Phrase_exceptsStart 2 = .ok (.invokevirtual 54, 3) := by decide +kernel
theorem d_Phrase_exceptsStart_5 : decode b_Phrase_exceptsStart 5 = .ok (.ifCond .eq 12, 3) := by decide +kernel
theorem d_Phrase_exceptsStart_8 : decode b_Phrase_exceptsStart 8 = .ok (.aload_n 0, 1) := by decide +kernel
theorem d_Phrase_exceptsStart_9 : decode b_Phrase_exceptsStart 9 = .ok (.getfield 18, 3) := by decide +kernel
theorem d_Phrase_exceptsStart_12 : decode b_Phrase_exceptsStart 12 = .ok (.iload_n 1, 1) := by decide +kernel
theorem d_Phrase_exceptsStart_13 : decode b_Phrase_exceptsStart 13 = .ok (.iaload, 1) := by decide +kernel
theorem d_Phrase_exceptsStart_14 : decode b_Phrase_exceptsStart 14 = .ok (.goto 4, 3) := by decide +kernel
theorem d_Phrase_exceptsStart_17 : decode b_Phrase_exceptsStart 17 = .ok (.iconst 0, 1) := by decide +kernel
theorem d_Phrase_exceptsStart_18 : decode b_Phrase_exceptsStart 18 = .ok (.ireturn, 1) := by decide +kernel
theorem d_Phrase_exceptsEnd_0 : decode b_Phrase_exceptsEnd 0 = .ok (.aload_n 0, 1) := by decide +kernel
theorem d_Phrase_exceptsEnd_1 : decode b_Phrase_exceptsEnd 1 = .ok (.iload_n 1, 1) := by decide +kernel
theorem d_Phrase_exceptsEnd_2 : decode b_Phrase_exceptsEnd 2 = .ok (.invokevirtual 54, 3) := by decide +kernel
theorem d_Phrase_exceptsEnd_5 : decode b_Phrase_exceptsEnd 5 = .ok (.ifCond .eq 12, 3) := by decide +kernel
theorem d_Phrase_exceptsEnd_8 : decode b_Phrase_exceptsEnd 8 = .ok (.aload_n 0, 1) := by decide +kernel
theorem d_Phrase_exceptsEnd_9 : decode b_Phrase_exceptsEnd 9 = .ok (.getfield 21, 3) := by decide +kernel
theorem d_Phrase_exceptsEnd_12 : decode b_Phrase_exceptsEnd 12 = .ok (.iload_n 1, 1) := by decide +kernel
theorem d_Phrase_exceptsEnd_13 : decode b_Phrase_exceptsEnd 13 = .ok (.iaload, 1) := by decide +kernel
theorem d_Phrase_exceptsEnd_14 : decode b_Phrase_exceptsEnd 14 = .ok (.goto 4, 3) := by decide +kernel
theorem d_Phrase_exceptsEnd_17 : decode b_Phrase_exceptsEnd 17 = .ok (.iconst 0, 1) := by decide +kernel
theorem d_Phrase_exceptsEnd_18 : decode b_Phrase_exceptsEnd 18 = .ok (.ireturn, 1) := by decide +kernel
theorem d_Phrase_leadingOf_0 : decode b_Phrase_leadingOf 0 = .ok (.aload_n 0, 1) := by decide +kernel
theorem d_Phrase_leadingOf_1 : decode b_Phrase_leadingOf 1 = .ok (.iload_n 1, 1) := by decide +kernel
theorem d_Phrase_leadingOf_2 : decode b_Phrase_leadingOf 2 = .ok (.invokevirtual 57, 3) := by decide +kernel
theorem d_Phrase_leadingOf_5 : decode b_Phrase_leadingOf 5 = .ok (.ifCond .eq 12, 3) := by decide +kernel
theorem d_Phrase_leadingOf_8 : decode b_Phrase_leadingOf 8 = .ok (.aload_n 0, 1) := by decide +kernel
theorem d_Phrase_leadingOf_9 : decode b_Phrase_leadingOf 9 = .ok (.getfield 31, 3) := by decide +kernel
theorem d_Phrase_leadingOf_12 : decode b_Phrase_leadingOf 12 = .ok (.iload_n 1, 1) := by decide +kernel
theorem d_Phrase_leadingOf_13 : decode b_Phrase_leadingOf 13 = .ok (.iaload, 1) := by decide +kernel
theorem d_Phrase_leadingOf_14 : decode b_Phrase_leadingOf 14 = .ok (.goto 4, 3) := by decide +kernel
theorem d_Phrase_leadingOf_17 : decode b_Phrase_leadingOf 17 = .ok (.iconst 0, 1) := by decide +kernel
theorem d_Phrase_leadingOf_18 : decode b_Phrase_leadingOf 18 = .ok (.ireturn, 1) := by decide +kernel
theorem d_Phrase_lastOf_0 : decode b_Phrase_lastOf 0 = .ok (.aload_n 0, 1) := by decide +kernel
theorem d_Phrase_lastOf_1 : decode b_Phrase_lastOf 1 = .ok (.iload_n 1, 1) := by decide +kernel
theorem d_Phrase_lastOf_2 : decode b_Phrase_lastOf 2 = .ok (.invokevirtual 57, 3) := by decide +kernel
theorem d_Phrase_lastOf_5 : decode b_Phrase_lastOf 5 = .ok (.ifCond .eq 12, 3) := by decide +kernel
theorem d_Phrase_lastOf_8 : decode b_Phrase_lastOf 8 = .ok (.aload_n 0, 1) := by decide +kernel
theorem d_Phrase_lastOf_9 : decode b_Phrase_lastOf 9 = .ok (.getfield 34, 3) := by decide +kernel
theorem d_Phrase_lastOf_12 : decode b_Phrase_lastOf 12 = .ok (.iload_n 1, 1) := by decide +kernel
theorem d_Phrase_lastOf_13 : decode b_Phrase_lastOf 13 = .ok (.iaload, 1) := by decide +kernel
theorem d_Phrase_lastOf_14 : decode b_Phrase_lastOf 14 = .ok (.goto 4, 3) := by decide +kernel
theorem d_Phrase_lastOf_17 : decode b_Phrase_lastOf 17 = .ok (.iconst (-1), 1) := by decide +kernel
theorem d_Phrase_lastOf_18 : decode b_Phrase_lastOf 18 = .ok (.ireturn, 1) := by decide +kernel
theorem d_Phrase_tells_0 : decode b_Phrase_tells 0 = .ok (.aload_n 0, 1) := by decide +kernel
theorem d_Phrase_tells_1 : decode b_Phrase_tells 1 = .ok (.iload_n 1, 1) := by decide +kernel
theorem d_Phrase_tells_2 : decode b_Phrase_tells 2 = .ok (.invokevirtual 57, 3) := by decide +kernel
theorem d_Phrase_tells_5 : decode b_Phrase_tells 5 = .ok (.ifCond .eq 23, 3) := by decide +kernel
theorem d_Phrase_tells_8 : decode b_Phrase_tells 8 = .ok (.aload_n 0, 1) := by decide +kernel
theorem d_Phrase_tells_9 : decode b_Phrase_tells 9 = .ok (.getfield 28, 3) := by decide +kernel
theorem d_Phrase_tells_12 : decode b_Phrase_tells 12 = .ok (.iload_n 1, 1) := by decide +kernel
theorem d_Phrase_tells_13 : decode b_Phrase_tells 13 = .ok (.iaload, 1) := by decide +kernel
theorem d_Phrase_tells_14 : decode b_Phrase_tells 14 = .ok (.iconst 1, 1) := by decide +kernel
theorem d_Phrase_tells_15 : decode b_Phrase_tells 15 = .ok (.iload_n 2, 1) := by decide +kernel
theorem d_Phrase_tells_16 : decode b_Phrase_tells 16 = .ok (.bipush 30, 2) := by decide +kernel
theorem d_Phrase_tells_18 : decode b_Phrase_tells 18 = .ok (.isub, 1) := by decide +kernel
theorem d_Phrase_tells_19 : decode b_Phrase_tells 19 = .ok (.ishl, 1) := by decide +kernel
theorem d_Phrase_tells_20 : decode b_Phrase_tells 20 = .ok (.iand, 1) := by decide +kernel
theorem d_Phrase_tells_21 : decode b_Phrase_tells 21 = .ok (.ifCond .eq 7, 3) := by decide +kernel
theorem d_Phrase_tells_24 : decode b_Phrase_tells 24 = .ok (.iconst 1, 1) := by decide +kernel
theorem d_Phrase_tells_25 : decode b_Phrase_tells 25 = .ok (.goto 4, 3) := by decide +kernel
theorem d_Phrase_tells_28 : decode b_Phrase_tells 28 = .ok (.iconst 0, 1) := by decide +kernel
theorem d_Phrase_tells_29 : decode b_Phrase_tells 29 = .ok (.ireturn, 1) := by decide +kernel
theorem d_Phrase_closePart_0 : decode b_Phrase_closePart 0 = .ok (.aload_n 0, 1) := by decide +kernel
theorem d_Phrase_closePart_1 : decode b_Phrase_closePart 1 = .ok (.iconst 0, 1) := by decide +kernel
theorem d_Phrase_closePart_2 : decode b_Phrase_closePart 2 = .ok (.putfield 40, 3) := by decide +kernel
theorem d_Phrase_closePart_5 : decode b_Phrase_closePart 5 = .ok (.iconst 1, 1) := by decide +kernel
theorem d_Phrase_closePart_6 : decode b_Phrase_closePart 6 = .ok (.ireturn, 1) := by decide +kernel
theorem d_Phrase_openPart_0 : decode b_Phrase_openPart 0 = .ok (.aload_n 0, 1) := by decide +kernel
theorem d_Phrase_openPart_1 : decode b_Phrase_openPart 1 = .ok (.getfield 24, 3) := by decide +kernel
theorem d_Phrase_openPart_4 : decode b_Phrase_openPart 4 = .ok (.bipush 30, 2) := by decide +kernel
theorem d_Phrase_openPart_6 : decode b_Phrase_openPart 6 = .ok (.if_icmp .lt 5, 3) := by decide +kernel
theorem d_Phrase_openPart_9 : decode b_Phrase_openPart 9 = .ok (.iconst 0, 1) := by decide +kernel
theorem d_Phrase_openPart_10 : decode b_Phrase_openPart 10 = .ok (.ireturn, 1) := by decide +kernel
theorem d_Phrase_openPart_11 : decode b_Phrase_openPart 11 = .ok (.aload_n 0, 1) := by decide +kernel
theorem d_Phrase_openPart_12 : decode b_Phrase_openPart 12 = .ok (.getfield 9, 3) := by decide +kernel
theorem d_Phrase_openPart_15 : decode b_Phrase_openPart 15 = .ok (.aload_n 0, 1) := by decide +kernel
theorem d_Phrase_openPart_16 : decode b_Phrase_openPart 16 = .ok (.getfield 24, 3) := by decide +kernel
theorem d_Phrase_openPart_19 : decode b_Phrase_openPart 19 = .ok (.iconst 0, 1) := by decide +kernel
theorem d_Phrase_openPart_20 : decode b_Phrase_openPart 20 = .ok (.iastore, 1) := by decide +kernel
theorem d_Phrase_openPart_21 : decode b_Phrase_openPart 21 = .ok (.aload_n 0, 1) := by decide +kernel
theorem d_Phrase_openPart_22 : decode b_Phrase_openPart 22 = .ok (.getfield 15, 3) := by decide +kernel
theorem d_Phrase_openPart_25 : decode b_Phrase_openPart 25 = .ok (.aload_n 0, 1) := by decide +kernel
theorem d_Phrase_openPart_26 : decode b_Phrase_openPart 26 = .ok (.getfield 24, 3) := by decide +kernel
theorem d_Phrase_openPart_29 : decode b_Phrase_openPart 29 = .ok (.iconst (-1), 1) := by decide +kernel
theorem d_Phrase_openPart_30 : decode b_Phrase_openPart 30 = .ok (.iastore, 1) := by decide +kernel
theorem d_Phrase_openPart_31 : decode b_Phrase_openPart 31 = .ok (.aload_n 0, 1) := by decide +kernel
theorem d_Phrase_openPart_32 : decode b_Phrase_openPart 32 = .ok (.getfield 18, 3) := by decide +kernel
theorem d_Phrase_openPart_35 : decode b_Phrase_openPart 35 = .ok (.aload_n 0, 1) := by decide +kernel
theorem d_Phrase_openPart_36 : decode b_Phrase_openPart 36 = .ok (.getfield 24, 3) := by decide +kernel
theorem d_Phrase_openPart_39 : decode b_Phrase_openPart 39 = .ok (.aload_n 0, 1) := by decide +kernel
theorem d_Phrase_openPart_40 : decode b_Phrase_openPart 40 = .ok (.getfield 37, 3) := by decide +kernel
theorem d_Phrase_openPart_43 : decode b_Phrase_openPart 43 = .ok (.iastore, 1) := by decide +kernel
theorem d_Phrase_openPart_44 : decode b_Phrase_openPart 44 = .ok (.aload_n 0, 1) := by decide +kernel
theorem d_Phrase_openPart_45 : decode b_Phrase_openPart 45 = .ok (.getfield 21, 3) := by decide +kernel
theorem d_Phrase_openPart_48 : decode b_Phrase_openPart 48 = .ok (.aload_n 0, 1) := by decide +kernel
theorem d_Phrase_openPart_49 : decode b_Phrase_openPart 49 = .ok (.getfield 24, 3) := by decide +kernel
theorem d_Phrase_openPart_52 : decode b_Phrase_openPart 52 = .ok (.aload_n 0, 1) := by decide +kernel
theorem d_Phrase_openPart_53 : decode b_Phrase_openPart 53 = .ok (.getfield 37, 3) := by decide +kernel
theorem d_Phrase_openPart_56 : decode b_Phrase_openPart 56 = .ok (.iastore, 1) := by decide +kernel
theorem d_Phrase_openPart_57 : decode b_Phrase_openPart 57 = .ok (.aload_n 0, 1) := by decide +kernel
theorem d_Phrase_openPart_58 : decode b_Phrase_openPart 58 = .ok (.dup, 1) := by decide +kernel
theorem d_Phrase_openPart_59 : decode b_Phrase_openPart 59 = .ok (.getfield 24, 3) := by decide +kernel
theorem d_Phrase_openPart_62 : decode b_Phrase_openPart 62 = .ok (.iconst 1, 1) := by decide +kernel
theorem d_Phrase_openPart_63 : decode b_Phrase_openPart 63 = .ok (.iadd, 1) := by decide +kernel
theorem d_Phrase_openPart_64 : decode b_Phrase_openPart 64 = .ok (.putfield 24, 3) := by decide +kernel
theorem d_Phrase_openPart_67 : decode b_Phrase_openPart 67 = .ok (.iconst 1, 1) := by decide +kernel
theorem d_Phrase_openPart_68 : decode b_Phrase_openPart 68 = .ok (.ireturn, 1) := by decide +kernel
theorem d_Phrase_setAmount_0 : decode b_Phrase_setAmount 0 = .ok (.aload_n 0, 1) := by decide +kernel
theorem d_Phrase_setAmount_1 : decode b_Phrase_setAmount 1 = .ok (.getfield 24, 3) := by decide +kernel
theorem d_Phrase_setAmount_4 : decode b_Phrase_setAmount 4 = .ok (.iconst 1, 1) := by decide +kernel
theorem d_Phrase_setAmount_5 : decode b_Phrase_setAmount 5 = .ok (.isub, 1) := by decide +kernel
theorem d_Phrase_setAmount_6 : decode b_Phrase_setAmount 6 = .ok (.istore_n 3, 1) := by decide +kernel
theorem d_Phrase_setAmount_7 : decode b_Phrase_setAmount 7 = .ok (.aload_n 0, 1) := by decide +kernel
theorem d_Phrase_setAmount_8 : decode b_Phrase_setAmount 8 = .ok (.iload_n 3, 1) := by decide +kernel
theorem d_Phrase_setAmount_9 : decode b_Phrase_setAmount 9 = .ok (.invokevirtual 54, 3) := by decide +kernel
theorem d_Phrase_setAmount_12 : decode b_Phrase_setAmount 12 = .ok (.ifCond .ne 5, 3) := by decide +kernel
theorem d_Phrase_setAmount_15 : decode b_Phrase_setAmount 15 = .ok (.iconst 0, 1) := by decide +kernel
theorem d_Phrase_setAmount_16 : decode b_Phrase_setAmount 16 = .ok (.ireturn, 1) := by decide +kernel
theorem d_Phrase_setAmount_17 : decode b_Phrase_setAmount 17 = .ok (.aload_n 0, 1) := by decide +kernel
theorem d_Phrase_setAmount_18 : decode b_Phrase_setAmount 18 = .ok (.getfield 9, 3) := by decide +kernel
theorem d_Phrase_setAmount_21 : decode b_Phrase_setAmount 21 = .ok (.iload_n 3, 1) := by decide +kernel
theorem d_Phrase_setAmount_22 : decode b_Phrase_setAmount 22 = .ok (.iload_n 1, 1) := by decide +kernel
theorem d_Phrase_setAmount_23 : decode b_Phrase_setAmount 23 = .ok (.iastore, 1) := by decide +kernel
theorem d_Phrase_setAmount_24 : decode b_Phrase_setAmount 24 = .ok (.aload_n 0, 1) := by decide +kernel
theorem d_Phrase_setAmount_25 : decode b_Phrase_setAmount 25 = .ok (.iload_n 2, 1) := by decide +kernel
theorem d_Phrase_setAmount_26 : decode b_Phrase_setAmount 26 = .ok (.putfield 40, 3) := by decide +kernel
theorem d_Phrase_setAmount_29 : decode b_Phrase_setAmount 29 = .ok (.iconst 1, 1) := by decide +kernel
theorem d_Phrase_setAmount_30 : decode b_Phrase_setAmount 30 = .ok (.ireturn, 1) := by decide +kernel
theorem d_Phrase_openDescription_0 : decode b_Phrase_openDescription 0 = .ok (.aload_n 0, 1) := by decide +kernel
theorem d_Phrase_openDescription_1 : decode b_Phrase_openDescription 1 = .ok (.getfield 24, 3) := by decide +kernel
theorem d_Phrase_openDescription_4 : decode b_Phrase_openDescription 4 = .ok (.iconst 1, 1) := by decide +kernel
theorem d_Phrase_openDescription_5 : decode b_Phrase_openDescription 5 = .ok (.isub, 1) := by decide +kernel
theorem d_Phrase_openDescription_6 : decode b_Phrase_openDescription 6 = .ok (.istore_n 1, 1) := by decide +kernel
theorem d_Phrase_openDescription_7 : decode b_Phrase_openDescription 7 = .ok (.aload_n 0, 1) := by decide +kernel
theorem d_Phrase_openDescription_8 : decode b_Phrase_openDescription 8 = .ok (.iload_n 1, 1) := by decide +kernel
theorem d_Phrase_openDescription_9 : decode b_Phrase_openDescription 9 = .ok (.invokevirtual 54, 3) := by decide +kernel
theorem d_Phrase_openDescription_12 : decode b_Phrase_openDescription 12 = .ok (.ifCond .eq 12, 3) := by decide +kernel
theorem d_Phrase_openDescription_15 : decode b_Phrase_openDescription 15 = .ok (.aload_n 0, 1) := by decide +kernel
theorem d_Phrase_openDescription_16 : decode b_Phrase_openDescription 16 = .ok (.getfield 37, 3) := by decide +kernel
theorem d_Phrase_openDescription_19 : decode b_Phrase_openDescription 19 = .ok (.bipush 30, 2) := by decide +kernel
theorem d_Phrase_openDescription_21 : decode b_Phrase_openDescription 21 = .ok (.if_icmp .lt 5, 3) := by decide +kernel
theorem d_Phrase_openDescription_24 : decode b_Phrase_openDescription 24 = .ok (.iconst 0, 1) := by decide +kernel
theorem d_Phrase_openDescription_25 : decode b_Phrase_openDescription 25 = .ok (.ireturn, 1) := by decide +kernel
theorem d_Phrase_openDescription_26 : decode b_Phrase_openDescription 26 = .ok (.aload_n 0, 1) := by decide +kernel
theorem d_Phrase_openDescription_27 : decode b_Phrase_openDescription 27 = .ok (.getfield 28, 3) := by decide +kernel
theorem d_Phrase_openDescription_30 : decode b_Phrase_openDescription 30 = .ok (.aload_n 0, 1) := by decide +kernel
theorem d_Phrase_openDescription_31 : decode b_Phrase_openDescription 31 = .ok (.getfield 37, 3) := by decide +kernel
theorem d_Phrase_openDescription_34 : decode b_Phrase_openDescription 34 = .ok (.iconst 0, 1) := by decide +kernel
theorem d_Phrase_openDescription_35 : decode b_Phrase_openDescription 35 = .ok (.iastore, 1) := by decide +kernel
theorem d_Phrase_openDescription_36 : decode b_Phrase_openDescription 36 = .ok (.aload_n 0, 1) := by decide +kernel
theorem d_Phrase_openDescription_37 : decode b_Phrase_openDescription 37 = .ok (.getfield 31, 3) := by decide +kernel
theorem d_Phrase_openDescription_40 : decode b_Phrase_openDescription 40 = .ok (.aload_n 0, 1) := by decide +kernel
theorem d_Phrase_openDescription_41 : decode b_Phrase_openDescription 41 = .ok (.getfield 37, 3) := by decide +kernel
theorem d_Phrase_openDescription_44 : decode b_Phrase_openDescription 44 = .ok (.iconst 0, 1) := by decide +kernel
theorem d_Phrase_openDescription_45 : decode b_Phrase_openDescription 45 = .ok (.iastore, 1) := by decide +kernel
theorem d_Phrase_openDescription_46 : decode b_Phrase_openDescription 46 = .ok (.aload_n 0, 1) := by decide +kernel
theorem d_Phrase_openDescription_47 : decode b_Phrase_openDescription 47 = .ok (.getfield 34, 3) := by decide +kernel
theorem d_Phrase_openDescription_50 : decode b_Phrase_openDescription 50 = .ok (.aload_n 0, 1) := by decide +kernel
theorem d_Phrase_openDescription_51 : decode b_Phrase_openDescription 51 = .ok (.getfield 37, 3) := by decide +kernel
theorem d_Phrase_openDescription_54 : decode b_Phrase_openDescription 54 = .ok (.iconst (-1), 1) := by decide +kernel
theorem d_Phrase_openDescription_55 : decode b_Phrase_openDescription 55 = .ok (.iastore, 1) := by decide +kernel
theorem d_Phrase_openDescription_56 : decode b_Phrase_openDescription 56 = .ok (.aload_n 0, 1) := by decide +kernel
theorem d_Phrase_openDescription_57 : decode b_Phrase_openDescription 57 = .ok (.iconst 0, 1) := by decide +kernel
theorem d_Phrase_openDescription_58 : decode b_Phrase_openDescription 58 = .ok (.putfield 43, 3) := by decide +kernel
theorem d_Phrase_openDescription_61 : decode b_Phrase_openDescription 61 = .ok (.aload_n 0, 1) := by decide +kernel
theorem d_Phrase_openDescription_62 : decode b_Phrase_openDescription 62 = .ok (.dup, 1) := by decide +kernel
theorem d_Phrase_openDescription_63 : decode b_Phrase_openDescription 63 = .ok (.getfield 37, 3) := by decide +kernel
theorem d_Phrase_openDescription_66 : decode b_Phrase_openDescription 66 = .ok (.iconst 1, 1) := by decide +kernel
theorem d_Phrase_openDescription_67 : decode b_Phrase_openDescription 67 = .ok (.iadd, 1) := by decide +kernel
theorem d_Phrase_openDescription_68 : decode b_Phrase_openDescription 68 = .ok (.putfield 37, 3) := by decide +kernel
theorem d_Phrase_openDescription_71 : decode b_Phrase_openDescription 71 = .ok (.aload_n 0, 1) := by decide +kernel
theorem d_Phrase_openDescription_72 : decode b_Phrase_openDescription 72 = .ok (.getfield 21, 3) := by decide +kernel
theorem d_Phrase_openDescription_75 : decode b_Phrase_openDescription 75 = .ok (.iload_n 1, 1) := by decide +kernel
theorem d_Phrase_openDescription_76 : decode b_Phrase_openDescription 76 = .ok (.aload_n 0, 1) := by decide +kernel
theorem d_Phrase_openDescription_77 : decode b_Phrase_openDescription 77 = .ok (.getfield 37, 3) := by decide +kernel
theorem d_Phrase_openDescription_80 : decode b_Phrase_openDescription 80 = .ok (.iastore, 1) := by decide +kernel
theorem d_Phrase_openDescription_81 : decode b_Phrase_openDescription 81 = .ok (.aload_n 0, 1) := by decide +kernel
theorem d_Phrase_openDescription_82 : decode b_Phrase_openDescription 82 = .ok (.iconst 3, 1) := by decide +kernel
theorem d_Phrase_openDescription_83 : decode b_Phrase_openDescription 83 = .ok (.putfield 40, 3) := by decide +kernel
theorem d_Phrase_openDescription_86 : decode b_Phrase_openDescription 86 = .ok (.iconst 1, 1) := by decide +kernel
theorem d_Phrase_openDescription_87 : decode b_Phrase_openDescription 87 = .ok (.ireturn, 1) := by decide +kernel
theorem d_Phrase_openMain_0 : decode b_Phrase_openMain 0 = .ok (.aload_n 0, 1) := by decide +kernel
theorem d_Phrase_openMain_1 : decode b_Phrase_openMain 1 = .ok (.getfield 24, 3) := by decide +kernel
theorem d_Phrase_openMain_4 : decode b_Phrase_openMain 4 = .ok (.iconst 1, 1) := by decide +kernel
theorem d_Phrase_openMain_5 : decode b_Phrase_openMain 5 = .ok (.isub, 1) := by decide +kernel
theorem d_Phrase_openMain_6 : decode b_Phrase_openMain 6 = .ok (.istore_n 1, 1) := by decide +kernel
theorem d_Phrase_openMain_7 : decode b_Phrase_openMain 7 = .ok (.aload_n 0, 1) := by decide +kernel
theorem d_Phrase_openMain_8 : decode b_Phrase_openMain 8 = .ok (.iload_n 1, 1) := by decide +kernel
theorem d_Phrase_openMain_9 : decode b_Phrase_openMain 9 = .ok (.invokevirtual 54, 3) := by decide +kernel
theorem d_Phrase_openMain_12 : decode b_Phrase_openMain 12 = .ok (.ifCond .eq 10, 3) := by decide +kernel
theorem d_Phrase_openMain_15 : decode b_Phrase_openMain 15 = .ok (.aload_n 0, 1) := by decide +kernel
theorem d_Phrase_openMain_16 : decode b_Phrase_openMain 16 = .ok (.invokevirtual 67, 3) := by decide +kernel
theorem d_Phrase_openMain_19 : decode b_Phrase_openMain 19 = .ok (.ifCond .ne 5, 3) := by decide +kernel
theorem d_Phrase_openMain_22 : decode b_Phrase_openMain 22 = .ok (.iconst 0, 1) := by decide +kernel
theorem d_Phrase_openMain_23 : decode b_Phrase_openMain 23 = .ok (.ireturn, 1) := by decide +kernel
theorem d_Phrase_openMain_24 : decode b_Phrase_openMain 24 = .ok (.aload_n 0, 1) := by decide +kernel
theorem d_Phrase_openMain_25 : decode b_Phrase_openMain 25 = .ok (.getfield 15, 3) := by decide +kernel
theorem d_Phrase_openMain_28 : decode b_Phrase_openMain 28 = .ok (.iload_n 1, 1) := by decide +kernel
theorem d_Phrase_openMain_29 : decode b_Phrase_openMain 29 = .ok (.aload_n 0, 1) := by decide +kernel
theorem d_Phrase_openMain_30 : decode b_Phrase_openMain 30 = .ok (.getfield 37, 3) := by decide +kernel
theorem d_Phrase_openMain_33 : decode b_Phrase_openMain 33 = .ok (.iconst 1, 1) := by decide +kernel
theorem d_Phrase_openMain_34 : decode b_Phrase_openMain 34 = .ok (.isub, 1) := by decide +kernel
theorem d_Phrase_openMain_35 : decode b_Phrase_openMain 35 = .ok (.iastore, 1) := by decide +kernel
theorem d_Phrase_openMain_36 : decode b_Phrase_openMain 36 = .ok (.aload_n 0, 1) := by decide +kernel
theorem d_Phrase_openMain_37 : decode b_Phrase_openMain 37 = .ok (.getfield 18, 3) := by decide +kernel
theorem d_Phrase_openMain_40 : decode b_Phrase_openMain 40 = .ok (.iload_n 1, 1) := by decide +kernel
theorem d_Phrase_openMain_41 : decode b_Phrase_openMain 41 = .ok (.aload_n 0, 1) := by decide +kernel
theorem d_Phrase_openMain_42 : decode b_Phrase_openMain 42 = .ok (.getfield 37, 3) := by decide +kernel
theorem d_Phrase_openMain_45 : decode b_Phrase_openMain 45 = .ok (.iastore, 1) := by decide +kernel
theorem d_Phrase_openMain_46 : decode b_Phrase_openMain 46 = .ok (.iconst 1, 1) := by decide +kernel
theorem d_Phrase_openMain_47 : decode b_Phrase_openMain 47 = .ok (.ireturn, 1) := by decide +kernel
theorem d_Phrase_addWord_0 : decode b_Phrase_addWord 0 = .ok (.aload_n 0, 1) := by decide +kernel
theorem d_Phrase_addWord_1 : decode b_Phrase_addWord 1 = .ok (.getfield 37, 3) := by decide +kernel
theorem d_Phrase_addWord_4 : decode b_Phrase_addWord 4 = .ok (.iconst 1, 1) := by decide +kernel
theorem d_Phrase_addWord_5 : decode b_Phrase_addWord 5 = .ok (.isub, 1) := by decide +kernel
theorem d_Phrase_addWord_6 : decode b_Phrase_addWord 6 = .ok (.istore_n 2, 1) := by decide +kernel
theorem d_Phrase_addWord_7 : decode b_Phrase_addWord 7 = .ok (.aload_n 0, 1) := by decide +kernel
theorem d_Phrase_addWord_8 : decode b_Phrase_addWord 8 = .ok (.iload_n 2, 1) := by decide +kernel
theorem d_Phrase_addWord_9 : decode b_Phrase_addWord 9 = .ok (.invokevirtual 57, 3) := by decide +kernel
theorem d_Phrase_addWord_12 : decode b_Phrase_addWord 12 = .ok (.ifCond .eq 12, 3) := by decide +kernel
theorem d_Phrase_addWord_15 : decode b_Phrase_addWord 15 = .ok (.aload_n 0, 1) := by decide +kernel
theorem d_Phrase_addWord_16 : decode b_Phrase_addWord 16 = .ok (.getfield 43, 3) := by decide +kernel
theorem d_Phrase_addWord_19 : decode b_Phrase_addWord 19 = .ok (.bipush 6, 2) := by decide +kernel
theorem d_Phrase_addWord_21 : decode b_Phrase_addWord 21 = .ok (.if_icmp .lt 5, 3) := by decide +kernel
theorem d_Phrase_addWord_24 : decode b_Phrase_addWord 24 = .ok (.iconst 0, 1) := by decide +kernel
theorem d_Phrase_addWord_25 : decode b_Phrase_addWord 25 = .ok (.ireturn, 1) := by decide +kernel
theorem d_Phrase_addWord_26 : decode b_Phrase_addWord 26 = .ok (.aload_n 0, 1) := by decide +kernel
theorem d_Phrase_addWord_27 : decode b_Phrase_addWord 27 = .ok (.getfield 43, 3) := by decide +kernel
theorem d_Phrase_addWord_30 : decode b_Phrase_addWord 30 = .ok (.ifCond .le 20, 3) := by decide +kernel
theorem d_Phrase_addWord_33 : decode b_Phrase_addWord 33 = .ok (.aload_n 0, 1) := by decide +kernel
theorem d_Phrase_addWord_34 : decode b_Phrase_addWord 34 = .ok (.getfield 31, 3) := by decide +kernel
theorem d_Phrase_addWord_37 : decode b_Phrase_addWord 37 = .ok (.iload_n 2, 1) := by decide +kernel
theorem d_Phrase_addWord_38 : decode b_Phrase_addWord 38 = .ok (.dup2, 1) := by decide +kernel
theorem d_Phrase_addWord_39 : decode b_Phrase_addWord 39 = .ok (.iaload, 1) := by decide +kernel
theorem d_Phrase_addWord_40 : decode b_Phrase_addWord 40 = .ok (.iconst 1, 1) := by decide +kernel
theorem d_Phrase_addWord_41 : decode b_Phrase_addWord 41 = .ok (.aload_n 0, 1) := by decide +kernel
theorem d_Phrase_addWord_42 : decode b_Phrase_addWord 42 = .ok (.getfield 34, 3) := by decide +kernel
theorem d_Phrase_addWord_45 : decode b_Phrase_addWord 45 = .ok (.iload_n 2, 1) := by decide +kernel
theorem d_Phrase_addWord_46 : decode b_Phrase_addWord 46 = .ok (.iaload, 1) := by decide +kernel
theorem d_Phrase_addWord_47 : decode b_Phrase_addWord 47 = .ok (.ishl, 1) := by decide +kernel
theorem d_Phrase_addWord_48 : decode b_Phrase_addWord 48 = .ok (.ior, 1) := by decide +kernel
theorem d_Phrase_addWord_49 : decode b_Phrase_addWord 49 = .ok (.iastore, 1) := by decide +kernel
theorem d_Phrase_addWord_50 : decode b_Phrase_addWord 50 = .ok (.aload_n 0, 1) := by decide +kernel
theorem d_Phrase_addWord_51 : decode b_Phrase_addWord 51 = .ok (.getfield 34, 3) := by decide +kernel
theorem d_Phrase_addWord_54 : decode b_Phrase_addWord 54 = .ok (.iload_n 2, 1) := by decide +kernel
theorem d_Phrase_addWord_55 : decode b_Phrase_addWord 55 = .ok (.iload_n 1, 1) := by decide +kernel
theorem d_Phrase_addWord_56 : decode b_Phrase_addWord 56 = .ok (.iastore, 1) := by decide +kernel
theorem d_Phrase_addWord_57 : decode b_Phrase_addWord 57 = .ok (.aload_n 0, 1) := by decide +kernel
theorem d_Phrase_addWord_58 : decode b_Phrase_addWord 58 = .ok (.dup, 1) := by decide +kernel
theorem d_Phrase_addWord_59 : decode b_Phrase_addWord 59 = .ok (.getfield 43, 3) := by decide +kernel
theorem d_Phrase_addWord_62 : decode b_Phrase_addWord 62 = .ok (.iconst 1, 1) := by decide +kernel
theorem d_Phrase_addWord_63 : decode b_Phrase_addWord 63 = .ok (.iadd, 1) := by decide +kernel
theorem d_Phrase_addWord_64 : decode b_Phrase_addWord 64 = .ok (.putfield 43, 3) := by decide +kernel
theorem d_Phrase_addWord_67 : decode b_Phrase_addWord 67 = .ok (.aload_n 0, 1) := by decide +kernel
theorem d_Phrase_addWord_68 : decode b_Phrase_addWord 68 = .ok (.iconst 4, 1) := by decide +kernel
theorem d_Phrase_addWord_69 : decode b_Phrase_addWord 69 = .ok (.putfield 40, 3) := by decide +kernel
theorem d_Phrase_addWord_72 : decode b_Phrase_addWord 72 = .ok (.iconst 1, 1) := by decide +kernel
theorem d_Phrase_addWord_73 : decode b_Phrase_addWord 73 = .ok (.ireturn, 1) := by decide +kernel
theorem d_Phrase_takeInDescription_0 : decode b_Phrase_takeInDescription 0 = .ok (.aload_n 0, 1) := by decide +kernel
theorem d_Phrase_takeInDescription_1 : decode b_Phrase_takeInDescription 1 = .ok (.getfield 37, 3) := by decide +kernel
theorem d_Phrase_takeInDescription_4 : decode b_Phrase_takeInDescription 4 = .ok (.iconst 1, 1) := by decide +kernel
theorem d_Phrase_takeInDescription_5 : decode b_Phrase_takeInDescription 5 = .ok (.isub, 1) := by decide +kernel
theorem d_Phrase_takeInDescription_6 : decode b_Phrase_takeInDescription 6 = .ok (.istore_n 2, 1) := by decide +kernel
theorem d_Phrase_takeInDescription_7 : decode b_Phrase_takeInDescription 7 = .ok (.iload_n 1, 1) := by decide +kernel
theorem d_Phrase_takeInDescription_8 : decode b_Phrase_takeInDescription 8 = .ok (.invokestatic 89, 3) := by decide +kernel
theorem d_Phrase_takeInDescription_11 : decode b_Phrase_takeInDescription 11 = .ok (.ifCond .eq 9, 3) := by decide +kernel
theorem d_Phrase_takeInDescription_14 : decode b_Phrase_takeInDescription 14 = .ok (.aload_n 0, 1) := by decide +kernel
theorem d_Phrase_takeInDescription_15 : decode b_Phrase_takeInDescription 15 = .ok (.iload_n 1, 1) := by decide +kernel
theorem d_Phrase_takeInDescription_16 : decode b_Phrase_takeInDescription 16 = .ok (.invokevirtual 92, 3) := by decide +kernel
theorem d_Phrase_takeInDescription_19 : decode b_Phrase_takeInDescription 19 = .ok (.ireturn, 1) := by decide +kernel
theorem d_Phrase_takeInDescription_20 : decode b_Phrase_takeInDescription 20 = .ok (.iload_n 1, 1) := by decide +kernel
theorem d_Phrase_takeInDescription_21 : decode b_Phrase_takeInDescription 21 = .ok (.invokestatic 95, 3) := by decide +kernel
theorem d_Phrase_takeInDescription_24 : decode b_Phrase_takeInDescription 24 = .ok (.ifCond .eq 27, 3) := by decide +kernel
theorem d_Phrase_takeInDescription_27 : decode b_Phrase_takeInDescription 27 = .ok (.aload_n 0, 1) := by decide +kernel
theorem d_Phrase_takeInDescription_28 : decode b_Phrase_takeInDescription 28 = .ok (.iload_n 2, 1) := by decide +kernel
theorem d_Phrase_takeInDescription_29 : decode b_Phrase_takeInDescription 29 = .ok (.invokevirtual 57, 3) := by decide +kernel
theorem d_Phrase_takeInDescription_32 : decode b_Phrase_takeInDescription 32 = .ok (.ifCond .eq 19, 3) := by decide +kernel
theorem d_Phrase_takeInDescription_35 : decode b_Phrase_takeInDescription 35 = .ok (.aload_n 0, 1) := by decide +kernel
theorem d_Phrase_takeInDescription_36 : decode b_Phrase_takeInDescription 36 = .ok (.getfield 43, 3) := by decide +kernel
theorem d_Phrase_takeInDescription_39 : decode b_Phrase_takeInDescription 39 = .ok (.ifCond .gt 12, 3) := by decide +kernel
theorem d_Phrase_takeInDescription_42 : decode b_Phrase_takeInDescription 42 = .ok (.aload_n 0, 1) := by decide +kernel
theorem d_Phrase_takeInDescription_43 : decode b_Phrase_takeInDescription 43 = .ok (.iload_n 2, 1) := by decide +kernel
theorem d_Phrase_takeInDescription_44 : decode b_Phrase_takeInDescription 44 = .ok (.iload_n 1, 1) := by decide +kernel
theorem d_Phrase_takeInDescription_45 : decode b_Phrase_takeInDescription 45 = .ok (.invokevirtual 98, 3) := by decide +kernel
theorem d_Phrase_takeInDescription_48 : decode b_Phrase_takeInDescription 48 = .ok (.ifCond .eq 5, 3) := by decide +kernel
theorem d_Phrase_takeInDescription_51 : decode b_Phrase_takeInDescription 51 = .ok (.iconst 0, 1) := by decide +kernel
theorem d_Phrase_takeInDescription_52 : decode b_Phrase_takeInDescription 52 = .ok (.ireturn, 1) := by decide +kernel
theorem d_Phrase_takeInDescription_53 : decode b_Phrase_takeInDescription 53 = .ok (.aload_n 0, 1) := by decide +kernel
theorem d_Phrase_takeInDescription_54 : decode b_Phrase_takeInDescription 54 = .ok (.getfield 28, 3) := by decide +kernel
theorem d_Phrase_takeInDescription_57 : decode b_Phrase_takeInDescription 57 = .ok (.iload_n 2, 1) := by decide +kernel
theorem d_Phrase_takeInDescription_58 : decode b_Phrase_takeInDescription 58 = .ok (.dup2, 1) := by decide +kernel
theorem d_Phrase_takeInDescription_59 : decode b_Phrase_takeInDescription 59 = .ok (.iaload, 1) := by decide +kernel
theorem d_Phrase_takeInDescription_60 : decode b_Phrase_takeInDescription 60 = .ok (.iconst 1, 1) := by decide +kernel
theorem d_Phrase_takeInDescription_61 : decode b_Phrase_takeInDescription 61 = .ok (.iload_n 1, 1) := by decide +kernel
theorem d_Phrase_takeInDescription_62 : decode b_Phrase_takeInDescription 62 = .ok (.bipush 30, 2) := by decide +kernel
theorem d_Phrase_takeInDescription_64 : decode b_Phrase_takeInDescription 64 = .ok (.isub, 1) := by decide +kernel
theorem d_Phrase_takeInDescription_65 : decode b_Phrase_takeInDescription 65 = .ok (.ishl, 1) := by decide +kernel
theorem d_Phrase_takeInDescription_66 : decode b_Phrase_takeInDescription 66 = .ok (.ior, 1) := by decide +kernel
theorem d_Phrase_takeInDescription_67 : decode b_Phrase_takeInDescription 67 = .ok (.iastore, 1) := by decide +kernel
theorem d_Phrase_takeInDescription_68 : decode b_Phrase_takeInDescription 68 = .ok (.iconst 1, 1) := by decide +kernel
theorem d_Phrase_takeInDescription_69 : decode b_Phrase_takeInDescription 69 = .ok (.ireturn, 1) := by decide +kernel
theorem d_Phrase_takeAtPart_0 : decode b_Phrase_takeAtPart 0 = .ok (.aload_n 0, 1) := by decide +kernel
theorem d_Phrase_takeAtPart_1 : decode b_Phrase_takeAtPart 1 = .ok (.invokevirtual 79, 3) := by decide +kernel
theorem d_Phrase_takeAtPart_4 : decode b_Phrase_takeAtPart 4 = .ok (.ifCond .ne 5, 3) := by decide +kernel
theorem d_Phrase_takeAtPart_7 : decode b_Phrase_takeAtPart 7 = .ok (.iconst 0, 1) := by decide +kernel
theorem d_Phrase_takeAtPart_8 : decode b_Phrase_takeAtPart 8 = .ok (.ireturn, 1) := by decide +kernel
theorem d_Phrase_takeAtPart_9 : decode b_Phrase_takeAtPart 9 = .ok (.iload_n 1, 1) := by decide +kernel
theorem d_Phrase_takeAtPart_10 : decode b_Phrase_takeAtPart 10 = .ok (.bipush 34, 2) := by decide +kernel
theorem d_Phrase_takeAtPart_12 : decode b_Phrase_takeAtPart 12 = .ok (.if_icmp .ne 10, 3) := by decide +kernel
theorem d_Phrase_takeAtPart_15 : decode b_Phrase_takeAtPart 15 = .ok (.aload_n 0, 1) := by decide +kernel
theorem d_Phrase_takeAtPart_16 : decode b_Phrase_takeAtPart 16 = .ok (.iconst (-1), 1) := by decide +kernel
theorem d_Phrase_takeAtPart_17 : decode b_Phrase_takeAtPart 17 = .ok (.iconst 1, 1) := by decide +kernel
theorem d_Phrase_takeAtPart_18 : decode b_Phrase_takeAtPart 18 = .ok (.invokevirtual 82, 3) := by decide +kernel
theorem d_Phrase_takeAtPart_21 : decode b_Phrase_takeAtPart 21 = .ok (.ireturn, 1) := by decide +kernel
theorem d_Phrase_takeAtPart_22 : decode b_Phrase_takeAtPart 22 = .ok (.iload_n 1, 1) := by decide +kernel
theorem d_Phrase_takeAtPart_23 : decode b_Phrase_takeAtPart 23 = .ok (.invokestatic 86, 3) := by decide +kernel
theorem d_Phrase_takeAtPart_26 : decode b_Phrase_takeAtPart 26 = .ok (.ifCond .eq 13, 3) := by decide +kernel
theorem d_Phrase_takeAtPart_29 : decode b_Phrase_takeAtPart 29 = .ok (.aload_n 0, 1) := by decide +kernel
theorem d_Phrase_takeAtPart_30 : decode b_Phrase_takeAtPart 30 = .ok (.iload_n 1, 1) := by decide +kernel
theorem d_Phrase_takeAtPart_31 : decode b_Phrase_takeAtPart 31 = .ok (.bipush 40, 2) := by decide +kernel
theorem d_Phrase_takeAtPart_33 : decode b_Phrase_takeAtPart 33 = .ok (.isub, 1) := by decide +kernel
theorem d_Phrase_takeAtPart_34 : decode b_Phrase_takeAtPart 34 = .ok (.iconst 2, 1) := by decide +kernel
theorem d_Phrase_takeAtPart_35 : decode b_Phrase_takeAtPart 35 = .ok (.invokevirtual 82, 3) := by decide +kernel
theorem d_Phrase_takeAtPart_38 : decode b_Phrase_takeAtPart 38 = .ok (.ireturn, 1) := by decide +kernel
theorem d_Phrase_takeAtPart_39 : decode b_Phrase_takeAtPart 39 = .ok (.aload_n 0, 1) := by decide +kernel
theorem d_Phrase_takeAtPart_40 : decode b_Phrase_takeAtPart 40 = .ok (.invokevirtual 73, 3) := by decide +kernel
theorem d_Phrase_takeAtPart_43 : decode b_Phrase_takeAtPart 43 = .ok (.ifCond .eq 15, 3) := by decide +kernel
theorem d_Phrase_takeAtPart_46 : decode b_Phrase_takeAtPart 46 = .ok (.aload_n 0, 1) := by decide +kernel
theorem d_Phrase_takeAtPart_47 : decode b_Phrase_takeAtPart 47 = .ok (.iload_n 1, 1) := by decide +kernel
theorem d_Phrase_takeAtPart_48 : decode b_Phrase_takeAtPart 48 = .ok (.invokevirtual 76, 3) := by decide +kernel
theorem d_Phrase_takeAtPart_51 : decode b_Phrase_takeAtPart 51 = .ok (.ifCond .eq 7, 3) := by decide +kernel
theorem d_Phrase_takeAtPart_54 : decode b_Phrase_takeAtPart 54 = .ok (.iconst 1, 1) := by decide +kernel
theorem d_Phrase_takeAtPart_55 : decode b_Phrase_takeAtPart 55 = .ok (.goto 4, 3) := by decide +kernel
theorem d_Phrase_takeAtPart_58 : decode b_Phrase_takeAtPart 58 = .ok (.iconst 0, 1) := by decide +kernel
theorem d_Phrase_takeAtPart_59 : decode b_Phrase_takeAtPart 59 = .ok (.ireturn, 1) := by decide +kernel
theorem d_Phrase_take_0 : decode b_Phrase_take 0 = .ok (.iload_n 1, 1) := by decide +kernel
theorem d_Phrase_take_1 : decode b_Phrase_take 1 = .ok (.bipush 36, 2) := by decide +kernel
theorem d_Phrase_take_3 : decode b_Phrase_take 3 = .ok (.if_icmp .ne 23, 3) := by decide +kernel
theorem d_Phrase_take_6 : decode b_Phrase_take 6 = .ok (.aload_n 0, 1) := by decide +kernel
theorem d_Phrase_take_7 : decode b_Phrase_take 7 = .ok (.invokevirtual 50, 3) := by decide +kernel
theorem d_Phrase_take_10 : decode b_Phrase_take 10 = .ok (.ifCond .eq 14, 3) := by decide +kernel
theorem d_Phrase_take_13 : decode b_Phrase_take 13 = .ok (.aload_n 0, 1) := by decide +kernel
theorem d_Phrase_take_14 : decode b_Phrase_take 14 = .ok (.invokevirtual 60, 3) := by decide +kernel
theorem d_Phrase_take_17 : decode b_Phrase_take 17 = .ok (.ifCond .eq 7, 3) := by decide +kernel
theorem d_Phrase_take_20 : decode b_Phrase_take 20 = .ok (.iconst 1, 1) := by decide +kernel
theorem d_Phrase_take_21 : decode b_Phrase_take 21 = .ok (.goto 4, 3) := by decide +kernel
theorem d_Phrase_take_24 : decode b_Phrase_take 24 = .ok (.iconst 0, 1) := by decide +kernel
theorem d_Phrase_take_25 : decode b_Phrase_take 25 = .ok (.ireturn, 1) := by decide +kernel
theorem d_Phrase_take_26 : decode b_Phrase_take 26 = .ok (.iload_n 1, 1) := by decide +kernel
theorem d_Phrase_take_27 : decode b_Phrase_take 27 = .ok (.bipush 35, 2) := by decide +kernel
theorem d_Phrase_take_29 : decode b_Phrase_take 29 = .ok (.if_icmp .ne 37, 3) := by decide +kernel
theorem d_Phrase_take_32 : decode b_Phrase_take 32 = .ok (.aload_n 0, 1) := by decide +kernel
theorem d_Phrase_take_33 : decode b_Phrase_take 33 = .ok (.invokevirtual 50, 3) := by decide +kernel
theorem d_Phrase_take_36 : decode b_Phrase_take 36 = .ok (.ifCond .eq 28, 3) := by decide +kernel
theorem d_Phrase_take_39 : decode b_Phrase_take 39 = .ok (.aload_n 0, 1) := by decide +kernel
theorem d_Phrase_take_40 : decode b_Phrase_take 40 = .ok (.aload_n 0, 1) := by decide +kernel
theorem d_Phrase_take_41 : decode b_Phrase_take 41 = .ok (.getfield 24, 3) := by decide +kernel
theorem d_Phrase_take_44 : decode b_Phrase_take 44 = .ok (.iconst 1, 1) := by decide +kernel
theorem d_Phrase_take_45 : decode b_Phrase_take 45 = .ok (.isub, 1) := by decide +kernel
theorem d_Phrase_take_46 : decode b_Phrase_take 46 = .ok (.invokevirtual 63, 3) := by decide +kernel
theorem d_Phrase_take_49 : decode b_Phrase_take 49 = .ok (.iconst (-1), 1) := by decide +kernel
theorem d_Phrase_take_50 : decode b_Phrase_take 50 = .ok (.if_icmp .ne 14, 3) := by decide +kernel
theorem d_Phrase_take_53 : decode b_Phrase_take 53 = .ok (.aload_n 0, 1) := by decide +kernel
theorem d_Phrase_take_54 : decode b_Phrase_take 54 = .ok (.invokevirtual 67, 3) := by decide +kernel
theorem d_Phrase_take_57 : decode b_Phrase_take 57 = .ok (.ifCond .eq 7, 3) := by decide +kernel
theorem d_Phrase_take_60 : decode b_Phrase_take 60 = .ok (.iconst 1, 1) := by decide +kernel
theorem d_Phrase_take_61 : decode b_Phrase_take 61 = .ok (.goto 4, 3) := by decide +kernel
theorem d_Phrase_take_64 : decode b_Phrase_take 64 = .ok (.iconst 0, 1) := by decide +kernel
theorem d_Phrase_take_65 : decode b_Phrase_take 65 = .ok (.ireturn, 1) := by decide +kernel
theorem d_Phrase_take_66 : decode b_Phrase_take 66 = .ok (.aload_n 0, 1) := by decide +kernel
theorem d_Phrase_take_67 : decode b_Phrase_take 67 = .ok (.getfield 40, 3) := by decide +kernel
theorem d_Phrase_take_70 : decode b_Phrase_take 70 = .ok (.ifCond .ne 9, 3) := by decide +kernel
theorem d_Phrase_take_73 : decode b_Phrase_take 73 = .ok (.aload_n 0, 1) := by decide +kernel
theorem d_Phrase_take_74 : decode b_Phrase_take 74 = .ok (.iload_n 1, 1) := by decide +kernel
theorem d_Phrase_take_75 : decode b_Phrase_take 75 = .ok (.invokevirtual 70, 3) := by decide +kernel
theorem d_Phrase_take_78 : decode b_Phrase_take 78 = .ok (.ireturn, 1) := by decide +kernel
theorem d_Phrase_take_79 : decode b_Phrase_take 79 = .ok (.aload_n 0, 1) := by decide +kernel
theorem d_Phrase_take_80 : decode b_Phrase_take 80 = .ok (.getfield 40, 3) := by decide +kernel
theorem d_Phrase_take_83 : decode b_Phrase_take 83 = .ok (.iconst 1, 1) := by decide +kernel
theorem d_Phrase_take_84 : decode b_Phrase_take 84 = .ok (.if_icmp .eq 11, 3) := by decide +kernel
theorem d_Phrase_take_87 : decode b_Phrase_take 87 = .ok (.aload_n 0, 1) := by decide +kernel
theorem d_Phrase_take_88 : decode b_Phrase_take 88 = .ok (.getfield 40, 3) := by decide +kernel
theorem d_Phrase_take_91 : decode b_Phrase_take 91 = .ok (.iconst 2, 1) := by decide +kernel
theorem d_Phrase_take_92 : decode b_Phrase_take 92 = .ok (.if_icmp .ne 30, 3) := by decide +kernel
theorem d_Phrase_take_95 : decode b_Phrase_take 95 = .ok (.aload_n 0, 1) := by decide +kernel
theorem d_Phrase_take_96 : decode b_Phrase_take 96 = .ok (.invokevirtual 73, 3) := by decide +kernel
theorem d_Phrase_take_99 : decode b_Phrase_take 99 = .ok (.ifCond .eq 21, 3) := by decide +kernel
theorem d_Phrase_take_102 : decode b_Phrase_take 102 = .ok (.iload_n 1, 1) := by decide +kernel
theorem d_Phrase_take_103 : decode b_Phrase_take 103 = .ok (.bipush 37, 2) := by decide +kernel
theorem d_Phrase_take_105 : decode b_Phrase_take 105 = .ok (.if_icmp .eq 11, 3) := by decide +kernel
theorem d_Phrase_take_108 : decode b_Phrase_take 108 = .ok (.aload_n 0, 1) := by decide +kernel
theorem d_Phrase_take_109 : decode b_Phrase_take 109 = .ok (.iload_n 1, 1) := by decide +kernel
theorem d_Phrase_take_110 : decode b_Phrase_take 110 = .ok (.invokevirtual 76, 3) := by decide +kernel
theorem d_Phrase_take_113 : decode b_Phrase_take 113 = .ok (.ifCond .eq 7, 3) := by decide +kernel
theorem d_Phrase_take_116 : decode b_Phrase_take 116 = .ok (.iconst 1, 1) := by decide +kernel
theorem d_Phrase_take_117 : decode b_Phrase_take 117 = .ok (.goto 4, 3) := by decide +kernel
theorem d_Phrase_take_120 : decode b_Phrase_take 120 = .ok (.iconst 0, 1) := by decide +kernel
theorem d_Phrase_take_121 : decode b_Phrase_take 121 = .ok (.ireturn, 1) := by decide +kernel
theorem d_Phrase_take_122 : decode b_Phrase_take 122 = .ok (.aload_n 0, 1) := by decide +kernel
theorem d_Phrase_take_123 : decode b_Phrase_take 123 = .ok (.iload_n 1, 1) := by decide +kernel
theorem d_Phrase_take_124 : decode b_Phrase_take 124 = .ok (.invokevirtual 76, 3) := by decide +kernel
theorem d_Phrase_take_127 : decode b_Phrase_take 127 = .ok (.ireturn, 1) := by decide +kernel
theorem d_Phrase_read_0 : decode b_Phrase_read 0 = .ok (.aload_n 0, 1) := by decide +kernel
theorem d_Phrase_read_1 : decode b_Phrase_read 1 = .ok (.iconst 0, 1) := by decide +kernel
theorem d_Phrase_read_2 : decode b_Phrase_read 2 = .ok (.putfield 24, 3) := by decide +kernel
theorem d_Phrase_read_5 : decode b_Phrase_read 5 = .ok (.aload_n 0, 1) := by decide +kernel
theorem d_Phrase_read_6 : decode b_Phrase_read 6 = .ok (.iconst 0, 1) := by decide +kernel
theorem d_Phrase_read_7 : decode b_Phrase_read 7 = .ok (.putfield 37, 3) := by decide +kernel
theorem d_Phrase_read_10 : decode b_Phrase_read 10 = .ok (.aload_n 0, 1) := by decide +kernel
theorem d_Phrase_read_11 : decode b_Phrase_read 11 = .ok (.iconst 0, 1) := by decide +kernel
theorem d_Phrase_read_12 : decode b_Phrase_read 12 = .ok (.putfield 40, 3) := by decide +kernel
theorem d_Phrase_read_15 : decode b_Phrase_read 15 = .ok (.iconst 0, 1) := by decide +kernel
theorem d_Phrase_read_16 : decode b_Phrase_read 16 = .ok (.istore_n 3, 1) := by decide +kernel
theorem d_Phrase_read_17 : decode b_Phrase_read 17 = .ok (.iload_n 3, 1) := by decide +kernel
theorem d_Phrase_read_18 : decode b_Phrase_read 18 = .ok (.iload_n 2, 1) := by decide +kernel
theorem d_Phrase_read_19 : decode b_Phrase_read 19 = .ok (.if_icmp .ge 27, 3) := by decide +kernel
theorem d_Phrase_read_22 : decode b_Phrase_read 22 = .ok (.iload_n 3, 1) := by decide +kernel
theorem d_Phrase_read_23 : decode b_Phrase_read 23 = .ok (.aload_n 1, 1) := by decide +kernel
theorem d_Phrase_read_24 : decode b_Phrase_read 24 = .ok (.arraylength, 1) := by decide +kernel
theorem d_Phrase_read_25 : decode b_Phrase_read 25 = .ok (.if_icmp .ge 21, 3) := by decide +kernel
theorem d_Phrase_read_28 : decode b_Phrase_read 28 = .ok (.aload_n 0, 1) := by decide +kernel
theorem d_Phrase_read_29 : decode b_Phrase_read 29 = .ok (.aload_n 1, 1) := by decide +kernel
theorem d_Phrase_read_30 : decode b_Phrase_read 30 = .ok (.iload_n 3, 1) := by decide +kernel
theorem d_Phrase_read_31 : decode b_Phrase_read 31 = .ok (.iaload, 1) := by decide +kernel
theorem d_Phrase_read_32 : decode b_Phrase_read 32 = .ok (.invokevirtual 46, 3) := by decide +kernel
theorem d_Phrase_read_35 : decode b_Phrase_read 35 = .ok (.ifCond .ne 5, 3) := by decide +kernel
theorem d_Phrase_read_38 : decode b_Phrase_read 38 = .ok (.iload_n 3, 1) := by decide +kernel
theorem d_Phrase_read_39 : decode b_Phrase_read 39 = .ok (.ireturn, 1) := by decide +kernel
theorem d_Phrase_read_40 : decode b_Phrase_read 40 = .ok (.iinc 3 1, 3) := by decide +kernel
theorem d_Phrase_read_43 : decode b_Phrase_read 43 = .ok (.goto (-26), 3) := by decide +kernel
theorem d_Phrase_read_46 : decode b_Phrase_read 46 = .ok (.aload_n 0, 1) := by decide +kernel
theorem d_Phrase_read_47 : decode b_Phrase_read 47 = .ok (.invokevirtual 50, 3) := by decide +kernel
theorem d_Phrase_read_50 : decode b_Phrase_read 50 = .ok (.ifCond .eq 7, 3) := by decide +kernel
theorem d_Phrase_read_53 : decode b_Phrase_read 53 = .ok (.iconst (-1), 1) := by decide +kernel
theorem d_Phrase_read_54 : decode b_Phrase_read 54 = .ok (.goto 4, 3) := by decide +kernel
theorem d_Phrase_read_57 : decode b_Phrase_read 57 = .ok (.iload_n 2, 1) := by decide +kernel
theorem d_Phrase_read_58 : decode b_Phrase_read 58 = .ok (.ireturn, 1) := by decide +kernel
theorem d_Phrase_init_0 : decode b_Phrase_init 0 = .ok (.aload_n 0, 1) := by decide +kernel
theorem d_Phrase_init_1 : decode b_Phrase_init 1 = .ok (.invokespecial 3, 3) := by decide +kernel
theorem d_Phrase_init_4 : decode b_Phrase_init 4 = .ok (.aload_n 0, 1) := by decide +kernel
theorem d_Phrase_init_5 : decode b_Phrase_init 5 = .ok (.bipush 30, 2) := by decide +kernel
theorem d_Phrase_init_7 : decode b_Phrase_init 7 = .ok (.newarray .int, 2) := by decide +kernel
theorem d_Phrase_init_9 : decode b_Phrase_init 9 = .ok (.putfield 9, 3) := by decide +kernel
theorem d_Phrase_init_12 : decode b_Phrase_init 12 = .ok (.aload_n 0, 1) := by decide +kernel
theorem d_Phrase_init_13 : decode b_Phrase_init 13 = .ok (.bipush 30, 2) := by decide +kernel
theorem d_Phrase_init_15 : decode b_Phrase_init 15 = .ok (.newarray .int, 2) := by decide +kernel
theorem d_Phrase_init_17 : decode b_Phrase_init 17 = .ok (.putfield 15, 3) := by decide +kernel
theorem d_Phrase_init_20 : decode b_Phrase_init 20 = .ok (.aload_n 0, 1) := by decide +kernel
theorem d_Phrase_init_21 : decode b_Phrase_init 21 = .ok (.bipush 30, 2) := by decide +kernel
theorem d_Phrase_init_23 : decode b_Phrase_init 23 = .ok (.newarray .int, 2) := by decide +kernel
theorem d_Phrase_init_25 : decode b_Phrase_init 25 = .ok (.putfield 18, 3) := by decide +kernel
theorem d_Phrase_init_28 : decode b_Phrase_init 28 = .ok (.aload_n 0, 1) := by decide +kernel
theorem d_Phrase_init_29 : decode b_Phrase_init 29 = .ok (.bipush 30, 2) := by decide +kernel
theorem d_Phrase_init_31 : decode b_Phrase_init 31 = .ok (.newarray .int, 2) := by decide +kernel
theorem d_Phrase_init_33 : decode b_Phrase_init 33 = .ok (.putfield 21, 3) := by decide +kernel
theorem d_Phrase_init_36 : decode b_Phrase_init 36 = .ok (.aload_n 0, 1) := by decide +kernel
theorem d_Phrase_init_37 : decode b_Phrase_init 37 = .ok (.iconst 0, 1) := by decide +kernel
theorem d_Phrase_init_38 : decode b_Phrase_init 38 = .ok (.putfield 24, 3) := by decide +kernel
theorem d_Phrase_init_41 : decode b_Phrase_init 41 = .ok (.aload_n 0, 1) := by decide +kernel
theorem d_Phrase_init_42 : decode b_Phrase_init 42 = .ok (.bipush 30, 2) := by decide +kernel
theorem d_Phrase_init_44 : decode b_Phrase_init 44 = .ok (.newarray .int, 2) := by decide +kernel
theorem d_Phrase_init_46 : decode b_Phrase_init 46 = .ok (.putfield 28, 3) := by decide +kernel
theorem d_Phrase_init_49 : decode b_Phrase_init 49 = .ok (.aload_n 0, 1) := by decide +kernel
theorem d_Phrase_init_50 : decode b_Phrase_init 50 = .ok (.bipush 30, 2) := by decide +kernel
theorem d_Phrase_init_52 : decode b_Phrase_init 52 = .ok (.newarray .int, 2) := by decide +kernel
theorem d_Phrase_init_54 : decode b_Phrase_init 54 = .ok (.putfield 31, 3) := by decide +kernel
theorem d_Phrase_init_57 : decode b_Phrase_init 57 = .ok (.aload_n 0, 1) := by decide +kernel
theorem d_Phrase_init_58 : decode b_Phrase_init 58 = .ok (.bipush 30, 2) := by decide +kernel
theorem d_Phrase_init_60 : decode b_Phrase_init 60 = .ok (.newarray .int, 2) := by decide +kernel
theorem d_Phrase_init_62 : decode b_Phrase_init 62 = .ok (.putfield 34, 3) := by decide +kernel
theorem d_Phrase_init_65 : decode b_Phrase_init 65 = .ok (.aload_n 0, 1) := by decide +kernel
theorem d_Phrase_init_66 : decode b_Phrase_init 66 = .ok (.iconst 0, 1) := by decide +kernel
theorem d_Phrase_init_67 : decode b_Phrase_init 67 = .ok (.putfield 37, 3) := by decide +kernel
theorem d_Phrase_init_70 : decode b_Phrase_init 70 = .ok (.aload_n 0, 1) := by decide +kernel
theorem d_Phrase_init_71 : decode b_Phrase_init 71 = .ok (.iconst 0, 1) := by decide +kernel
theorem d_Phrase_init_72 : decode b_Phrase_init 72 = .ok (.putfield 40, 3) := by decide +kernel
theorem d_Phrase_init_75 : decode b_Phrase_init 75 = .ok (.aload_n 0, 1) := by decide +kernel
theorem d_Phrase_init_76 : decode b_Phrase_init 76 = .ok (.iconst 0, 1) := by decide +kernel
theorem d_Phrase_init_77 : decode b_Phrase_init 77 = .ok (.putfield 43, 3) := by decide +kernel
theorem d_Phrase_init_80 : decode b_Phrase_init 80 = .ok (.return_, 1) := by decide +kernel
end
section
theorem d_NC_isWord_0 : decode b_NC_isWord 0 = .ok (.iload_n 0, 1) := by decide +kernel
theorem d_NC_isWord_1 : decode b_NC_isWord 1 = .ok (.ifCond .lt 13, 3) := by decide +kernel
theorem d_NC_isWord_4 : decode b_NC_isWord 4 = .ok (.iload_n 0, 1) := by decide +kernel
theorem d_NC_isWord_5 : decode b_NC_isWord 5 = .ok (.bipush 30, 2) := by decide +kernel
theorem d_NC_isWord_7 : decode b_NC_isWord 7 = .ok (.if_icmp .ge 7, 3) := by decide +kernel
theorem d_NC_isWord_10 : decode b_NC_isWord 10 = .ok (.iconst 1, 1) := by decide +kernel
theorem d_NC_isWord_11 : decode b_NC_isWord 11 = .ok (.goto 4, 3) := by decide +kernel
theorem d_NC_isWord_14 : decode b_NC_isWord 14 = .ok (.iconst 0, 1) := by decide +kernel
theorem d_NC_isWord_15 : decode b_NC_isWord 15 = .ok (.ireturn, 1) := by decide +kernel
theorem d_NC_isArticle_0 : decode b_NC_isArticle 0 = .ok (.iload_n 0, 1) := by decide +kernel
theorem d_NC_isArticle_1 : decode b_NC_isArticle 1 = .ok (.bipush 30, 2) := by decide +kernel
theorem d_NC_isArticle_3 : decode b_NC_isArticle 3 = .ok (.if_icmp .lt 13, 3) := by decide +kernel
theorem d_NC_isArticle_6 : decode b_NC_isArticle 6 = .ok (.iload_n 0, 1) := by decide +kernel
theorem d_NC_isArticle_7 : decode b_NC_isArticle 7 = .ok (.bipush 33, 2) := by decide +kernel
theorem d_NC_isArticle_9 : decode b_NC_isArticle 9 = .ok (.if_icmp .gt 7, 3) := by decide +kernel
theorem d_NC_isArticle_12 : decode b_NC_isArticle 12 = .ok (.iconst 1, 1) := by decide +kernel
theorem d_NC_isArticle_13 : decode b_NC_isArticle 13 = .ok (.goto 4, 3) := by decide +kernel
theorem d_NC_isArticle_16 : decode b_NC_isArticle 16 = .ok (.iconst 0, 1) := by decide +kernel
theorem d_NC_isArticle_17 : decode b_NC_isArticle 17 = .ok (.ireturn, 1) := by decide +kernel
theorem d_NC_isNumber_0 : decode b_NC_isNumber 0 = .ok (.iload_n 0, 1) := by decide +kernel
theorem d_NC_isNumber_1 : decode b_NC_isNumber 1 = .ok (.bipush 40, 2) := by decide +kernel
theorem d_NC_isNumber_3 : decode b_NC_isNumber 3 = .ok (.if_icmp .le 13, 3) := by decide +kernel
theorem d_NC_isNumber_6 : decode b_NC_isNumber 6 = .ok (.iload_n 0, 1) := by decide +kernel
theorem d_NC_isNumber_7 : decode b_NC_isNumber 7 = .ok (.bipush 60, 2) := by decide +kernel
theorem d_NC_isNumber_9 : decode b_NC_isNumber 9 = .ok (.if_icmp .gt 7, 3) := by decide +kernel
theorem d_NC_isNumber_12 : decode b_NC_isNumber 12 = .ok (.iconst 1, 1) := by decide +kernel
theorem d_NC_isNumber_13 : decode b_NC_isNumber 13 = .ok (.goto 4, 3) := by decide +kernel
theorem d_NC_isNumber_16 : decode b_NC_isNumber 16 = .ok (.iconst 0, 1) := by decide +kernel
theorem d_NC_isNumber_17 : decode b_NC_isNumber 17 = .ok (.ireturn, 1) := by decide +kernel
theorem d_NC_isToken_0 : decode b_NC_isToken 0 = .ok (.iload_n 0, 1) := by decide +kernel
theorem d_NC_isToken_1 : decode b_NC_isToken 1 = .ok (.ifCond .lt 9, 3) := by decide +kernel
theorem d_NC_isToken_4 : decode b_NC_isToken 4 = .ok (.iload_n 0, 1) := by decide +kernel
theorem d_NC_isToken_5 : decode b_NC_isToken 5 = .ok (.bipush 37, 2) := by decide +kernel
theorem d_NC_isToken_7 : decode b_NC_isToken 7 = .ok (.if_icmp .le 10, 3) := by decide +kernel
theorem d_NC_isToken_10 : decode b_NC_isToken 10 = .ok (.iload_n 0, 1) := by decide +kernel
theorem d_NC_isToken_11 : decode b_NC_isToken 11 = .ok (.invokestatic 177, 3) := by decide +kernel
theorem d_NC_isToken_14 : decode b_NC_isToken 14 = .ok (.ifCond .eq 7, 3) := by decide +kernel
theorem d_NC_isToken_17 : decode b_NC_isToken 17 = .ok (.iconst 1, 1) := by decide +kernel
theorem d_NC_isToken_18 : decode b_NC_isToken 18 = .ok (.goto 4, 3) := by decide +kernel
theorem d_NC_isToken_21 : decode b_NC_isToken 21 = .ok (.iconst 0, 1) := by decide +kernel
theorem d_NC_isToken_22 : decode b_NC_isToken 22 = .ok (.ireturn, 1) := by decide +kernel
theorem d_NC_holds_0 : decode b_NC_holds 0 = .ok (.iload_n 0, 1) := by decide +kernel
theorem d_NC_holds_1 : decode b_NC_holds 1 = .ok (.iload_n 1, 1) := by decide +kernel
theorem d_NC_holds_2 : decode b_NC_holds 2 = .ok (.iushr, 1) := by decide +kernel
theorem d_NC_holds_3 : decode b_NC_holds 3 = .ok (.iconst 1, 1) := by decide +kernel
theorem d_NC_holds_4 : decode b_NC_holds 4 = .ok (.iand, 1) := by decide +kernel
theorem d_NC_holds_5 : decode b_NC_holds 5 = .ok (.ifCond .eq 7, 3) := by decide +kernel
theorem d_NC_holds_8 : decode b_NC_holds 8 = .ok (.iconst 1, 1) := by decide +kernel
theorem d_NC_holds_9 : decode b_NC_holds 9 = .ok (.goto 4, 3) := by decide +kernel
theorem d_NC_holds_12 : decode b_NC_holds 12 = .ok (.iconst 0, 1) := by decide +kernel
theorem d_NC_holds_13 : decode b_NC_holds 13 = .ok (.ireturn, 1) := by decide +kernel
theorem d_NC_leastOf_0 : decode b_NC_leastOf 0 = .ok (.iload_n 0, 1) := by decide +kernel
theorem d_NC_leastOf_1 : decode b_NC_leastOf 1 = .ok (.iload_n 0, 1) := by decide +kernel
theorem d_NC_leastOf_2 : decode b_NC_leastOf 2 = .ok (.ineg, 1) := by decide +kernel
theorem d_NC_leastOf_3 : decode b_NC_leastOf 3 = .ok (.iand, 1) := by decide +kernel
theorem d_NC_leastOf_4 : decode b_NC_leastOf 4 = .ok (.ireturn, 1) := by decide +kernel
theorem d_NC_memberAt_0 : decode b_NC_memberAt 0 = .ok (.iconst 0, 1) := by decide +kernel
theorem d_NC_memberAt_1 : decode b_NC_memberAt 1 = .ok (.istore_n 2, 1) := by decide +kernel
theorem d_NC_memberAt_2 : decode b_NC_memberAt 2 = .ok (.iconst 0, 1) := by decide +kernel
theorem d_NC_memberAt_3 : decode b_NC_memberAt 3 = .ok (.istore_n 3, 1) := by decide +kernel
theorem d_NC_memberAt_4 : decode b_NC_memberAt 4 = .ok (.iload_n 3, 1) := by decide +kernel
theorem d_NC_memberAt_5 : decode b_NC_memberAt 5 = .ok (.bipush 32, 2) := by decide +kernel
theorem d_NC_memberAt_7 : decode b_NC_memberAt 7 = .ok (.if_icmp .ge 27, 3) := by decide +kernel
theorem d_NC_memberAt_10 : decode b_NC_memberAt 10 = .ok (.iload_n 0, 1) := by decide +kernel
theorem d_NC_memberAt_11 : decode b_NC_memberAt 11 = .ok (.iload_n 3, 1) := by decide +kernel
theorem d_NC_memberAt_12 : decode b_NC_memberAt 12 = .ok (.invokestatic 126, 3) := by decide +kernel
theorem d_NC_memberAt_15 : decode b_NC_memberAt 15 = .ok (.ifCond .eq 13, 3) := by decide +kernel
theorem d_NC_memberAt_18 : decode b_NC_memberAt 18 = .ok (.iload_n 2, 1) := by decide +kernel
theorem d_NC_memberAt_19 : decode b_NC_memberAt 19 = .ok (.iload_n 1, 1) := by decide +kernel
theorem d_NC_memberAt_20 : decode b_NC_memberAt 20 = .ok (.if_icmp .ne 5, 3) := by decide +kernel
theorem d_NC_memberAt_23 : decode b_NC_memberAt 23 = .ok (.iload_n 3, 1) := by decide +kernel
theorem d_NC_memberAt_24 : decode b_NC_memberAt 24 = .ok (.ireturn, 1) := by decide +kernel
theorem d_NC_memberAt_25 : decode b_NC_memberAt 25 = .ok (.iinc 2 1, 3) := by decide +kernel
theorem d_NC_memberAt_28 : decode b_NC_memberAt 28 = .ok (.iinc 3 1, 3) := by decide +kernel
theorem d_NC_memberAt_31 : decode b_NC_memberAt 31 = .ok (.goto (-27), 3) := by decide +kernel
theorem d_NC_memberAt_34 : decode b_NC_memberAt 34 = .ok (.iconst (-1), 1) := by decide +kernel
theorem d_NC_memberAt_35 : decode b_NC_memberAt 35 = .ok (.ireturn, 1) := by decide +kernel
theorem d_NC_leadersOf_0 : decode b_NC_leadersOf 0 = .ok (.iconst 0, 1) := by decide +kernel
theorem d_NC_leadersOf_1 : decode b_NC_leadersOf 1 = .ok (.istore_n 2, 1) := by decide +kernel
theorem d_NC_leadersOf_2 : decode b_NC_leadersOf 2 = .ok (.iconst 0, 1) := by decide +kernel
theorem d_NC_leadersOf_3 : decode b_NC_leadersOf 3 = .ok (.istore_n 3, 1) := by decide +kernel
theorem d_NC_leadersOf_4 : decode b_NC_leadersOf 4 = .ok (.iload_n 3, 1) := by decide +kernel
theorem d_NC_leadersOf_5 : decode b_NC_leadersOf 5 = .ok (.aload_n 0, 1) := by decide +kernel
theorem d_NC_leadersOf_6 : decode b_NC_leadersOf 6 = .ok (.getfield 10, 3) := by decide +kernel
theorem d_NC_leadersOf_9 : decode b_NC_leadersOf 9 = .ok (.getfield 165, 3) := by decide +kernel
theorem d_NC_leadersOf_12 : decode b_NC_leadersOf 12 = .ok (.if_icmp .ge 76, 3) := by decide +kernel
theorem d_NC_leadersOf_15 : decode b_NC_leadersOf 15 = .ok (.iload_n 1, 1) := by decide +kernel
theorem d_NC_leadersOf_16 : decode b_NC_leadersOf 16 = .ok (.iload_n 3, 1) := by decide +kernel
theorem d_NC_leadersOf_17 : decode b_NC_leadersOf 17 = .ok (.invokestatic 126, 3) := by decide +kernel
theorem d_NC_leadersOf_20 : decode b_NC_leadersOf 20 = .ok (.istore 4, 2) := by decide +kernel
theorem d_NC_leadersOf_22 : decode b_NC_leadersOf 22 = .ok (.iconst 0, 1) := by decide +kernel
theorem d_NC_leadersOf_23 : decode b_NC_leadersOf 23 = .ok (.istore 5, 2) := by decide +kernel
theorem d_NC_leadersOf_25 : decode b_NC_leadersOf 25 = .ok (.iload 4, 2) := by decide +kernel
theorem d_NC_leadersOf_27 : decode b_NC_leadersOf 27 = .ok (.ifCond .eq 44, 3) := by decide +kernel
theorem d_NC_leadersOf_30 : decode b_NC_leadersOf 30 = .ok (.iload 5, 2) := by decide +kernel
theorem d_NC_leadersOf_32 : decode b_NC_leadersOf 32 = .ok (.iload_n 3, 1) := by decide +kernel
theorem d_NC_leadersOf_33 : decode b_NC_leadersOf 33 = .ok (.if_icmp .ge 38, 3) := by decide +kernel
theorem d_NC_leadersOf_36 : decode b_NC_leadersOf 36 = .ok (.iload_n 2, 1) := by decide +kernel
theorem d_NC_leadersOf_37 : decode b_NC_leadersOf 37 = .ok (.iload 5, 2) := by decide +kernel
theorem d_NC_leadersOf_39 : decode b_NC_leadersOf 39 = .ok (.invokestatic 126, 3) := by decide +kernel
theorem d_NC_leadersOf_42 : decode b_NC_leadersOf 42 = .ok (.ifCond .eq 16, 3) := by decide +kernel
theorem d_NC_leadersOf_45 : decode b_NC_leadersOf 45 = .ok (.aload_n 0, 1) := by decide +kernel
theorem d_NC_leadersOf_46 : decode b_NC_leadersOf 46 = .ok (.getfield 10, 3) := by decide +kernel
theorem d_NC_leadersOf_49 : decode b_NC_leadersOf 49 = .ok (.iload 5, 2) := by decide +kernel
theorem d_NC_leadersOf_51 : decode b_NC_leadersOf 51 = .ok (.iload_n 3, 1) := by decide +kernel
theorem d_NC_leadersOf_52 : decode b_NC_leadersOf 52 = .ok (.invokevirtual 107, 3) := by decide +kernel
theorem d_NC_leadersOf_55 : decode b_NC_leadersOf 55 = .ok (.ifCond .ne 7, 3) := by decide +kernel
theorem d_NC_leadersOf_58 : decode b_NC_leadersOf 58 = .ok (.iconst 1, 1) := by decide +kernel
theorem d_NC_leadersOf_59 : decode b_NC_leadersOf 59 = .ok (.goto 4, 3) := by decide +kernel
theorem d_NC_leadersOf_62 : decode b_NC_leadersOf 62 = .ok (.iconst 0, 1) := by decide +kernel
theorem d_NC_leadersOf_63 : decode b_NC_leadersOf 63 = .ok (.istore 4, 2) := by decide +kernel
theorem d_NC_leadersOf_65 : decode b_NC_leadersOf 65 = .ok (.iinc 5 1, 3) := by decide +kernel
theorem d_NC_leadersOf_68 : decode b_NC_leadersOf 68 = .ok (.goto (-43), 3) := by decide +kernel
theorem d_NC_leadersOf_71 : decode b_NC_leadersOf 71 = .ok (.iload 4, 2) := by decide +kernel
theorem d_NC_leadersOf_73 : decode b_NC_leadersOf 73 = .ok (.ifCond .eq 9, 3) := by decide +kernel
theorem d_NC_leadersOf_76 : decode b_NC_leadersOf 76 = .ok (.iload_n 2, 1) := by decide +kernel
theorem d_NC_leadersOf_77 : decode b_NC_leadersOf 77 = .ok (.iconst 1, 1) := by decide +kernel
theorem d_NC_leadersOf_78 : decode b_NC_leadersOf 78 = .ok (.iload_n 3, 1) := by decide +kernel
theorem d_NC_leadersOf_79 : decode b_NC_leadersOf 79 = .ok (.ishl, 1) := by decide +kernel
theorem d_NC_leadersOf_80 : decode b_NC_leadersOf 80 = .ok (.ior, 1) := by decide +kernel
theorem d_NC_leadersOf_81 : decode b_NC_leadersOf 81 = .ok (.istore_n 2, 1) := by decide +kernel
theorem d_NC_leadersOf_82 : decode b_NC_leadersOf 82 = .ok (.iinc 3 1, 3) := by decide +kernel
theorem d_NC_leadersOf_85 : decode b_NC_leadersOf 85 = .ok (.goto (-81), 3) := by decide +kernel
theorem d_NC_leadersOf_88 : decode b_NC_leadersOf 88 = .ok (.iload_n 2, 1) := by decide +kernel
theorem d_NC_leadersOf_89 : decode b_NC_leadersOf 89 = .ok (.ireturn, 1) := by decide +kernel
theorem d_NC_groupAt_0 : decode b_NC_groupAt 0 = .ok (.aload_n 0, 1) := by decide +kernel
theorem d_NC_groupAt_1 : decode b_NC_groupAt 1 = .ok (.aload_n 0, 1) := by decide +kernel
theorem d_NC_groupAt_2 : decode b_NC_groupAt 2 = .ok (.getfield 53, 3) := by decide +kernel
theorem d_NC_groupAt_5 : decode b_NC_groupAt 5 = .ok (.invokevirtual 151, 3) := by decide +kernel
theorem d_NC_groupAt_8 : decode b_NC_groupAt 8 = .ok (.iload_n 1, 1) := by decide +kernel
theorem d_NC_groupAt_9 : decode b_NC_groupAt 9 = .ok (.invokestatic 162, 3) := by decide +kernel
theorem d_NC_groupAt_12 : decode b_NC_groupAt 12 = .ok (.istore_n 2, 1) := by decide +kernel
theorem d_NC_groupAt_13 : decode b_NC_groupAt 13 = .ok (.iload_n 2, 1) := by decide +kernel
theorem d_NC_groupAt_14 : decode b_NC_groupAt 14 = .ok (.iconst (-1), 1) := by decide +kernel
theorem d_NC_groupAt_15 : decode b_NC_groupAt 15 = .ok (.if_icmp .ne 5, 3) := by decide +kernel
theorem d_NC_groupAt_18 : decode b_NC_groupAt 18 = .ok (.iconst 0, 1) := by decide +kernel
theorem d_NC_groupAt_19 : decode b_NC_groupAt 19 = .ok (.ireturn, 1) := by decide +kernel
theorem d_NC_groupAt_20 : decode b_NC_groupAt 20 = .ok (.iconst 1, 1) := by decide +kernel
theorem d_NC_groupAt_21 : decode b_NC_groupAt 21 = .ok (.iload_n 2, 1) := by decide +kernel
theorem d_NC_groupAt_22 : decode b_NC_groupAt 22 = .ok (.ishl, 1) := by decide +kernel
theorem d_NC_groupAt_23 : decode b_NC_groupAt 23 = .ok (.istore_n 3, 1) := by decide +kernel
theorem d_NC_groupAt_24 : decode b_NC_groupAt 24 = .ok (.iconst 0, 1) := by decide +kernel
theorem d_NC_groupAt_25 : decode b_NC_groupAt 25 = .ok (.istore 4, 2) := by decide +kernel
theorem d_NC_groupAt_27 : decode b_NC_groupAt 27 = .ok (.iload 4, 2) := by decide +kernel
theorem d_NC_groupAt_29 : decode b_NC_groupAt 29 = .ok (.aload_n 0, 1) := by decide +kernel
theorem d_NC_groupAt_30 : decode b_NC_groupAt 30 = .ok (.getfield 10, 3) := by decide +kernel
theorem d_NC_groupAt_33 : decode b_NC_groupAt 33 = .ok (.getfield 165, 3) := by decide +kernel
theorem d_NC_groupAt_36 : decode b_NC_groupAt 36 = .ok (.if_icmp .ge 41, 3) := by decide +kernel
theorem d_NC_groupAt_39 : decode b_NC_groupAt 39 = .ok (.aload_n 0, 1) := by decide +kernel
theorem d_NC_groupAt_40 : decode b_NC_groupAt 40 = .ok (.getfield 53, 3) := by decide +kernel
theorem d_NC_groupAt_43 : decode b_NC_groupAt 43 = .ok (.iload 4, 2) := by decide +kernel
theorem d_NC_groupAt_45 : decode b_NC_groupAt 45 = .ok (.invokestatic 126, 3) := by decide +kernel
theorem d_NC_groupAt_48 : decode b_NC_groupAt 48 = .ok (.ifCond .eq 23, 3) := by decide +kernel
theorem d_NC_groupAt_51 : decode b_NC_groupAt 51 = .ok (.aload_n 0, 1) := by decide +kernel
theorem d_NC_groupAt_52 : decode b_NC_groupAt 52 = .ok (.getfield 10, 3) := by decide +kernel
theorem d_NC_groupAt_55 : decode b_NC_groupAt 55 = .ok (.iload_n 2, 1) := by decide +kernel
theorem d_NC_groupAt_56 : decode b_NC_groupAt 56 = .ok (.iload 4, 2) := by decide +kernel
theorem d_NC_groupAt_58 : decode b_NC_groupAt 58 = .ok (.invokevirtual 107, 3) := by decide +kernel
theorem d_NC_groupAt_61 : decode b_NC_groupAt 61 = .ok (.ifCond .eq 10, 3) := by decide +kernel
theorem d_NC_groupAt_64 : decode b_NC_groupAt 64 = .ok (.iload_n 3, 1) := by decide +kernel
theorem d_NC_groupAt_65 : decode b_NC_groupAt 65 = .ok (.iconst 1, 1) := by decide +kernel
theorem d_NC_groupAt_66 : decode b_NC_groupAt 66 = .ok (.iload 4, 2) := by decide +kernel
theorem d_NC_groupAt_68 : decode b_NC_groupAt 68 = .ok (.ishl, 1) := by decide +kernel
theorem d_NC_groupAt_69 : decode b_NC_groupAt 69 = .ok (.ior, 1) := by decide +kernel
theorem d_NC_groupAt_70 : decode b_NC_groupAt 70 = .ok (.istore_n 3, 1) := by decide +kernel
theorem d_NC_groupAt_71 : decode b_NC_groupAt 71 = .ok (.iinc 4 1, 3) := by decide +kernel
theorem d_NC_groupAt_74 : decode b_NC_groupAt 74 = .ok (.goto (-47), 3) := by decide +kernel
theorem d_NC_groupAt_77 : decode b_NC_groupAt 77 = .ok (.iload_n 3, 1) := by decide +kernel
theorem d_NC_groupAt_78 : decode b_NC_groupAt 78 = .ok (.ireturn, 1) := by decide +kernel
theorem d_NC_tell_0 : decode b_NC_tell 0 = .ok (.aload_n 0, 1) := by decide +kernel
theorem d_NC_tell_1 : decode b_NC_tell 1 = .ok (.iload_n 1, 1) := by decide +kernel
theorem d_NC_tell_2 : decode b_NC_tell 2 = .ok (.putfield 59, 3) := by decide +kernel
theorem d_NC_tell_5 : decode b_NC_tell 5 = .ok (.aload_n 0, 1) := by decide +kernel
theorem d_NC_tell_6 : decode b_NC_tell 6 = .ok (.iload_n 2, 1) := by decide +kernel
theorem d_NC_tell_7 : decode b_NC_tell 7 = .ok (.putfield 62, 3) := by decide +kernel
theorem d_NC_tell_10 : decode b_NC_tell 10 = .ok (.aload_n 0, 1) := by decide +kernel
theorem d_NC_tell_11 : decode b_NC_tell 11 = .ok (.iload_n 3, 1) := by decide +kernel
theorem d_NC_tell_12 : decode b_NC_tell 12 = .ok (.putfield 65, 3) := by decide +kernel
theorem d_NC_tell_15 : decode b_NC_tell 15 = .ok (.return_, 1) := by decide +kernel
theorem d_NC_refuseRow_0 : decode b_NC_refuseRow 0 = .ok (.aload_n 0, 1) := by decide +kernel
theorem d_NC_refuseRow_1 : decode b_NC_refuseRow 1 = .ok (.iconst 0, 1) := by decide +kernel
theorem d_NC_refuseRow_2 : decode b_NC_refuseRow 2 = .ok (.putfield 20, 3) := by decide +kernel
theorem d_NC_refuseRow_5 : decode b_NC_refuseRow 5 = .ok (.aload_n 0, 1) := by decide +kernel
theorem d_NC_refuseRow_6 : decode b_NC_refuseRow 6 = .ok (.iconst (-1), 1) := by decide +kernel
theorem d_NC_refuseRow_7 : decode b_NC_refuseRow 7 = .ok (.iload_n 1, 1) := by decide +kernel
theorem d_NC_refuseRow_8 : decode b_NC_refuseRow 8 = .ok (.iconst (-1), 1) := by decide +kernel
theorem d_NC_refuseRow_9 : decode b_NC_refuseRow 9 = .ok (.invokevirtual 141, 3) := by decide +kernel
theorem d_NC_refuseRow_12 : decode b_NC_refuseRow 12 = .ok (.bipush (-11), 2) := by decide +kernel
theorem d_NC_refuseRow_14 : decode b_NC_refuseRow 14 = .ok (.ireturn, 1) := by decide +kernel
theorem d_NC_bestOf_0 : decode b_NC_bestOf 0 = .ok (.iconst 0, 1) := by decide +kernel
theorem d_NC_bestOf_1 : decode b_NC_bestOf 1 = .ok (.istore_n 2, 1) := by decide +kernel
theorem d_NC_bestOf_2 : decode b_NC_bestOf 2 = .ok (.ldc 225, 2) := by decide +kernel
theorem d_NC_bestOf_4 : decode b_NC_bestOf 4 = .ok (.istore_n 3, 1) := by decide +kernel
theorem d_NC_bestOf_5 : decode b_NC_bestOf 5 = .ok (.iconst 0, 1) := by decide +kernel
theorem d_NC_bestOf_6 : decode b_NC_bestOf 6 = .ok (.istore 4, 2) := by decide +kernel
theorem d_NC_bestOf_8 : decode b_NC_bestOf 8 = .ok (.iload 4, 2) := by decide +kernel
theorem d_NC_bestOf_10 : decode b_NC_bestOf 10 = .ok (.aload_n 0, 1) := by decide +kernel
theorem d_NC_bestOf_11 : decode b_NC_bestOf 11 = .ok (.getfield 10, 3) := by decide +kernel
theorem d_NC_bestOf_14 : decode b_NC_bestOf 14 = .ok (.getfield 165, 3) := by decide +kernel
theorem d_NC_bestOf_17 : decode b_NC_bestOf 17 = .ok (.if_icmp .ge 53, 3) := by decide +kernel
theorem d_NC_bestOf_20 : decode b_NC_bestOf 20 = .ok (.iload_n 1, 1) := by decide +kernel
theorem d_NC_bestOf_21 : decode b_NC_bestOf 21 = .ok (.iload 4, 2) := by decide +kernel
theorem d_NC_bestOf_23 : decode b_NC_bestOf 23 = .ok (.invokestatic 126, 3) := by decide +kernel
theorem d_NC_bestOf_26 : decode b_NC_bestOf 26 = .ok (.ifCond .eq 38, 3) := by decide +kernel
theorem d_NC_bestOf_29 : decode b_NC_bestOf 29 = .ok (.aload_n 0, 1) := by decide +kernel
theorem d_NC_bestOf_30 : decode b_NC_bestOf 30 = .ok (.getfield 10, 3) := by decide +kernel
theorem d_NC_bestOf_33 : decode b_NC_bestOf 33 = .ok (.iload 4, 2) := by decide +kernel
theorem d_NC_bestOf_35 : decode b_NC_bestOf 35 = .ok (.invokevirtual 103, 3) := by decide +kernel
theorem d_NC_bestOf_38 : decode b_NC_bestOf 38 = .ok (.istore 5, 2) := by decide +kernel
theorem d_NC_bestOf_40 : decode b_NC_bestOf 40 = .ok (.iload 5, 2) := by decide +kernel
theorem d_NC_bestOf_42 : decode b_NC_bestOf 42 = .ok (.iload_n 3, 1) := by decide +kernel
theorem d_NC_bestOf_43 : decode b_NC_bestOf 43 = .ok (.if_icmp .le 8, 3) := by decide +kernel
theorem d_NC_bestOf_46 : decode b_NC_bestOf 46 = .ok (.iload 5, 2) := by decide +kernel
theorem d_NC_bestOf_48 : decode b_NC_bestOf 48 = .ok (.istore_n 3, 1) := by decide +kernel
theorem d_NC_bestOf_49 : decode b_NC_bestOf 49 = .ok (.iconst 0, 1) := by decide +kernel
theorem d_NC_bestOf_50 : decode b_NC_bestOf 50 = .ok (.istore_n 2, 1) := by decide +kernel
theorem d_NC_bestOf_51 : decode b_NC_bestOf 51 = .ok (.iload 5, 2) := by decide +kernel
theorem d_NC_bestOf_53 : decode b_NC_bestOf 53 = .ok (.iload_n 3, 1) := by decide +kernel
theorem d_NC_bestOf_54 : decode b_NC_bestOf 54 = .ok (.if_icmp .ne 10, 3) := by decide +kernel
theorem d_NC_bestOf_57 : decode b_NC_bestOf 57 = .ok (.iload_n 2, 1) := by decide +kernel
theorem d_NC_bestOf_58 : decode b_NC_bestOf 58 = .ok (.iconst 1, 1) := by decide +kernel
theorem d_NC_bestOf_59 : decode b_NC_bestOf 59 = .ok (.iload 4, 2) := by decide +kernel
theorem d_NC_bestOf_61 : decode b_NC_bestOf 61 = .ok (.ishl, 1) := by decide +kernel
theorem d_NC_bestOf_62 : decode b_NC_bestOf 62 = .ok (.ior, 1) := by decide +kernel
theorem d_NC_bestOf_63 : decode b_NC_bestOf 63 = .ok (.istore_n 2, 1) := by decide +kernel
theorem d_NC_bestOf_64 : decode b_NC_bestOf 64 = .ok (.iinc 4 1, 3) := by decide +kernel
theorem d_NC_bestOf_67 : decode b_NC_bestOf 67 = .ok (.goto (-59), 3) := by decide +kernel
theorem d_NC_bestOf_70 : decode b_NC_bestOf 70 = .ok (.iload_n 2, 1) := by decide +kernel
theorem d_NC_bestOf_71 : decode b_NC_bestOf 71 = .ok (.ireturn, 1) := by decide +kernel
theorem d_NC_fittingSet_0 : decode b_NC_fittingSet 0 = .ok (.aload_n 1, 1) := by decide +kernel
theorem d_NC_fittingSet_1 : decode b_NC_fittingSet 1 = .ok (.iload_n 2, 1) := by decide +kernel
theorem d_NC_fittingSet_2 : decode b_NC_fittingSet 2 = .ok (.invokevirtual 226, 3) := by decide +kernel
theorem d_NC_fittingSet_5 : decode b_NC_fittingSet 5 = .ok (.istore 4, 2) := by decide +kernel
theorem d_NC_fittingSet_7 : decode b_NC_fittingSet 7 = .ok (.aload_n 1, 1) := by decide +kernel
theorem d_NC_fittingSet_8 : decode b_NC_fittingSet 8 = .ok (.iload_n 2, 1) := by decide +kernel
theorem d_NC_fittingSet_9 : decode b_NC_fittingSet 9 = .ok (.invokevirtual 229, 3) := by decide +kernel
theorem d_NC_fittingSet_12 : decode b_NC_fittingSet 12 = .ok (.istore 5, 2) := by decide +kernel
theorem d_NC_fittingSet_14 : decode b_NC_fittingSet 14 = .ok (.iconst 0, 1) := by decide +kernel
theorem d_NC_fittingSet_15 : decode b_NC_fittingSet 15 = .ok (.istore 6, 2) := by decide +kernel
theorem d_NC_fittingSet_17 : decode b_NC_fittingSet 17 = .ok (.iconst 0, 1) := by decide +kernel
theorem d_NC_fittingSet_18 : decode b_NC_fittingSet 18 = .ok (.istore 7, 2) := by decide +kernel
theorem d_NC_fittingSet_20 : decode b_NC_fittingSet 20 = .ok (.iload 7, 2) := by decide +kernel
theorem d_NC_fittingSet_22 : decode b_NC_fittingSet 22 = .ok (.aload_n 0, 1) := by decide +kernel
theorem d_NC_fittingSet_23 : decode b_NC_fittingSet 23 = .ok (.getfield 10, 3) := by decide +kernel
theorem d_NC_fittingSet_26 : decode b_NC_fittingSet 26 = .ok (.getfield 165, 3) := by decide +kernel
theorem d_NC_fittingSet_29 : decode b_NC_fittingSet 29 = .ok (.if_icmp .ge 36, 3) := by decide +kernel
theorem d_NC_fittingSet_32 : decode b_NC_fittingSet 32 = .ok (.aload_n 0, 1) := by decide +kernel
theorem d_NC_fittingSet_33 : decode b_NC_fittingSet 33 = .ok (.getfield 10, 3) := by decide +kernel
theorem d_NC_fittingSet_36 : decode b_NC_fittingSet 36 = .ok (.iload 7, 2) := by decide +kernel
theorem d_NC_fittingSet_38 : decode b_NC_fittingSet 38 = .ok (.iload 4, 2) := by decide +kernel
theorem d_NC_fittingSet_40 : decode b_NC_fittingSet 40 = .ok (.iload 5, 2) := by decide +kernel
theorem d_NC_fittingSet_42 : decode b_NC_fittingSet 42 = .ok (.invokevirtual 232, 3) := by decide +kernel
theorem d_NC_fittingSet_45 : decode b_NC_fittingSet 45 = .ok (.iload_n 3, 1) := by decide +kernel
theorem d_NC_fittingSet_46 : decode b_NC_fittingSet 46 = .ok (.iand, 1) := by decide +kernel
theorem d_NC_fittingSet_47 : decode b_NC_fittingSet 47 = .ok (.ifCond .eq 12, 3) := by decide +kernel
theorem d_NC_fittingSet_50 : decode b_NC_fittingSet 50 = .ok (.iload 6, 2) := by decide +kernel
theorem d_NC_fittingSet_52 : decode b_NC_fittingSet 52 = .ok (.iconst 1, 1) := by decide +kernel
theorem d_NC_fittingSet_53 : decode b_NC_fittingSet 53 = .ok (.iload 7, 2) := by decide +kernel
theorem d_NC_fittingSet_55 : decode b_NC_fittingSet 55 = .ok (.ishl, 1) := by decide +kernel
theorem d_NC_fittingSet_56 : decode b_NC_fittingSet 56 = .ok (.ior, 1) := by decide +kernel
theorem d_NC_fittingSet_57 : decode b_NC_fittingSet 57 = .ok (.istore 6, 2) := by decide +kernel
theorem d_NC_fittingSet_59 : decode b_NC_fittingSet 59 = .ok (.iinc 7 1, 3) := by decide +kernel
theorem d_NC_fittingSet_62 : decode b_NC_fittingSet 62 = .ok (.goto (-42), 3) := by decide +kernel
theorem d_NC_fittingSet_65 : decode b_NC_fittingSet 65 = .ok (.aload_n 1, 1) := by decide +kernel
theorem d_NC_fittingSet_66 : decode b_NC_fittingSet 66 = .ok (.iload_n 2, 1) := by decide +kernel
theorem d_NC_fittingSet_67 : decode b_NC_fittingSet 67 = .ok (.bipush 32, 2) := by decide +kernel
theorem d_NC_fittingSet_69 : decode b_NC_fittingSet 69 = .ok (.invokevirtual 222, 3) := by decide +kernel
theorem d_NC_fittingSet_72 : decode b_NC_fittingSet 72 = .ok (.ifCond .eq 16, 3) := by decide +kernel
theorem d_NC_fittingSet_75 : decode b_NC_fittingSet 75 = .ok (.iload 6, 2) := by decide +kernel
theorem d_NC_fittingSet_77 : decode b_NC_fittingSet 77 = .ok (.aload_n 0, 1) := by decide +kernel
theorem d_NC_fittingSet_78 : decode b_NC_fittingSet 78 = .ok (.getfield 10, 3) := by decide +kernel
theorem d_NC_fittingSet_81 : decode b_NC_fittingSet 81 = .ok (.iconst 2, 1) := by decide +kernel
theorem d_NC_fittingSet_82 : decode b_NC_fittingSet 82 = .ok (.invokevirtual 171, 3) := by decide +kernel
theorem d_NC_fittingSet_85 : decode b_NC_fittingSet 85 = .ok (.iand, 1) := by decide +kernel
theorem d_NC_fittingSet_86 : decode b_NC_fittingSet 86 = .ok (.istore 6, 2) := by decide +kernel
theorem d_NC_fittingSet_88 : decode b_NC_fittingSet 88 = .ok (.aload_n 1, 1) := by decide +kernel
theorem d_NC_fittingSet_89 : decode b_NC_fittingSet 89 = .ok (.iload_n 2, 1) := by decide +kernel
theorem d_NC_fittingSet_90 : decode b_NC_fittingSet 90 = .ok (.bipush 33, 2) := by decide +kernel
theorem d_NC_fittingSet_92 : decode b_NC_fittingSet 92 = .ok (.invokevirtual 222, 3) := by decide +kernel
theorem d_NC_fittingSet_95 : decode b_NC_fittingSet 95 = .ok (.ifCond .eq 17, 3) := by decide +kernel
theorem d_NC_fittingSet_98 : decode b_NC_fittingSet 98 = .ok (.iload 6, 2) := by decide +kernel
theorem d_NC_fittingSet_100 : decode b_NC_fittingSet 100 = .ok (.aload_n 0, 1) := by decide +kernel
theorem d_NC_fittingSet_101 : decode b_NC_fittingSet 101 = .ok (.getfield 43, 3) := by decide +kernel
theorem d_NC_fittingSet_104 : decode b_NC_fittingSet 104 = .ok (.getfield 235, 3) := by decide +kernel
theorem d_NC_fittingSet_107 : decode b_NC_fittingSet 107 = .ok (.iconst (-1), 1) := by decide +kernel
theorem d_NC_fittingSet_108 : decode b_NC_fittingSet 108 = .ok (.ixor, 1) := by decide +kernel
theorem d_NC_fittingSet_109 : decode b_NC_fittingSet 109 = .ok (.iand, 1) := by decide +kernel
theorem d_NC_fittingSet_110 : decode b_NC_fittingSet 110 = .ok (.istore 6, 2) := by decide +kernel
theorem d_NC_fittingSet_112 : decode b_NC_fittingSet 112 = .ok (.iload 6, 2) := by decide +kernel
theorem d_NC_fittingSet_114 : decode b_NC_fittingSet 114 = .ok (.ireturn, 1) := by decide +kernel
theorem d_NC_replyFault_0 : decode b_NC_replyFault 0 = .ok (.aload_n 0, 1) := by decide +kernel
theorem d_NC_replyFault_1 : decode b_NC_replyFault 1 = .ok (.getfield 20, 3) := by decide +kernel
theorem d_NC_replyFault_4 : decode b_NC_replyFault 4 = .ok (.ifCond .ne 5, 3) := by decide +kernel
theorem d_NC_replyFault_7 : decode b_NC_replyFault 7 = .ok (.iconst 0, 1) := by decide +kernel
theorem d_NC_replyFault_8 : decode b_NC_replyFault 8 = .ok (.ireturn, 1) := by decide +kernel
theorem d_NC_replyFault_9 : decode b_NC_replyFault 9 = .ok (.aload_n 0, 1) := by decide +kernel
theorem d_NC_replyFault_10 : decode b_NC_replyFault 10 = .ok (.getfield 16, 3) := by decide +kernel
theorem d_NC_replyFault_13 : decode b_NC_replyFault 13 = .ok (.iconst 0, 1) := by decide +kernel
theorem d_NC_replyFault_14 : decode b_NC_replyFault 14 = .ok (.iaload, 1) := by decide +kernel
theorem d_NC_replyFault_15 : decode b_NC_replyFault 15 = .ok (.invokestatic 177, 3) := by decide +kernel
theorem d_NC_replyFault_18 : decode b_NC_replyFault 18 = .ok (.ifCond .eq 17, 3) := by decide +kernel
theorem d_NC_replyFault_21 : decode b_NC_replyFault 21 = .ok (.aload_n 0, 1) := by decide +kernel
theorem d_NC_replyFault_22 : decode b_NC_replyFault 22 = .ok (.getfield 20, 3) := by decide +kernel
theorem d_NC_replyFault_25 : decode b_NC_replyFault 25 = .ok (.iconst 1, 1) := by decide +kernel
theorem d_NC_replyFault_26 : decode b_NC_replyFault 26 = .ok (.if_icmp .ne 7, 3) := by decide +kernel
theorem d_NC_replyFault_29 : decode b_NC_replyFault 29 = .ok (.iconst (-1), 1) := by decide +kernel
theorem d_NC_replyFault_30 : decode b_NC_replyFault 30 = .ok (.goto 4, 3) := by decide +kernel
theorem d_NC_replyFault_33 : decode b_NC_replyFault 33 = .ok (.iconst 1, 1) := by decide +kernel
theorem d_NC_replyFault_34 : decode b_NC_replyFault 34 = .ok (.ireturn, 1) := by decide +kernel
theorem d_NC_replyFault_35 : decode b_NC_replyFault 35 = .ok (.iconst 0, 1) := by decide +kernel
theorem d_NC_replyFault_36 : decode b_NC_replyFault 36 = .ok (.istore_n 1, 1) := by decide +kernel
theorem d_NC_replyFault_37 : decode b_NC_replyFault 37 = .ok (.iload_n 1, 1) := by decide +kernel
theorem d_NC_replyFault_38 : decode b_NC_replyFault 38 = .ok (.aload_n 0, 1) := by decide +kernel
theorem d_NC_replyFault_39 : decode b_NC_replyFault 39 = .ok (.getfield 20, 3) := by decide +kernel
theorem d_NC_replyFault_42 : decode b_NC_replyFault 42 = .ok (.if_icmp .ge 38, 3) := by decide +kernel
theorem d_NC_replyFault_45 : decode b_NC_replyFault 45 = .ok (.iload_n 1, 1) := by decide +kernel
theorem d_NC_replyFault_46 : decode b_NC_replyFault 46 = .ok (.aload_n 0, 1) := by decide +kernel
theorem d_NC_replyFault_47 : decode b_NC_replyFault 47 = .ok (.getfield 16, 3) := by decide +kernel
theorem d_NC_replyFault_50 : decode b_NC_replyFault 50 = .ok (.arraylength, 1) := by decide +kernel
theorem d_NC_replyFault_51 : decode b_NC_replyFault 51 = .ok (.if_icmp .ge 29, 3) := by decide +kernel
theorem d_NC_replyFault_54 : decode b_NC_replyFault 54 = .ok (.iload_n 1, 1) := by decide +kernel
theorem d_NC_replyFault_55 : decode b_NC_replyFault 55 = .ok (.bipush 6, 2) := by decide +kernel
theorem d_NC_replyFault_57 : decode b_NC_replyFault 57 = .ok (.if_icmp .ge 15, 3) := by decide +kernel
theorem d_NC_replyFault_60 : decode b_NC_replyFault 60 = .ok (.aload_n 0, 1) := by decide +kernel
theorem d_NC_replyFault_61 : decode b_NC_replyFault 61 = .ok (.getfield 16, 3) := by decide +kernel
theorem d_NC_replyFault_64 : decode b_NC_replyFault 64 = .ok (.iload_n 1, 1) := by decide +kernel
theorem d_NC_replyFault_65 : decode b_NC_replyFault 65 = .ok (.iaload, 1) := by decide +kernel
theorem d_NC_replyFault_66 : decode b_NC_replyFault 66 = .ok (.invokestatic 238, 3) := by decide +kernel
theorem d_NC_replyFault_69 : decode b_NC_replyFault 69 = .ok (.ifCond .ne 5, 3) := by decide +kernel
theorem d_NC_replyFault_72 : decode b_NC_replyFault 72 = .ok (.iload_n 1, 1) := by decide +kernel
theorem d_NC_replyFault_73 : decode b_NC_replyFault 73 = .ok (.ireturn, 1) := by decide +kernel
theorem d_NC_replyFault_74 : decode b_NC_replyFault 74 = .ok (.iinc 1 1, 3) := by decide +kernel
theorem d_NC_replyFault_77 : decode b_NC_replyFault 77 = .ok (.goto (-40), 3) := by decide +kernel
theorem d_NC_replyFault_80 : decode b_NC_replyFault 80 = .ok (.iconst (-1), 1) := by decide +kernel
theorem d_NC_replyFault_81 : decode b_NC_replyFault 81 = .ok (.ireturn, 1) := by decide +kernel
theorem d_NC_leftByRow_0 : decode b_NC_leftByRow 0 = .ok (.aload_n 0, 1) := by decide +kernel
theorem d_NC_leftByRow_1 : decode b_NC_leftByRow 1 = .ok (.getfield 16, 3) := by decide +kernel
theorem d_NC_leftByRow_4 : decode b_NC_leftByRow 4 = .ok (.iconst 0, 1) := by decide +kernel
theorem d_NC_leftByRow_5 : decode b_NC_leftByRow 5 = .ok (.iaload, 1) := by decide +kernel
theorem d_NC_leftByRow_6 : decode b_NC_leftByRow 6 = .ok (.invokestatic 177, 3) := by decide +kernel
theorem d_NC_leftByRow_9 : decode b_NC_leftByRow 9 = .ok (.ifCond .eq 19, 3) := by decide +kernel
theorem d_NC_leftByRow_12 : decode b_NC_leftByRow 12 = .ok (.aload_n 0, 1) := by decide +kernel
theorem d_NC_leftByRow_13 : decode b_NC_leftByRow 13 = .ok (.aload_n 0, 1) := by decide +kernel
theorem d_NC_leftByRow_14 : decode b_NC_leftByRow 14 = .ok (.getfield 16, 3) := by decide +kernel
theorem d_NC_leftByRow_17 : decode b_NC_leftByRow 17 = .ok (.iconst 0, 1) := by decide +kernel
theorem d_NC_leftByRow_18 : decode b_NC_leftByRow 18 = .ok (.iaload, 1) := by decide +kernel
theorem d_NC_leftByRow_19 : decode b_NC_leftByRow 19 = .ok (.bipush 40, 2) := by decide +kernel
theorem d_NC_leftByRow_21 : decode b_NC_leftByRow 21 = .ok (.isub, 1) := by decide +kernel
theorem d_NC_leftByRow_22 : decode b_NC_leftByRow 22 = .ok (.iconst 1, 1) := by decide +kernel
theorem d_NC_leftByRow_23 : decode b_NC_leftByRow 23 = .ok (.isub, 1) := by decide +kernel
theorem d_NC_leftByRow_24 : decode b_NC_leftByRow 24 = .ok (.invokevirtual 159, 3) := by decide +kernel
theorem d_NC_leftByRow_27 : decode b_NC_leftByRow 27 = .ok (.ireturn, 1) := by decide +kernel
theorem d_NC_leftByRow_28 : decode b_NC_leftByRow 28 = .ok (.iconst 0, 1) := by decide +kernel
theorem d_NC_leftByRow_29 : decode b_NC_leftByRow 29 = .ok (.istore_n 1, 1) := by decide +kernel
theorem d_NC_leftByRow_30 : decode b_NC_leftByRow 30 = .ok (.iconst 0, 1) := by decide +kernel
theorem d_NC_leftByRow_31 : decode b_NC_leftByRow 31 = .ok (.istore_n 2, 1) := by decide +kernel
theorem d_NC_leftByRow_32 : decode b_NC_leftByRow 32 = .ok (.iload_n 2, 1) := by decide +kernel
theorem d_NC_leftByRow_33 : decode b_NC_leftByRow 33 = .ok (.aload_n 0, 1) := by decide +kernel
theorem d_NC_leftByRow_34 : decode b_NC_leftByRow 34 = .ok (.getfield 20, 3) := by decide +kernel
theorem d_NC_leftByRow_37 : decode b_NC_leftByRow 37 = .ok (.if_icmp .ge 29, 3) := by decide +kernel
theorem d_NC_leftByRow_40 : decode b_NC_leftByRow 40 = .ok (.iload_n 2, 1) := by decide +kernel
theorem d_NC_leftByRow_41 : decode b_NC_leftByRow 41 = .ok (.aload_n 0, 1) := by decide +kernel
theorem d_NC_leftByRow_42 : decode b_NC_leftByRow 42 = .ok (.getfield 16, 3) := by decide +kernel
theorem d_NC_leftByRow_45 : decode b_NC_leftByRow 45 = .ok (.arraylength, 1) := by decide +kernel
theorem d_NC_leftByRow_46 : decode b_NC_leftByRow 46 = .ok (.if_icmp .ge 20, 3) := by decide +kernel
theorem d_NC_leftByRow_49 : decode b_NC_leftByRow 49 = .ok (.iload_n 1, 1) := by decide +kernel
theorem d_NC_leftByRow_50 : decode b_NC_leftByRow 50 = .ok (.iconst 1, 1) := by decide +kernel
theorem d_NC_leftByRow_51 : decode b_NC_leftByRow 51 = .ok (.aload_n 0, 1) := by decide +kernel
theorem d_NC_leftByRow_52 : decode b_NC_leftByRow 52 = .ok (.getfield 16, 3) := by decide +kernel
theorem d_NC_leftByRow_55 : decode b_NC_leftByRow 55 = .ok (.iload_n 2, 1) := by decide +kernel
theorem d_NC_leftByRow_56 : decode b_NC_leftByRow 56 = .ok (.iaload, 1) := by decide +kernel
theorem d_NC_leftByRow_57 : decode b_NC_leftByRow 57 = .ok (.ishl, 1) := by decide +kernel
theorem d_NC_leftByRow_58 : decode b_NC_leftByRow 58 = .ok (.ior, 1) := by decide +kernel
theorem d_NC_leftByRow_59 : decode b_NC_leftByRow 59 = .ok (.istore_n 1, 1) := by decide +kernel
theorem d_NC_leftByRow_60 : decode b_NC_leftByRow 60 = .ok (.iinc 2 1, 3) := by decide +kernel
theorem d_NC_leftByRow_63 : decode b_NC_leftByRow 63 = .ok (.goto (-31), 3) := by decide +kernel
theorem d_NC_leftByRow_66 : decode b_NC_leftByRow 66 = .ok (.iconst 0, 1) := by decide +kernel
theorem d_NC_leftByRow_67 : decode b_NC_leftByRow 67 = .ok (.istore_n 2, 1) := by decide +kernel
theorem d_NC_leftByRow_68 : decode b_NC_leftByRow 68 = .ok (.iconst 0, 1) := by decide +kernel
theorem d_NC_leftByRow_69 : decode b_NC_leftByRow 69 = .ok (.istore_n 3, 1) := by decide +kernel
theorem d_NC_leftByRow_70 : decode b_NC_leftByRow 70 = .ok (.iload_n 3, 1) := by decide +kernel
theorem d_NC_leftByRow_71 : decode b_NC_leftByRow 71 = .ok (.aload_n 0, 1) := by decide +kernel
theorem d_NC_leftByRow_72 : decode b_NC_leftByRow 72 = .ok (.getfield 10, 3) := by decide +kernel
theorem d_NC_leftByRow_75 : decode b_NC_leftByRow 75 = .ok (.getfield 165, 3) := by decide +kernel
theorem d_NC_leftByRow_78 : decode b_NC_leftByRow 78 = .ok (.if_icmp .ge 38, 3) := by decide +kernel
theorem d_NC_leftByRow_81 : decode b_NC_leftByRow 81 = .ok (.aload_n 0, 1) := by decide +kernel
theorem d_NC_leftByRow_82 : decode b_NC_leftByRow 82 = .ok (.getfield 53, 3) := by decide +kernel
theorem d_NC_leftByRow_85 : decode b_NC_leftByRow 85 = .ok (.iload_n 3, 1) := by decide +kernel
theorem d_NC_leftByRow_86 : decode b_NC_leftByRow 86 = .ok (.invokestatic 126, 3) := by decide +kernel
theorem d_NC_leftByRow_89 : decode b_NC_leftByRow 89 = .ok (.ifCond .eq 21, 3) := by decide +kernel
theorem d_NC_leftByRow_92 : decode b_NC_leftByRow 92 = .ok (.aload_n 0, 1) := by decide +kernel
theorem d_NC_leftByRow_93 : decode b_NC_leftByRow 93 = .ok (.getfield 10, 3) := by decide +kernel
theorem d_NC_leftByRow_96 : decode b_NC_leftByRow 96 = .ok (.iload_n 3, 1) := by decide +kernel
theorem d_NC_leftByRow_97 : decode b_NC_leftByRow 97 = .ok (.iload_n 1, 1) := by decide +kernel
theorem d_NC_leftByRow_98 : decode b_NC_leftByRow 98 = .ok (.invokevirtual 241, 3) := by decide +kernel
theorem d_NC_leftByRow_101 : decode b_NC_leftByRow 101 = .ok (.ifCond .eq 9, 3) := by decide +kernel
theorem d_NC_leftByRow_104 : decode b_NC_leftByRow 104 = .ok (.iload_n 2, 1) := by decide +kernel
theorem d_NC_leftByRow_105 : decode b_NC_leftByRow 105 = .ok (.iconst 1, 1) := by decide +kernel
theorem d_NC_leftByRow_106 : decode b_NC_leftByRow 106 = .ok (.iload_n 3, 1) := by decide +kernel
theorem d_NC_leftByRow_107 : decode b_NC_leftByRow 107 = .ok (.ishl, 1) := by decide +kernel
theorem d_NC_leftByRow_108 : decode b_NC_leftByRow 108 = .ok (.ior, 1) := by decide +kernel
theorem d_NC_leftByRow_109 : decode b_NC_leftByRow 109 = .ok (.istore_n 2, 1) := by decide +kernel
theorem d_NC_leftByRow_110 : decode b_NC_leftByRow 110 = .ok (.iinc 3 1, 3) := by decide +kernel
theorem d_NC_leftByRow_113 : decode b_NC_leftByRow 113 = .ok (.goto (-43), 3) := by decide +kernel
theorem d_NC_leftByRow_116 : decode b_NC_leftByRow 116 = .ok (.iload_n 2, 1) := by decide +kernel
theorem d_NC_leftByRow_117 : decode b_NC_leftByRow 117 = .ok (.ireturn, 1) := by decide +kernel
theorem d_NC_endAt_0 : decode b_NC_endAt 0 = .ok (.iload_n 2, 1) := by decide +kernel
theorem d_NC_endAt_1 : decode b_NC_endAt 1 = .ok (.iconst 2, 1) := by decide +kernel
theorem d_NC_endAt_2 : decode b_NC_endAt 2 = .ok (.if_icmp .eq 13, 3) := by decide +kernel
theorem d_NC_endAt_5 : decode b_NC_endAt 5 = .ok (.iload_n 2, 1) := by decide +kernel
theorem d_NC_endAt_6 : decode b_NC_endAt 6 = .ok (.iconst 3, 1) := by decide +kernel
theorem d_NC_endAt_7 : decode b_NC_endAt 7 = .ok (.if_icmp .eq 8, 3) := by decide +kernel
theorem d_NC_endAt_10 : decode b_NC_endAt 10 = .ok (.iload_n 2, 1) := by decide +kernel
theorem d_NC_endAt_11 : decode b_NC_endAt 11 = .ok (.iconst 5, 1) := by decide +kernel
theorem d_NC_endAt_12 : decode b_NC_endAt 12 = .ok (.if_icmp .ne 7, 3) := by decide +kernel
theorem d_NC_endAt_15 : decode b_NC_endAt 15 = .ok (.iconst 1, 1) := by decide +kernel
theorem d_NC_endAt_16 : decode b_NC_endAt 16 = .ok (.goto 4, 3) := by decide +kernel
theorem d_NC_endAt_19 : decode b_NC_endAt 19 = .ok (.iconst 0, 1) := by decide +kernel
theorem d_NC_endAt_20 : decode b_NC_endAt 20 = .ok (.istore_n 3, 1) := by decide +kernel
theorem d_NC_endAt_21 : decode b_NC_endAt 21 = .ok (.aload_n 0, 1) := by decide +kernel
theorem d_NC_endAt_22 : decode b_NC_endAt 22 = .ok (.iload_n 1, 1) := by decide +kernel
theorem d_NC_endAt_23 : decode b_NC_endAt 23 = .ok (.iconst (-1), 1) := by decide +kernel
theorem d_NC_endAt_24 : decode b_NC_endAt 24 = .ok (.iload_n 3, 1) := by decide +kernel
theorem d_NC_endAt_25 : decode b_NC_endAt 25 = .ok (.ifCond .eq 7, 3) := by decide +kernel
theorem d_NC_endAt_28 : decode b_NC_endAt 28 = .ok (.iconst 0, 1) := by decide +kernel
theorem d_NC_endAt_29 : decode b_NC_endAt 29 = .ok (.goto 10, 3) := by decide +kernel
theorem d_NC_endAt_32 : decode b_NC_endAt 32 = .ok (.aload_n 0, 1) := by decide +kernel
theorem d_NC_endAt_33 : decode b_NC_endAt 33 = .ok (.getfield 50, 3) := by decide +kernel
theorem d_NC_endAt_36 : decode b_NC_endAt 36 = .ok (.invokestatic 154, 3) := by decide +kernel
theorem d_NC_endAt_39 : decode b_NC_endAt 39 = .ok (.invokevirtual 141, 3) := by decide +kernel
theorem d_NC_endAt_42 : decode b_NC_endAt 42 = .ok (.iload_n 2, 1) := by decide +kernel
theorem d_NC_endAt_43 : decode b_NC_endAt 43 = .ok (.iconst 1, 1) := by decide +kernel
theorem d_NC_endAt_44 : decode b_NC_endAt 44 = .ok (.if_icmp .ne 7, 3) := by decide +kernel
theorem d_NC_endAt_47 : decode b_NC_endAt 47 = .ok (.iconst 0, 1) := by decide +kernel
theorem d_NC_endAt_48 : decode b_NC_endAt 48 = .ok (.goto 7, 3) := by decide +kernel
theorem d_NC_endAt_51 : decode b_NC_endAt 51 = .ok (.bipush (-10), 2) := by decide +kernel
theorem d_NC_endAt_53 : decode b_NC_endAt 53 = .ok (.iload_n 2, 1) := by decide +kernel
theorem d_NC_endAt_54 : decode b_NC_endAt 54 = .ok (.isub, 1) := by decide +kernel
theorem d_NC_endAt_55 : decode b_NC_endAt 55 = .ok (.ireturn, 1) := by decide +kernel
theorem d_NC_takeExceptsAway_0 : decode b_NC_takeExceptsAway 0 = .ok (.aload_n 0, 1) := by decide +kernel
theorem d_NC_takeExceptsAway_1 : decode b_NC_takeExceptsAway 1 = .ok (.getfield 30, 3) := by decide +kernel
theorem d_NC_takeExceptsAway_4 : decode b_NC_takeExceptsAway 4 = .ok (.iload_n 1, 1) := by decide +kernel
theorem d_NC_takeExceptsAway_5 : decode b_NC_takeExceptsAway 5 = .ok (.invokevirtual 210, 3) := by decide +kernel
theorem d_NC_takeExceptsAway_8 : decode b_NC_takeExceptsAway 8 = .ok (.istore_n 2, 1) := by decide +kernel
theorem d_NC_takeExceptsAway_9 : decode b_NC_takeExceptsAway 9 = .ok (.aload_n 0, 1) := by decide +kernel
theorem d_NC_takeExceptsAway_10 : decode b_NC_takeExceptsAway 10 = .ok (.getfield 30, 3) := by decide +kernel
theorem d_NC_takeExceptsAway_13 : decode b_NC_takeExceptsAway 13 = .ok (.iload_n 1, 1) := by decide +kernel
theorem d_NC_takeExceptsAway_14 : decode b_NC_takeExceptsAway 14 = .ok (.invokevirtual 213, 3) := by decide +kernel
theorem d_NC_takeExceptsAway_17 : decode b_NC_takeExceptsAway 17 = .ok (.istore_n 3, 1) := by decide +kernel
theorem d_NC_takeExceptsAway_18 : decode b_NC_takeExceptsAway 18 = .ok (.iload_n 3, 1) := by decide +kernel
theorem d_NC_takeExceptsAway_19 : decode b_NC_takeExceptsAway 19 = .ok (.iload_n 2, 1) := by decide +kernel
theorem d_NC_takeExceptsAway_20 : decode b_NC_takeExceptsAway 20 = .ok (.if_icmp .ge 46, 3) := by decide +kernel
theorem d_NC_takeExceptsAway_23 : decode b_NC_takeExceptsAway 23 = .ok (.aload_n 0, 1) := by decide +kernel
theorem d_NC_takeExceptsAway_24 : decode b_NC_takeExceptsAway 24 = .ok (.getfield 50, 3) := by decide +kernel
theorem d_NC_takeExceptsAway_27 : decode b_NC_takeExceptsAway 27 = .ok (.aload_n 0, 1) := by decide +kernel
theorem d_NC_takeExceptsAway_28 : decode b_NC_takeExceptsAway 28 = .ok (.aload_n 0, 1) := by decide +kernel
theorem d_NC_takeExceptsAway_29 : decode b_NC_takeExceptsAway 29 = .ok (.getfield 30, 3) := by decide +kernel
theorem d_NC_takeExceptsAway_32 : decode b_NC_takeExceptsAway 32 = .ok (.iload_n 3, 1) := by decide +kernel
theorem d_NC_takeExceptsAway_33 : decode b_NC_takeExceptsAway 33 = .ok (.iconst 3, 1) := by decide +kernel
theorem d_NC_takeExceptsAway_34 : decode b_NC_takeExceptsAway 34 = .ok (.invokevirtual 122, 3) := by decide +kernel
theorem d_NC_takeExceptsAway_37 : decode b_NC_takeExceptsAway 37 = .ok (.iand, 1) := by decide +kernel
theorem d_NC_takeExceptsAway_38 : decode b_NC_takeExceptsAway 38 = .ok (.istore 4, 2) := by decide +kernel
theorem d_NC_takeExceptsAway_40 : decode b_NC_takeExceptsAway 40 = .ok (.iload 4, 2) := by decide +kernel
theorem d_NC_takeExceptsAway_42 : decode b_NC_takeExceptsAway 42 = .ok (.ifCond .ne 5, 3) := by decide +kernel
theorem d_NC_takeExceptsAway_45 : decode b_NC_takeExceptsAway 45 = .ok (.iconst 0, 1) := by decide +kernel
theorem d_NC_takeExceptsAway_46 : decode b_NC_takeExceptsAway 46 = .ok (.ireturn, 1) := by decide +kernel
theorem d_NC_takeExceptsAway_47 : decode b_NC_takeExceptsAway 47 = .ok (.aload_n 0, 1) := by decide +kernel
theorem d_NC_takeExceptsAway_48 : decode b_NC_takeExceptsAway 48 = .ok (.dup, 1) := by decide +kernel
theorem d_NC_takeExceptsAway_49 : decode b_NC_takeExceptsAway 49 = .ok (.getfield 50, 3) := by decide +kernel
theorem d_NC_takeExceptsAway_52 : decode b_NC_takeExceptsAway 52 = .ok (.iload 4, 2) := by decide +kernel
theorem d_NC_takeExceptsAway_54 : decode b_NC_takeExceptsAway 54 = .ok (.iconst (-1), 1) := by decide +kernel
theorem d_NC_takeExceptsAway_55 : decode b_NC_takeExceptsAway 55 = .ok (.ixor, 1) := by decide +kernel
theorem d_NC_takeExceptsAway_56 : decode b_NC_takeExceptsAway 56 = .ok (.iand, 1) := by decide +kernel
theorem d_NC_takeExceptsAway_57 : decode b_NC_takeExceptsAway 57 = .ok (.putfield 50, 3) := by decide +kernel
theorem d_NC_takeExceptsAway_60 : decode b_NC_takeExceptsAway 60 = .ok (.iinc 3 1, 3) := by decide +kernel
theorem d_NC_takeExceptsAway_63 : decode b_NC_takeExceptsAway 63 = .ok (.goto (-45), 3) := by decide +kernel
theorem d_NC_takeExceptsAway_66 : decode b_NC_takeExceptsAway 66 = .ok (.iconst 1, 1) := by decide +kernel
theorem d_NC_takeExceptsAway_67 : decode b_NC_takeExceptsAway 67 = .ok (.ireturn, 1) := by decide +kernel
theorem d_NC_giveNumber_0 : decode b_NC_giveNumber 0 = .ok (.aload_n 0, 1) := by decide +kernel
theorem d_NC_giveNumber_1 : decode b_NC_giveNumber 1 = .ok (.getfield 50, 3) := by decide +kernel
theorem d_NC_giveNumber_4 : decode b_NC_giveNumber 4 = .ok (.invokestatic 154, 3) := by decide +kernel
theorem d_NC_giveNumber_7 : decode b_NC_giveNumber 7 = .ok (.iload_n 1, 1) := by decide +kernel
theorem d_NC_giveNumber_8 : decode b_NC_giveNumber 8 = .ok (.if_icmp .ge 6, 3) := by decide +kernel
theorem d_NC_giveNumber_11 : decode b_NC_giveNumber 11 = .ok (.bipush 6, 2) := by decide +kernel
theorem d_NC_giveNumber_13 : decode b_NC_giveNumber 13 = .ok (.ireturn, 1) := by decide +kernel
theorem d_NC_giveNumber_14 : decode b_NC_giveNumber 14 = .ok (.aload_n 0, 1) := by decide +kernel
theorem d_NC_giveNumber_15 : decode b_NC_giveNumber 15 = .ok (.getfield 50, 3) := by decide +kernel
theorem d_NC_giveNumber_18 : decode b_NC_giveNumber 18 = .ok (.istore_n 2, 1) := by decide +kernel
theorem d_NC_giveNumber_19 : decode b_NC_giveNumber 19 = .ok (.iconst 0, 1) := by decide +kernel
theorem d_NC_giveNumber_20 : decode b_NC_giveNumber 20 = .ok (.istore_n 3, 1) := by decide +kernel
theorem d_NC_giveNumber_21 : decode b_NC_giveNumber 21 = .ok (.iload_n 3, 1) := by decide +kernel
theorem d_NC_giveNumber_22 : decode b_NC_giveNumber 22 = .ok (.iload_n 1, 1) := by decide +kernel
theorem d_NC_giveNumber_23 : decode b_NC_giveNumber 23 = .ok (.if_icmp .ge 22, 3) := by decide +kernel
theorem d_NC_giveNumber_26 : decode b_NC_giveNumber 26 = .ok (.iload_n 2, 1) := by decide +kernel
theorem d_NC_giveNumber_27 : decode b_NC_giveNumber 27 = .ok (.aload_n 0, 1) := by decide +kernel
theorem d_NC_giveNumber_28 : decode b_NC_giveNumber 28 = .ok (.iload_n 2, 1) := by decide +kernel
theorem d_NC_giveNumber_29 : decode b_NC_giveNumber 29 = .ok (.invokevirtual 216, 3) := by decide +kernel
theorem d_NC_giveNumber_32 : decode b_NC_giveNumber 32 = .ok (.invokestatic 219, 3) := by decide +kernel
theorem d_NC_giveNumber_35 : decode b_NC_giveNumber 35 = .ok (.iconst (-1), 1) := by decide +kernel
theorem d_NC_giveNumber_36 : decode b_NC_giveNumber 36 = .ok (.ixor, 1) := by decide +kernel
theorem d_NC_giveNumber_37 : decode b_NC_giveNumber 37 = .ok (.iand, 1) := by decide +kernel
theorem d_NC_giveNumber_38 : decode b_NC_giveNumber 38 = .ok (.istore_n 2, 1) := by decide +kernel
theorem d_NC_giveNumber_39 : decode b_NC_giveNumber 39 = .ok (.iinc 3 1, 3) := by decide +kernel
theorem d_NC_giveNumber_42 : decode b_NC_giveNumber 42 = .ok (.goto (-21), 3) := by decide +kernel
theorem d_NC_giveNumber_45 : decode b_NC_giveNumber 45 = .ok (.aload_n 0, 1) := by decide +kernel
theorem d_NC_giveNumber_46 : decode b_NC_giveNumber 46 = .ok (.getfield 47, 3) := by decide +kernel
theorem d_NC_giveNumber_49 : decode b_NC_giveNumber 49 = .ok (.aload_n 0, 1) := by decide +kernel
theorem d_NC_giveNumber_50 : decode b_NC_giveNumber 50 = .ok (.getfield 50, 3) := by decide +kernel
theorem d_NC_giveNumber_53 : decode b_NC_giveNumber 53 = .ok (.iload_n 2, 1) := by decide +kernel
theorem d_NC_giveNumber_54 : decode b_NC_giveNumber 54 = .ok (.iconst (-1), 1) := by decide +kernel
theorem d_NC_giveNumber_55 : decode b_NC_giveNumber 55 = .ok (.ixor, 1) := by decide +kernel
theorem d_NC_giveNumber_56 : decode b_NC_giveNumber 56 = .ok (.iand, 1) := by decide +kernel
theorem d_NC_giveNumber_57 : decode b_NC_giveNumber 57 = .ok (.invokevirtual 204, 3) := by decide +kernel
theorem d_NC_giveNumber_60 : decode b_NC_giveNumber 60 = .ok (.iconst 0, 1) := by decide +kernel
theorem d_NC_giveNumber_61 : decode b_NC_giveNumber 61 = .ok (.ireturn, 1) := by decide +kernel
theorem d_NC_giveMeant_0 : decode b_NC_giveMeant 0 = .ok (.aload_n 0, 1) := by decide +kernel
theorem d_NC_giveMeant_1 : decode b_NC_giveMeant 1 = .ok (.getfield 50, 3) := by decide +kernel
theorem d_NC_giveMeant_4 : decode b_NC_giveMeant 4 = .ok (.aload_n 0, 1) := by decide +kernel
theorem d_NC_giveMeant_5 : decode b_NC_giveMeant 5 = .ok (.aload_n 0, 1) := by decide +kernel
theorem d_NC_giveMeant_6 : decode b_NC_giveMeant 6 = .ok (.getfield 30, 3) := by decide +kernel
theorem d_NC_giveMeant_9 : decode b_NC_giveMeant 9 = .ok (.iload_n 2, 1) := by decide +kernel
theorem d_NC_giveMeant_10 : decode b_NC_giveMeant 10 = .ok (.iconst 2, 1) := by decide +kernel
theorem d_NC_giveMeant_11 : decode b_NC_giveMeant 11 = .ok (.invokevirtual 122, 3) := by decide +kernel
theorem d_NC_giveMeant_14 : decode b_NC_giveMeant 14 = .ok (.iand, 1) := by decide +kernel
theorem d_NC_giveMeant_15 : decode b_NC_giveMeant 15 = .ok (.istore_n 3, 1) := by decide +kernel
theorem d_NC_giveMeant_16 : decode b_NC_giveMeant 16 = .ok (.iload_n 3, 1) := by decide +kernel
theorem d_NC_giveMeant_17 : decode b_NC_giveMeant 17 = .ok (.ifCond .eq 13, 3) := by decide +kernel
theorem d_NC_giveMeant_20 : decode b_NC_giveMeant 20 = .ok (.aload_n 0, 1) := by decide +kernel
theorem d_NC_giveMeant_21 : decode b_NC_giveMeant 21 = .ok (.getfield 47, 3) := by decide +kernel
theorem d_NC_giveMeant_24 : decode b_NC_giveMeant 24 = .ok (.iload_n 3, 1) := by decide +kernel
theorem d_NC_giveMeant_25 : decode b_NC_giveMeant 25 = .ok (.invokevirtual 204, 3) := by decide +kernel
theorem d_NC_giveMeant_28 : decode b_NC_giveMeant 28 = .ok (.iconst 0, 1) := by decide +kernel
theorem d_NC_giveMeant_29 : decode b_NC_giveMeant 29 = .ok (.ireturn, 1) := by decide +kernel
theorem d_NC_giveMeant_30 : decode b_NC_giveMeant 30 = .ok (.iload_n 1, 1) := by decide +kernel
theorem d_NC_giveMeant_31 : decode b_NC_giveMeant 31 = .ok (.ifCond .lt 26, 3) := by decide +kernel
theorem d_NC_giveMeant_34 : decode b_NC_giveMeant 34 = .ok (.iload_n 1, 1) := by decide +kernel
theorem d_NC_giveMeant_35 : decode b_NC_giveMeant 35 = .ok (.aload_n 0, 1) := by decide +kernel
theorem d_NC_giveMeant_36 : decode b_NC_giveMeant 36 = .ok (.getfield 37, 3) := by decide +kernel
theorem d_NC_giveMeant_39 : decode b_NC_giveMeant 39 = .ok (.arraylength, 1) := by decide +kernel
theorem d_NC_giveMeant_40 : decode b_NC_giveMeant 40 = .ok (.if_icmp .ge 17, 3) := by decide +kernel
theorem d_NC_giveMeant_43 : decode b_NC_giveMeant 43 = .ok (.aload_n 0, 1) := by decide +kernel
theorem d_NC_giveMeant_44 : decode b_NC_giveMeant 44 = .ok (.getfield 50, 3) := by decide +kernel
theorem d_NC_giveMeant_47 : decode b_NC_giveMeant 47 = .ok (.aload_n 0, 1) := by decide +kernel
theorem d_NC_giveMeant_48 : decode b_NC_giveMeant 48 = .ok (.getfield 37, 3) := by decide +kernel
theorem d_NC_giveMeant_51 : decode b_NC_giveMeant 51 = .ok (.iload_n 1, 1) := by decide +kernel
theorem d_NC_giveMeant_52 : decode b_NC_giveMeant 52 = .ok (.iaload, 1) := by decide +kernel
theorem d_NC_giveMeant_53 : decode b_NC_giveMeant 53 = .ok (.iand, 1) := by decide +kernel
theorem d_NC_giveMeant_54 : decode b_NC_giveMeant 54 = .ok (.goto 7, 3) := by decide +kernel
theorem d_NC_giveMeant_57 : decode b_NC_giveMeant 57 = .ok (.aload_n 0, 1) := by decide +kernel
theorem d_NC_giveMeant_58 : decode b_NC_giveMeant 58 = .ok (.getfield 50, 3) := by decide +kernel
theorem d_NC_giveMeant_61 : decode b_NC_giveMeant 61 = .ok (.istore 4, 2) := by decide +kernel
theorem d_NC_giveMeant_63 : decode b_NC_giveMeant 63 = .ok (.iload 4, 2) := by decide +kernel
theorem d_NC_giveMeant_65 : decode b_NC_giveMeant 65 = .ok (.ifCond .ne 5, 3) := by decide +kernel
theorem d_NC_giveMeant_68 : decode b_NC_giveMeant 68 = .ok (.iconst 3, 1) := by decide +kernel
theorem d_NC_giveMeant_69 : decode b_NC_giveMeant 69 = .ok (.ireturn, 1) := by decide +kernel
theorem d_NC_giveMeant_70 : decode b_NC_giveMeant 70 = .ok (.aload_n 0, 1) := by decide +kernel
theorem d_NC_giveMeant_71 : decode b_NC_giveMeant 71 = .ok (.iload 4, 2) := by decide +kernel
theorem d_NC_giveMeant_73 : decode b_NC_giveMeant 73 = .ok (.invokevirtual 216, 3) := by decide +kernel
theorem d_NC_giveMeant_76 : decode b_NC_giveMeant 76 = .ok (.istore 5, 2) := by decide +kernel
theorem d_NC_giveMeant_78 : decode b_NC_giveMeant 78 = .ok (.aload_n 0, 1) := by decide +kernel
theorem d_NC_giveMeant_79 : decode b_NC_giveMeant 79 = .ok (.getfield 30, 3) := by decide +kernel
theorem d_NC_giveMeant_82 : decode b_NC_giveMeant 82 = .ok (.iload_n 2, 1) := by decide +kernel
theorem d_NC_giveMeant_83 : decode b_NC_giveMeant 83 = .ok (.bipush 31, 2) := by decide +kernel
theorem d_NC_giveMeant_85 : decode b_NC_giveMeant 85 = .ok (.invokevirtual 222, 3) := by decide +kernel
theorem d_NC_giveMeant_88 : decode b_NC_giveMeant 88 = .ok (.ifCond .ne 16, 3) := by decide +kernel
theorem d_NC_giveMeant_91 : decode b_NC_giveMeant 91 = .ok (.aload_n 0, 1) := by decide +kernel
theorem d_NC_giveMeant_92 : decode b_NC_giveMeant 92 = .ok (.iload 5, 2) := by decide +kernel
theorem d_NC_giveMeant_94 : decode b_NC_giveMeant 94 = .ok (.invokevirtual 151, 3) := by decide +kernel
theorem d_NC_giveMeant_97 : decode b_NC_giveMeant 97 = .ok (.invokestatic 154, 3) := by decide +kernel
theorem d_NC_giveMeant_100 : decode b_NC_giveMeant 100 = .ok (.iconst 1, 1) := by decide +kernel
theorem d_NC_giveMeant_101 : decode b_NC_giveMeant 101 = .ok (.if_icmp .ne 17, 3) := by decide +kernel
theorem d_NC_giveMeant_104 : decode b_NC_giveMeant 104 = .ok (.aload_n 0, 1) := by decide +kernel
theorem d_NC_giveMeant_105 : decode b_NC_giveMeant 105 = .ok (.getfield 47, 3) := by decide +kernel
theorem d_NC_giveMeant_108 : decode b_NC_giveMeant 108 = .ok (.iload 5, 2) := by decide +kernel
theorem d_NC_giveMeant_110 : decode b_NC_giveMeant 110 = .ok (.invokestatic 219, 3) := by decide +kernel
theorem d_NC_giveMeant_113 : decode b_NC_giveMeant 113 = .ok (.invokevirtual 204, 3) := by decide +kernel
theorem d_NC_giveMeant_116 : decode b_NC_giveMeant 116 = .ok (.iconst 0, 1) := by decide +kernel
theorem d_NC_giveMeant_117 : decode b_NC_giveMeant 117 = .ok (.ireturn, 1) := by decide +kernel
theorem d_NC_giveMeant_118 : decode b_NC_giveMeant 118 = .ok (.aload_n 0, 1) := by decide +kernel
theorem d_NC_giveMeant_119 : decode b_NC_giveMeant 119 = .ok (.iload 5, 2) := by decide +kernel
theorem d_NC_giveMeant_121 : decode b_NC_giveMeant 121 = .ok (.putfield 53, 3) := by decide +kernel
theorem d_NC_giveMeant_124 : decode b_NC_giveMeant 124 = .ok (.aload_n 0, 1) := by decide +kernel
theorem d_NC_giveMeant_125 : decode b_NC_giveMeant 125 = .ok (.iload_n 1, 1) := by decide +kernel
theorem d_NC_giveMeant_126 : decode b_NC_giveMeant 126 = .ok (.putfield 56, 3) := by decide +kernel
theorem d_NC_giveMeant_129 : decode b_NC_giveMeant 129 = .ok (.iconst 1, 1) := by decide +kernel
theorem d_NC_giveMeant_130 : decode b_NC_giveMeant 130 = .ok (.ireturn, 1) := by decide +kernel
theorem d_NC_goThroughPart_0 : decode b_NC_goThroughPart 0 = .ok (.aload_n 0, 1) := by decide +kernel
theorem d_NC_goThroughPart_1 : decode b_NC_goThroughPart 1 = .ok (.getfield 30, 3) := by decide +kernel
theorem d_NC_goThroughPart_4 : decode b_NC_goThroughPart 4 = .ok (.iload_n 1, 1) := by decide +kernel
theorem d_NC_goThroughPart_5 : decode b_NC_goThroughPart 5 = .ok (.invokevirtual 189, 3) := by decide +kernel
theorem d_NC_goThroughPart_8 : decode b_NC_goThroughPart 8 = .ok (.istore_n 2, 1) := by decide +kernel
theorem d_NC_goThroughPart_9 : decode b_NC_goThroughPart 9 = .ok (.iload_n 2, 1) := by decide +kernel
theorem d_NC_goThroughPart_10 : decode b_NC_goThroughPart 10 = .ok (.iconst (-1), 1) := by decide +kernel
theorem d_NC_goThroughPart_11 : decode b_NC_goThroughPart 11 = .ok (.if_icmp .ne 13, 3) := by decide +kernel
theorem d_NC_goThroughPart_14 : decode b_NC_goThroughPart 14 = .ok (.aload_n 0, 1) := by decide +kernel
theorem d_NC_goThroughPart_15 : decode b_NC_goThroughPart 15 = .ok (.getfield 10, 3) := by decide +kernel
theorem d_NC_goThroughPart_18 : decode b_NC_goThroughPart 18 = .ok (.invokevirtual 192, 3) := by decide +kernel
theorem d_NC_goThroughPart_21 : decode b_NC_goThroughPart 21 = .ok (.goto 13, 3) := by decide +kernel
theorem d_NC_goThroughPart_24 : decode b_NC_goThroughPart 24 = .ok (.aload_n 0, 1) := by decide +kernel
theorem d_NC_goThroughPart_25 : decode b_NC_goThroughPart 25 = .ok (.aload_n 0, 1) := by decide +kernel
theorem d_NC_goThroughPart_26 : decode b_NC_goThroughPart 26 = .ok (.getfield 30, 3) := by decide +kernel
theorem d_NC_goThroughPart_29 : decode b_NC_goThroughPart 29 = .ok (.iload_n 2, 1) := by decide +kernel
theorem d_NC_goThroughPart_30 : decode b_NC_goThroughPart 30 = .ok (.iconst 3, 1) := by decide +kernel
theorem d_NC_goThroughPart_31 : decode b_NC_goThroughPart 31 = .ok (.invokevirtual 122, 3) := by decide +kernel
theorem d_NC_goThroughPart_34 : decode b_NC_goThroughPart 34 = .ok (.istore_n 3, 1) := by decide +kernel
theorem d_NC_goThroughPart_35 : decode b_NC_goThroughPart 35 = .ok (.iload_n 3, 1) := by decide +kernel
theorem d_NC_goThroughPart_36 : decode b_NC_goThroughPart 36 = .ok (.ifCond .ne 5, 3) := by decide +kernel
theorem d_NC_goThroughPart_39 : decode b_NC_goThroughPart 39 = .ok (.iconst 2, 1) := by decide +kernel
theorem d_NC_goThroughPart_40 : decode b_NC_goThroughPart 40 = .ok (.ireturn, 1) := by decide +kernel
theorem d_NC_goThroughPart_41 : decode b_NC_goThroughPart 41 = .ok (.aload_n 0, 1) := by decide +kernel
theorem d_NC_goThroughPart_42 : decode b_NC_goThroughPart 42 = .ok (.iload_n 3, 1) := by decide +kernel
theorem d_NC_goThroughPart_43 : decode b_NC_goThroughPart 43 = .ok (.aload_n 0, 1) := by decide +kernel
theorem d_NC_goThroughPart_44 : decode b_NC_goThroughPart 44 = .ok (.getfield 10, 3) := by decide +kernel
theorem d_NC_goThroughPart_47 : decode b_NC_goThroughPart 47 = .ok (.invokevirtual 168, 3) := by decide +kernel
theorem d_NC_goThroughPart_50 : decode b_NC_goThroughPart 50 = .ok (.iand, 1) := by decide +kernel
theorem d_NC_goThroughPart_51 : decode b_NC_goThroughPart 51 = .ok (.putfield 50, 3) := by decide +kernel
theorem d_NC_goThroughPart_54 : decode b_NC_goThroughPart 54 = .ok (.aload_n 0, 1) := by decide +kernel
theorem d_NC_goThroughPart_55 : decode b_NC_goThroughPart 55 = .ok (.getfield 50, 3) := by decide +kernel
theorem d_NC_goThroughPart_58 : decode b_NC_goThroughPart 58 = .ok (.ifCond .ne 5, 3) := by decide +kernel
theorem d_NC_goThroughPart_61 : decode b_NC_goThroughPart 61 = .ok (.iconst 3, 1) := by decide +kernel
theorem d_NC_goThroughPart_62 : decode b_NC_goThroughPart 62 = .ok (.ireturn, 1) := by decide +kernel
theorem d_NC_goThroughPart_63 : decode b_NC_goThroughPart 63 = .ok (.aload_n 0, 1) := by decide +kernel
theorem d_NC_goThroughPart_64 : decode b_NC_goThroughPart 64 = .ok (.iload_n 1, 1) := by decide +kernel
theorem d_NC_goThroughPart_65 : decode b_NC_goThroughPart 65 = .ok (.invokevirtual 195, 3) := by decide +kernel
theorem d_NC_goThroughPart_68 : decode b_NC_goThroughPart 68 = .ok (.ifCond .ne 5, 3) := by decide +kernel
theorem d_NC_goThroughPart_71 : decode b_NC_goThroughPart 71 = .ok (.iconst 4, 1) := by decide +kernel
theorem d_NC_goThroughPart_72 : decode b_NC_goThroughPart 72 = .ok (.ireturn, 1) := by decide +kernel
theorem d_NC_goThroughPart_73 : decode b_NC_goThroughPart 73 = .ok (.aload_n 0, 1) := by decide +kernel
theorem d_NC_goThroughPart_74 : decode b_NC_goThroughPart 74 = .ok (.getfield 50, 3) := by decide +kernel
theorem d_NC_goThroughPart_77 : decode b_NC_goThroughPart 77 = .ok (.ifCond .ne 5, 3) := by decide +kernel
theorem d_NC_goThroughPart_80 : decode b_NC_goThroughPart 80 = .ok (.iconst 5, 1) := by decide +kernel
theorem d_NC_goThroughPart_81 : decode b_NC_goThroughPart 81 = .ok (.ireturn, 1) := by decide +kernel
theorem d_NC_goThroughPart_82 : decode b_NC_goThroughPart 82 = .ok (.aload_n 0, 1) := by decide +kernel
theorem d_NC_goThroughPart_83 : decode b_NC_goThroughPart 83 = .ok (.getfield 30, 3) := by decide +kernel
theorem d_NC_goThroughPart_86 : decode b_NC_goThroughPart 86 = .ok (.iload_n 1, 1) := by decide +kernel
theorem d_NC_goThroughPart_87 : decode b_NC_goThroughPart 87 = .ok (.invokevirtual 198, 3) := by decide +kernel
theorem d_NC_goThroughPart_90 : decode b_NC_goThroughPart 90 = .ok (.istore 4, 2) := by decide +kernel
theorem d_NC_goThroughPart_92 : decode b_NC_goThroughPart 92 = .ok (.iload 4, 2) := by decide +kernel
theorem d_NC_goThroughPart_94 : decode b_NC_goThroughPart 94 = .ok (.ifCond .le 10, 3) := by decide +kernel
theorem d_NC_goThroughPart_97 : decode b_NC_goThroughPart 97 = .ok (.aload_n 0, 1) := by decide +kernel
theorem d_NC_goThroughPart_98 : decode b_NC_goThroughPart 98 = .ok (.iload 4, 2) := by decide +kernel
theorem d_NC_goThroughPart_100 : decode b_NC_goThroughPart 100 = .ok (.invokevirtual 201, 3) := by decide +kernel
theorem d_NC_goThroughPart_103 : decode b_NC_goThroughPart 103 = .ok (.ireturn, 1) := by decide +kernel
theorem d_NC_goThroughPart_104 : decode b_NC_goThroughPart 104 = .ok (.iload 4, 2) := by decide +kernel
theorem d_NC_goThroughPart_106 : decode b_NC_goThroughPart 106 = .ok (.iconst (-1), 1) := by decide +kernel
theorem d_NC_goThroughPart_107 : decode b_NC_goThroughPart 107 = .ok (.if_icmp .ne 16, 3) := by decide +kernel
theorem d_NC_goThroughPart_110 : decode b_NC_goThroughPart 110 = .ok (.aload_n 0, 1) := by decide +kernel
theorem d_NC_goThroughPart_111 : decode b_NC_goThroughPart 111 = .ok (.getfield 47, 3) := by decide +kernel
theorem d_NC_goThroughPart_114 : decode b_NC_goThroughPart 114 = .ok (.aload_n 0, 1) := by decide +kernel
theorem d_NC_goThroughPart_115 : decode b_NC_goThroughPart 115 = .ok (.getfield 50, 3) := by decide +kernel
theorem d_NC_goThroughPart_118 : decode b_NC_goThroughPart 118 = .ok (.invokevirtual 204, 3) := by decide +kernel
theorem d_NC_goThroughPart_121 : decode b_NC_goThroughPart 121 = .ok (.iconst 0, 1) := by decide +kernel
theorem d_NC_goThroughPart_122 : decode b_NC_goThroughPart 122 = .ok (.ireturn, 1) := by decide +kernel
theorem d_NC_goThroughPart_123 : decode b_NC_goThroughPart 123 = .ok (.aload_n 0, 1) := by decide +kernel
theorem d_NC_goThroughPart_124 : decode b_NC_goThroughPart 124 = .ok (.iload_n 1, 1) := by decide +kernel
theorem d_NC_goThroughPart_125 : decode b_NC_goThroughPart 125 = .ok (.iload_n 2, 1) := by decide +kernel
theorem d_NC_goThroughPart_126 : decode b_NC_goThroughPart 126 = .ok (.invokevirtual 207, 3) := by decide +kernel
theorem d_NC_goThroughPart_129 : decode b_NC_goThroughPart 129 = .ok (.ireturn, 1) := by decide +kernel
theorem d_NC_goThrough_0 : decode b_NC_goThrough 0 = .ok (.aload_n 0, 1) := by decide +kernel
theorem d_NC_goThrough_1 : decode b_NC_goThrough 1 = .ok (.iconst 0, 1) := by decide +kernel
theorem d_NC_goThrough_2 : decode b_NC_goThrough 2 = .ok (.putfield 53, 3) := by decide +kernel
theorem d_NC_goThrough_5 : decode b_NC_goThrough 5 = .ok (.aload_n 0, 1) := by decide +kernel
theorem d_NC_goThrough_6 : decode b_NC_goThrough 6 = .ok (.getfield 47, 3) := by decide +kernel
theorem d_NC_goThrough_9 : decode b_NC_goThrough 9 = .ok (.invokevirtual 180, 3) := by decide +kernel
theorem d_NC_goThrough_12 : decode b_NC_goThrough 12 = .ok (.iconst 0, 1) := by decide +kernel
theorem d_NC_goThrough_13 : decode b_NC_goThrough 13 = .ok (.istore_n 1, 1) := by decide +kernel
theorem d_NC_goThrough_14 : decode b_NC_goThrough 14 = .ok (.iload_n 1, 1) := by decide +kernel
theorem d_NC_goThrough_15 : decode b_NC_goThrough 15 = .ok (.aload_n 0, 1) := by decide +kernel
theorem d_NC_goThrough_16 : decode b_NC_goThrough 16 = .ok (.getfield 30, 3) := by decide +kernel
theorem d_NC_goThrough_19 : decode b_NC_goThrough 19 = .ok (.getfield 174, 3) := by decide +kernel
theorem d_NC_goThrough_22 : decode b_NC_goThrough 22 = .ok (.if_icmp .ge 26, 3) := by decide +kernel
theorem d_NC_goThrough_25 : decode b_NC_goThrough 25 = .ok (.aload_n 0, 1) := by decide +kernel
theorem d_NC_goThrough_26 : decode b_NC_goThrough 26 = .ok (.iload_n 1, 1) := by decide +kernel
theorem d_NC_goThrough_27 : decode b_NC_goThrough 27 = .ok (.invokevirtual 183, 3) := by decide +kernel
theorem d_NC_goThrough_30 : decode b_NC_goThrough 30 = .ok (.istore_n 2, 1) := by decide +kernel
theorem d_NC_goThrough_31 : decode b_NC_goThrough 31 = .ok (.iload_n 2, 1) := by decide +kernel
theorem d_NC_goThrough_32 : decode b_NC_goThrough 32 = .ok (.ifCond .eq 10, 3) := by decide +kernel
theorem d_NC_goThrough_35 : decode b_NC_goThrough 35 = .ok (.aload_n 0, 1) := by decide +kernel
theorem d_NC_goThrough_36 : decode b_NC_goThrough 36 = .ok (.iload_n 1, 1) := by decide +kernel
theorem d_NC_goThrough_37 : decode b_NC_goThrough 37 = .ok (.iload_n 2, 1) := by decide +kernel
theorem d_NC_goThrough_38 : decode b_NC_goThrough 38 = .ok (.invokevirtual 186, 3) := by decide +kernel
theorem d_NC_goThrough_41 : decode b_NC_goThrough 41 = .ok (.ireturn, 1) := by decide +kernel
theorem d_NC_goThrough_42 : decode b_NC_goThrough 42 = .ok (.iinc 1 1, 3) := by decide +kernel
theorem d_NC_goThrough_45 : decode b_NC_goThrough 45 = .ok (.goto (-31), 3) := by decide +kernel
theorem d_NC_goThrough_48 : decode b_NC_goThrough 48 = .ok (.aload_n 0, 1) := by decide +kernel
theorem d_NC_goThrough_49 : decode b_NC_goThrough 49 = .ok (.iconst (-1), 1) := by decide +kernel
theorem d_NC_goThrough_50 : decode b_NC_goThrough 50 = .ok (.iconst (-1), 1) := by decide +kernel
theorem d_NC_goThrough_51 : decode b_NC_goThrough 51 = .ok (.iconst (-1), 1) := by decide +kernel
theorem d_NC_goThrough_52 : decode b_NC_goThrough 52 = .ok (.invokevirtual 141, 3) := by decide +kernel
theorem d_NC_goThrough_55 : decode b_NC_goThrough 55 = .ok (.aload_n 0, 1) := by decide +kernel
theorem d_NC_goThrough_56 : decode b_NC_goThrough 56 = .ok (.getfield 47, 3) := by decide +kernel
theorem d_NC_goThrough_59 : decode b_NC_goThrough 59 = .ok (.getfield 145, 3) := by decide +kernel
theorem d_NC_goThrough_62 : decode b_NC_goThrough 62 = .ok (.aload_n 0, 1) := by decide +kernel
theorem d_NC_goThrough_63 : decode b_NC_goThrough 63 = .ok (.getfield 24, 3) := by decide +kernel
theorem d_NC_goThrough_66 : decode b_NC_goThrough 66 = .ok (.if_icmp .le 6, 3) := by decide +kernel
theorem d_NC_goThrough_69 : decode b_NC_goThrough 69 = .ok (.bipush (-17), 2) := by decide +kernel
theorem d_NC_goThrough_71 : decode b_NC_goThrough 71 = .ok (.ireturn, 1) := by decide +kernel
theorem d_NC_goThrough_72 : decode b_NC_goThrough 72 = .ok (.aload_n 0, 1) := by decide +kernel
theorem d_NC_goThrough_73 : decode b_NC_goThrough 73 = .ok (.getfield 43, 3) := by decide +kernel
theorem d_NC_goThrough_76 : decode b_NC_goThrough 76 = .ok (.astore_n 1, 1) := by decide +kernel
theorem d_NC_goThrough_77 : decode b_NC_goThrough 77 = .ok (.aload_n 0, 1) := by decide +kernel
theorem d_NC_goThrough_78 : decode b_NC_goThrough 78 = .ok (.aload_n 0, 1) := by decide +kernel
theorem d_NC_goThrough_79 : decode b_NC_goThrough 79 = .ok (.getfield 47, 3) := by decide +kernel
theorem d_NC_goThrough_82 : decode b_NC_goThrough 82 = .ok (.putfield 43, 3) := by decide +kernel
theorem d_NC_goThrough_85 : decode b_NC_goThrough 85 = .ok (.aload_n 0, 1) := by decide +kernel
theorem d_NC_goThrough_86 : decode b_NC_goThrough 86 = .ok (.aload_n 1, 1) := by decide +kernel
theorem d_NC_goThrough_87 : decode b_NC_goThrough 87 = .ok (.putfield 47, 3) := by decide +kernel
theorem d_NC_goThrough_90 : decode b_NC_goThrough 90 = .ok (.aload_n 0, 1) := by decide +kernel
theorem d_NC_goThrough_91 : decode b_NC_goThrough 91 = .ok (.getfield 43, 3) := by decide +kernel
theorem d_NC_goThrough_94 : decode b_NC_goThrough 94 = .ok (.getfield 145, 3) := by decide +kernel
theorem d_NC_goThrough_97 : decode b_NC_goThrough 97 = .ok (.ireturn, 1) := by decide +kernel
theorem d_NC_thing_0 : decode b_NC_thing 0 = .ok (.aload_n 0, 1) := by decide +kernel
theorem d_NC_thing_1 : decode b_NC_thing 1 = .ok (.getfield 10, 3) := by decide +kernel
theorem d_NC_thing_4 : decode b_NC_thing 4 = .ok (.invokevirtual 74, 3) := by decide +kernel
theorem d_NC_thing_7 : decode b_NC_thing 7 = .ok (.ireturn, 1) := by decide +kernel
theorem d_NC_word_0 : decode b_NC_word 0 = .ok (.aload_n 0, 1) := by decide +kernel
theorem d_NC_word_1 : decode b_NC_word 1 = .ok (.getfield 10, 3) := by decide +kernel
theorem d_NC_word_4 : decode b_NC_word 4 = .ok (.iload_n 1, 1) := by decide +kernel
theorem d_NC_word_5 : decode b_NC_word 5 = .ok (.iload_n 2, 1) := by decide +kernel
theorem d_NC_word_6 : decode b_NC_word 6 = .ok (.iload_n 3, 1) := by decide +kernel
theorem d_NC_word_7 : decode b_NC_word 7 = .ok (.iload 4, 2) := by decide +kernel
theorem d_NC_word_9 : decode b_NC_word 9 = .ok (.invokevirtual 78, 3) := by decide +kernel
theorem d_NC_word_12 : decode b_NC_word 12 = .ok (.ireturn, 1) := by decide +kernel
theorem d_NC_kind_0 : decode b_NC_kind 0 = .ok (.aload_n 0, 1) := by decide +kernel
theorem d_NC_kind_1 : decode b_NC_kind 1 = .ok (.getfield 10, 3) := by decide +kernel
theorem d_NC_kind_4 : decode b_NC_kind 4 = .ok (.iload_n 1, 1) := by decide +kernel
theorem d_NC_kind_5 : decode b_NC_kind 5 = .ok (.iload_n 2, 1) := by decide +kernel
theorem d_NC_kind_6 : decode b_NC_kind 6 = .ok (.invokevirtual 82, 3) := by decide +kernel
theorem d_NC_kind_9 : decode b_NC_kind 9 = .ok (.ireturn, 1) := by decide +kernel
theorem d_NC_place_0 : decode b_NC_place 0 = .ok (.aload_n 0, 1) := by decide +kernel
theorem d_NC_place_1 : decode b_NC_place 1 = .ok (.getfield 10, 3) := by decide +kernel
theorem d_NC_place_4 : decode b_NC_place 4 = .ok (.iload_n 1, 1) := by decide +kernel
theorem d_NC_place_5 : decode b_NC_place 5 = .ok (.iload_n 2, 1) := by decide +kernel
theorem d_NC_place_6 : decode b_NC_place 6 = .ok (.invokevirtual 86, 3) := by decide +kernel
theorem d_NC_place_9 : decode b_NC_place 9 = .ok (.ireturn, 1) := by decide +kernel
theorem d_NC_mark_0 : decode b_NC_mark 0 = .ok (.aload_n 0, 1) := by decide +kernel
theorem d_NC_mark_1 : decode b_NC_mark 1 = .ok (.getfield 10, 3) := by decide +kernel
theorem d_NC_mark_4 : decode b_NC_mark 4 = .ok (.iload_n 1, 1) := by decide +kernel
theorem d_NC_mark_5 : decode b_NC_mark 5 = .ok (.iload_n 2, 1) := by decide +kernel
theorem d_NC_mark_6 : decode b_NC_mark 6 = .ok (.iload_n 3, 1) := by decide +kernel
theorem d_NC_mark_7 : decode b_NC_mark 7 = .ok (.invokevirtual 89, 3) := by decide +kernel
theorem d_NC_mark_10 : decode b_NC_mark 10 = .ok (.ireturn, 1) := by decide +kernel
theorem d_NC_plural_0 : decode b_NC_plural 0 = .ok (.aload_n 0, 1) := by decide +kernel
theorem d_NC_plural_1 : decode b_NC_plural 1 = .ok (.getfield 10, 3) := by decide +kernel
theorem d_NC_plural_4 : decode b_NC_plural 4 = .ok (.iload_n 1, 1) := by decide +kernel
theorem d_NC_plural_5 : decode b_NC_plural 5 = .ok (.iload_n 2, 1) := by decide +kernel
theorem d_NC_plural_6 : decode b_NC_plural 6 = .ok (.invokevirtual 93, 3) := by decide +kernel
theorem d_NC_plural_9 : decode b_NC_plural 9 = .ok (.ireturn, 1) := by decide +kernel
theorem d_NC_weight_0 : decode b_NC_weight 0 = .ok (.aload_n 0, 1) := by decide +kernel
theorem d_NC_weight_1 : decode b_NC_weight 1 = .ok (.getfield 10, 3) := by decide +kernel
theorem d_NC_weight_4 : decode b_NC_weight 4 = .ok (.iload_n 1, 1) := by decide +kernel
theorem d_NC_weight_5 : decode b_NC_weight 5 = .ok (.iload_n 2, 1) := by decide +kernel
theorem d_NC_weight_6 : decode b_NC_weight 6 = .ok (.invokevirtual 96, 3) := by decide +kernel
theorem d_NC_weight_9 : decode b_NC_weight 9 = .ok (.ireturn, 1) := by decide +kernel
theorem d_NC_limit_0 : decode b_NC_limit 0 = .ok (.iload_n 1, 1) := by decide +kernel
theorem d_NC_limit_1 : decode b_NC_limit 1 = .ok (.ifCond .lt 9, 3) := by decide +kernel
theorem d_NC_limit_4 : decode b_NC_limit 4 = .ok (.iload_n 1, 1) := by decide +kernel
theorem d_NC_limit_5 : decode b_NC_limit 5 = .ok (.bipush 32, 2) := by decide +kernel
theorem d_NC_limit_7 : decode b_NC_limit 7 = .ok (.if_icmp .le 5, 3) := by decide +kernel
theorem d_NC_limit_10 : decode b_NC_limit 10 = .ok (.iconst (-1), 1) := by decide +kernel
theorem d_NC_limit_11 : decode b_NC_limit 11 = .ok (.ireturn, 1) := by decide +kernel
theorem d_NC_limit_12 : decode b_NC_limit 12 = .ok (.aload_n 0, 1) := by decide +kernel
theorem d_NC_limit_13 : decode b_NC_limit 13 = .ok (.getfield 24, 3) := by decide +kernel
theorem d_NC_limit_16 : decode b_NC_limit 16 = .ok (.istore_n 2, 1) := by decide +kernel
theorem d_NC_limit_17 : decode b_NC_limit 17 = .ok (.aload_n 0, 1) := by decide +kernel
theorem d_NC_limit_18 : decode b_NC_limit 18 = .ok (.iload_n 1, 1) := by decide +kernel
theorem d_NC_limit_19 : decode b_NC_limit 19 = .ok (.putfield 24, 3) := by decide +kernel
theorem d_NC_limit_22 : decode b_NC_limit 22 = .ok (.iload_n 2, 1) := by decide +kernel
theorem d_NC_limit_23 : decode b_NC_limit 23 = .ok (.ireturn, 1) := by decide +kernel
theorem d_NC_score_0 : decode b_NC_score 0 = .ok (.aload_n 0, 1) := by decide +kernel
theorem d_NC_score_1 : decode b_NC_score 1 = .ok (.getfield 10, 3) := by decide +kernel
theorem d_NC_score_4 : decode b_NC_score 4 = .ok (.iload_n 1, 1) := by decide +kernel
theorem d_NC_score_5 : decode b_NC_score 5 = .ok (.invokevirtual 99, 3) := by decide +kernel
theorem d_NC_score_8 : decode b_NC_score 8 = .ok (.ifCond .eq 18, 3) := by decide +kernel
theorem d_NC_score_11 : decode b_NC_score 11 = .ok (.aload_n 0, 1) := by decide +kernel
theorem d_NC_score_12 : decode b_NC_score 12 = .ok (.getfield 10, 3) := by decide +kernel
theorem d_NC_score_15 : decode b_NC_score 15 = .ok (.iload_n 1, 1) := by decide +kernel
theorem d_NC_score_16 : decode b_NC_score 16 = .ok (.invokevirtual 103, 3) := by decide +kernel
theorem d_NC_score_19 : decode b_NC_score 19 = .ok (.sipush 1000, 3) := by decide +kernel
theorem d_NC_score_22 : decode b_NC_score 22 = .ok (.iadd, 1) := by decide +kernel
theorem d_NC_score_23 : decode b_NC_score 23 = .ok (.goto 4, 3) := by decide +kernel
theorem d_NC_score_26 : decode b_NC_score 26 = .ok (.iconst (-1), 1) := by decide +kernel
theorem d_NC_score_27 : decode b_NC_score 27 = .ok (.ireturn, 1) := by decide +kernel
theorem d_NC_alike_0 : decode b_NC_alike 0 = .ok (.aload_n 0, 1) := by decide +kernel
theorem d_NC_alike_1 : decode b_NC_alike 1 = .ok (.getfield 10, 3) := by decide +kernel
theorem d_NC_alike_4 : decode b_NC_alike 4 = .ok (.iload_n 1, 1) := by decide +kernel
theorem d_NC_alike_5 : decode b_NC_alike 5 = .ok (.invokevirtual 99, 3) := by decide +kernel
theorem d_NC_alike_8 : decode b_NC_alike 8 = .ok (.ifCond .eq 14, 3) := by decide +kernel
theorem d_NC_alike_11 : decode b_NC_alike 11 = .ok (.aload_n 0, 1) := by decide +kernel
theorem d_NC_alike_12 : decode b_NC_alike 12 = .ok (.getfield 10, 3) := by decide +kernel
theorem d_NC_alike_15 : decode b_NC_alike 15 = .ok (.iload_n 2, 1) := by decide +kernel
theorem d_NC_alike_16 : decode b_NC_alike 16 = .ok (.invokevirtual 99, 3) := by decide +kernel
theorem d_NC_alike_19 : decode b_NC_alike 19 = .ok (.ifCond .ne 5, 3) := by decide +kernel
theorem d_NC_alike_22 : decode b_NC_alike 22 = .ok (.iconst (-1), 1) := by decide +kernel
theorem d_NC_alike_23 : decode b_NC_alike 23 = .ok (.ireturn, 1) := by decide +kernel
theorem d_NC_alike_24 : decode b_NC_alike 24 = .ok (.aload_n 0, 1) := by decide +kernel
theorem d_NC_alike_25 : decode b_NC_alike 25 = .ok (.getfield 10, 3) := by decide +kernel
theorem d_NC_alike_28 : decode b_NC_alike 28 = .ok (.iload_n 1, 1) := by decide +kernel
theorem d_NC_alike_29 : decode b_NC_alike 29 = .ok (.iload_n 2, 1) := by decide +kernel
theorem d_NC_alike_30 : decode b_NC_alike 30 = .ok (.invokevirtual 107, 3) := by decide +kernel
theorem d_NC_alike_33 : decode b_NC_alike 33 = .ok (.ifCond .eq 7, 3) := by decide +kernel
theorem d_NC_alike_36 : decode b_NC_alike 36 = .ok (.iconst 1, 1) := by decide +kernel
theorem d_NC_alike_37 : decode b_NC_alike 37 = .ok (.goto 4, 3) := by decide +kernel
theorem d_NC_alike_40 : decode b_NC_alike 40 = .ok (.iconst 0, 1) := by decide +kernel
theorem d_NC_alike_41 : decode b_NC_alike 41 = .ok (.ireturn, 1) := by decide +kernel
theorem d_NC_type_0 : decode b_NC_type 0 = .ok (.iload_n 1, 1) := by decide +kernel
theorem d_NC_type_1 : decode b_NC_type 1 = .ok (.invokestatic 111, 3) := by decide +kernel
theorem d_NC_type_4 : decode b_NC_type 4 = .ok (.ifCond .ne 5, 3) := by decide +kernel
theorem d_NC_type_7 : decode b_NC_type 7 = .ok (.iconst (-1), 1) := by decide +kernel
theorem d_NC_type_8 : decode b_NC_type 8 = .ok (.ireturn, 1) := by decide +kernel
theorem d_NC_type_9 : decode b_NC_type 9 = .ok (.aload_n 0, 1) := by decide +kernel
theorem d_NC_type_10 : decode b_NC_type 10 = .ok (.getfield 20, 3) := by decide +kernel
theorem d_NC_type_13 : decode b_NC_type 13 = .ok (.bipush 30, 2) := by decide +kernel
theorem d_NC_type_15 : decode b_NC_type 15 = .ok (.if_icmp .lt 6, 3) := by decide +kernel
theorem d_NC_type_18 : decode b_NC_type 18 = .ok (.bipush (-3), 2) := by decide +kernel
theorem d_NC_type_20 : decode b_NC_type 20 = .ok (.ireturn, 1) := by decide +kernel
theorem d_NC_type_21 : decode b_NC_type 21 = .ok (.aload_n 0, 1) := by decide +kernel
theorem d_NC_type_22 : decode b_NC_type 22 = .ok (.getfield 16, 3) := by decide +kernel
theorem d_NC_type_25 : decode b_NC_type 25 = .ok (.aload_n 0, 1) := by decide +kernel
theorem d_NC_type_26 : decode b_NC_type 26 = .ok (.getfield 20, 3) := by decide +kernel
theorem d_NC_type_29 : decode b_NC_type 29 = .ok (.iload_n 1, 1) := by decide +kernel
theorem d_NC_type_30 : decode b_NC_type 30 = .ok (.iastore, 1) := by decide +kernel
theorem d_NC_type_31 : decode b_NC_type 31 = .ok (.aload_n 0, 1) := by decide +kernel
theorem d_NC_type_32 : decode b_NC_type 32 = .ok (.dup, 1) := by decide +kernel
theorem d_NC_type_33 : decode b_NC_type 33 = .ok (.getfield 20, 3) := by decide +kernel
theorem d_NC_type_36 : decode b_NC_type 36 = .ok (.iconst 1, 1) := by decide +kernel
theorem d_NC_type_37 : decode b_NC_type 37 = .ok (.iadd, 1) := by decide +kernel
theorem d_NC_type_38 : decode b_NC_type 38 = .ok (.putfield 20, 3) := by decide +kernel
theorem d_NC_type_41 : decode b_NC_type 41 = .ok (.aload_n 0, 1) := by decide +kernel
theorem d_NC_type_42 : decode b_NC_type 42 = .ok (.getfield 20, 3) := by decide +kernel
theorem d_NC_type_45 : decode b_NC_type 45 = .ok (.ireturn, 1) := by decide +kernel
theorem d_NC_wipe_0 : decode b_NC_wipe 0 = .ok (.aload_n 0, 1) := by decide +kernel
theorem d_NC_wipe_1 : decode b_NC_wipe 1 = .ok (.getfield 20, 3) := by decide +kernel
theorem d_NC_wipe_4 : decode b_NC_wipe 4 = .ok (.istore_n 1, 1) := by decide +kernel
theorem d_NC_wipe_5 : decode b_NC_wipe 5 = .ok (.aload_n 0, 1) := by decide +kernel
theorem d_NC_wipe_6 : decode b_NC_wipe 6 = .ok (.iconst 0, 1) := by decide +kernel
theorem d_NC_wipe_7 : decode b_NC_wipe 7 = .ok (.putfield 20, 3) := by decide +kernel
theorem d_NC_wipe_10 : decode b_NC_wipe 10 = .ok (.iload_n 1, 1) := by decide +kernel
theorem d_NC_wipe_11 : decode b_NC_wipe 11 = .ok (.ireturn, 1) := by decide +kernel
theorem d_NC_fits_0 : decode b_NC_fits 0 = .ok (.aload_n 0, 1) := by decide +kernel
theorem d_NC_fits_1 : decode b_NC_fits 1 = .ok (.getfield 10, 3) := by decide +kernel
theorem d_NC_fits_4 : decode b_NC_fits 4 = .ok (.iload_n 1, 1) := by decide +kernel
theorem d_NC_fits_5 : decode b_NC_fits 5 = .ok (.invokevirtual 99, 3) := by decide +kernel
theorem d_NC_fits_8 : decode b_NC_fits 8 = .ok (.ifCond .ne 5, 3) := by decide +kernel
theorem d_NC_fits_11 : decode b_NC_fits 11 = .ok (.iconst (-1), 1) := by decide +kernel
theorem d_NC_fits_12 : decode b_NC_fits 12 = .ok (.ireturn, 1) := by decide +kernel
theorem d_NC_fits_13 : decode b_NC_fits 13 = .ok (.aload_n 0, 1) := by decide +kernel
theorem d_NC_fits_14 : decode b_NC_fits 14 = .ok (.getfield 34, 3) := by decide +kernel
theorem d_NC_fits_17 : decode b_NC_fits 17 = .ok (.aload_n 0, 1) := by decide +kernel
theorem d_NC_fits_18 : decode b_NC_fits 18 = .ok (.getfield 16, 3) := by decide +kernel
theorem d_NC_fits_21 : decode b_NC_fits 21 = .ok (.aload_n 0, 1) := by decide +kernel
theorem d_NC_fits_22 : decode b_NC_fits 22 = .ok (.getfield 20, 3) := by decide +kernel
theorem d_NC_fits_25 : decode b_NC_fits 25 = .ok (.invokevirtual 114, 3) := by decide +kernel
theorem d_NC_fits_28 : decode b_NC_fits 28 = .ok (.iconst (-1), 1) := by decide +kernel
theorem d_NC_fits_29 : decode b_NC_fits 29 = .ok (.if_icmp .ne 13, 3) := by decide +kernel
theorem d_NC_fits_32 : decode b_NC_fits 32 = .ok (.aload_n 0, 1) := by decide +kernel
theorem d_NC_fits_33 : decode b_NC_fits 33 = .ok (.getfield 34, 3) := by decide +kernel
theorem d_NC_fits_36 : decode b_NC_fits 36 = .ok (.invokevirtual 118, 3) := by decide +kernel
theorem d_NC_fits_39 : decode b_NC_fits 39 = .ok (.ifCond .ne 6, 3) := by decide +kernel
theorem d_NC_fits_42 : decode b_NC_fits 42 = .ok (.bipush (-2), 2) := by decide +kernel
theorem d_NC_fits_44 : decode b_NC_fits 44 = .ok (.ireturn, 1) := by decide +kernel
theorem d_NC_fits_45 : decode b_NC_fits 45 = .ok (.aload_n 0, 1) := by decide +kernel
theorem d_NC_fits_46 : decode b_NC_fits 46 = .ok (.aload_n 0, 1) := by decide +kernel
theorem d_NC_fits_47 : decode b_NC_fits 47 = .ok (.getfield 34, 3) := by decide +kernel
theorem d_NC_fits_50 : decode b_NC_fits 50 = .ok (.iconst 0, 1) := by decide +kernel
theorem d_NC_fits_51 : decode b_NC_fits 51 = .ok (.iconst 1, 1) := by decide +kernel
theorem d_NC_fits_52 : decode b_NC_fits 52 = .ok (.invokevirtual 122, 3) := by decide +kernel
theorem d_NC_fits_55 : decode b_NC_fits 55 = .ok (.iload_n 1, 1) := by decide +kernel
theorem d_NC_fits_56 : decode b_NC_fits 56 = .ok (.invokestatic 126, 3) := by decide +kernel
theorem d_NC_fits_59 : decode b_NC_fits 59 = .ok (.ifCond .eq 7, 3) := by decide +kernel
theorem d_NC_fits_62 : decode b_NC_fits 62 = .ok (.iconst 1, 1) := by decide +kernel
theorem d_NC_fits_63 : decode b_NC_fits 63 = .ok (.goto 4, 3) := by decide +kernel
theorem d_NC_fits_66 : decode b_NC_fits 66 = .ok (.iconst 0, 1) := by decide +kernel
theorem d_NC_fits_67 : decode b_NC_fits 67 = .ok (.istore_n 2, 1) := by decide +kernel
theorem d_NC_fits_68 : decode b_NC_fits 68 = .ok (.aload_n 0, 1) := by decide +kernel
theorem d_NC_fits_69 : decode b_NC_fits 69 = .ok (.aload_n 0, 1) := by decide +kernel
theorem d_NC_fits_70 : decode b_NC_fits 70 = .ok (.getfield 34, 3) := by decide +kernel
theorem d_NC_fits_73 : decode b_NC_fits 73 = .ok (.iconst 0, 1) := by decide +kernel
theorem d_NC_fits_74 : decode b_NC_fits 74 = .ok (.iconst 2, 1) := by decide +kernel
theorem d_NC_fits_75 : decode b_NC_fits 75 = .ok (.invokevirtual 122, 3) := by decide +kernel
theorem d_NC_fits_78 : decode b_NC_fits 78 = .ok (.iload_n 1, 1) := by decide +kernel
theorem d_NC_fits_79 : decode b_NC_fits 79 = .ok (.invokestatic 126, 3) := by decide +kernel
theorem d_NC_fits_82 : decode b_NC_fits 82 = .ok (.ifCond .eq 7, 3) := by decide +kernel
theorem d_NC_fits_85 : decode b_NC_fits 85 = .ok (.iconst 2, 1) := by decide +kernel
theorem d_NC_fits_86 : decode b_NC_fits 86 = .ok (.goto 4, 3) := by decide +kernel
theorem d_NC_fits_89 : decode b_NC_fits 89 = .ok (.iconst 0, 1) := by decide +kernel
theorem d_NC_fits_90 : decode b_NC_fits 90 = .ok (.istore_n 3, 1) := by decide +kernel
theorem d_NC_fits_91 : decode b_NC_fits 91 = .ok (.iload_n 2, 1) := by decide +kernel
theorem d_NC_fits_92 : decode b_NC_fits 92 = .ok (.iload_n 3, 1) := by decide +kernel
theorem d_NC_fits_93 : decode b_NC_fits 93 = .ok (.ior, 1) := by decide +kernel
theorem d_NC_fits_94 : decode b_NC_fits 94 = .ok (.ireturn, 1) := by decide +kernel
theorem d_NC_choose_0 : decode b_NC_choose 0 = .ok (.aload_n 0, 1) := by decide +kernel
theorem d_NC_choose_1 : decode b_NC_choose 1 = .ok (.getfield 34, 3) := by decide +kernel
theorem d_NC_choose_4 : decode b_NC_choose 4 = .ok (.aload_n 0, 1) := by decide +kernel
theorem d_NC_choose_5 : decode b_NC_choose 5 = .ok (.getfield 16, 3) := by decide +kernel
theorem d_NC_choose_8 : decode b_NC_choose 8 = .ok (.aload_n 0, 1) := by decide +kernel
theorem d_NC_choose_9 : decode b_NC_choose 9 = .ok (.getfield 20, 3) := by decide +kernel
theorem d_NC_choose_12 : decode b_NC_choose 12 = .ok (.invokevirtual 114, 3) := by decide +kernel
theorem d_NC_choose_15 : decode b_NC_choose 15 = .ok (.istore_n 1, 1) := by decide +kernel
theorem d_NC_choose_16 : decode b_NC_choose 16 = .ok (.iload_n 1, 1) := by decide +kernel
theorem d_NC_choose_17 : decode b_NC_choose 17 = .ok (.iconst (-1), 1) := by decide +kernel
theorem d_NC_choose_18 : decode b_NC_choose 18 = .ok (.if_icmp .eq 9, 3) := by decide +kernel
theorem d_NC_choose_21 : decode b_NC_choose 21 = .ok (.aload_n 0, 1) := by decide +kernel
theorem d_NC_choose_22 : decode b_NC_choose 22 = .ok (.iload_n 1, 1) := by decide +kernel
theorem d_NC_choose_23 : decode b_NC_choose 23 = .ok (.invokevirtual 129, 3) := by decide +kernel
theorem d_NC_choose_26 : decode b_NC_choose 26 = .ok (.ireturn, 1) := by decide +kernel
theorem d_NC_choose_27 : decode b_NC_choose 27 = .ok (.aload_n 0, 1) := by decide +kernel
theorem d_NC_choose_28 : decode b_NC_choose 28 = .ok (.iconst 0, 1) := by decide +kernel
theorem d_NC_choose_29 : decode b_NC_choose 29 = .ok (.putfield 20, 3) := by decide +kernel
theorem d_NC_choose_32 : decode b_NC_choose 32 = .ok (.aload_n 0, 1) := by decide +kernel
theorem d_NC_choose_33 : decode b_NC_choose 33 = .ok (.getfield 30, 3) := by decide +kernel
theorem d_NC_choose_36 : decode b_NC_choose 36 = .ok (.astore_n 2, 1) := by decide +kernel
theorem d_NC_choose_37 : decode b_NC_choose 37 = .ok (.aload_n 0, 1) := by decide +kernel
theorem d_NC_choose_38 : decode b_NC_choose 38 = .ok (.aload_n 0, 1) := by decide +kernel
theorem d_NC_choose_39 : decode b_NC_choose 39 = .ok (.getfield 34, 3) := by decide +kernel
theorem d_NC_choose_42 : decode b_NC_choose 42 = .ok (.putfield 30, 3) := by decide +kernel
theorem d_NC_choose_45 : decode b_NC_choose 45 = .ok (.aload_n 0, 1) := by decide +kernel
theorem d_NC_choose_46 : decode b_NC_choose 46 = .ok (.aload_n 2, 1) := by decide +kernel
theorem d_NC_choose_47 : decode b_NC_choose 47 = .ok (.putfield 34, 3) := by decide +kernel
theorem d_NC_choose_50 : decode b_NC_choose 50 = .ok (.aload_n 0, 1) := by decide +kernel
theorem d_NC_choose_51 : decode b_NC_choose 51 = .ok (.getfield 37, 3) := by decide +kernel
theorem d_NC_choose_54 : decode b_NC_choose 54 = .ok (.iconst (-1), 1) := by decide +kernel
theorem d_NC_choose_55 : decode b_NC_choose 55 = .ok (.invokestatic 68, 3) := by decide +kernel
theorem d_NC_choose_58 : decode b_NC_choose 58 = .ok (.aload_n 0, 1) := by decide +kernel
theorem d_NC_choose_59 : decode b_NC_choose 59 = .ok (.invokevirtual 132, 3) := by decide +kernel
theorem d_NC_choose_62 : decode b_NC_choose 62 = .ok (.ireturn, 1) := by decide +kernel
theorem d_NC_reply_0 : decode b_NC_reply 0 = .ok (.aload_n 0, 1) := by decide +kernel
theorem d_NC_reply_1 : decode b_NC_reply 1 = .ok (.getfield 53, 3) := by decide +kernel
theorem d_NC_reply_4 : decode b_NC_reply 4 = .ok (.ifCond .ne 6, 3) := by decide +kernel
theorem d_NC_reply_7 : decode b_NC_reply 7 = .ok (.bipush (-4), 2) := by decide +kernel
theorem d_NC_reply_9 : decode b_NC_reply 9 = .ok (.ireturn, 1) := by decide +kernel
theorem d_NC_reply_10 : decode b_NC_reply 10 = .ok (.aload_n 0, 1) := by decide +kernel
theorem d_NC_reply_11 : decode b_NC_reply 11 = .ok (.invokevirtual 135, 3) := by decide +kernel
theorem d_NC_reply_14 : decode b_NC_reply 14 = .ok (.istore_n 1, 1) := by decide +kernel
theorem d_NC_reply_15 : decode b_NC_reply 15 = .ok (.iload_n 1, 1) := by decide +kernel
theorem d_NC_reply_16 : decode b_NC_reply 16 = .ok (.iconst (-1), 1) := by decide +kernel
theorem d_NC_reply_17 : decode b_NC_reply 17 = .ok (.if_icmp .eq 9, 3) := by decide +kernel
theorem d_NC_reply_20 : decode b_NC_reply 20 = .ok (.aload_n 0, 1) := by decide +kernel
theorem d_NC_reply_21 : decode b_NC_reply 21 = .ok (.iload_n 1, 1) := by decide +kernel
theorem d_NC_reply_22 : decode b_NC_reply 22 = .ok (.invokevirtual 129, 3) := by decide +kernel
theorem d_NC_reply_25 : decode b_NC_reply 25 = .ok (.ireturn, 1) := by decide +kernel
theorem d_NC_reply_26 : decode b_NC_reply 26 = .ok (.aload_n 0, 1) := by decide +kernel
theorem d_NC_reply_27 : decode b_NC_reply 27 = .ok (.invokevirtual 138, 3) := by decide +kernel
theorem d_NC_reply_30 : decode b_NC_reply 30 = .ok (.istore_n 2, 1) := by decide +kernel
theorem d_NC_reply_31 : decode b_NC_reply 31 = .ok (.aload_n 0, 1) := by decide +kernel
theorem d_NC_reply_32 : decode b_NC_reply 32 = .ok (.iconst 0, 1) := by decide +kernel
theorem d_NC_reply_33 : decode b_NC_reply 33 = .ok (.putfield 20, 3) := by decide +kernel
theorem d_NC_reply_36 : decode b_NC_reply 36 = .ok (.iload_n 2, 1) := by decide +kernel
theorem d_NC_reply_37 : decode b_NC_reply 37 = .ok (.ifCond .ne 16, 3) := by decide +kernel
theorem d_NC_reply_40 : decode b_NC_reply 40 = .ok (.aload_n 0, 1) := by decide +kernel
theorem d_NC_reply_41 : decode b_NC_reply 41 = .ok (.aload_n 0, 1) := by decide +kernel
theorem d_NC_reply_42 : decode b_NC_reply 42 = .ok (.getfield 56, 3) := by decide +kernel
theorem d_NC_reply_45 : decode b_NC_reply 45 = .ok (.iconst (-1), 1) := by decide +kernel
theorem d_NC_reply_46 : decode b_NC_reply 46 = .ok (.iconst (-1), 1) := by decide +kernel
theorem d_NC_reply_47 : decode b_NC_reply 47 = .ok (.invokevirtual 141, 3) := by decide +kernel
theorem d_NC_reply_50 : decode b_NC_reply 50 = .ok (.bipush (-18), 2) := by decide +kernel
theorem d_NC_reply_52 : decode b_NC_reply 52 = .ok (.ireturn, 1) := by decide +kernel
theorem d_NC_reply_53 : decode b_NC_reply 53 = .ok (.aload_n 0, 1) := by decide +kernel
theorem d_NC_reply_54 : decode b_NC_reply 54 = .ok (.getfield 56, 3) := by decide +kernel
theorem d_NC_reply_57 : decode b_NC_reply 57 = .ok (.ifCond .lt 25, 3) := by decide +kernel
theorem d_NC_reply_60 : decode b_NC_reply 60 = .ok (.aload_n 0, 1) := by decide +kernel
theorem d_NC_reply_61 : decode b_NC_reply 61 = .ok (.getfield 56, 3) := by decide +kernel
theorem d_NC_reply_64 : decode b_NC_reply 64 = .ok (.aload_n 0, 1) := by decide +kernel
theorem d_NC_reply_65 : decode b_NC_reply 65 = .ok (.getfield 37, 3) := by decide +kernel
theorem d_NC_reply_68 : decode b_NC_reply 68 = .ok (.arraylength, 1) := by decide +kernel
theorem d_NC_reply_69 : decode b_NC_reply 69 = .ok (.if_icmp .ge 13, 3) := by decide +kernel
theorem d_NC_reply_72 : decode b_NC_reply 72 = .ok (.aload_n 0, 1) := by decide +kernel
theorem d_NC_reply_73 : decode b_NC_reply 73 = .ok (.getfield 37, 3) := by decide +kernel
theorem d_NC_reply_76 : decode b_NC_reply 76 = .ok (.aload_n 0, 1) := by decide +kernel
theorem d_NC_reply_77 : decode b_NC_reply 77 = .ok (.getfield 56, 3) := by decide +kernel
theorem d_NC_reply_80 : decode b_NC_reply 80 = .ok (.iload_n 2, 1) := by decide +kernel
theorem d_NC_reply_81 : decode b_NC_reply 81 = .ok (.iastore, 1) := by decide +kernel
theorem d_NC_reply_82 : decode b_NC_reply 82 = .ok (.aload_n 0, 1) := by decide +kernel
theorem d_NC_reply_83 : decode b_NC_reply 83 = .ok (.invokevirtual 132, 3) := by decide +kernel
theorem d_NC_reply_86 : decode b_NC_reply 86 = .ok (.ireturn, 1) := by decide +kernel
theorem d_NC_chosen_0 : decode b_NC_chosen 0 = .ok (.iload_n 1, 1) := by decide +kernel
theorem d_NC_chosen_1 : decode b_NC_chosen 1 = .ok (.iconst (-1), 1) := by decide +kernel
theorem d_NC_chosen_2 : decode b_NC_chosen 2 = .ok (.if_icmp .ne 13, 3) := by decide +kernel
theorem d_NC_chosen_5 : decode b_NC_chosen 5 = .ok (.aload_n 0, 1) := by decide +kernel
theorem d_NC_chosen_6 : decode b_NC_chosen 6 = .ok (.getfield 43, 3) := by decide +kernel
theorem d_NC_chosen_9 : decode b_NC_chosen 9 = .ok (.getfield 145, 3) := by decide +kernel
theorem d_NC_chosen_12 : decode b_NC_chosen 12 = .ok (.goto 11, 3) := by decide +kernel
theorem d_NC_chosen_15 : decode b_NC_chosen 15 = .ok (.aload_n 0, 1) := by decide +kernel
theorem d_NC_chosen_16 : decode b_NC_chosen 16 = .ok (.getfield 43, 3) := by decide +kernel
theorem d_NC_chosen_19 : decode b_NC_chosen 19 = .ok (.iload_n 1, 1) := by decide +kernel
theorem d_NC_chosen_20 : decode b_NC_chosen 20 = .ok (.invokevirtual 148, 3) := by decide +kernel
theorem d_NC_chosen_23 : decode b_NC_chosen 23 = .ok (.ireturn, 1) := by decide +kernel
theorem d_NC_asked_0 : decode b_NC_asked 0 = .ok (.iload_n 1, 1) := by decide +kernel
theorem d_NC_asked_1 : decode b_NC_asked 1 = .ok (.iconst (-1), 1) := by decide +kernel
theorem d_NC_asked_2 : decode b_NC_asked 2 = .ok (.if_icmp .ne 15, 3) := by decide +kernel
theorem d_NC_asked_5 : decode b_NC_asked 5 = .ok (.aload_n 0, 1) := by decide +kernel
theorem d_NC_asked_6 : decode b_NC_asked 6 = .ok (.aload_n 0, 1) := by decide +kernel
theorem d_NC_asked_7 : decode b_NC_asked 7 = .ok (.getfield 53, 3) := by decide +kernel
theorem d_NC_asked_10 : decode b_NC_asked 10 = .ok (.invokevirtual 151, 3) := by decide +kernel
theorem d_NC_asked_13 : decode b_NC_asked 13 = .ok (.invokestatic 154, 3) := by decide +kernel
theorem d_NC_asked_16 : decode b_NC_asked 16 = .ok (.ireturn, 1) := by decide +kernel
theorem d_NC_asked_17 : decode b_NC_asked 17 = .ok (.aload_n 0, 1) := by decide +kernel
theorem d_NC_asked_18 : decode b_NC_asked 18 = .ok (.iload_n 1, 1) := by decide +kernel
theorem d_NC_asked_19 : decode b_NC_asked 19 = .ok (.invokevirtual 159, 3) := by decide +kernel
theorem d_NC_asked_22 : decode b_NC_asked 22 = .ok (.istore_n 3, 1) := by decide +kernel
theorem d_NC_asked_23 : decode b_NC_asked 23 = .ok (.iload_n 3, 1) := by decide +kernel
theorem d_NC_asked_24 : decode b_NC_asked 24 = .ok (.ifCond .ne 5, 3) := by decide +kernel
theorem d_NC_asked_27 : decode b_NC_asked 27 = .ok (.iconst (-1), 1) := by decide +kernel
theorem d_NC_asked_28 : decode b_NC_asked 28 = .ok (.ireturn, 1) := by decide +kernel
theorem d_NC_asked_29 : decode b_NC_asked 29 = .ok (.iload_n 2, 1) := by decide +kernel
theorem d_NC_asked_30 : decode b_NC_asked 30 = .ok (.iconst (-1), 1) := by decide +kernel
theorem d_NC_asked_31 : decode b_NC_asked 31 = .ok (.if_icmp .ne 10, 3) := by decide +kernel
theorem d_NC_asked_34 : decode b_NC_asked 34 = .ok (.iload_n 3, 1) := by decide +kernel
theorem d_NC_asked_35 : decode b_NC_asked 35 = .ok (.invokestatic 154, 3) := by decide +kernel
theorem d_NC_asked_38 : decode b_NC_asked 38 = .ok (.goto 8, 3) := by decide +kernel
theorem d_NC_asked_41 : decode b_NC_asked 41 = .ok (.iload_n 3, 1) := by decide +kernel
theorem d_NC_asked_42 : decode b_NC_asked 42 = .ok (.iload_n 2, 1) := by decide +kernel
theorem d_NC_asked_43 : decode b_NC_asked 43 = .ok (.invokestatic 162, 3) := by decide +kernel
theorem d_NC_asked_46 : decode b_NC_asked 46 = .ok (.ireturn, 1) := by decide +kernel
theorem d_NC_told_0 : decode b_NC_told 0 = .ok (.iload_n 1, 1) := by decide +kernel
theorem d_NC_told_1 : decode b_NC_told 1 = .ok (.tableswitch 42 0 2 #[27, 32, 37], 27) := by decide +kernel
theorem d_NC_told_28 : decode b_NC_told 28 = .ok (.aload_n 0, 1) := by decide +kernel
theorem d_NC_told_29 : decode b_NC_told 29 = .ok (.getfield 59, 3) := by decide +kernel
theorem d_NC_told_32 : decode b_NC_told 32 = .ok (.ireturn, 1) := by decide +kernel
theorem d_NC_told_33 : decode b_NC_told 33 = .ok (.aload_n 0, 1) := by decide +kernel
theorem d_NC_told_34 : decode b_NC_told 34 = .ok (.getfield 62, 3) := by decide +kernel
theorem d_NC_told_37 : decode b_NC_told 37 = .ok (.ireturn, 1) := by decide +kernel
theorem d_NC_told_38 : decode b_NC_told 38 = .ok (.aload_n 0, 1) := by decide +kernel
theorem d_NC_told_39 : decode b_NC_told 39 = .ok (.getfield 65, 3) := by decide +kernel
theorem d_NC_told_42 : decode b_NC_told 42 = .ok (.ireturn, 1) := by decide +kernel
theorem d_NC_told_43 : decode b_NC_told 43 = .ok (.iconst (-1), 1) := by decide +kernel
theorem d_NC_told_44 : decode b_NC_told 44 = .ok (.ireturn, 1) := by decide +kernel
theorem d_NC_count_0 : decode b_NC_count 0 = .ok (.iload_n 1, 1) := by decide +kernel
theorem d_NC_count_1 : decode b_NC_count 1 = .ok (.tableswitch 88 0 5 #[39, 47, 58, 70, 75, 83], 39) := by decide +kernel
theorem d_NC_count_40 : decode b_NC_count 40 = .ok (.aload_n 0, 1) := by decide +kernel
theorem d_NC_count_41 : decode b_NC_count 41 = .ok (.getfield 10, 3) := by decide +kernel
theorem d_NC_count_44 : decode b_NC_count 44 = .ok (.getfield 165, 3) := by decide +kernel
theorem d_NC_count_47 : decode b_NC_count 47 = .ok (.ireturn, 1) := by decide +kernel
theorem d_NC_count_48 : decode b_NC_count 48 = .ok (.aload_n 0, 1) := by decide +kernel
theorem d_NC_count_49 : decode b_NC_count 49 = .ok (.getfield 10, 3) := by decide +kernel
theorem d_NC_count_52 : decode b_NC_count 52 = .ok (.invokevirtual 168, 3) := by decide +kernel
theorem d_NC_count_55 : decode b_NC_count 55 = .ok (.invokestatic 154, 3) := by decide +kernel
theorem d_NC_count_58 : decode b_NC_count 58 = .ok (.ireturn, 1) := by decide +kernel
theorem d_NC_count_59 : decode b_NC_count 59 = .ok (.aload_n 0, 1) := by decide +kernel
theorem d_NC_count_60 : decode b_NC_count 60 = .ok (.getfield 10, 3) := by decide +kernel
theorem d_NC_count_63 : decode b_NC_count 63 = .ok (.iconst 2, 1) := by decide +kernel
theorem d_NC_count_64 : decode b_NC_count 64 = .ok (.invokevirtual 171, 3) := by decide +kernel
theorem d_NC_count_67 : decode b_NC_count 67 = .ok (.invokestatic 154, 3) := by decide +kernel
theorem d_NC_count_70 : decode b_NC_count 70 = .ok (.ireturn, 1) := by decide +kernel
theorem d_NC_count_71 : decode b_NC_count 71 = .ok (.aload_n 0, 1) := by decide +kernel
theorem d_NC_count_72 : decode b_NC_count 72 = .ok (.getfield 20, 3) := by decide +kernel
theorem d_NC_count_75 : decode b_NC_count 75 = .ok (.ireturn, 1) := by decide +kernel
theorem d_NC_count_76 : decode b_NC_count 76 = .ok (.aload_n 0, 1) := by decide +kernel
theorem d_NC_count_77 : decode b_NC_count 77 = .ok (.getfield 30, 3) := by decide +kernel
theorem d_NC_count_80 : decode b_NC_count 80 = .ok (.getfield 174, 3) := by decide +kernel
theorem d_NC_count_83 : decode b_NC_count 83 = .ok (.ireturn, 1) := by decide +kernel
theorem d_NC_count_84 : decode b_NC_count 84 = .ok (.aload_n 0, 1) := by decide +kernel
theorem d_NC_count_85 : decode b_NC_count 85 = .ok (.getfield 24, 3) := by decide +kernel
theorem d_NC_count_88 : decode b_NC_count 88 = .ok (.ireturn, 1) := by decide +kernel
theorem d_NC_count_89 : decode b_NC_count 89 = .ok (.iconst (-1), 1) := by decide +kernel
theorem d_NC_count_90 : decode b_NC_count 90 = .ok (.ireturn, 1) := by decide +kernel
theorem d_NC_init_0 : decode b_NC_init 0 = .ok (.aload_n 0, 1) := by decide +kernel
theorem d_NC_init_1 : decode b_NC_init 1 = .ok (.invokespecial 1, 3) := by decide +kernel
theorem d_NC_init_4 : decode b_NC_init 4 = .ok (.aload_n 0, 1) := by decide +kernel
theorem d_NC_init_5 : decode b_NC_init 5 = .ok (.new 7, 3) := by decide +kernel
theorem d_NC_init_8 : decode b_NC_init 8 = .ok (.dup, 1) := by decide +kernel
theorem d_NC_init_9 : decode b_NC_init 9 = .ok (.invokespecial 9, 3) := by decide +kernel
theorem d_NC_init_12 : decode b_NC_init 12 = .ok (.putfield 10, 3) := by decide +kernel
theorem d_NC_init_15 : decode b_NC_init 15 = .ok (.aload_n 0, 1) := by decide +kernel
theorem d_NC_init_16 : decode b_NC_init 16 = .ok (.bipush 30, 2) := by decide +kernel
theorem d_NC_init_18 : decode b_NC_init 18 = .ok (.newarray .int, 2) := by decide +kernel
theorem d_NC_init_20 : decode b_NC_init 20 = .ok (.putfield 16, 3) := by decide +kernel
theorem d_NC_init_23 : decode b_NC_init 23 = .ok (.aload_n 0, 1) := by decide +kernel
theorem d_NC_init_24 : decode b_NC_init 24 = .ok (.iconst 0, 1) := by decide +kernel
theorem d_NC_init_25 : decode b_NC_init 25 = .ok (.putfield 20, 3) := by decide +kernel
theorem d_NC_init_28 : decode b_NC_init 28 = .ok (.aload_n 0, 1) := by decide +kernel
theorem d_NC_init_29 : decode b_NC_init 29 = .ok (.bipush 32, 2) := by decide +kernel
theorem d_NC_init_31 : decode b_NC_init 31 = .ok (.putfield 24, 3) := by decide +kernel
theorem d_NC_init_34 : decode b_NC_init 34 = .ok (.aload_n 0, 1) := by decide +kernel
theorem d_NC_init_35 : decode b_NC_init 35 = .ok (.new 27, 3) := by decide +kernel
theorem d_NC_init_38 : decode b_NC_init 38 = .ok (.dup, 1) := by decide +kernel
theorem d_NC_init_39 : decode b_NC_init 39 = .ok (.invokespecial 29, 3) := by decide +kernel
theorem d_NC_init_42 : decode b_NC_init 42 = .ok (.putfield 30, 3) := by decide +kernel
theorem d_NC_init_45 : decode b_NC_init 45 = .ok (.aload_n 0, 1) := by decide +kernel
theorem d_NC_init_46 : decode b_NC_init 46 = .ok (.new 27, 3) := by decide +kernel
theorem d_NC_init_49 : decode b_NC_init 49 = .ok (.dup, 1) := by decide +kernel
theorem d_NC_init_50 : decode b_NC_init 50 = .ok (.invokespecial 29, 3) := by decide +kernel
theorem d_NC_init_53 : decode b_NC_init 53 = .ok (.putfield 34, 3) := by decide +kernel
theorem d_NC_init_56 : decode b_NC_init 56 = .ok (.aload_n 0, 1) := by decide +kernel
theorem d_NC_init_57 : decode b_NC_init 57 = .ok (.bipush 30, 2) := by decide +kernel
theorem d_NC_init_59 : decode b_NC_init 59 = .ok (.newarray .int, 2) := by decide +kernel
theorem d_NC_init_61 : decode b_NC_init 61 = .ok (.putfield 37, 3) := by decide +kernel
theorem d_NC_init_64 : decode b_NC_init 64 = .ok (.aload_n 0, 1) := by decide +kernel
theorem d_NC_init_65 : decode b_NC_init 65 = .ok (.new 40, 3) := by decide +kernel
theorem d_NC_init_68 : decode b_NC_init 68 = .ok (.dup, 1) := by decide +kernel
theorem d_NC_init_69 : decode b_NC_init 69 = .ok (.invokespecial 42, 3) := by decide +kernel
theorem d_NC_init_72 : decode b_NC_init 72 = .ok (.putfield 43, 3) := by decide +kernel
theorem d_NC_init_75 : decode b_NC_init 75 = .ok (.aload_n 0, 1) := by decide +kernel
theorem d_NC_init_76 : decode b_NC_init 76 = .ok (.new 40, 3) := by decide +kernel
theorem d_NC_init_79 : decode b_NC_init 79 = .ok (.dup, 1) := by decide +kernel
theorem d_NC_init_80 : decode b_NC_init 80 = .ok (.invokespecial 42, 3) := by decide +kernel
theorem d_NC_init_83 : decode b_NC_init 83 = .ok (.putfield 47, 3) := by decide +kernel
theorem d_NC_init_86 : decode b_NC_init 86 = .ok (.aload_n 0, 1) := by decide +kernel
theorem d_NC_init_87 : decode b_NC_init 87 = .ok (.iconst 0, 1) := by decide +kernel
theorem d_NC_init_88 : decode b_NC_init 88 = .ok (.putfield 50, 3) := by decide +kernel
theorem d_NC_init_91 : decode b_NC_init 91 = .ok (.aload_n 0, 1) := by decide +kernel
theorem d_NC_init_92 : decode b_NC_init 92 = .ok (.iconst 0, 1) := by decide +kernel
theorem d_NC_init_93 : decode b_NC_init 93 = .ok (.putfield 53, 3) := by decide +kernel
theorem d_NC_init_96 : decode b_NC_init 96 = .ok (.aload_n 0, 1) := by decide +kernel
theorem d_NC_init_97 : decode b_NC_init 97 = .ok (.iconst 0, 1) := by decide +kernel
theorem d_NC_init_98 : decode b_NC_init 98 = .ok (.putfield 56, 3) := by decide +kernel
theorem d_NC_init_101 : decode b_NC_init 101 = .ok (.aload_n 0, 1) := by decide +kernel
theorem d_NC_init_102 : decode b_NC_init 102 = .ok (.iconst (-1), 1) := by decide +kernel
theorem d_NC_init_103 : decode b_NC_init 103 = .ok (.putfield 59, 3) := by decide +kernel
theorem d_NC_init_106 : decode b_NC_init 106 = .ok (.aload_n 0, 1) := by decide +kernel
theorem d_NC_init_107 : decode b_NC_init 107 = .ok (.iconst (-1), 1) := by decide +kernel
theorem d_NC_init_108 : decode b_NC_init 108 = .ok (.putfield 62, 3) := by decide +kernel
theorem d_NC_init_111 : decode b_NC_init 111 = .ok (.aload_n 0, 1) := by decide +kernel
theorem d_NC_init_112 : decode b_NC_init 112 = .ok (.iconst (-1), 1) := by decide +kernel
theorem d_NC_init_113 : decode b_NC_init 113 = .ok (.putfield 65, 3) := by decide +kernel
theorem d_NC_init_116 : decode b_NC_init 116 = .ok (.aload_n 0, 1) := by decide +kernel
theorem d_NC_init_117 : decode b_NC_init 117 = .ok (.getfield 37, 3) := by decide +kernel
theorem d_NC_init_120 : decode b_NC_init 120 = .ok (.iconst (-1), 1) := by decide +kernel
theorem d_NC_init_121 : decode b_NC_init 121 = .ok (.invokestatic 68, 3) := by decide +kernel
theorem d_NC_init_124 : decode b_NC_init 124 = .ok (.return_, 1) := by decide +kernel
end
section
def w_Things (cA : ClassId) (a : Nat → Nat) (X : Nat → Nat → Int32) : va_W := [(a 0, .inr (1, [.ref (a 1), .ref (a 2), .ref (a 3), .ref (a 4), .ref (a 5), .ref (a 6), .ref (a 7), .int (X 7 0)])), (a 1, .inl (cA, 32, .inl (X 0))), (a 2, .inl (cA, 32, .inl (X 1))), (a 3, .inl (cA, 32, .inl (X 2))), (a 4, .inl (cA, 32, .inl (X 3))), (a 5, .inl (cA, 128, .inl (X 4))), (a 6, .inl (cA, 16, .inl (X 5))), (a 7, .inl (cA, 4, .inl (X 6)))]
def w_Phrase (cA : ClassId) (a : Nat → Nat) (X : Nat → Nat → Int32) : va_W := [(a 0, .inr (2, [.ref (a 1), .ref (a 2), .ref (a 3), .ref (a 4), .int (X 4 0), .ref (a 5), .ref (a 6), .ref (a 7), .int (X 8 0), .int (X 9 0), .int (X 10 0)])), (a 1, .inl (cA, 30, .inl (X 0))), (a 2, .inl (cA, 30, .inl (X 1))), (a 3, .inl (cA, 30, .inl (X 2))), (a 4, .inl (cA, 30, .inl (X 3))), (a 5, .inl (cA, 30, .inl (X 5))), (a 6, .inl (cA, 30, .inl (X 6))), (a 7, .inl (cA, 30, .inl (X 7)))]
def w_Picks (cA : ClassId) (a : Nat → Nat) (X : Nat → Nat → Int32) : va_W := [(a 0, .inr (3, [.ref (a 1), .int (X 1 0), .int (X 2 0)])), (a 1, .inl (cA, 32, .inl (X 0)))]
def w_NC (cA : ClassId) (ad : Nat → Nat → Nat) (S : Nat → Nat → Nat → Int32) : va_W := [(((ad 0) 0), .inr (0, [.ref ((ad 1) 0), .ref ((ad 0) 1), .int ((S 0) 2 0), .int ((S 0) 3 0), .ref ((ad 2) 0), .ref ((ad 3) 0), .ref ((ad 0) 2), .ref ((ad 4) 0), .ref ((ad 5) 0), .int ((S 0) 9 0), .int ((S 0) 10 0), .int ((S 0) 11 0), .int ((S 0) 12 0), .int ((S 0) 13 0), .int ((S 0) 14 0)])), (((ad 0) 1), .inl (cA, 30, .inl ((S 0) 1))), (((ad 0) 2), .inl (cA, 30, .inl ((S 0) 6))), (((ad 1) 0), .inr (1, [.ref ((ad 1) 1), .ref ((ad 1) 2), .ref ((ad 1) 3), .ref ((ad 1) 4), .ref ((ad 1) 5), .ref ((ad 1) 6), .ref ((ad 1) 7), .int ((S 1) 7 0)])), (((ad 1) 1), .inl (cA, 32, .inl ((S 1) 0))), (((ad 1) 2), .inl (cA, 32, .inl ((S 1) 1))), (((ad 1) 3), .inl (cA, 32, .inl ((S 1) 2))), (((ad 1) 4), .inl (cA, 32, .inl ((S 1) 3))), (((ad 1) 5), .inl (cA, 128, .inl ((S 1) 4))), (((ad 1) 6), .inl (cA, 16, .inl ((S 1) 5))), (((ad 1) 7), .inl (cA, 4, .inl ((S 1) 6))), (((ad 2) 0), .inr (2, [.ref ((ad 2) 1), .ref ((ad 2) 2), .ref ((ad 2) 3), .ref ((ad 2) 4), .int ((S 2) 4 0), .ref ((ad 2) 5), .ref ((ad 2) 6), .ref ((ad 2) 7), .int ((S 2) 8 0), .int ((S 2) 9 0), .int ((S 2) 10 0)])), (((ad 2) 1), .inl (cA, 30, .inl ((S 2) 0))), (((ad 2) 2), .inl (cA, 30, .inl ((S 2) 1))), (((ad 2) 3), .inl (cA, 30, .inl ((S 2) 2))), (((ad 2) 4), .inl (cA, 30, .inl ((S 2) 3))), (((ad 2) 5), .inl (cA, 30, .inl ((S 2) 5))), (((ad 2) 6), .inl (cA, 30, .inl ((S 2) 6))), (((ad 2) 7), .inl (cA, 30, .inl ((S 2) 7))), (((ad 3) 0), .inr (2, [.ref ((ad 3) 1), .ref ((ad 3) 2), .ref ((ad 3) 3), .ref ((ad 3) 4), .int ((S 3) 4 0), .ref ((ad 3) 5), .ref ((ad 3) 6), .ref ((ad 3) 7), .int ((S 3) 8 0), .int ((S 3) 9 0), .int ((S 3) 10 0)])), (((ad 3) 1), .inl (cA, 30, .inl ((S 3) 0))), (((ad 3) 2), .inl (cA, 30, .inl ((S 3) 1))), (((ad 3) 3), .inl (cA, 30, .inl ((S 3) 2))), (((ad 3) 4), .inl (cA, 30, .inl ((S 3) 3))), (((ad 3) 5), .inl (cA, 30, .inl ((S 3) 5))), (((ad 3) 6), .inl (cA, 30, .inl ((S 3) 6))), (((ad 3) 7), .inl (cA, 30, .inl ((S 3) 7))), (((ad 4) 0), .inr (3, [.ref ((ad 4) 1), .int ((S 4) 1 0), .int ((S 4) 2 0)])), (((ad 4) 1), .inl (cA, 32, .inl ((S 4) 0))), (((ad 5) 0), .inr (3, [.ref ((ad 5) 1), .int ((S 5) 1 0), .int ((S 5) 2 0)])), (((ad 5) 1), .inl (cA, 32, .inl ((S 5) 0)))]
/-! my own rows: states as functions, calls that only read, calls that change their world, numbers of loops -/
def upf (X : Nat → Nat → Int32) (k : Nat) (g : Nat → Int32) : Nat → Nat → Int32 := fun j => cond (Nat.beq j k) g (X j)
def upr (S : Nat → Nat → Nat → Int32) (r : Nat) (X : Nat → Nat → Int32) : Nat → Nat → Nat → Int32 := fun j => cond (Nat.beq j r) X (S j)
def nc_sw (f : Nat → Nat → Nat) (i j : Nat) : Nat → Nat → Nat := fun r => cond (Nat.beq r i) (f j) (cond (Nat.beq r j) (f i) (f r))
def nc_ushr (x y : Int32) : Int32 := (x.toUInt32 >>> (y.toUInt32 &&& Int32.toUInt32 31)).toInt32
def nc_mu (b i : Int32) : Nat := (b.toInt - i.toInt).toNat
def va_pick (ws : va_W) (is : List Nat) : va_W := is.filterMap (fun i => ws[i]?)
theorem nc_lt {x y : Int32} {a b : Int} (h : x < y) (hx : x.toInt = a) (hy : y.toInt = b) : a < b := by rw [Int32.lt_iff_toInt_lt] at h; omega
theorem nc_nlt {x y : Int32} {a b : Int} (h : ¬ x < y) (hx : x.toInt = a) (hy : y.toInt = b) : b ≤ a := by rw [Int32.lt_iff_toInt_lt] at h; omega
theorem nc_le {x y : Int32} {a b : Int} (h : x ≤ y) (hx : x.toInt = a) (hy : y.toInt = b) : a ≤ b := by rw [Int32.le_iff_toInt_le] at h; omega
theorem nc_nle {x y : Int32} {a b : Int} (h : ¬ x ≤ y) (hx : x.toInt = a) (hy : y.toInt = b) : b < a := by rw [Int32.le_iff_toInt_le] at h; omega
theorem nc_eq {x y : Int32} {a b : Int} (h : x = y) (hx : x.toInt = a) (hy : y.toInt = b) : a = b := by rw [← hx, ← hy, h]
theorem nc_add1 {b i : Int32} (c : ¬ b ≤ i) : (i + 1).toInt = i.toInt + 1 := by
  have h := nc_nle c rfl rfl
  have h1 := Int32.toInt_lt b
  have h2 := Int32.le_toInt i
  rw [Int32.toInt_add, show (1 : Int32).toInt = 1 by decide, Int.bmod_eq_of_le (by omega) (by omega)]
theorem nc_mu_step {b i : Int32} {n : Nat} (c : ¬ b ≤ i) (hm : nc_mu b i < n + 1) : nc_mu b (i + 1) < n := by
  have h := nc_nle c rfl rfl
  have h1 := nc_add1 c
  unfold nc_mu at hm ⊢
  omega
theorem nc_i_step {b i : Int32} (c : ¬ b ≤ i) (h0 : 0 ≤ i.toInt) : 0 ≤ (i + 1).toInt := by
  have h1 := nc_add1 c
  omega
theorem nc_m4 {x r : Int32} (h1 : 0 ≤ x.toInt) (h2 : x.toInt < 32) (h3 : 0 ≤ r.toInt) (h4 : r.toInt < 4) : vp_in (x * 4 + r) 128 := by
  have e1 : (x * 4).toInt = x.toInt * 4 := by
    rw [Int32.toInt_mul, show (4 : Int32).toInt = 4 by decide, Int.bmod_eq_of_le (by omega) (by omega)]
  have e2 : (x * 4 + r).toInt = x.toInt * 4 + r.toInt := by
    rw [Int32.toInt_add, e1, Int.bmod_eq_of_le (by omega) (by omega)]
  exact vp_in_iff.mpr ⟨by omega, by omega⟩
def nc_N (U : State) : Prop := ∀ w ∈ nestW, va_Nw w U
theorem nestW_tab : nestW.all Cond.onTables = true := by decide +kernel
theorem nc_N_same {u U : State} (h : u.vm = U.vm) (hN : nc_N u) : nc_N U := fun w hw => va_Nw.same (List.all_eq_true.mp nestW_tab w hw) h (hN w hw)
theorem nc_N_of {s : State} {args : Array Value} (hts : ∀ w ∈ lw_tbl, w.before args s = true) : nc_N s := fun w hw => va_Nw.of (List.all_eq_true.mp nestW_tab w hw) (hts w (nestW_in w hw))
theorem nc_N_warm {s U : State} (hW : s.WarmedH U.vm) (hN : nc_N s) : nc_N U := by
  intro w hw
  have h := hN w hw
  unfold nestW at hw
  simp only [List.mem_cons, List.not_mem_nil, or_false] at hw
  rcases hw with rfl | rfl | rfl | rfl | rfl | rfl | rfl | rfl | rfl | rfl | rfl
  · exact va_Nw.warmF hW h
  · exact va_Nw.warmM hW h
  · exact va_Nw.warmF hW h
  · exact va_Nw.warmM hW h
  · exact va_Nw.warmF hW h
  · exact va_Nw.warmF hW h
  · exact va_Nw.warmM hW h
  · exact va_Nw.warmM hW h
  · exact va_Nw.warmM hW h
  · exact va_Nw.warmM hW h
  · exact va_Nw.warmM hW h
def nc_Pre (D : va_G) (cA : ClassId) (av : List Value) (ws : va_W) : Array Value → State → Prop := va_Pc av (fun U => va_P D classes ws U.heap ∧ va_K D classes [(cA, .int)] U ∧ va_D (fun _ => True) ws ∧ nc_N U)
def nc_PreM (D : va_G) (cA : ClassId) (sz : Nat) (av : List Value) (ws : va_W) : Array Value → State → Prop := va_Pc av (fun U => U.heap.size = sz ∧ va_P D classes ws U.heap ∧ va_K D classes [(cA, .int)] U ∧ va_D (fun _ => True) ws ∧ nc_N U)
theorem nc_blind {D : va_G} {cA : ClassId} {av : List Value} {ws : va_W} : FrameBlind (nc_Pre D cA av ws) := fun a U g mk q => by
  obtain ⟨q0, qP, qK, qD, qN⟩ := q
  exact ⟨q0, qP, va_K.moved (u := U) (U := U.calling g mk a) (Vm.Alike.refl U.vm) qK, qD, nc_N_same (u := U) (U := U.calling g mk a) rfl qN⟩
theorem nc_blindM {D : va_G} {cA : ClassId} {sz : Nat} {av : List Value} {ws : va_W} : FrameBlind (nc_PreM D cA sz av ws) := fun a U g mk q => by
  obtain ⟨q0, q1, qP, qK, qD, qN⟩ := q
  exact ⟨q0, q1, qP, va_K.moved (u := U) (U := U.calling g mk a) (Vm.Alike.refl U.vm) qK, qD, nc_N_same (u := U) (U := U.calling g mk a) rfl qN⟩
section NCP
variable {s : State} {H : Heap} {D : va_G} {cA : ClassId} {ws : va_W} {A : Nat → Prop} {b ci N : Nat} {fs As : List Value} {C : String} {T : u_T}
theorem nc_preV (hK : va_K D classes [(cA, .int)] s) (hN : nc_N s) (hP : va_P D classes ws H) (hD : va_D A ws) (he : ws[0]? = some (b, .inr (ci, fs))) (hc : classes[ci]? = some (C, T, N)) : PreV s H C b (nc_Pre D cA (.ref b :: As) ws) As :=
  ⟨nc_blind, va_recv hK hP hc he, fun U hU hW => ⟨rfl, by rw [hU]; exact hP, va_K.moved hW.alike hK, hD.weaken (fun _ _ _ _ => trivial), nc_N_warm hW hN⟩⟩
theorem nc_preVM (hK : va_K D classes [(cA, .int)] s) (hN : nc_N s) (hP : va_P D classes ws H) (hD : va_D A ws) (he : ws[0]? = some (b, .inr (ci, fs))) (hc : classes[ci]? = some (C, T, N)) : PreV s H C b (nc_PreM D cA H.size (.ref b :: As) ws) As :=
  ⟨nc_blindM, va_recv hK hP hc he, fun U hU hW => ⟨rfl, by rw [hU], by rw [hU]; exact hP, va_K.moved hW.alike hK, hD.weaken (fun _ _ _ _ => trivial), nc_N_warm hW hN⟩⟩
theorem nc_preS (hK : va_K D classes [(cA, .int)] s) (hN : nc_N s) (hP : va_P D classes ws H) (hD : va_D A ws) : PreS s H (nc_Pre D cA As ws) As :=
  ⟨nc_blind, fun U hU hW => ⟨rfl, by rw [hU]; exact hP, va_K.moved hW.alike hK, hD.weaken (fun _ _ _ _ => trivial), nc_N_warm hW hN⟩⟩
theorem nc_preSM (hK : va_K D classes [(cA, .int)] s) (hN : nc_N s) (hP : va_P D classes ws H) (hD : va_D A ws) : PreS s H (nc_PreM D cA H.size As ws) As :=
  ⟨nc_blindM, fun U hU hW => ⟨rfl, by rw [hU], by rw [hU]; exact hP, va_K.moved hW.alike hK, hD.weaken (fun _ _ _ _ => trivial), nc_N_warm hW hN⟩⟩
theorem nc_preS0 (hK : va_K D classes [(cA, .int)] s) (hN : nc_N s) : PreS s H (nc_Pre D cA As []) As :=
  ⟨nc_blind, fun U hU hW => ⟨rfl, fun k q h => by simp at h, va_K.moved hW.alike hK, ⟨fun i j p q h => by simp at h, fun k q h => by simp at h⟩, nc_N_warm hW hN⟩⟩
end NCP
theorem nc_free {A0 : Nat → Prop} {ws : va_W} {H0 H : Heap} {locs : List Loc} (hD : va_D A0 ws) (hS : va_S A0 H0 H locs) (hA : ∀ q, H0.size ≤ q → A0 q) : ∀ q, va_A ws H.size q → A0 q := by
  intro q h
  rcases h with ⟨k, e, h⟩ | h
  · exact hD.2 k (q, e) h
  · exact hA q (Nat.le_trans hS.1 h)
section NCC
variable {p : Program} {l : Launch} {e : Env} {R : Room} {s : State} {m : MethodId} {args : Array Value} {below : List Frame} {meth : Method} {c : Code} {H : Heap} {locs : List Loc} {cells slots : Nat} {Q : State → Prop}
variable {pc : Nat} {ls : Array Slot} {rest st0 : List Value} {a : Array Value} {A0 A1 : Nat → Prop} {H0 : Heap} {D : va_G} {cl : List vw_C} {w1 : va_W} {post : Int32 → Prop}
theorem nc_ro (hr : va_Run p l e R s m args below meth c H locs cells slots 0 0 (F0 m pc ls st0) rest (vp_Si post a) (fun _ => False))
    (kk : ∀ r : Int32, post r → W p l e R s m args below meth c H locs cells slots Q (F0 m (pc + 3) ls (.int r :: rest))) : W p l e R s m args below meth c H locs cells slots Q (F0 m pc ls st0) := by
  intro T hT X
  obtain ⟨v, st₀, t, T', L, h0, X', hL, e1, e2, ⟨r, hv, hp, hh⟩, st⟩ := hr T hT X
  cases hv
  obtain ⟨t2, a1, b1⟩ := kk r hp T' (by rw [e1, hh, h0]) (Stand.forget X' (fun q h => (hL q h).elim))
  exact ⟨t2, st t2 a1, b1⟩
theorem nc_mui (hr : va_Run p l e R s m args below meth c H locs cells slots 0 0 (F0 m pc ls st0) rest (va_Qi (fun r (_ : Unit) => post r) (fun _ t => va_P D cl w1 t.heap ∧ va_D A1 w1) A1 a) A1) (hS : va_S A0 H0 H locs) (hF : ∀ q, A1 q → A0 q)
    (kk : ∀ (r : Int32) (H1 : Heap) (locs1 : List Loc), post r → va_P D cl w1 H1 → va_D A1 w1 → (∀ q : Nat, q < H.size → ¬ A1 q → H1[q]? = H[q]?) → va_S A0 H0 H1 locs1 → W p l e R s m args below meth c H1 locs1 cells slots Q (F0 m (pc + 3) ls (.int r :: rest))) : W p l e R s m args below meth c H locs cells slots Q (F0 m pc ls st0) :=
  va_calli hr hS (fun q _ h => hF q h) hF (fun r _ t H1 locs1 ht _ hp hB _ hk hS1 => kk r H1 locs1 hp (by rw [← ht]; exact hB.1) hB.2 hk hS1)
theorem nc_muv (hr : va_Run p l e R s m args below meth c H locs cells slots 0 0 (F0 m pc ls st0) rest (va_Qv (fun _ : Unit => True) (fun _ t => va_P D cl w1 t.heap ∧ va_D A1 w1) A1 a) A1) (hS : va_S A0 H0 H locs) (hF : ∀ q, A1 q → A0 q)
    (kk : ∀ (H1 : Heap) (locs1 : List Loc), va_P D cl w1 H1 → va_D A1 w1 → (∀ q : Nat, q < H.size → ¬ A1 q → H1[q]? = H[q]?) → va_S A0 H0 H1 locs1 → W p l e R s m args below meth c H1 locs1 cells slots Q (F0 m (pc + 3) ls rest)) : W p l e R s m args below meth c H locs cells slots Q (F0 m pc ls st0) :=
  va_callv hr hS (fun q _ h => hF q h) hF (fun _ t H1 locs1 ht _ _ hB _ hk hS1 => kk H1 locs1 (by rw [← ht]; exact hB.1) hB.2 hk hS1)
theorem nc_mumi {w2 : (Nat → Nat → Nat) → va_W} (hr : va_Run p l e R s m args below meth c H locs cells slots 0 0 (F0 m pc ls st0) rest (va_Qi (fun r (_ : Nat → Nat → Nat) => post r) (fun u t => va_P D cl (w2 u) t.heap ∧ va_D A1 (w2 u)) A1 a) A1) (hS : va_S A0 H0 H locs) (hF : ∀ q, A1 q → A0 q)
    (kk : ∀ (r : Int32) (u : Nat → Nat → Nat) (H1 : Heap) (locs1 : List Loc), post r → va_P D cl (w2 u) H1 → va_D A1 (w2 u) → (∀ q : Nat, q < H.size → ¬ A1 q → H1[q]? = H[q]?) → va_S A0 H0 H1 locs1 → W p l e R s m args below meth c H1 locs1 cells slots Q (F0 m (pc + 3) ls (.int r :: rest))) : W p l e R s m args below meth c H locs cells slots Q (F0 m pc ls st0) :=
  va_calli hr hS (fun q _ h => hF q h) hF (fun r u t H1 locs1 ht _ hp hB _ hk hS1 => kk r u H1 locs1 hp (by rw [← ht]; exact hB.1) hB.2 hk hS1)
end NCC
theorem L_m9 : ((-9) : Int32).toInt = -9 := by decide
theorem L_m1 : ((-1) : Int32).toInt = -1 := by decide
theorem L_0 : (0 : Int32).toInt = 0 := by decide
theorem L_1 : (1 : Int32).toInt = 1 := by decide
theorem L_2 : (2 : Int32).toInt = 2 := by decide
theorem L_3 : (3 : Int32).toInt = 3 := by decide
theorem L_4 : (4 : Int32).toInt = 4 := by decide
theorem L_5 : (5 : Int32).toInt = 5 := by decide
theorem L_6 : (6 : Int32).toInt = 6 := by decide
theorem L_9 : (9 : Int32).toInt = 9 := by decide
theorem L_16 : (16 : Int32).toInt = 16 := by decide
theorem L_30 : (30 : Int32).toInt = 30 := by decide
theorem L_32 : (32 : Int32).toInt = 32 := by decide
theorem nc_lt_nle {x y : Int32} (h : x < y) : ¬ y ≤ x := by
  intro q
  have h1 := nc_lt h rfl rfl
  have h2 := nc_le q rfl rfl
  omega
theorem nc_gd {c : Cond} (h : c ∈ lw_G) : GoodIn lw_G (c :: lw_G) := fun w hw => by
  have hm : w ∈ lw_G := (List.mem_cons.mp hw).elim (fun e => e ▸ h) id
  exact ⟨hm, good_of_word (List.mem_filter.mp hm).2⟩
theorem nc_cA {D : va_G} {cl : List vw_C} {s : State} {cA cB : ClassId} (h : va_K D cl ([(cA, .int)] ++ [(cB, .int)]) s) : cA = cB := by
  have h1 := (h.2 0 _ rfl).2
  have h2 := (h.2 1 _ rfl).2
  exact Option.some.inj (h1.symm.trans h2)
def nc_cons (q : Nat) (a : Nat → Nat) : Nat → Nat := fun j => match j with
  | 0 => q
  | j + 1 => a j
def nc_lst (l : List Nat) : Nat → Nat := fun j => l.getD j 0
def nc_ads (l : List (Nat → Nat)) : Nat → Nat → Nat := fun j => l.getD j (fun _ => 0)
def nc_sys (l : List (Nat → Nat → Int32)) : Nat → Nat → Nat → Int32 := fun j => l.getD j (fun _ _ => 0)
section NCI
variable {p : Program} {l : Launch} {e : Env} {R : Room} {s : State} {m : MethodId} {args : Array Value} {below : List Frame} {meth : Method} {c : Code} {H : Heap} {locs : List Loc} {cells slots mc ms : Nat} {Q : State → Prop}
variable {pc : Nat} {ls : Array Slot} {rest st0 : List Value} {a : Array Value} {A0 A1 : Nat → Prop} {H0 : Heap} {D : va_G} {cl : List vw_C}
theorem nc_init {w2 : (Nat → Nat) → va_W} (hr : va_Run p l e R s m args below meth c H locs cells slots mc ms (F0 m pc ls st0) rest (va_Qv (fun _ : Nat → Nat => True) (fun u t => va_P D cl (w2 u) t.heap ∧ va_D A1 (w2 u)) A1 a) A1) (hS : va_S A0 H0 H locs) (hF : ∀ q, A1 q → A0 q)
    (kk : ∀ (u : Nat → Nat) (H1 : Heap) (locs1 : List Loc), va_P D cl (w2 u) H1 → va_D A1 (w2 u) → (∀ q : Nat, q < H.size → ¬ A1 q → H1[q]? = H[q]?) → va_S A0 H0 H1 locs1 → W p l e R s m args below meth c H1 locs1 (cells + mc) (slots + ms) Q (F0 m (pc + 3) ls rest)) : W p l e R s m args below meth c H locs cells slots Q (F0 m pc ls st0) :=
  va_callv hr hS (fun q _ h => hF q h) hF (fun u t H1 locs1 ht _ _ hB _ hk hS1 => kk u H1 locs1 (by rw [← ht]; exact hB.1) hB.2 hk hS1)
end NCI
end
section
theorem k_NC_177 {R : Room} {s : State} {args : Array Value} (hts : ∀ w ∈ lw_G, w.before args s = true) (hN : nc_N s) {rm : Room} (hR : rm.frames + 1 ≤ R.frames ∧ 8 + (1 + 11) + rm.locals ≤ R.locals) (h1 : rm.cells = 0 := by rfl) (h2 : rm.slots = 0 := by rfl) : CallB R s args R_NC 177 y_NC_isNumber b_NC_isNumber 1 (some .boolean) (.code y_NC_isNumber b_NC_isNumber 1 (some .boolean) :: lw_G) rm 0 0 1 ∧ (Cond.static y_NC_isNumber).before args s = true := ⟨callB_of 1 hts (nc_gd m_code_NC_isNumber) rfl h1 h2 (hts _ m_ini_NC) (hts _ m_m_NC_177) (by decide +kernel) hR, hts _ m_t_NC_isNumber⟩
theorem k_NC_126 {R : Room} {s : State} {args : Array Value} (hts : ∀ w ∈ lw_G, w.before args s = true) (hN : nc_N s) {rm : Room} (hR : rm.frames + 1 ≤ R.frames ∧ 8 + (2 + 11) + rm.locals ≤ R.locals) (h1 : rm.cells = 0 := by rfl) (h2 : rm.slots = 0 := by rfl) : CallB R s args R_NC 126 y_NC_holds b_NC_holds 2 (some .boolean) (.code y_NC_holds b_NC_holds 2 (some .boolean) :: lw_G) rm 0 0 2 ∧ (Cond.static y_NC_holds).before args s = true := ⟨callB_of 2 hts (nc_gd m_code_NC_holds) rfl h1 h2 (hts _ m_ini_NC) (hts _ m_m_NC_126) (by decide +kernel) hR, hts _ m_t_NC_holds⟩
theorem k_Things_43 {R : Room} {s : State} {args : Array Value} (hts : ∀ w ∈ lw_G, w.before args s = true) (hN : nc_N s) {rm : Room} (hR : rm.frames + 1 ≤ R.frames ∧ 8 + (2 + 11) + rm.locals ≤ R.locals) (h1 : rm.cells = 0 := by rfl) (h2 : rm.slots = 0 := by rfl) : CallW R s args R_Things R_Things 43 y_Things_has b_Things_has 2 (some .boolean) (.code y_Things_has b_Things_has 2 (some .boolean) :: lw_G) rm 0 0 1 := ⟨callB_of 1 hts (nc_gd m_code_Things_has) rfl h1 h2 (hts _ m_ini_Things) (hts _ m_m_Things_43) (by decide +kernel) hR, hts _ m_i_Things_has, hts _ m_s_Things_has⟩
theorem k_Things_47 {R : Room} {s : State} {args : Array Value} (hts : ∀ w ∈ lw_G, w.before args s = true) (hN : nc_N s) {rm : Room} (hR : rm.frames + 1 ≤ R.frames ∧ 8 + (1 + 11) + rm.locals ≤ R.locals) (h1 : rm.cells = 0 := by rfl) (h2 : rm.slots = 0 := by rfl) : va_CN R s args R_Things 47 y_NC_isWord "NounChoice" b_NC_isWord 1 (some .boolean) (.code y_NC_isWord b_NC_isWord 1 (some .boolean) :: lw_G) rm 0 0 1 ∧ (Cond.static y_NC_isWord).before args s = true ∧ True := ⟨va_cnB 1 hts (nc_gd m_code_NC_isWord) rfl h1 h2 (hN _ m_n_Things_47) (hts _ m_ini_NC) (by decide +kernel) hR, hts _ m_t_NC_isWord, trivial⟩
theorem k_Things_50 {R : Room} {s : State} {args : Array Value} (hts : ∀ w ∈ lw_G, w.before args s = true) (hN : nc_N s) {rm : Room} (hR : rm.frames + 1 ≤ R.frames ∧ 8 + (1 + 11) + rm.locals ≤ R.locals) (h1 : rm.cells = 0 := by rfl) (h2 : rm.slots = 0 := by rfl) : CallB R s args R_Things 50 y_Things_isKind b_Things_isKind 1 (some .boolean) (.code y_Things_isKind b_Things_isKind 1 (some .boolean) :: lw_G) rm 0 0 1 ∧ (Cond.static y_Things_isKind).before args s = true := ⟨callB_of 1 hts (nc_gd m_code_Things_isKind) rfl h1 h2 (hts _ m_ini_Things) (hts _ m_m_Things_50) (by decide +kernel) hR, hts _ m_t_Things_isKind⟩
theorem k_Things_53 {R : Room} {s : State} {args : Array Value} (hts : ∀ w ∈ lw_G, w.before args s = true) (hN : nc_N s) {rm : Room} (hR : rm.frames + 1 ≤ R.frames ∧ 8 + (1 + 11) + rm.locals ≤ R.locals) (h1 : rm.cells = 0 := by rfl) (h2 : rm.slots = 0 := by rfl) : CallB R s args R_Things 53 y_Things_isRule b_Things_isRule 1 (some .boolean) (.code y_Things_isRule b_Things_isRule 1 (some .boolean) :: lw_G) rm 0 0 1 ∧ (Cond.static y_Things_isRule).before args s = true := ⟨callB_of 1 hts (nc_gd m_code_Things_isRule) rfl h1 h2 (hts _ m_ini_Things) (hts _ m_m_Things_53) (by decide +kernel) hR, hts _ m_t_Things_isRule⟩
theorem k_Things_56 {R : Room} {s : State} {args : Array Value} (hts : ∀ w ∈ lw_G, w.before args s = true) (hN : nc_N s) {rm : Room} (hR : rm.frames + 1 ≤ R.frames ∧ 8 + (4 + 11) + rm.locals ≤ R.locals) (h1 : rm.cells = 0 := by rfl) (h2 : rm.slots = 0 := by rfl) : CallW R s args R_Things R_Things 56 y_Things_placedSet b_Things_placedSet 4 (some .int) (.code y_Things_placedSet b_Things_placedSet 4 (some .int) :: lw_G) rm 0 0 1 := ⟨callB_of 1 hts (nc_gd m_code_Things_placedSet) rfl h1 h2 (hts _ m_ini_Things) (hts _ m_m_Things_56) (by decide +kernel) hR, hts _ m_i_Things_placedSet, hts _ m_s_Things_placedSet⟩
theorem k_Picks_22 {R : Room} {s : State} {args : Array Value} (hts : ∀ w ∈ lw_G, w.before args s = true) (hN : nc_N s) {rm : Room} (hR : rm.frames + 1 ≤ R.frames ∧ 8 + (2 + 11) + rm.locals ≤ R.locals) (h1 : rm.cells = 0 := by rfl) (h2 : rm.slots = 0 := by rfl) : va_CN R s args R_Picks 22 y_NC_holds "NounChoice" b_NC_holds 2 (some .boolean) (.code y_NC_holds b_NC_holds 2 (some .boolean) :: lw_G) rm 0 0 2 ∧ (Cond.static y_NC_holds).before args s = true ∧ True := ⟨va_cnB 2 hts (nc_gd m_code_NC_holds) rfl h1 h2 (hN _ m_n_Picks_22) (hts _ m_ini_NC) (by decide +kernel) hR, hts _ m_t_NC_holds, trivial⟩
theorem k_Phrase_54 {R : Room} {s : State} {args : Array Value} (hts : ∀ w ∈ lw_G, w.before args s = true) (hN : nc_N s) {rm : Room} (hR : rm.frames + 1 ≤ R.frames ∧ 8 + (2 + 11) + rm.locals ≤ R.locals) (h1 : rm.cells = 0 := by rfl) (h2 : rm.slots = 0 := by rfl) : CallW R s args R_Phrase R_Phrase 54 y_Phrase_isPart b_Phrase_isPart 2 (some .boolean) (.code y_Phrase_isPart b_Phrase_isPart 2 (some .boolean) :: lw_G) rm 0 0 1 := ⟨callB_of 1 hts (nc_gd m_code_Phrase_isPart) rfl h1 h2 (hts _ m_ini_Phrase) (hts _ m_m_Phrase_54) (by decide +kernel) hR, hts _ m_i_Phrase_isPart, hts _ m_s_Phrase_isPart⟩
theorem k_Phrase_57 {R : Room} {s : State} {args : Array Value} (hts : ∀ w ∈ lw_G, w.before args s = true) (hN : nc_N s) {rm : Room} (hR : rm.frames + 1 ≤ R.frames ∧ 8 + (2 + 11) + rm.locals ≤ R.locals) (h1 : rm.cells = 0 := by rfl) (h2 : rm.slots = 0 := by rfl) : CallW R s args R_Phrase R_Phrase 57 y_Phrase_isOwn b_Phrase_isOwn 2 (some .boolean) (.code y_Phrase_isOwn b_Phrase_isOwn 2 (some .boolean) :: lw_G) rm 0 0 1 := ⟨callB_of 1 hts (nc_gd m_code_Phrase_isOwn) rfl h1 h2 (hts _ m_ini_Phrase) (hts _ m_m_Phrase_57) (by decide +kernel) hR, hts _ m_i_Phrase_isOwn, hts _ m_s_Phrase_isOwn⟩
theorem k_Phrase_67 {R : Room} {s : State} {args : Array Value} (hts : ∀ w ∈ lw_G, w.before args s = true) (hN : nc_N s) {rm : Room} (hR : rm.frames + 1 ≤ R.frames ∧ 8 + (2 + 11) + rm.locals ≤ R.locals) (h1 : rm.cells = 0 := by rfl) (h2 : rm.slots = 0 := by rfl) : CallW R s args R_Phrase R_Phrase 67 y_Phrase_openDescription b_Phrase_openDescription 2 (some .boolean) (.code y_Phrase_openDescription b_Phrase_openDescription 2 (some .boolean) :: lw_G) rm 0 0 0 := ⟨callB_of 0 hts (nc_gd m_code_Phrase_openDescription) rfl h1 h2 (hts _ m_ini_Phrase) (hts _ m_m_Phrase_67) (by decide +kernel) hR, hts _ m_i_Phrase_openDescription, hts _ m_s_Phrase_openDescription⟩
theorem k_Phrase_89 {R : Room} {s : State} {args : Array Value} (hts : ∀ w ∈ lw_G, w.before args s = true) (hN : nc_N s) {rm : Room} (hR : rm.frames + 1 ≤ R.frames ∧ 8 + (1 + 11) + rm.locals ≤ R.locals) (h1 : rm.cells = 0 := by rfl) (h2 : rm.slots = 0 := by rfl) : va_CN R s args R_Phrase 89 y_NC_isWord "NounChoice" b_NC_isWord 1 (some .boolean) (.code y_NC_isWord b_NC_isWord 1 (some .boolean) :: lw_G) rm 0 0 1 ∧ (Cond.static y_NC_isWord).before args s = true ∧ True := ⟨va_cnB 1 hts (nc_gd m_code_NC_isWord) rfl h1 h2 (hN _ m_n_Phrase_89) (hts _ m_ini_NC) (by decide +kernel) hR, hts _ m_t_NC_isWord, trivial⟩
theorem k_Phrase_95 {R : Room} {s : State} {args : Array Value} (hts : ∀ w ∈ lw_G, w.before args s = true) (hN : nc_N s) {rm : Room} (hR : rm.frames + 1 ≤ R.frames ∧ 8 + (1 + 11) + rm.locals ≤ R.locals) (h1 : rm.cells = 0 := by rfl) (h2 : rm.slots = 0 := by rfl) : va_CN R s args R_Phrase 95 y_NC_isArticle "NounChoice" b_NC_isArticle 1 (some .boolean) (.code y_NC_isArticle b_NC_isArticle 1 (some .boolean) :: lw_G) rm 0 0 1 ∧ (Cond.static y_NC_isArticle).before args s = true ∧ True := ⟨va_cnB 1 hts (nc_gd m_code_NC_isArticle) rfl h1 h2 (hN _ m_n_Phrase_95) (hts _ m_ini_NC) (by decide +kernel) hR, hts _ m_t_NC_isArticle, trivial⟩
theorem k_Phrase_98 {R : Room} {s : State} {args : Array Value} (hts : ∀ w ∈ lw_G, w.before args s = true) (hN : nc_N s) {rm : Room} (hR : rm.frames + 1 ≤ R.frames ∧ 8 + (3 + 11) + rm.locals ≤ R.locals) (h1 : rm.cells = 0 := by rfl) (h2 : rm.slots = 0 := by rfl) : CallW R s args R_Phrase R_Phrase 98 y_Phrase_tells b_Phrase_tells 3 (some .boolean) (.code y_Phrase_tells b_Phrase_tells 3 (some .boolean) :: lw_G) rm 0 0 2 := ⟨callB_of 2 hts (nc_gd m_code_Phrase_tells) rfl h1 h2 (hts _ m_ini_Phrase) (hts _ m_m_Phrase_98) (by decide +kernel) hR, hts _ m_i_Phrase_tells, hts _ m_s_Phrase_tells⟩
theorem k_Phrase_92 {R : Room} {s : State} {args : Array Value} (hts : ∀ w ∈ lw_G, w.before args s = true) (hN : nc_N s) {rm : Room} (hR : rm.frames + 1 ≤ R.frames ∧ 8 + (3 + 11) + rm.locals ≤ R.locals) (h1 : rm.cells = 0 := by rfl) (h2 : rm.slots = 0 := by rfl) : CallW R s args R_Phrase R_Phrase 92 y_Phrase_addWord b_Phrase_addWord 3 (some .boolean) (.code y_Phrase_addWord b_Phrase_addWord 3 (some .boolean) :: lw_G) rm 0 0 1 := ⟨callB_of 1 hts (nc_gd m_code_Phrase_addWord) rfl h1 h2 (hts _ m_ini_Phrase) (hts _ m_m_Phrase_92) (by decide +kernel) hR, hts _ m_i_Phrase_addWord, hts _ m_s_Phrase_addWord⟩
theorem k_Phrase_79 {R : Room} {s : State} {args : Array Value} (hts : ∀ w ∈ lw_G, w.before args s = true) (hN : nc_N s) {rm : Room} (hR : rm.frames + 1 ≤ R.frames ∧ 8 + (1 + 11) + rm.locals ≤ R.locals) (h1 : rm.cells = 0 := by rfl) (h2 : rm.slots = 0 := by rfl) : CallW R s args R_Phrase R_Phrase 79 y_Phrase_openPart b_Phrase_openPart 1 (some .boolean) (.code y_Phrase_openPart b_Phrase_openPart 1 (some .boolean) :: lw_G) rm 0 0 0 := ⟨callB_of 0 hts (nc_gd m_code_Phrase_openPart) rfl h1 h2 (hts _ m_ini_Phrase) (hts _ m_m_Phrase_79) (by decide +kernel) hR, hts _ m_i_Phrase_openPart, hts _ m_s_Phrase_openPart⟩
theorem k_Phrase_86 {R : Room} {s : State} {args : Array Value} (hts : ∀ w ∈ lw_G, w.before args s = true) (hN : nc_N s) {rm : Room} (hR : rm.frames + 1 ≤ R.frames ∧ 8 + (1 + 11) + rm.locals ≤ R.locals) (h1 : rm.cells = 0 := by rfl) (h2 : rm.slots = 0 := by rfl) : va_CN R s args R_Phrase 86 y_NC_isNumber "NounChoice" b_NC_isNumber 1 (some .boolean) (.code y_NC_isNumber b_NC_isNumber 1 (some .boolean) :: lw_G) rm 0 0 1 ∧ (Cond.static y_NC_isNumber).before args s = true ∧ True := ⟨va_cnB 1 hts (nc_gd m_code_NC_isNumber) rfl h1 h2 (hN _ m_n_Phrase_86) (hts _ m_ini_NC) (by decide +kernel) hR, hts _ m_t_NC_isNumber, trivial⟩
theorem k_Phrase_73 {R : Room} {s : State} {args : Array Value} (hts : ∀ w ∈ lw_G, w.before args s = true) (hN : nc_N s) {rm : Room} (hR : rm.frames + 1 ≤ R.frames ∧ 8 + (2 + 11) + rm.locals ≤ R.locals) (h1 : rm.cells = 0 := by rfl) (h2 : rm.slots = 0 := by rfl) : CallW R s args R_Phrase R_Phrase 73 y_Phrase_openMain b_Phrase_openMain 2 (some .boolean) (.code y_Phrase_openMain b_Phrase_openMain 2 (some .boolean) :: lw_G) rm 0 0 0 := ⟨callB_of 0 hts (nc_gd m_code_Phrase_openMain) rfl h1 h2 (hts _ m_ini_Phrase) (hts _ m_m_Phrase_73) (by decide +kernel) hR, hts _ m_i_Phrase_openMain, hts _ m_s_Phrase_openMain⟩
theorem k_Phrase_76 {R : Room} {s : State} {args : Array Value} (hts : ∀ w ∈ lw_G, w.before args s = true) (hN : nc_N s) {rm : Room} (hR : rm.frames + 1 ≤ R.frames ∧ 8 + (3 + 11) + rm.locals ≤ R.locals) (h1 : rm.cells = 0 := by rfl) (h2 : rm.slots = 0 := by rfl) : CallW R s args R_Phrase R_Phrase 76 y_Phrase_takeInDescription b_Phrase_takeInDescription 3 (some .boolean) (.code y_Phrase_takeInDescription b_Phrase_takeInDescription 3 (some .boolean) :: lw_G) rm 0 0 1 := ⟨callB_of 1 hts (nc_gd m_code_Phrase_takeInDescription) rfl h1 h2 (hts _ m_ini_Phrase) (hts _ m_m_Phrase_76) (by decide +kernel) hR, hts _ m_i_Phrase_takeInDescription, hts _ m_s_Phrase_takeInDescription⟩
theorem k_Phrase_82 {R : Room} {s : State} {args : Array Value} (hts : ∀ w ∈ lw_G, w.before args s = true) (hN : nc_N s) {rm : Room} (hR : rm.frames + 1 ≤ R.frames ∧ 8 + (4 + 11) + rm.locals ≤ R.locals) (h1 : rm.cells = 0 := by rfl) (h2 : rm.slots = 0 := by rfl) : CallW R s args R_Phrase R_Phrase 82 y_Phrase_setAmount b_Phrase_setAmount 4 (some .boolean) (.code y_Phrase_setAmount b_Phrase_setAmount 4 (some .boolean) :: lw_G) rm 0 0 2 := ⟨callB_of 2 hts (nc_gd m_code_Phrase_setAmount) rfl h1 h2 (hts _ m_ini_Phrase) (hts _ m_m_Phrase_82) (by decide +kernel) hR, hts _ m_i_Phrase_setAmount, hts _ m_s_Phrase_setAmount⟩
theorem k_Phrase_70 {R : Room} {s : State} {args : Array Value} (hts : ∀ w ∈ lw_G, w.before args s = true) (hN : nc_N s) {rm : Room} (hR : rm.frames + 1 ≤ R.frames ∧ 8 + (2 + 11) + rm.locals ≤ R.locals) (h1 : rm.cells = 0 := by rfl) (h2 : rm.slots = 0 := by rfl) : CallW R s args R_Phrase R_Phrase 70 y_Phrase_takeAtPart b_Phrase_takeAtPart 2 (some .boolean) (.code y_Phrase_takeAtPart b_Phrase_takeAtPart 2 (some .boolean) :: lw_G) rm 0 0 1 := ⟨callB_of 1 hts (nc_gd m_code_Phrase_takeAtPart) rfl h1 h2 (hts _ m_ini_Phrase) (hts _ m_m_Phrase_70) (by decide +kernel) hR, hts _ m_i_Phrase_takeAtPart, hts _ m_s_Phrase_takeAtPart⟩
theorem k_Phrase_50 {R : Room} {s : State} {args : Array Value} (hts : ∀ w ∈ lw_G, w.before args s = true) (hN : nc_N s) {rm : Room} (hR : rm.frames + 1 ≤ R.frames ∧ 8 + (1 + 11) + rm.locals ≤ R.locals) (h1 : rm.cells = 0 := by rfl) (h2 : rm.slots = 0 := by rfl) : CallW R s args R_Phrase R_Phrase 50 y_Phrase_mayEnd b_Phrase_mayEnd 1 (some .boolean) (.code y_Phrase_mayEnd b_Phrase_mayEnd 1 (some .boolean) :: lw_G) rm 0 0 0 := ⟨callB_of 0 hts (nc_gd m_code_Phrase_mayEnd) rfl h1 h2 (hts _ m_ini_Phrase) (hts _ m_m_Phrase_50) (by decide +kernel) hR, hts _ m_i_Phrase_mayEnd, hts _ m_s_Phrase_mayEnd⟩
theorem k_Phrase_63 {R : Room} {s : State} {args : Array Value} (hts : ∀ w ∈ lw_G, w.before args s = true) (hN : nc_N s) {rm : Room} (hR : rm.frames + 1 ≤ R.frames ∧ 8 + (2 + 11) + rm.locals ≤ R.locals) (h1 : rm.cells = 0 := by rfl) (h2 : rm.slots = 0 := by rfl) : CallW R s args R_Phrase R_Phrase 63 y_Phrase_amountOf b_Phrase_amountOf 2 (some .int) (.code y_Phrase_amountOf b_Phrase_amountOf 2 (some .int) :: lw_G) rm 0 0 1 := ⟨callB_of 1 hts (nc_gd m_code_Phrase_amountOf) rfl h1 h2 (hts _ m_ini_Phrase) (hts _ m_m_Phrase_63) (by decide +kernel) hR, hts _ m_i_Phrase_amountOf, hts _ m_s_Phrase_amountOf⟩
theorem k_Phrase_60 {R : Room} {s : State} {args : Array Value} (hts : ∀ w ∈ lw_G, w.before args s = true) (hN : nc_N s) {rm : Room} (hR : rm.frames + 1 ≤ R.frames ∧ 8 + (1 + 11) + rm.locals ≤ R.locals) (h1 : rm.cells = 0 := by rfl) (h2 : rm.slots = 0 := by rfl) : CallW R s args R_Phrase R_Phrase 60 y_Phrase_closePart b_Phrase_closePart 1 (some .boolean) (.code y_Phrase_closePart b_Phrase_closePart 1 (some .boolean) :: lw_G) rm 0 0 0 := ⟨callB_of 0 hts (nc_gd m_code_Phrase_closePart) rfl h1 h2 (hts _ m_ini_Phrase) (hts _ m_m_Phrase_60) (by decide +kernel) hR, hts _ m_i_Phrase_closePart, hts _ m_s_Phrase_closePart⟩
theorem k_Phrase_46 {R : Room} {s : State} {args : Array Value} (hts : ∀ w ∈ lw_G, w.before args s = true) (hN : nc_N s) {rm : Room} (hR : rm.frames + 1 ≤ R.frames ∧ 8 + (2 + 11) + rm.locals ≤ R.locals) (h1 : rm.cells = 0 := by rfl) (h2 : rm.slots = 0 := by rfl) : CallW R s args R_Phrase R_Phrase 46 y_Phrase_take b_Phrase_take 2 (some .boolean) (.code y_Phrase_take b_Phrase_take 2 (some .boolean) :: lw_G) rm 0 0 1 := ⟨callB_of 1 hts (nc_gd m_code_Phrase_take) rfl h1 h2 (hts _ m_ini_Phrase) (hts _ m_m_Phrase_46) (by decide +kernel) hR, hts _ m_i_Phrase_take, hts _ m_s_Phrase_take⟩
theorem k_NC_107 {R : Room} {s : State} {args : Array Value} (hts : ∀ w ∈ lw_G, w.before args s = true) (hN : nc_N s) {rm : Room} (hR : rm.frames + 1 ≤ R.frames ∧ 8 + (4 + 11) + rm.locals ≤ R.locals) (h1 : rm.cells = 0 := by rfl) (h2 : rm.slots = 0 := by rfl) : CallW R s args R_NC R_Things 107 y_Things_areAlike b_Things_areAlike 4 (some .boolean) (.code y_Things_areAlike b_Things_areAlike 4 (some .boolean) :: lw_G) rm 0 0 2 := ⟨callB_of 2 hts (nc_gd m_code_Things_areAlike) rfl h1 h2 (hts _ m_ini_Things) (hts _ m_m_NC_107) (by decide +kernel) hR, hts _ m_i_Things_areAlike, hts _ m_s_Things_areAlike⟩
theorem k_NC_151 {R : Room} {s : State} {args : Array Value} (hts : ∀ w ∈ lw_G, w.before args s = true) (hN : nc_N s) {rm : Room} (hR : rm.frames + 1 ≤ R.frames ∧ 8 + (6 + 11) + rm.locals ≤ R.locals) (h1 : rm.cells = 0 := by rfl) (h2 : rm.slots = 0 := by rfl) : CallW R s args R_NC R_NC 151 y_NC_leadersOf b_NC_leadersOf 6 (some .int) (.code y_NC_leadersOf b_NC_leadersOf 6 (some .int) :: lw_G) rm 0 0 1 := ⟨callB_of 1 hts (nc_gd m_code_NC_leadersOf) rfl h1 h2 (hts _ m_ini_NC) (hts _ m_m_NC_151) (by decide +kernel) hR, hts _ m_i_NC_leadersOf, hts _ m_s_NC_leadersOf⟩
theorem k_NC_162 {R : Room} {s : State} {args : Array Value} (hts : ∀ w ∈ lw_G, w.before args s = true) (hN : nc_N s) {rm : Room} (hR : rm.frames + 1 ≤ R.frames ∧ 8 + (4 + 11) + rm.locals ≤ R.locals) (h1 : rm.cells = 0 := by rfl) (h2 : rm.slots = 0 := by rfl) : CallB R s args R_NC 162 y_NC_memberAt b_NC_memberAt 4 (some .int) (.code y_NC_memberAt b_NC_memberAt 4 (some .int) :: lw_G) rm 0 0 2 ∧ (Cond.static y_NC_memberAt).before args s = true := ⟨callB_of 2 hts (nc_gd m_code_NC_memberAt) rfl h1 h2 (hts _ m_ini_NC) (hts _ m_m_NC_162) (by decide +kernel) hR, hts _ m_t_NC_memberAt⟩
theorem k_NC_141 {R : Room} {s : State} {args : Array Value} (hts : ∀ w ∈ lw_G, w.before args s = true) (hN : nc_N s) {rm : Room} (hR : rm.frames + 1 ≤ R.frames ∧ 8 + (4 + 11) + rm.locals ≤ R.locals) (h1 : rm.cells = 0 := by rfl) (h2 : rm.slots = 0 := by rfl) : CallW R s args R_NC R_NC 141 y_NC_tell b_NC_tell 4 none (.code y_NC_tell b_NC_tell 4 none :: lw_G) rm 0 0 3 := ⟨callB_of 3 hts (nc_gd m_code_NC_tell) rfl h1 h2 (hts _ m_ini_NC) (hts _ m_m_NC_141) (by decide +kernel) hR, hts _ m_i_NC_tell, hts _ m_s_NC_tell⟩
theorem k_NC_103 {R : Room} {s : State} {args : Array Value} (hts : ∀ w ∈ lw_G, w.before args s = true) (hN : nc_N s) {rm : Room} (hR : rm.frames + 1 ≤ R.frames ∧ 8 + (4 + 11) + rm.locals ≤ R.locals) (h1 : rm.cells = 0 := by rfl) (h2 : rm.slots = 0 := by rfl) : CallW R s args R_NC R_Things 103 y_Things_scoreOf b_Things_scoreOf 4 (some .int) (.code y_Things_scoreOf b_Things_scoreOf 4 (some .int) :: lw_G) rm 0 0 1 := ⟨callB_of 1 hts (nc_gd m_code_Things_scoreOf) rfl h1 h2 (hts _ m_ini_Things) (hts _ m_m_NC_103) (by decide +kernel) hR, hts _ m_i_Things_scoreOf, hts _ m_s_Things_scoreOf⟩
theorem k_NC_226 {R : Room} {s : State} {args : Array Value} (hts : ∀ w ∈ lw_G, w.before args s = true) (hN : nc_N s) {rm : Room} (hR : rm.frames + 1 ≤ R.frames ∧ 8 + (2 + 11) + rm.locals ≤ R.locals) (h1 : rm.cells = 0 := by rfl) (h2 : rm.slots = 0 := by rfl) : CallW R s args R_NC R_Phrase 226 y_Phrase_leadingOf b_Phrase_leadingOf 2 (some .int) (.code y_Phrase_leadingOf b_Phrase_leadingOf 2 (some .int) :: lw_G) rm 0 0 1 := ⟨callB_of 1 hts (nc_gd m_code_Phrase_leadingOf) rfl h1 h2 (hts _ m_ini_Phrase) (hts _ m_m_NC_226) (by decide +kernel) hR, hts _ m_i_Phrase_leadingOf, hts _ m_s_Phrase_leadingOf⟩
theorem k_NC_229 {R : Room} {s : State} {args : Array Value} (hts : ∀ w ∈ lw_G, w.before args s = true) (hN : nc_N s) {rm : Room} (hR : rm.frames + 1 ≤ R.frames ∧ 8 + (2 + 11) + rm.locals ≤ R.locals) (h1 : rm.cells = 0 := by rfl) (h2 : rm.slots = 0 := by rfl) : CallW R s args R_NC R_Phrase 229 y_Phrase_lastOf b_Phrase_lastOf 2 (some .int) (.code y_Phrase_lastOf b_Phrase_lastOf 2 (some .int) :: lw_G) rm 0 0 1 := ⟨callB_of 1 hts (nc_gd m_code_Phrase_lastOf) rfl h1 h2 (hts _ m_ini_Phrase) (hts _ m_m_NC_229) (by decide +kernel) hR, hts _ m_i_Phrase_lastOf, hts _ m_s_Phrase_lastOf⟩
theorem k_NC_222 {R : Room} {s : State} {args : Array Value} (hts : ∀ w ∈ lw_G, w.before args s = true) (hN : nc_N s) {rm : Room} (hR : rm.frames + 1 ≤ R.frames ∧ 8 + (3 + 11) + rm.locals ≤ R.locals) (h1 : rm.cells = 0 := by rfl) (h2 : rm.slots = 0 := by rfl) : CallW R s args R_NC R_Phrase 222 y_Phrase_tells b_Phrase_tells 3 (some .boolean) (.code y_Phrase_tells b_Phrase_tells 3 (some .boolean) :: lw_G) rm 0 0 2 := ⟨callB_of 2 hts (nc_gd m_code_Phrase_tells) rfl h1 h2 (hts _ m_ini_Phrase) (hts _ m_m_NC_222) (by decide +kernel) hR, hts _ m_i_Phrase_tells, hts _ m_s_Phrase_tells⟩
theorem k_NC_171 {R : Room} {s : State} {args : Array Value} (hts : ∀ w ∈ lw_G, w.before args s = true) (hN : nc_N s) {rm : Room} (hR : rm.frames + 1 ≤ R.frames ∧ 8 + (4 + 11) + rm.locals ≤ R.locals) (h1 : rm.cells = 0 := by rfl) (h2 : rm.slots = 0 := by rfl) : CallW R s args R_NC R_Things 171 y_Things_placedSet b_Things_placedSet 4 (some .int) (.code y_Things_placedSet b_Things_placedSet 4 (some .int) :: lw_G) rm 0 0 1 := ⟨callB_of 1 hts (nc_gd m_code_Things_placedSet) rfl h1 h2 (hts _ m_ini_Things) (hts _ m_m_NC_171) (by decide +kernel) hR, hts _ m_i_Things_placedSet, hts _ m_s_Things_placedSet⟩
theorem k_NC_232 {R : Room} {s : State} {args : Array Value} (hts : ∀ w ∈ lw_G, w.before args s = true) (hN : nc_N s) {rm : Room} (hR : rm.frames + 1 ≤ R.frames ∧ 8 + (7 + 11) + rm.locals ≤ R.locals) (h1 : rm.cells = 0 := by rfl) (h2 : rm.slots = 0 := by rfl) : CallW R s args R_NC R_Things 232 y_Things_fitByWords b_Things_fitByWords 7 (some .int) (.code y_Things_fitByWords b_Things_fitByWords 7 (some .int) :: lw_G) rm 0 0 3 := ⟨callB_of 3 hts (nc_gd m_code_Things_fitByWords) rfl h1 h2 (hts _ m_ini_Things) (hts _ m_m_NC_232) (by decide +kernel) hR, hts _ m_i_Things_fitByWords, hts _ m_s_Things_fitByWords⟩
theorem k_NC_238 {R : Room} {s : State} {args : Array Value} (hts : ∀ w ∈ lw_G, w.before args s = true) (hN : nc_N s) {rm : Room} (hR : rm.frames + 1 ≤ R.frames ∧ 8 + (1 + 11) + rm.locals ≤ R.locals) (h1 : rm.cells = 0 := by rfl) (h2 : rm.slots = 0 := by rfl) : CallB R s args R_NC 238 y_NC_isWord b_NC_isWord 1 (some .boolean) (.code y_NC_isWord b_NC_isWord 1 (some .boolean) :: lw_G) rm 0 0 1 ∧ (Cond.static y_NC_isWord).before args s = true := ⟨callB_of 1 hts (nc_gd m_code_NC_isWord) rfl h1 h2 (hts _ m_ini_NC) (hts _ m_m_NC_238) (by decide +kernel) hR, hts _ m_t_NC_isWord⟩
theorem k_NC_241 {R : Room} {s : State} {args : Array Value} (hts : ∀ w ∈ lw_G, w.before args s = true) (hN : nc_N s) {rm : Room} (hR : rm.frames + 1 ≤ R.frames ∧ 8 + (3 + 11) + rm.locals ≤ R.locals) (h1 : rm.cells = 0 := by rfl) (h2 : rm.slots = 0 := by rfl) : CallW R s args R_NC R_Things 241 y_Things_hasWords b_Things_hasWords 3 (some .boolean) (.code y_Things_hasWords b_Things_hasWords 3 (some .boolean) :: lw_G) rm 0 0 2 := ⟨callB_of 2 hts (nc_gd m_code_Things_hasWords) rfl h1 h2 (hts _ m_ini_Things) (hts _ m_m_NC_241) (by decide +kernel) hR, hts _ m_i_Things_hasWords, hts _ m_s_Things_hasWords⟩
theorem k_NC_159 {R : Room} {s : State} {args : Array Value} (hts : ∀ w ∈ lw_G, w.before args s = true) (hN : nc_N s) {rm : Room} (hR : rm.frames + 1 ≤ R.frames ∧ 8 + (5 + 11) + rm.locals ≤ R.locals) (h1 : rm.cells = 0 := by rfl) (h2 : rm.slots = 0 := by rfl) : CallW R s args R_NC R_NC 159 y_NC_groupAt b_NC_groupAt 5 (some .int) (.code y_NC_groupAt b_NC_groupAt 5 (some .int) :: lw_G) rm 0 0 1 := ⟨callB_of 1 hts (nc_gd m_code_NC_groupAt) rfl h1 h2 (hts _ m_ini_NC) (hts _ m_m_NC_159) (by decide +kernel) hR, hts _ m_i_NC_groupAt, hts _ m_s_NC_groupAt⟩
theorem k_NC_154 {R : Room} {s : State} {args : Array Value} (hts : ∀ w ∈ lw_G, w.before args s = true) (hN : nc_N s) {rm : Room} (hR : rm.frames + 1 ≤ R.frames ∧ 8 + (1 + 11) + rm.locals ≤ R.locals) (h1 : rm.cells = 0 := by rfl) (h2 : rm.slots = 0 := by rfl) : CallB R s args R_NC 154 y_Integer_bitCount b_Integer_bitCount 1 (some .int) (.code y_Integer_bitCount b_Integer_bitCount 1 (some .int) :: lw_G) rm 0 0 1 ∧ (Cond.static y_Integer_bitCount).before args s = true := ⟨callB_of 1 hts (nc_gd m_code_Integer_bitCount) rfl h1 h2 (hts _ m_ini_Integer) (hts _ m_m_NC_154) (by decide +kernel) hR, hts _ m_t_Integer_bitCount⟩
theorem k_NC_210 {R : Room} {s : State} {args : Array Value} (hts : ∀ w ∈ lw_G, w.before args s = true) (hN : nc_N s) {rm : Room} (hR : rm.frames + 1 ≤ R.frames ∧ 8 + (2 + 11) + rm.locals ≤ R.locals) (h1 : rm.cells = 0 := by rfl) (h2 : rm.slots = 0 := by rfl) : CallW R s args R_NC R_Phrase 210 y_Phrase_exceptsEnd b_Phrase_exceptsEnd 2 (some .int) (.code y_Phrase_exceptsEnd b_Phrase_exceptsEnd 2 (some .int) :: lw_G) rm 0 0 1 := ⟨callB_of 1 hts (nc_gd m_code_Phrase_exceptsEnd) rfl h1 h2 (hts _ m_ini_Phrase) (hts _ m_m_NC_210) (by decide +kernel) hR, hts _ m_i_Phrase_exceptsEnd, hts _ m_s_Phrase_exceptsEnd⟩
theorem k_NC_213 {R : Room} {s : State} {args : Array Value} (hts : ∀ w ∈ lw_G, w.before args s = true) (hN : nc_N s) {rm : Room} (hR : rm.frames + 1 ≤ R.frames ∧ 8 + (2 + 11) + rm.locals ≤ R.locals) (h1 : rm.cells = 0 := by rfl) (h2 : rm.slots = 0 := by rfl) : CallW R s args R_NC R_Phrase 213 y_Phrase_exceptsStart b_Phrase_exceptsStart 2 (some .int) (.code y_Phrase_exceptsStart b_Phrase_exceptsStart 2 (some .int) :: lw_G) rm 0 0 1 := ⟨callB_of 1 hts (nc_gd m_code_Phrase_exceptsStart) rfl h1 h2 (hts _ m_ini_Phrase) (hts _ m_m_NC_213) (by decide +kernel) hR, hts _ m_i_Phrase_exceptsStart, hts _ m_s_Phrase_exceptsStart⟩
theorem k_NC_122 {R : Room} {s : State} {args : Array Value} (hts : ∀ w ∈ lw_G, w.before args s = true) (hN : nc_N s) {rm : Room} (hR : rm.frames + 1 ≤ R.frames ∧ 8 + (8 + 11) + rm.locals ≤ R.locals) (h1 : rm.cells = 0 := by rfl) (h2 : rm.slots = 0 := by rfl) : CallW R s args R_NC R_NC 122 y_NC_fittingSet b_NC_fittingSet 8 (some .int) (.code y_NC_fittingSet b_NC_fittingSet 8 (some .int) :: lw_G) rm 0 0 3 := ⟨callB_of 3 hts (nc_gd m_code_NC_fittingSet) rfl h1 h2 (hts _ m_ini_NC) (hts _ m_m_NC_122) (by decide +kernel) hR, hts _ m_i_NC_fittingSet, hts _ m_s_NC_fittingSet⟩
theorem k_NC_204 {R : Room} {s : State} {args : Array Value} (hts : ∀ w ∈ lw_G, w.before args s = true) (hN : nc_N s) {rm : Room} (hR : rm.frames + 1 ≤ R.frames ∧ 8 + (3 + 11) + rm.locals ≤ R.locals) (h1 : rm.cells = 0 := by rfl) (h2 : rm.slots = 0 := by rfl) : CallW R s args R_NC R_Picks 204 y_Picks_add b_Picks_add 3 none (.code y_Picks_add b_Picks_add 3 none :: lw_G) rm 0 0 1 := ⟨callB_of 1 hts (nc_gd m_code_Picks_add) rfl h1 h2 (hts _ m_ini_Picks) (hts _ m_m_NC_204) (by decide +kernel) hR, hts _ m_i_Picks_add, hts _ m_s_Picks_add⟩
theorem k_NC_216 {R : Room} {s : State} {args : Array Value} (hts : ∀ w ∈ lw_G, w.before args s = true) (hN : nc_N s) {rm : Room} (hR : rm.frames + 1 ≤ R.frames ∧ 8 + (6 + 11) + rm.locals ≤ R.locals) (h1 : rm.cells = 0 := by rfl) (h2 : rm.slots = 0 := by rfl) : CallW R s args R_NC R_NC 216 y_NC_bestOf b_NC_bestOf 6 (some .int) (.code y_NC_bestOf b_NC_bestOf 6 (some .int) :: lw_G) rm 0 0 1 := ⟨callB_of 1 hts (nc_gd m_code_NC_bestOf) rfl h1 h2 (hts _ m_ini_NC) (hts _ m_m_NC_216) (by decide +kernel) hR, hts _ m_i_NC_bestOf, hts _ m_s_NC_bestOf⟩
theorem k_NC_219 {R : Room} {s : State} {args : Array Value} (hts : ∀ w ∈ lw_G, w.before args s = true) (hN : nc_N s) {rm : Room} (hR : rm.frames + 1 ≤ R.frames ∧ 8 + (1 + 11) + rm.locals ≤ R.locals) (h1 : rm.cells = 0 := by rfl) (h2 : rm.slots = 0 := by rfl) : CallB R s args R_NC 219 y_NC_leastOf b_NC_leastOf 1 (some .int) (.code y_NC_leastOf b_NC_leastOf 1 (some .int) :: lw_G) rm 0 0 1 ∧ (Cond.static y_NC_leastOf).before args s = true := ⟨callB_of 1 hts (nc_gd m_code_NC_leastOf) rfl h1 h2 (hts _ m_ini_NC) (hts _ m_m_NC_219) (by decide +kernel) hR, hts _ m_t_NC_leastOf⟩
theorem k_NC_189 {R : Room} {s : State} {args : Array Value} (hts : ∀ w ∈ lw_G, w.before args s = true) (hN : nc_N s) {rm : Room} (hR : rm.frames + 1 ≤ R.frames ∧ 8 + (2 + 11) + rm.locals ≤ R.locals) (h1 : rm.cells = 0 := by rfl) (h2 : rm.slots = 0 := by rfl) : CallW R s args R_NC R_Phrase 189 y_Phrase_mainOf b_Phrase_mainOf 2 (some .int) (.code y_Phrase_mainOf b_Phrase_mainOf 2 (some .int) :: lw_G) rm 0 0 1 := ⟨callB_of 1 hts (nc_gd m_code_Phrase_mainOf) rfl h1 h2 (hts _ m_ini_Phrase) (hts _ m_m_NC_189) (by decide +kernel) hR, hts _ m_i_Phrase_mainOf, hts _ m_s_Phrase_mainOf⟩
theorem k_NC_168 {R : Room} {s : State} {args : Array Value} (hts : ∀ w ∈ lw_G, w.before args s = true) (hN : nc_N s) {rm : Room} (hR : rm.frames + 1 ≤ R.frames ∧ 8 + (1 + 11) + rm.locals ≤ R.locals) (h1 : rm.cells = 0 := by rfl) (h2 : rm.slots = 0 := by rfl) : CallW R s args R_NC R_Things 168 y_Things_thereSet b_Things_thereSet 1 (some .int) (.code y_Things_thereSet b_Things_thereSet 1 (some .int) :: lw_G) rm 0 0 0 := ⟨callB_of 0 hts (nc_gd m_code_Things_thereSet) rfl h1 h2 (hts _ m_ini_Things) (hts _ m_m_NC_168) (by decide +kernel) hR, hts _ m_i_Things_thereSet, hts _ m_s_Things_thereSet⟩
theorem k_NC_195 {R : Room} {s : State} {args : Array Value} (hts : ∀ w ∈ lw_G, w.before args s = true) (hN : nc_N s) {rm : Room} (hR : rm.frames + 1 ≤ R.frames ∧ 8 + (5 + 11) + rm.locals ≤ R.locals) (h1 : rm.cells = 0 := by rfl) (h2 : rm.slots = 0 := by rfl) : CallW R s args R_NC R_NC 195 y_NC_takeExceptsAway b_NC_takeExceptsAway 5 (some .boolean) (.code y_NC_takeExceptsAway b_NC_takeExceptsAway 5 (some .boolean) :: lw_G) rm 0 0 1 := ⟨callB_of 1 hts (nc_gd m_code_NC_takeExceptsAway) rfl h1 h2 (hts _ m_ini_NC) (hts _ m_m_NC_195) (by decide +kernel) hR, hts _ m_i_NC_takeExceptsAway, hts _ m_s_NC_takeExceptsAway⟩
theorem k_NC_198 {R : Room} {s : State} {args : Array Value} (hts : ∀ w ∈ lw_G, w.before args s = true) (hN : nc_N s) {rm : Room} (hR : rm.frames + 1 ≤ R.frames ∧ 8 + (2 + 11) + rm.locals ≤ R.locals) (h1 : rm.cells = 0 := by rfl) (h2 : rm.slots = 0 := by rfl) : CallW R s args R_NC R_Phrase 198 y_Phrase_amountOf b_Phrase_amountOf 2 (some .int) (.code y_Phrase_amountOf b_Phrase_amountOf 2 (some .int) :: lw_G) rm 0 0 1 := ⟨callB_of 1 hts (nc_gd m_code_Phrase_amountOf) rfl h1 h2 (hts _ m_ini_Phrase) (hts _ m_m_NC_198) (by decide +kernel) hR, hts _ m_i_Phrase_amountOf, hts _ m_s_Phrase_amountOf⟩
theorem k_NC_207 {R : Room} {s : State} {args : Array Value} (hts : ∀ w ∈ lw_G, w.before args s = true) (hN : nc_N s) {rm : Room} (hR : rm.frames + 1 ≤ R.frames ∧ 8 + (6 + 11) + rm.locals ≤ R.locals) (h1 : rm.cells = 0 := by rfl) (h2 : rm.slots = 0 := by rfl) : CallW R s args R_NC R_NC 207 y_NC_giveMeant b_NC_giveMeant 6 (some .int) (.code y_NC_giveMeant b_NC_giveMeant 6 (some .int) :: lw_G) rm 0 0 2 := ⟨callB_of 2 hts (nc_gd m_code_NC_giveMeant) rfl h1 h2 (hts _ m_ini_NC) (hts _ m_m_NC_207) (by decide +kernel) hR, hts _ m_i_NC_giveMeant, hts _ m_s_NC_giveMeant⟩
theorem k_NC_201 {R : Room} {s : State} {args : Array Value} (hts : ∀ w ∈ lw_G, w.before args s = true) (hN : nc_N s) {rm : Room} (hR : rm.frames + 1 ≤ R.frames ∧ 8 + (4 + 11) + rm.locals ≤ R.locals) (h1 : rm.cells = 0 := by rfl) (h2 : rm.slots = 0 := by rfl) : CallW R s args R_NC R_NC 201 y_NC_giveNumber b_NC_giveNumber 4 (some .int) (.code y_NC_giveNumber b_NC_giveNumber 4 (some .int) :: lw_G) rm 0 0 1 := ⟨callB_of 1 hts (nc_gd m_code_NC_giveNumber) rfl h1 h2 (hts _ m_ini_NC) (hts _ m_m_NC_201) (by decide +kernel) hR, hts _ m_i_NC_giveNumber, hts _ m_s_NC_giveNumber⟩
theorem k_NC_192 {R : Room} {s : State} {args : Array Value} (hts : ∀ w ∈ lw_G, w.before args s = true) (hN : nc_N s) {rm : Room} (hR : rm.frames + 1 ≤ R.frames ∧ 8 + (3 + 11) + rm.locals ≤ R.locals) (h1 : rm.cells = 0 := by rfl) (h2 : rm.slots = 0 := by rfl) : CallW R s args R_NC R_Things 192 y_Things_allSet b_Things_allSet 3 (some .int) (.code y_Things_allSet b_Things_allSet 3 (some .int) :: lw_G) rm 0 0 0 := ⟨callB_of 0 hts (nc_gd m_code_Things_allSet) rfl h1 h2 (hts _ m_ini_Things) (hts _ m_m_NC_192) (by decide +kernel) hR, hts _ m_i_Things_allSet, hts _ m_s_Things_allSet⟩
theorem k_NC_180 {R : Room} {s : State} {args : Array Value} (hts : ∀ w ∈ lw_G, w.before args s = true) (hN : nc_N s) {rm : Room} (hR : rm.frames + 1 ≤ R.frames ∧ 8 + (1 + 11) + rm.locals ≤ R.locals) (h1 : rm.cells = 0 := by rfl) (h2 : rm.slots = 0 := by rfl) : CallW R s args R_NC R_Picks 180 y_Picks_clear b_Picks_clear 1 none (.code y_Picks_clear b_Picks_clear 1 none :: lw_G) rm 0 0 0 := ⟨callB_of 0 hts (nc_gd m_code_Picks_clear) rfl h1 h2 (hts _ m_ini_Picks) (hts _ m_m_NC_180) (by decide +kernel) hR, hts _ m_i_Picks_clear, hts _ m_s_Picks_clear⟩
theorem k_NC_183 {R : Room} {s : State} {args : Array Value} (hts : ∀ w ∈ lw_G, w.before args s = true) (hN : nc_N s) {rm : Room} (hR : rm.frames + 1 ≤ R.frames ∧ 8 + (5 + 11) + rm.locals ≤ R.locals) (h1 : rm.cells = 0 := by rfl) (h2 : rm.slots = 0 := by rfl) : CallW R s args R_NC R_NC 183 y_NC_goThroughPart b_NC_goThroughPart 5 (some .int) (.code y_NC_goThroughPart b_NC_goThroughPart 5 (some .int) :: lw_G) rm 0 0 1 := ⟨callB_of 1 hts (nc_gd m_code_NC_goThroughPart) rfl h1 h2 (hts _ m_ini_NC) (hts _ m_m_NC_183) (by decide +kernel) hR, hts _ m_i_NC_goThroughPart, hts _ m_s_NC_goThroughPart⟩
theorem k_NC_186 {R : Room} {s : State} {args : Array Value} (hts : ∀ w ∈ lw_G, w.before args s = true) (hN : nc_N s) {rm : Room} (hR : rm.frames + 1 ≤ R.frames ∧ 8 + (4 + 11) + rm.locals ≤ R.locals) (h1 : rm.cells = 0 := by rfl) (h2 : rm.slots = 0 := by rfl) : CallW R s args R_NC R_NC 186 y_NC_endAt b_NC_endAt 4 (some .int) (.code y_NC_endAt b_NC_endAt 4 (some .int) :: lw_G) rm 0 0 2 := ⟨callB_of 2 hts (nc_gd m_code_NC_endAt) rfl h1 h2 (hts _ m_ini_NC) (hts _ m_m_NC_186) (by decide +kernel) hR, hts _ m_i_NC_endAt, hts _ m_s_NC_endAt⟩
theorem k_NC_74 {R : Room} {s : State} {args : Array Value} (hts : ∀ w ∈ lw_G, w.before args s = true) (hN : nc_N s) {rm : Room} (hR : rm.frames + 1 ≤ R.frames ∧ 8 + (1 + 11) + rm.locals ≤ R.locals) (h1 : rm.cells = 0 := by rfl) (h2 : rm.slots = 0 := by rfl) : CallW R s args R_NC R_Things 74 y_Things_add b_Things_add 1 (some .int) (.code y_Things_add b_Things_add 1 (some .int) :: lw_G) rm 0 0 0 := ⟨callB_of 0 hts (nc_gd m_code_Things_add) rfl h1 h2 (hts _ m_ini_Things) (hts _ m_m_NC_74) (by decide +kernel) hR, hts _ m_i_Things_add, hts _ m_s_Things_add⟩
theorem k_NC_78 {R : Room} {s : State} {args : Array Value} (hts : ∀ w ∈ lw_G, w.before args s = true) (hN : nc_N s) {rm : Room} (hR : rm.frames + 1 ≤ R.frames ∧ 8 + (7 + 11) + rm.locals ≤ R.locals) (h1 : rm.cells = 0 := by rfl) (h2 : rm.slots = 0 := by rfl) : CallW R s args R_NC R_Things 78 y_Things_setWord b_Things_setWord 7 (some .int) (.code y_Things_setWord b_Things_setWord 7 (some .int) :: lw_G) rm 0 0 4 := ⟨callB_of 4 hts (nc_gd m_code_Things_setWord) rfl h1 h2 (hts _ m_ini_Things) (hts _ m_m_NC_78) (by decide +kernel) hR, hts _ m_i_Things_setWord, hts _ m_s_Things_setWord⟩
theorem k_NC_82 {R : Room} {s : State} {args : Array Value} (hts : ∀ w ∈ lw_G, w.before args s = true) (hN : nc_N s) {rm : Room} (hR : rm.frames + 1 ≤ R.frames ∧ 8 + (4 + 11) + rm.locals ≤ R.locals) (h1 : rm.cells = 0 := by rfl) (h2 : rm.slots = 0 := by rfl) : CallW R s args R_NC R_Things 82 y_Things_setKind b_Things_setKind 4 (some .int) (.code y_Things_setKind b_Things_setKind 4 (some .int) :: lw_G) rm 0 0 2 := ⟨callB_of 2 hts (nc_gd m_code_Things_setKind) rfl h1 h2 (hts _ m_ini_Things) (hts _ m_m_NC_82) (by decide +kernel) hR, hts _ m_i_Things_setKind, hts _ m_s_Things_setKind⟩
theorem k_NC_86 {R : Room} {s : State} {args : Array Value} (hts : ∀ w ∈ lw_G, w.before args s = true) (hN : nc_N s) {rm : Room} (hR : rm.frames + 1 ≤ R.frames ∧ 8 + (4 + 11) + rm.locals ≤ R.locals) (h1 : rm.cells = 0 := by rfl) (h2 : rm.slots = 0 := by rfl) : CallW R s args R_NC R_Things 86 y_Things_setPlace b_Things_setPlace 4 (some .int) (.code y_Things_setPlace b_Things_setPlace 4 (some .int) :: lw_G) rm 0 0 2 := ⟨callB_of 2 hts (nc_gd m_code_Things_setPlace) rfl h1 h2 (hts _ m_ini_Things) (hts _ m_m_NC_86) (by decide +kernel) hR, hts _ m_i_Things_setPlace, hts _ m_s_Things_setPlace⟩
theorem k_NC_89 {R : Room} {s : State} {args : Array Value} (hts : ∀ w ∈ lw_G, w.before args s = true) (hN : nc_N s) {rm : Room} (hR : rm.frames + 1 ≤ R.frames ∧ 8 + (6 + 11) + rm.locals ≤ R.locals) (h1 : rm.cells = 0 := by rfl) (h2 : rm.slots = 0 := by rfl) : CallW R s args R_NC R_Things 89 y_Things_setMark b_Things_setMark 6 (some .int) (.code y_Things_setMark b_Things_setMark 6 (some .int) :: lw_G) rm 0 0 3 := ⟨callB_of 3 hts (nc_gd m_code_Things_setMark) rfl h1 h2 (hts _ m_ini_Things) (hts _ m_m_NC_89) (by decide +kernel) hR, hts _ m_i_Things_setMark, hts _ m_s_Things_setMark⟩
theorem k_NC_93 {R : Room} {s : State} {args : Array Value} (hts : ∀ w ∈ lw_G, w.before args s = true) (hN : nc_N s) {rm : Room} (hR : rm.frames + 1 ≤ R.frames ∧ 8 + (4 + 11) + rm.locals ≤ R.locals) (h1 : rm.cells = 0 := by rfl) (h2 : rm.slots = 0 := by rfl) : CallW R s args R_NC R_Things 93 y_Things_setPlural b_Things_setPlural 4 (some .int) (.code y_Things_setPlural b_Things_setPlural 4 (some .int) :: lw_G) rm 0 0 2 := ⟨callB_of 2 hts (nc_gd m_code_Things_setPlural) rfl h1 h2 (hts _ m_ini_Things) (hts _ m_m_NC_93) (by decide +kernel) hR, hts _ m_i_Things_setPlural, hts _ m_s_Things_setPlural⟩
theorem k_NC_96 {R : Room} {s : State} {args : Array Value} (hts : ∀ w ∈ lw_G, w.before args s = true) (hN : nc_N s) {rm : Room} (hR : rm.frames + 1 ≤ R.frames ∧ 8 + (4 + 11) + rm.locals ≤ R.locals) (h1 : rm.cells = 0 := by rfl) (h2 : rm.slots = 0 := by rfl) : CallW R s args R_NC R_Things 96 y_Things_setWeight b_Things_setWeight 4 (some .int) (.code y_Things_setWeight b_Things_setWeight 4 (some .int) :: lw_G) rm 0 0 2 := ⟨callB_of 2 hts (nc_gd m_code_Things_setWeight) rfl h1 h2 (hts _ m_ini_Things) (hts _ m_m_NC_96) (by decide +kernel) hR, hts _ m_i_Things_setWeight, hts _ m_s_Things_setWeight⟩
theorem k_NC_99 {R : Room} {s : State} {args : Array Value} (hts : ∀ w ∈ lw_G, w.before args s = true) (hN : nc_N s) {rm : Room} (hR : rm.frames + 1 ≤ R.frames ∧ 8 + (2 + 11) + rm.locals ≤ R.locals) (h1 : rm.cells = 0 := by rfl) (h2 : rm.slots = 0 := by rfl) : CallW R s args R_NC R_Things 99 y_Things_has b_Things_has 2 (some .boolean) (.code y_Things_has b_Things_has 2 (some .boolean) :: lw_G) rm 0 0 1 := ⟨callB_of 1 hts (nc_gd m_code_Things_has) rfl h1 h2 (hts _ m_ini_Things) (hts _ m_m_NC_99) (by decide +kernel) hR, hts _ m_i_Things_has, hts _ m_s_Things_has⟩
theorem k_NC_111 {R : Room} {s : State} {args : Array Value} (hts : ∀ w ∈ lw_G, w.before args s = true) (hN : nc_N s) {rm : Room} (hR : rm.frames + 1 ≤ R.frames ∧ 8 + (1 + 11) + rm.locals ≤ R.locals) (h1 : rm.cells = 0 := by rfl) (h2 : rm.slots = 0 := by rfl) : CallB R s args R_NC 111 y_NC_isToken b_NC_isToken 1 (some .boolean) (.code y_NC_isToken b_NC_isToken 1 (some .boolean) :: lw_G) rm 0 0 1 ∧ (Cond.static y_NC_isToken).before args s = true := ⟨callB_of 1 hts (nc_gd m_code_NC_isToken) rfl h1 h2 (hts _ m_ini_NC) (hts _ m_m_NC_111) (by decide +kernel) hR, hts _ m_t_NC_isToken⟩
theorem k_NC_114 {R : Room} {s : State} {args : Array Value} (hts : ∀ w ∈ lw_G, w.before args s = true) (hN : nc_N s) {rm : Room} (hR : rm.frames + 1 ≤ R.frames ∧ 8 + (4 + 11) + rm.locals ≤ R.locals) (h1 : rm.cells = 0 := by rfl) (h2 : rm.slots = 0 := by rfl) : CallW R s args R_NC R_Phrase 114 y_Phrase_read b_Phrase_read 4 (some .int) (.code y_Phrase_read b_Phrase_read 4 (some .int) :: lw_G) rm 0 0 2 := ⟨callB_of 2 hts (nc_gd m_code_Phrase_read) rfl h1 h2 (hts _ m_ini_Phrase) (hts _ m_m_NC_114) (by decide +kernel) hR, hts _ m_i_Phrase_read, hts _ m_s_Phrase_read⟩
theorem k_NC_118 {R : Room} {s : State} {args : Array Value} (hts : ∀ w ∈ lw_G, w.before args s = true) (hN : nc_N s) {rm : Room} (hR : rm.frames + 1 ≤ R.frames ∧ 8 + (1 + 11) + rm.locals ≤ R.locals) (h1 : rm.cells = 0 := by rfl) (h2 : rm.slots = 0 := by rfl) : CallW R s args R_NC R_Phrase 118 y_Phrase_isDescription b_Phrase_isDescription 1 (some .boolean) (.code y_Phrase_isDescription b_Phrase_isDescription 1 (some .boolean) :: lw_G) rm 0 0 0 := ⟨callB_of 0 hts (nc_gd m_code_Phrase_isDescription) rfl h1 h2 (hts _ m_ini_Phrase) (hts _ m_m_NC_118) (by decide +kernel) hR, hts _ m_i_Phrase_isDescription, hts _ m_s_Phrase_isDescription⟩
theorem k_NC_68 {R : Room} {s : State} {args : Array Value} (hts : ∀ w ∈ lw_G, w.before args s = true) (hN : nc_N s) {rm : Room} (hR : rm.frames + 1 ≤ R.frames ∧ 8 + (4 + 11) + rm.locals ≤ R.locals) (h1 : rm.cells = 0 := by rfl) (h2 : rm.slots = 0 := by rfl) : CallB R s args R_NC 68 y_Arrays_fill b_Arrays_fill 4 none (.code y_Arrays_fill b_Arrays_fill 4 none :: lw_G) rm 0 0 2 ∧ (Cond.static y_Arrays_fill).before args s = true := ⟨callB_of 2 hts (nc_gd m_code_Arrays_fill) rfl h1 h2 (hts _ m_ini_Arrays) (hts _ m_m_NC_68) (by decide +kernel) hR, hts _ m_t_Arrays_fill⟩
theorem k_NC_132 {R : Room} {s : State} {args : Array Value} (hts : ∀ w ∈ lw_G, w.before args s = true) (hN : nc_N s) {rm : Room} (hR : rm.frames + 1 ≤ R.frames ∧ 8 + (3 + 11) + rm.locals ≤ R.locals) (h1 : rm.cells = 0 := by rfl) (h2 : rm.slots = 0 := by rfl) : CallW R s args R_NC R_NC 132 y_NC_goThrough b_NC_goThrough 3 (some .int) (.code y_NC_goThrough b_NC_goThrough 3 (some .int) :: lw_G) rm 0 0 0 := ⟨callB_of 0 hts (nc_gd m_code_NC_goThrough) rfl h1 h2 (hts _ m_ini_NC) (hts _ m_m_NC_132) (by decide +kernel) hR, hts _ m_i_NC_goThrough, hts _ m_s_NC_goThrough⟩
theorem k_NC_129 {R : Room} {s : State} {args : Array Value} (hts : ∀ w ∈ lw_G, w.before args s = true) (hN : nc_N s) {rm : Room} (hR : rm.frames + 1 ≤ R.frames ∧ 8 + (2 + 11) + rm.locals ≤ R.locals) (h1 : rm.cells = 0 := by rfl) (h2 : rm.slots = 0 := by rfl) : CallW R s args R_NC R_NC 129 y_NC_refuseRow b_NC_refuseRow 2 (some .int) (.code y_NC_refuseRow b_NC_refuseRow 2 (some .int) :: lw_G) rm 0 0 1 := ⟨callB_of 1 hts (nc_gd m_code_NC_refuseRow) rfl h1 h2 (hts _ m_ini_NC) (hts _ m_m_NC_129) (by decide +kernel) hR, hts _ m_i_NC_refuseRow, hts _ m_s_NC_refuseRow⟩
theorem k_NC_135 {R : Room} {s : State} {args : Array Value} (hts : ∀ w ∈ lw_G, w.before args s = true) (hN : nc_N s) {rm : Room} (hR : rm.frames + 1 ≤ R.frames ∧ 8 + (2 + 11) + rm.locals ≤ R.locals) (h1 : rm.cells = 0 := by rfl) (h2 : rm.slots = 0 := by rfl) : CallW R s args R_NC R_NC 135 y_NC_replyFault b_NC_replyFault 2 (some .int) (.code y_NC_replyFault b_NC_replyFault 2 (some .int) :: lw_G) rm 0 0 0 := ⟨callB_of 0 hts (nc_gd m_code_NC_replyFault) rfl h1 h2 (hts _ m_ini_NC) (hts _ m_m_NC_135) (by decide +kernel) hR, hts _ m_i_NC_replyFault, hts _ m_s_NC_replyFault⟩
theorem k_NC_138 {R : Room} {s : State} {args : Array Value} (hts : ∀ w ∈ lw_G, w.before args s = true) (hN : nc_N s) {rm : Room} (hR : rm.frames + 1 ≤ R.frames ∧ 8 + (4 + 11) + rm.locals ≤ R.locals) (h1 : rm.cells = 0 := by rfl) (h2 : rm.slots = 0 := by rfl) : CallW R s args R_NC R_NC 138 y_NC_leftByRow b_NC_leftByRow 4 (some .int) (.code y_NC_leftByRow b_NC_leftByRow 4 (some .int) :: lw_G) rm 0 0 0 := ⟨callB_of 0 hts (nc_gd m_code_NC_leftByRow) rfl h1 h2 (hts _ m_ini_NC) (hts _ m_m_NC_138) (by decide +kernel) hR, hts _ m_i_NC_leftByRow, hts _ m_s_NC_leftByRow⟩
theorem k_NC_148 {R : Room} {s : State} {args : Array Value} (hts : ∀ w ∈ lw_G, w.before args s = true) (hN : nc_N s) {rm : Room} (hR : rm.frames + 1 ≤ R.frames ∧ 8 + (2 + 11) + rm.locals ≤ R.locals) (h1 : rm.cells = 0 := by rfl) (h2 : rm.slots = 0 := by rfl) : CallW R s args R_NC R_Picks 148 y_Picks_at b_Picks_at 2 (some .int) (.code y_Picks_at b_Picks_at 2 (some .int) :: lw_G) rm 0 0 1 := ⟨callB_of 1 hts (nc_gd m_code_Picks_at) rfl h1 h2 (hts _ m_ini_Picks) (hts _ m_m_NC_148) (by decide +kernel) hR, hts _ m_i_Picks_at, hts _ m_s_Picks_at⟩
theorem k_Things_37 {R : Room} {s : State} {args : Array Value} (hts : ∀ w ∈ lw_G, w.before args s = true) (hN : nc_N s) {rm : Room} (hR : rm.frames + 1 ≤ R.frames ∧ 8 + (4 + 11) + rm.locals ≤ R.locals) (h1 : rm.cells = 0 := by rfl) (h2 : rm.slots = 0 := by rfl) : CallB R s args R_Things 37 y_Arrays_fill b_Arrays_fill 4 none (.code y_Arrays_fill b_Arrays_fill 4 none :: lw_G) rm 0 0 2 ∧ (Cond.static y_Arrays_fill).before args s = true := ⟨callB_of 2 hts (nc_gd m_code_Arrays_fill) rfl h1 h2 (hts _ m_ini_Arrays) (hts _ m_m_Things_37) (by decide +kernel) hR, hts _ m_t_Arrays_fill⟩
theorem k_NC_9 {R : Room} {s : State} {args : Array Value} (hts : ∀ w ∈ lw_G, w.before args s = true) (hN : nc_N s) {rm : Room} (hR : rm.frames + 1 ≤ R.frames ∧ 8 + (1 + 11) + rm.locals ≤ R.locals) (h1 : rm.cells = 7 := by rfl) (h2 : rm.slots = 276 := by rfl) : CallB R s args R_NC 9 y_Things_init b_Things_init 1 none (.code y_Things_init b_Things_init 1 none :: lw_G) rm 7 276 0 ∧ y_Things_init.name = "<init>" ∧ (Cond.instanceMethod y_Things_init).before args s = true := ⟨callB_of 0 hts (nc_gd m_code_Things_init) rfl h1 h2 (hts _ m_ini_Things) (hts _ m_m_NC_9) (by decide +kernel) hR, rfl, hts _ m_i_Things_init⟩
theorem k_NC_29 {R : Room} {s : State} {args : Array Value} (hts : ∀ w ∈ lw_G, w.before args s = true) (hN : nc_N s) {rm : Room} (hR : rm.frames + 1 ≤ R.frames ∧ 8 + (1 + 11) + rm.locals ≤ R.locals) (h1 : rm.cells = 7 := by rfl) (h2 : rm.slots = 210 := by rfl) : va_CN R s args R_NC 29 y_Phrase_init "NounChoice" b_Phrase_init 1 none (.code y_Phrase_init b_Phrase_init 1 none :: lw_G) rm 7 210 0 ∧ y_Phrase_init.name = "<init>" ∧ (Cond.instanceMethod y_Phrase_init).before args s = true := ⟨va_cnB 0 hts (nc_gd m_code_Phrase_init) rfl h1 h2 (hN _ m_n_NC_29) (hts _ m_ini_Phrase) (by decide +kernel) hR, rfl, hts _ m_i_Phrase_init⟩
theorem k_NC_42 {R : Room} {s : State} {args : Array Value} (hts : ∀ w ∈ lw_G, w.before args s = true) (hN : nc_N s) {rm : Room} (hR : rm.frames + 1 ≤ R.frames ∧ 8 + (1 + 11) + rm.locals ≤ R.locals) (h1 : rm.cells = 1 := by rfl) (h2 : rm.slots = 32 := by rfl) : va_CN R s args R_NC 42 y_Picks_init "NounChoice" b_Picks_init 1 none (.code y_Picks_init b_Picks_init 1 none :: lw_G) rm 1 32 0 ∧ y_Picks_init.name = "<init>" ∧ (Cond.instanceMethod y_Picks_init).before args s = true := ⟨va_cnB 0 hts (nc_gd m_code_Picks_init) rfl h1 h2 (hN _ m_n_NC_42) (hts _ m_ini_Picks) (by decide +kernel) hR, rfl, hts _ m_i_Picks_init⟩
end
section
def bc1 (x : Int32) : Int32 := x - (nc_ushr x 1 &&& 1431655765)
def bc2 (x : Int32) : Int32 := (x &&& 858993459) + (nc_ushr x 2 &&& 858993459)
def bc3 (x : Int32) : Int32 := (x + nc_ushr x 4) &&& 252645135
def bc4 (x : Int32) : Int32 := x + nc_ushr x 8
def bc5 (x : Int32) : Int32 := x + nc_ushr x 16
def f_bitCount (x : Int32) : Int32 := ((bc5 (bc4 (bc3 (bc2 (bc1 x))))) &&& 63)
abbrev ws_bitCount : List Cond := .code y_Integer_bitCount b_Integer_bitCount 1 (some .int) :: lw_G
abbrev rm_bitCount : Room := { frames := 0, cells := 0, slots := 0, locals := 0 }
set_option maxHeartbeats 4000000 in
set_option maxRecDepth 100000 in
theorem c_bitCount (l : Launch) (dC : Nat → ClassId) (dI : Nat → Nat → Nat) (cA : ClassId) (x : Int32) : Met l y_Integer_bitCount ws_bitCount rm_bitCount (nc_Pre (dC, dI) cA [.int x] ([] : va_W)) (vp_Si (fun r => r = (f_bitCount x))) 0 0 (fun _ => False) := by
  refine Met.ofW (cc := b_Integer_bitCount) (maxL := 1) (ret := (some .int)) (by decide) rfl ?_
  intro p e s m args below meth c s₁ B hml hv
  obtain ⟨rfl, hP, hK, hD, hN⟩ := hv
  have hx := B.exec
  have hb := B.bytes
  have hr := B.returns
  have hts : ∀ w ∈ lw_G, w.before [.int x].toArray s = true := fun w h => atoms_spec (ws := ws_bitCount) B.pre w (List.mem_cons_of_mem _ h)
  have hown : s.vm.findClass R_Integer = some m.cls := findClass_of_methodNamed B.named
  have hlocks := B.notSynchronized
  have hfix : CallFix p m c b_Integer_bitCount 1 s [.int x].toArray lw_G R_Integer := ⟨hx, hb, hml, hown, hts⟩
  have hl := lv_entry ([.int x]) (n := 1) (Nat.le_of_ble_eq_true rfl)
  rw [lg_entry_eq]
  generalize (lg_sl ([.int x]) ++ List.replicate (1 - (lg_sl ([.int x])).length) Slot.unset).toArray = ls at hl ⊢
  have hl : lv_has ls 1 [(0, .int x)] := hl
  refine lv_iload_n hx hb d_Integer_bitCount_0 rfl (lv_at hl 0 rfl) ?_
  refine lv_iload_n hx hb d_Integer_bitCount_1 rfl (lv_at hl 0 rfl) ?_
  refine lv_iconst (v := 1) hx hb d_Integer_bitCount_2 (by decide) ?_
  refine lv_iushr (v := (nc_ushr x 1)) hx hb d_Integer_bitCount_3 rfl ?_
  refine lv_ldcw (v := 1431655765) hx hb hown (hts _ m_c_Integer_265) d_Integer_bitCount_4 ?_
  refine lv_iand hx hb d_Integer_bitCount_7 ?_
  refine lv_isub hx hb d_Integer_bitCount_8 ?_
  refine lv_istore_n (lv' := [(0, .int (bc1 x))]) hx hb d_Integer_bitCount_9 rfl hl (by decide) rfl (fun ls hl => ?_)
  refine lv_iload_n hx hb d_Integer_bitCount_10 rfl (lv_at hl 0 rfl) ?_
  refine lv_ldcw (v := 858993459) hx hb hown (hts _ m_c_Integer_266) d_Integer_bitCount_11 ?_
  refine lv_iand hx hb d_Integer_bitCount_14 ?_
  refine lv_iload_n hx hb d_Integer_bitCount_15 rfl (lv_at hl 0 rfl) ?_
  refine lv_iconst (v := 2) hx hb d_Integer_bitCount_16 (by decide) ?_
  refine lv_iushr (v := (nc_ushr (bc1 x) 2)) hx hb d_Integer_bitCount_17 rfl ?_
  refine lv_ldcw (v := 858993459) hx hb hown (hts _ m_c_Integer_266) d_Integer_bitCount_18 ?_
  refine lv_iand hx hb d_Integer_bitCount_21 ?_
  refine lv_iadd hx hb d_Integer_bitCount_22 ?_
  refine lv_istore_n (lv' := [(0, .int (bc2 (bc1 x)))]) hx hb d_Integer_bitCount_23 rfl hl (by decide) rfl (fun ls hl => ?_)
  refine lv_iload_n hx hb d_Integer_bitCount_24 rfl (lv_at hl 0 rfl) ?_
  refine lv_iload_n hx hb d_Integer_bitCount_25 rfl (lv_at hl 0 rfl) ?_
  refine lv_iconst (v := 4) hx hb d_Integer_bitCount_26 (by decide) ?_
  refine lv_iushr (v := (nc_ushr (bc2 (bc1 x)) 4)) hx hb d_Integer_bitCount_27 rfl ?_
  refine lv_iadd hx hb d_Integer_bitCount_28 ?_
  refine lv_ldcw (v := 252645135) hx hb hown (hts _ m_c_Integer_267) d_Integer_bitCount_29 ?_
  refine lv_iand hx hb d_Integer_bitCount_32 ?_
  refine lv_istore_n (lv' := [(0, .int (bc3 (bc2 (bc1 x))))]) hx hb d_Integer_bitCount_33 rfl hl (by decide) rfl (fun ls hl => ?_)
  refine lv_iload_n hx hb d_Integer_bitCount_34 rfl (lv_at hl 0 rfl) ?_
  refine lv_iload_n hx hb d_Integer_bitCount_35 rfl (lv_at hl 0 rfl) ?_
  refine lv_bipush (v := 8) hx hb d_Integer_bitCount_36 (by decide) ?_
  refine lv_iushr (v := (nc_ushr (bc3 (bc2 (bc1 x))) 8)) hx hb d_Integer_bitCount_38 rfl ?_
  refine lv_iadd hx hb d_Integer_bitCount_39 ?_
  refine lv_istore_n (lv' := [(0, .int (bc4 (bc3 (bc2 (bc1 x)))))]) hx hb d_Integer_bitCount_40 rfl hl (by decide) rfl (fun ls hl => ?_)
  refine lv_iload_n hx hb d_Integer_bitCount_41 rfl (lv_at hl 0 rfl) ?_
  refine lv_iload_n hx hb d_Integer_bitCount_42 rfl (lv_at hl 0 rfl) ?_
  refine lv_bipush (v := 16) hx hb d_Integer_bitCount_43 (by decide) ?_
  refine lv_iushr (v := (nc_ushr (bc4 (bc3 (bc2 (bc1 x)))) 16)) hx hb d_Integer_bitCount_45 rfl ?_
  refine lv_iadd hx hb d_Integer_bitCount_46 ?_
  refine lv_istore_n (lv' := [(0, .int (bc5 (bc4 (bc3 (bc2 (bc1 x))))))]) hx hb d_Integer_bitCount_47 rfl hl (by decide) rfl (fun ls hl => ?_)
  refine lv_iload_n hx hb d_Integer_bitCount_48 rfl (lv_at hl 0 rfl) ?_
  refine lv_bipush (v := 63) hx hb d_Integer_bitCount_49 (by decide) ?_
  refine lv_iand hx hb d_Integer_bitCount_51 ?_
  exact W.iret (v := ((bc5 (bc4 (bc3 (bc2 (bc1 x))))) &&& 63)) hx hb hr (fun t ht hW => ⟨((bc5 (bc4 (bc3 (bc2 (bc1 x))))) &&& 63), rfl, by rw [f_bitCount], ht⟩) (fun _ h => nomatch h) d_Integer_bitCount_52
def f_fill_L5 (nn : Nat) (x1 : Int32) (y3 : Int32) : Nat → (Nat → Int32) → Int32 → (Nat → Int32)
  | 0, f, z2 => f
  | n + 1, f, z2 => (if y3 ≤ z2 then f else (f_fill_L5 nn x1 y3 n (upd f (z2 : Int32).toNatClampNeg x1) (z2 + 1)))
def f_fill (nn : Nat) (f : Nat → Int32) (x1 : Int32) : (Nat → Int32) := (f_fill_L5 nn x1 (nI nn) (nc_mu (nI nn) 0 + 1) f 0)
abbrev ws_fill : List Cond := .code y_Arrays_fill b_Arrays_fill 4 none :: lw_G
abbrev rm_fill : Room := { frames := 0, cells := 0, slots := 0, locals := 0 }
set_option maxHeartbeats 4000000 in
set_option maxRecDepth 100000 in
theorem c_fill (l : Launch) (dC : Nat → ClassId) (dI : Nat → Nat → Nat) (cA : ClassId) (sz : Nat) (r0 : Nat) (nn : Nat) (f : Nat → Int32) (x1 : Int32) (hn : nn < 2 ^ 31) : Met l y_Arrays_fill ws_fill rm_fill (nc_PreM (dC, dI) cA sz [.ref r0, .int x1] [(r0, .inl (cA, nn, .inl f))]) (va_Qv (fun _ : Unit => True) (fun _ t => va_P (dC, dI) classes [(r0, .inl (cA, nn, .inl (f_fill nn f x1)))] t.heap ∧ va_D (va_A [(r0, .inl (cA, nn, .inl f))] sz) [(r0, .inl (cA, nn, .inl (f_fill nn f x1)))]) (va_A [(r0, .inl (cA, nn, .inl f))] sz)) 0 0 (va_A [(r0, .inl (cA, nn, .inl f))] sz) := by
  refine Met.ofW (cc := b_Arrays_fill) (maxL := 4) (ret := none) (by decide) rfl ?_
  intro p e s m args below meth c s₁ B hml hv
  obtain ⟨rfl, hsz, hP, hK, hD0, hN⟩ := hv
  have hx := B.exec
  have hb := B.bytes
  have hr := B.returns
  have hts : ∀ w ∈ lw_G, w.before [.ref r0, .int x1].toArray s = true := fun w h => atoms_spec (ws := ws_fill) B.pre w (List.mem_cons_of_mem _ h)
  have hown : s.vm.findClass R_Arrays = some m.cls := findClass_of_methodNamed B.named
  have hlocks := B.notSynchronized
  have hfix : CallFix p m c b_Arrays_fill 4 s [.ref r0, .int x1].toArray lw_G R_Arrays := ⟨hx, hb, hml, hown, hts⟩
  subst hsz
  have hD := hD0.self (sz := s.heap.size)
  generalize hAe : va_A [(r0, .inl (cA, nn, .inl f))] s.heap.size = A at hD ⊢
  have hA : ∀ q : Nat, s.heap.size ≤ q → A q := fun q h => by rw [← hAe]; exact Or.inr h
  have hS : va_S A s.heap s.heap [] := va_S.rf
  have hl := lv_entry ([.ref r0, .int x1]) (n := 4) (Nat.le_of_ble_eq_true rfl)
  rw [lg_entry_eq]
  generalize (lg_sl ([.ref r0, .int x1]) ++ List.replicate (4 - (lg_sl ([.ref r0, .int x1])).length) Slot.unset).toArray = ls at hl ⊢
  have hl : lv_has ls 4 [(0, .ref r0), (1, .int x1)] := hl
  refine lv_iconst (v := 0) hx hb d_Arrays_fill_0 (by decide) ?_
  refine lv_istore_n (lv' := [(2, .int 0), (0, .ref r0), (1, .int x1)]) hx hb d_Arrays_fill_1 rfl hl (by decide) rfl (fun ls hl => ?_)
  refine lv_aload_n hx hb d_Arrays_fill_2 rfl (lv_at hl 1 rfl) ?_
  refine va_alen (v := (nI nn)) hx hb hK hP 0 0 rfl rfl rfl d_Arrays_fill_3 ?_
  refine lv_istore_n (lv' := [(3, .int (nI nn)), (2, .int 0), (0, .ref r0), (1, .int x1)]) hx hb d_Arrays_fill_4 rfl hl (by decide) rfl (fun ls hl => ?_)
  have loop_5 : ∀ (n : Nat) (fq : (Nat → Int32)) (z2 : Int32) (H : Heap) (locs : List Loc) (ls : Array Slot), (f_fill nn f x1) = (f_fill_L5 nn x1 (nI nn) n fq z2) → nc_mu (nI nn) z2 < n → 0 ≤ z2.toInt → va_P (dC, dI) classes [(r0, .inl (cA, nn, .inl fq))] H → va_D A [(r0, .inl (cA, nn, .inl fq))] → va_S A s.heap H locs → lv_has ls 4 [(0, .ref r0), (1, .int x1), (3, .int (nI nn)), (2, .int z2)] → W p l e (headSpec ws_fill rm_fill).room s m [.ref r0, .int x1].toArray below meth c H locs 0 0 (MQ below (va_Qv (fun _ : Unit => True) (fun _ t => va_P (dC, dI) classes [(r0, .inl (cA, nn, .inl (f_fill nn f x1)))] t.heap ∧ va_D A [(r0, .inl (cA, nn, .inl (f_fill nn f x1)))]) A) [.ref r0, .int x1].toArray s 0 0 A) (F0 m 5 ls []) := by
    intro n
    induction n with
    | zero =>
      intro fq z2 H locs ls hE hm h0 hP hD hS hl
      exact absurd hm (Nat.not_lt_zero _)
    | succ n ih =>
      intro fq z2 H locs ls hE hm h0 hP hD hS hl
      refine lv_iload_n hx hb d_Arrays_fill_5 rfl (lv_at hl 3 rfl) ?_
      refine lv_iload_n hx hb d_Arrays_fill_6 rfl (lv_at hl 2 rfl) ?_
      refine lv_icmp_ge (tgt := 20) hx hb d_Arrays_fill_7 (by decide) (fun c_1 => ?_) (fun c_1 => ?_)
      · have hF : (f_fill nn f x1) = fq := by rw [hE, f_fill_L5, if_pos c_1]
        exact W.vret hx hb hr (fun t ht hW => ⟨⟨(), rfl, trivial, by rw [hF, ht]; exact hP, by rw [hF]; exact hD⟩, hS.F ht⟩) hS.2.2 d_Arrays_fill_20
      · refine lv_aload_n hx hb d_Arrays_fill_10 rfl (lv_at hl 0 rfl) ?_
        refine lv_iload_n hx hb d_Arrays_fill_11 rfl (lv_at hl 3 rfl) ?_
        refine lv_iload_n hx hb d_Arrays_fill_12 rfl (lv_at hl 1 rfl) ?_
        refine va_iast (f := fq) hx hb hK hP hD hS 0 0 rfl rfl (by have q0 := nI_toInt hn; have q1 := h0; have q2 := nc_nle c_1 rfl rfl; have q3 := h0; exact vp_in_iff.mpr ⟨by omega, by omega⟩) d_Arrays_fill_13 (fun H locs hP hD hS => ?_)
        have hP : va_P (dC, dI) classes [(r0, .inl (cA, nn, .inl (upd fq (z2 : Int32).toNatClampNeg x1)))] H := hP
        have hD : va_D A [(r0, .inl (cA, nn, .inl (upd fq (z2 : Int32).toNatClampNeg x1)))] := hD
        refine lv_iinc (v := (z2 + 1)) (lv' := [(2, .int (z2 + 1)), (0, .ref r0), (1, .int x1), (3, .int (nI nn))]) hx hb d_Arrays_fill_14 hl (k := 3) rfl rfl (by decide) rfl (fun ls hl => ?_)
        refine lv_goto (tgt := 5) hx hb d_Arrays_fill_17 (by decide) ?_
        exact ih (upd fq (z2 : Int32).toNatClampNeg x1) (z2 + 1) H locs ls (by rw [hE, f_fill_L5, if_neg c_1]) (nc_mu_step c_1 hm) (nc_i_step c_1 h0) hP hD hS (lv_sub hl [1, 2, 3, 0] rfl)
  exact loop_5 (nc_mu (nI nn) 0 + 1) f 0 s.heap [] ls (by rw [f_fill]) (Nat.lt_succ_self _) (by decide) hP hD hS (lv_sub hl [2, 3, 0, 1] rfl)
def f_NC_isWord (x : Int32) : Int32 := (if x < 0 then 0 else (if 30 ≤ x then 0 else 1))
abbrev ws_NC_isWord : List Cond := .code y_NC_isWord b_NC_isWord 1 (some .boolean) :: lw_G
abbrev rm_NC_isWord : Room := { frames := 0, cells := 0, slots := 0, locals := 0 }
set_option maxHeartbeats 4000000 in
set_option maxRecDepth 100000 in
theorem c_NC_isWord (l : Launch) (dC : Nat → ClassId) (dI : Nat → Nat → Nat) (cA : ClassId) (x : Int32) : Met l y_NC_isWord ws_NC_isWord rm_NC_isWord (nc_Pre (dC, dI) cA [.int x] ([] : va_W)) (vp_Si (fun r => (r = (f_NC_isWord x) ∧ narrow .boolean (.int r) = .int r))) 0 0 (fun _ => False) := by
  refine Met.ofW (cc := b_NC_isWord) (maxL := 1) (ret := (some .boolean)) (by decide) rfl ?_
  intro p e s m args below meth c s₁ B hml hv
  obtain ⟨rfl, hP, hK, hD, hN⟩ := hv
  have hx := B.exec
  have hb := B.bytes
  have hr := B.returns
  have hts : ∀ w ∈ lw_G, w.before [.int x].toArray s = true := fun w h => atoms_spec (ws := ws_NC_isWord) B.pre w (List.mem_cons_of_mem _ h)
  have hown : s.vm.findClass R_NC = some m.cls := findClass_of_methodNamed B.named
  have hlocks := B.notSynchronized
  have hfix : CallFix p m c b_NC_isWord 1 s [.int x].toArray lw_G R_NC := ⟨hx, hb, hml, hown, hts⟩
  have hl := lv_entry ([.int x]) (n := 1) (Nat.le_of_ble_eq_true rfl)
  rw [lg_entry_eq]
  generalize (lg_sl ([.int x]) ++ List.replicate (1 - (lg_sl ([.int x])).length) Slot.unset).toArray = ls at hl ⊢
  have hl : lv_has ls 1 [(0, .int x)] := hl
  refine lv_iload_n hx hb d_NC_isWord_0 rfl (lv_at hl 0 rfl) ?_
  refine lv_if_lt (tgt := 14) hx hb d_NC_isWord_1 (by decide) (fun c_2 => ?_) (fun c_2 => ?_)
  · refine lv_iconst (v := 0) hx hb d_NC_isWord_14 (by decide) ?_
    exact W.zret (v := 0) hx hb hr rfl (fun t ht hW => ⟨0, rfl, ⟨by rw [f_NC_isWord, if_pos c_2], rfl⟩, ht⟩) (fun _ h => nomatch h) d_NC_isWord_15
  · refine lv_iload_n hx hb d_NC_isWord_4 rfl (lv_at hl 0 rfl) ?_
    refine lv_bipush (v := 30) hx hb d_NC_isWord_5 (by decide) ?_
    refine lv_icmp_ge (tgt := 14) hx hb d_NC_isWord_7 (by decide) (fun c_3 => ?_) (fun c_3 => ?_)
    · refine lv_iconst (v := 0) hx hb d_NC_isWord_14 (by decide) ?_
      exact W.zret (v := 0) hx hb hr rfl (fun t ht hW => ⟨0, rfl, ⟨by rw [f_NC_isWord, if_neg c_2, if_pos c_3], rfl⟩, ht⟩) (fun _ h => nomatch h) d_NC_isWord_15
    · refine lv_iconst (v := 1) hx hb d_NC_isWord_10 (by decide) ?_
      refine lv_goto (tgt := 15) hx hb d_NC_isWord_11 (by decide) ?_
      exact W.zret (v := 1) hx hb hr rfl (fun t ht hW => ⟨1, rfl, ⟨by rw [f_NC_isWord, if_neg c_2, if_neg c_3], rfl⟩, ht⟩) (fun _ h => nomatch h) d_NC_isWord_15
theorem isWord_pos {x : Int32} (h : ¬ f_NC_isWord x = 0) : 0 ≤ x.toInt ∧ x.toInt < 30 := by
  unfold f_NC_isWord at h
  split at h
  · exact absurd rfl h
  · split at h
    · exact absurd rfl h
    · rename_i h1 h2
      have q1 := nc_nlt h1 rfl L_0
      have q2 := nc_nle h2 L_30 rfl
      exact ⟨q1, q2⟩
def f_NC_isArticle (x : Int32) : Int32 := (if x < 30 then 0 else (if 33 < x then 0 else 1))
abbrev ws_NC_isArticle : List Cond := .code y_NC_isArticle b_NC_isArticle 1 (some .boolean) :: lw_G
abbrev rm_NC_isArticle : Room := { frames := 0, cells := 0, slots := 0, locals := 0 }
set_option maxHeartbeats 4000000 in
set_option maxRecDepth 100000 in
theorem c_NC_isArticle (l : Launch) (dC : Nat → ClassId) (dI : Nat → Nat → Nat) (cA : ClassId) (x : Int32) : Met l y_NC_isArticle ws_NC_isArticle rm_NC_isArticle (nc_Pre (dC, dI) cA [.int x] ([] : va_W)) (vp_Si (fun r => (r = (f_NC_isArticle x) ∧ narrow .boolean (.int r) = .int r))) 0 0 (fun _ => False) := by
  refine Met.ofW (cc := b_NC_isArticle) (maxL := 1) (ret := (some .boolean)) (by decide) rfl ?_
  intro p e s m args below meth c s₁ B hml hv
  obtain ⟨rfl, hP, hK, hD, hN⟩ := hv
  have hx := B.exec
  have hb := B.bytes
  have hr := B.returns
  have hts : ∀ w ∈ lw_G, w.before [.int x].toArray s = true := fun w h => atoms_spec (ws := ws_NC_isArticle) B.pre w (List.mem_cons_of_mem _ h)
  have hown : s.vm.findClass R_NC = some m.cls := findClass_of_methodNamed B.named
  have hlocks := B.notSynchronized
  have hfix : CallFix p m c b_NC_isArticle 1 s [.int x].toArray lw_G R_NC := ⟨hx, hb, hml, hown, hts⟩
  have hl := lv_entry ([.int x]) (n := 1) (Nat.le_of_ble_eq_true rfl)
  rw [lg_entry_eq]
  generalize (lg_sl ([.int x]) ++ List.replicate (1 - (lg_sl ([.int x])).length) Slot.unset).toArray = ls at hl ⊢
  have hl : lv_has ls 1 [(0, .int x)] := hl
  refine lv_iload_n hx hb d_NC_isArticle_0 rfl (lv_at hl 0 rfl) ?_
  refine lv_bipush (v := 30) hx hb d_NC_isArticle_1 (by decide) ?_
  refine lv_icmp_lt (tgt := 16) hx hb d_NC_isArticle_3 (by decide) (fun c_4 => ?_) (fun c_4 => ?_)
  · refine lv_iconst (v := 0) hx hb d_NC_isArticle_16 (by decide) ?_
    exact W.zret (v := 0) hx hb hr rfl (fun t ht hW => ⟨0, rfl, ⟨by rw [f_NC_isArticle, if_pos c_4], rfl⟩, ht⟩) (fun _ h => nomatch h) d_NC_isArticle_17
  · refine lv_iload_n hx hb d_NC_isArticle_6 rfl (lv_at hl 0 rfl) ?_
    refine lv_bipush (v := 33) hx hb d_NC_isArticle_7 (by decide) ?_
    refine lv_icmp_gt (tgt := 16) hx hb d_NC_isArticle_9 (by decide) (fun c_5 => ?_) (fun c_5 => ?_)
    · refine lv_iconst (v := 0) hx hb d_NC_isArticle_16 (by decide) ?_
      exact W.zret (v := 0) hx hb hr rfl (fun t ht hW => ⟨0, rfl, ⟨by rw [f_NC_isArticle, if_neg c_4, if_pos c_5], rfl⟩, ht⟩) (fun _ h => nomatch h) d_NC_isArticle_17
    · refine lv_iconst (v := 1) hx hb d_NC_isArticle_12 (by decide) ?_
      refine lv_goto (tgt := 17) hx hb d_NC_isArticle_13 (by decide) ?_
      exact W.zret (v := 1) hx hb hr rfl (fun t ht hW => ⟨1, rfl, ⟨by rw [f_NC_isArticle, if_neg c_4, if_neg c_5], rfl⟩, ht⟩) (fun _ h => nomatch h) d_NC_isArticle_17
def f_NC_isNumber (x : Int32) : Int32 := (if x ≤ 40 then 0 else (if 60 < x then 0 else 1))
abbrev ws_NC_isNumber : List Cond := .code y_NC_isNumber b_NC_isNumber 1 (some .boolean) :: lw_G
abbrev rm_NC_isNumber : Room := { frames := 0, cells := 0, slots := 0, locals := 0 }
set_option maxHeartbeats 4000000 in
set_option maxRecDepth 100000 in
theorem c_NC_isNumber (l : Launch) (dC : Nat → ClassId) (dI : Nat → Nat → Nat) (cA : ClassId) (x : Int32) : Met l y_NC_isNumber ws_NC_isNumber rm_NC_isNumber (nc_Pre (dC, dI) cA [.int x] ([] : va_W)) (vp_Si (fun r => (r = (f_NC_isNumber x) ∧ narrow .boolean (.int r) = .int r))) 0 0 (fun _ => False) := by
  refine Met.ofW (cc := b_NC_isNumber) (maxL := 1) (ret := (some .boolean)) (by decide) rfl ?_
  intro p e s m args below meth c s₁ B hml hv
  obtain ⟨rfl, hP, hK, hD, hN⟩ := hv
  have hx := B.exec
  have hb := B.bytes
  have hr := B.returns
  have hts : ∀ w ∈ lw_G, w.before [.int x].toArray s = true := fun w h => atoms_spec (ws := ws_NC_isNumber) B.pre w (List.mem_cons_of_mem _ h)
  have hown : s.vm.findClass R_NC = some m.cls := findClass_of_methodNamed B.named
  have hlocks := B.notSynchronized
  have hfix : CallFix p m c b_NC_isNumber 1 s [.int x].toArray lw_G R_NC := ⟨hx, hb, hml, hown, hts⟩
  have hl := lv_entry ([.int x]) (n := 1) (Nat.le_of_ble_eq_true rfl)
  rw [lg_entry_eq]
  generalize (lg_sl ([.int x]) ++ List.replicate (1 - (lg_sl ([.int x])).length) Slot.unset).toArray = ls at hl ⊢
  have hl : lv_has ls 1 [(0, .int x)] := hl
  refine lv_iload_n hx hb d_NC_isNumber_0 rfl (lv_at hl 0 rfl) ?_
  refine lv_bipush (v := 40) hx hb d_NC_isNumber_1 (by decide) ?_
  refine lv_icmp_le (tgt := 16) hx hb d_NC_isNumber_3 (by decide) (fun c_6 => ?_) (fun c_6 => ?_)
  · refine lv_iconst (v := 0) hx hb d_NC_isNumber_16 (by decide) ?_
    exact W.zret (v := 0) hx hb hr rfl (fun t ht hW => ⟨0, rfl, ⟨by rw [f_NC_isNumber, if_pos c_6], rfl⟩, ht⟩) (fun _ h => nomatch h) d_NC_isNumber_17
  · refine lv_iload_n hx hb d_NC_isNumber_6 rfl (lv_at hl 0 rfl) ?_
    refine lv_bipush (v := 60) hx hb d_NC_isNumber_7 (by decide) ?_
    refine lv_icmp_gt (tgt := 16) hx hb d_NC_isNumber_9 (by decide) (fun c_7 => ?_) (fun c_7 => ?_)
    · refine lv_iconst (v := 0) hx hb d_NC_isNumber_16 (by decide) ?_
      exact W.zret (v := 0) hx hb hr rfl (fun t ht hW => ⟨0, rfl, ⟨by rw [f_NC_isNumber, if_neg c_6, if_pos c_7], rfl⟩, ht⟩) (fun _ h => nomatch h) d_NC_isNumber_17
    · refine lv_iconst (v := 1) hx hb d_NC_isNumber_12 (by decide) ?_
      refine lv_goto (tgt := 17) hx hb d_NC_isNumber_13 (by decide) ?_
      exact W.zret (v := 1) hx hb hr rfl (fun t ht hW => ⟨1, rfl, ⟨by rw [f_NC_isNumber, if_neg c_6, if_neg c_7], rfl⟩, ht⟩) (fun _ h => nomatch h) d_NC_isNumber_17
def f_NC_isToken (x : Int32) : Int32 := (if x < 0 then (if (f_NC_isNumber x) = 0 then 0 else 1) else (if x ≤ 37 then 1 else (if (f_NC_isNumber x) = 0 then 0 else 1)))
abbrev ws_NC_isToken : List Cond := .code y_NC_isToken b_NC_isToken 1 (some .boolean) :: lw_G
abbrev rm_NC_isToken : Room := { frames := 1, cells := 0, slots := 0, locals := 20 }
set_option maxHeartbeats 4000000 in
set_option maxRecDepth 100000 in
theorem c_NC_isToken (l : Launch) (dC : Nat → ClassId) (dI : Nat → Nat → Nat) (cA : ClassId) (x : Int32) : Met l y_NC_isToken ws_NC_isToken rm_NC_isToken (nc_Pre (dC, dI) cA [.int x] ([] : va_W)) (vp_Si (fun r => (r = (f_NC_isToken x) ∧ narrow .boolean (.int r) = .int r))) 0 0 (fun _ => False) := by
  refine Met.ofW (cc := b_NC_isToken) (maxL := 1) (ret := (some .boolean)) (by decide) rfl ?_
  intro p e s m args below meth c s₁ B hml hv
  obtain ⟨rfl, hP, hK, hD, hN⟩ := hv
  have hx := B.exec
  have hb := B.bytes
  have hr := B.returns
  have hts : ∀ w ∈ lw_G, w.before [.int x].toArray s = true := fun w h => atoms_spec (ws := ws_NC_isToken) B.pre w (List.mem_cons_of_mem _ h)
  have hown : s.vm.findClass R_NC = some m.cls := findClass_of_methodNamed B.named
  have hlocks := B.notSynchronized
  have hfix : CallFix p m c b_NC_isToken 1 s [.int x].toArray lw_G R_NC := ⟨hx, hb, hml, hown, hts⟩
  have hl := lv_entry ([.int x]) (n := 1) (Nat.le_of_ble_eq_true rfl)
  rw [lg_entry_eq]
  generalize (lg_sl ([.int x]) ++ List.replicate (1 - (lg_sl ([.int x])).length) Slot.unset).toArray = ls at hl ⊢
  have hl : lv_has ls 1 [(0, .int x)] := hl
  refine lv_iload_n hx hb d_NC_isToken_0 rfl (lv_at hl 0 rfl) ?_
  refine lv_if_lt (tgt := 10) hx hb d_NC_isToken_1 (by decide) (fun c_8 => ?_) (fun c_8 => ?_)
  · refine lv_iload_n hx hb d_NC_isToken_10 rfl (lv_at hl 0 rfl) ?_
    refine nc_ro (va_runS (As := [.int x]) (rest := []) hfix (c_NC_isNumber l dC dI cA x) (k_NC_177 hts hN ⟨Nat.le_of_ble_eq_true rfl, Nat.le_of_ble_eq_true rfl⟩) (nc_preS0 hK hN) rfl rfl hl.1 rfl (lv_room (Nat.le_of_ble_eq_true rfl)) d_NC_isToken_11 ⟨Nat.zero_le _, Nat.zero_le _⟩) (fun r er => ?_)
    obtain ⟨rfl, hz_9⟩ := er
    refine lv_if_eq (tgt := 21) hx hb d_NC_isToken_14 (by decide) (fun c_10 => ?_) (fun c_10 => ?_)
    · refine lv_iconst (v := 0) hx hb d_NC_isToken_21 (by decide) ?_
      exact W.zret (v := 0) hx hb hr rfl (fun t ht hW => ⟨0, rfl, ⟨by rw [f_NC_isToken, if_pos c_8, if_pos c_10], rfl⟩, ht⟩) (fun _ h => nomatch h) d_NC_isToken_22
    · refine lv_iconst (v := 1) hx hb d_NC_isToken_17 (by decide) ?_
      refine lv_goto (tgt := 22) hx hb d_NC_isToken_18 (by decide) ?_
      exact W.zret (v := 1) hx hb hr rfl (fun t ht hW => ⟨1, rfl, ⟨by rw [f_NC_isToken, if_pos c_8, if_neg c_10], rfl⟩, ht⟩) (fun _ h => nomatch h) d_NC_isToken_22
  · refine lv_iload_n hx hb d_NC_isToken_4 rfl (lv_at hl 0 rfl) ?_
    refine lv_bipush (v := 37) hx hb d_NC_isToken_5 (by decide) ?_
    refine lv_icmp_le (tgt := 17) hx hb d_NC_isToken_7 (by decide) (fun c_11 => ?_) (fun c_11 => ?_)
    · refine lv_iconst (v := 1) hx hb d_NC_isToken_17 (by decide) ?_
      refine lv_goto (tgt := 22) hx hb d_NC_isToken_18 (by decide) ?_
      exact W.zret (v := 1) hx hb hr rfl (fun t ht hW => ⟨1, rfl, ⟨by rw [f_NC_isToken, if_neg c_8, if_pos c_11], rfl⟩, ht⟩) (fun _ h => nomatch h) d_NC_isToken_22
    · refine lv_iload_n hx hb d_NC_isToken_10 rfl (lv_at hl 0 rfl) ?_
      refine nc_ro (va_runS (As := [.int x]) (rest := []) hfix (c_NC_isNumber l dC dI cA x) (k_NC_177 hts hN ⟨Nat.le_of_ble_eq_true rfl, Nat.le_of_ble_eq_true rfl⟩) (nc_preS0 hK hN) rfl rfl hl.1 rfl (lv_room (Nat.le_of_ble_eq_true rfl)) d_NC_isToken_11 ⟨Nat.zero_le _, Nat.zero_le _⟩) (fun r er => ?_)
      obtain ⟨rfl, hz_12⟩ := er
      refine lv_if_eq (tgt := 21) hx hb d_NC_isToken_14 (by decide) (fun c_13 => ?_) (fun c_13 => ?_)
      · refine lv_iconst (v := 0) hx hb d_NC_isToken_21 (by decide) ?_
        exact W.zret (v := 0) hx hb hr rfl (fun t ht hW => ⟨0, rfl, ⟨by rw [f_NC_isToken, if_neg c_8, if_neg c_11, if_pos c_13], rfl⟩, ht⟩) (fun _ h => nomatch h) d_NC_isToken_22
      · refine lv_iconst (v := 1) hx hb d_NC_isToken_17 (by decide) ?_
        refine lv_goto (tgt := 22) hx hb d_NC_isToken_18 (by decide) ?_
        exact W.zret (v := 1) hx hb hr rfl (fun t ht hW => ⟨1, rfl, ⟨by rw [f_NC_isToken, if_neg c_8, if_neg c_11, if_neg c_13], rfl⟩, ht⟩) (fun _ h => nomatch h) d_NC_isToken_22
def f_NC_holds (set x : Int32) : Int32 := (if ((nc_ushr set x) &&& 1) = 0 then 0 else 1)
abbrev ws_NC_holds : List Cond := .code y_NC_holds b_NC_holds 2 (some .boolean) :: lw_G
abbrev rm_NC_holds : Room := { frames := 0, cells := 0, slots := 0, locals := 0 }
set_option maxHeartbeats 4000000 in
set_option maxRecDepth 100000 in
theorem c_NC_holds (l : Launch) (dC : Nat → ClassId) (dI : Nat → Nat → Nat) (cA : ClassId) (set x : Int32) : Met l y_NC_holds ws_NC_holds rm_NC_holds (nc_Pre (dC, dI) cA [.int set, .int x] ([] : va_W)) (vp_Si (fun r => (r = (f_NC_holds set x) ∧ narrow .boolean (.int r) = .int r))) 0 0 (fun _ => False) := by
  refine Met.ofW (cc := b_NC_holds) (maxL := 2) (ret := (some .boolean)) (by decide) rfl ?_
  intro p e s m args below meth c s₁ B hml hv
  obtain ⟨rfl, hP, hK, hD, hN⟩ := hv
  have hx := B.exec
  have hb := B.bytes
  have hr := B.returns
  have hts : ∀ w ∈ lw_G, w.before [.int set, .int x].toArray s = true := fun w h => atoms_spec (ws := ws_NC_holds) B.pre w (List.mem_cons_of_mem _ h)
  have hown : s.vm.findClass R_NC = some m.cls := findClass_of_methodNamed B.named
  have hlocks := B.notSynchronized
  have hfix : CallFix p m c b_NC_holds 2 s [.int set, .int x].toArray lw_G R_NC := ⟨hx, hb, hml, hown, hts⟩
  have hl := lv_entry ([.int set, .int x]) (n := 2) (Nat.le_of_ble_eq_true rfl)
  rw [lg_entry_eq]
  generalize (lg_sl ([.int set, .int x]) ++ List.replicate (2 - (lg_sl ([.int set, .int x])).length) Slot.unset).toArray = ls at hl ⊢
  have hl : lv_has ls 2 [(0, .int set), (1, .int x)] := hl
  refine lv_iload_n hx hb d_NC_holds_0 rfl (lv_at hl 0 rfl) ?_
  refine lv_iload_n hx hb d_NC_holds_1 rfl (lv_at hl 1 rfl) ?_
  refine lv_iushr (v := (nc_ushr set x)) hx hb d_NC_holds_2 rfl ?_
  refine lv_iconst (v := 1) hx hb d_NC_holds_3 (by decide) ?_
  refine lv_iand hx hb d_NC_holds_4 ?_
  refine lv_if_eq (tgt := 12) hx hb d_NC_holds_5 (by decide) (fun c_14 => ?_) (fun c_14 => ?_)
  · refine lv_iconst (v := 0) hx hb d_NC_holds_12 (by decide) ?_
    exact W.zret (v := 0) hx hb hr rfl (fun t ht hW => ⟨0, rfl, ⟨by rw [f_NC_holds, if_pos c_14], rfl⟩, ht⟩) (fun _ h => nomatch h) d_NC_holds_13
  · refine lv_iconst (v := 1) hx hb d_NC_holds_8 (by decide) ?_
    refine lv_goto (tgt := 13) hx hb d_NC_holds_9 (by decide) ?_
    exact W.zret (v := 1) hx hb hr rfl (fun t ht hW => ⟨1, rfl, ⟨by rw [f_NC_holds, if_neg c_14], rfl⟩, ht⟩) (fun _ h => nomatch h) d_NC_holds_13
def f_NC_leastOf (set : Int32) : Int32 := (set &&& (-set))
abbrev ws_NC_leastOf : List Cond := .code y_NC_leastOf b_NC_leastOf 1 (some .int) :: lw_G
abbrev rm_NC_leastOf : Room := { frames := 0, cells := 0, slots := 0, locals := 0 }
set_option maxHeartbeats 4000000 in
set_option maxRecDepth 100000 in
theorem c_NC_leastOf (l : Launch) (dC : Nat → ClassId) (dI : Nat → Nat → Nat) (cA : ClassId) (set : Int32) : Met l y_NC_leastOf ws_NC_leastOf rm_NC_leastOf (nc_Pre (dC, dI) cA [.int set] ([] : va_W)) (vp_Si (fun r => r = (f_NC_leastOf set))) 0 0 (fun _ => False) := by
  refine Met.ofW (cc := b_NC_leastOf) (maxL := 1) (ret := (some .int)) (by decide) rfl ?_
  intro p e s m args below meth c s₁ B hml hv
  obtain ⟨rfl, hP, hK, hD, hN⟩ := hv
  have hx := B.exec
  have hb := B.bytes
  have hr := B.returns
  have hts : ∀ w ∈ lw_G, w.before [.int set].toArray s = true := fun w h => atoms_spec (ws := ws_NC_leastOf) B.pre w (List.mem_cons_of_mem _ h)
  have hown : s.vm.findClass R_NC = some m.cls := findClass_of_methodNamed B.named
  have hlocks := B.notSynchronized
  have hfix : CallFix p m c b_NC_leastOf 1 s [.int set].toArray lw_G R_NC := ⟨hx, hb, hml, hown, hts⟩
  have hl := lv_entry ([.int set]) (n := 1) (Nat.le_of_ble_eq_true rfl)
  rw [lg_entry_eq]
  generalize (lg_sl ([.int set]) ++ List.replicate (1 - (lg_sl ([.int set])).length) Slot.unset).toArray = ls at hl ⊢
  have hl : lv_has ls 1 [(0, .int set)] := hl
  refine lv_iload_n hx hb d_NC_leastOf_0 rfl (lv_at hl 0 rfl) ?_
  refine lv_iload_n hx hb d_NC_leastOf_1 rfl (lv_at hl 0 rfl) ?_
  refine lv_ineg hx hb d_NC_leastOf_2 ?_
  refine lv_iand hx hb d_NC_leastOf_3 ?_
  exact W.iret (v := (set &&& (-set))) hx hb hr (fun t ht hW => ⟨(set &&& (-set)), rfl, by rw [f_NC_leastOf], ht⟩) (fun _ h => nomatch h) d_NC_leastOf_4
def f_NC_memberAt_L4 (set x : Int32) : Nat → Int32 → Int32 → Int32
  | 0, z3, z2 => 0
  | n + 1, z3, z2 => (if 32 ≤ z3 then (-1) else (if (f_NC_holds set z3) = 0 then (f_NC_memberAt_L4 set x n (z3 + 1) z2) else (if z2 = x then z3 else (f_NC_memberAt_L4 set x n (z3 + 1) (z2 + 1)))))
def f_NC_memberAt (set x : Int32) : Int32 := (f_NC_memberAt_L4 set x (nc_mu 32 0 + 1) 0 0)
abbrev ws_NC_memberAt : List Cond := .code y_NC_memberAt b_NC_memberAt 4 (some .int) :: lw_G
abbrev rm_NC_memberAt : Room := { frames := 1, cells := 0, slots := 0, locals := 21 }
set_option maxHeartbeats 4000000 in
set_option maxRecDepth 100000 in
theorem c_NC_memberAt (l : Launch) (dC : Nat → ClassId) (dI : Nat → Nat → Nat) (cA : ClassId) (set x : Int32) : Met l y_NC_memberAt ws_NC_memberAt rm_NC_memberAt (nc_Pre (dC, dI) cA [.int set, .int x] ([] : va_W)) (vp_Si (fun r => r = (f_NC_memberAt set x))) 0 0 (fun _ => False) := by
  refine Met.ofW (cc := b_NC_memberAt) (maxL := 4) (ret := (some .int)) (by decide) rfl ?_
  intro p e s m args below meth c s₁ B hml hv
  obtain ⟨rfl, hP, hK, hD, hN⟩ := hv
  have hx := B.exec
  have hb := B.bytes
  have hr := B.returns
  have hts : ∀ w ∈ lw_G, w.before [.int set, .int x].toArray s = true := fun w h => atoms_spec (ws := ws_NC_memberAt) B.pre w (List.mem_cons_of_mem _ h)
  have hown : s.vm.findClass R_NC = some m.cls := findClass_of_methodNamed B.named
  have hlocks := B.notSynchronized
  have hfix : CallFix p m c b_NC_memberAt 4 s [.int set, .int x].toArray lw_G R_NC := ⟨hx, hb, hml, hown, hts⟩
  have hl := lv_entry ([.int set, .int x]) (n := 4) (Nat.le_of_ble_eq_true rfl)
  rw [lg_entry_eq]
  generalize (lg_sl ([.int set, .int x]) ++ List.replicate (4 - (lg_sl ([.int set, .int x])).length) Slot.unset).toArray = ls at hl ⊢
  have hl : lv_has ls 4 [(0, .int set), (1, .int x)] := hl
  refine lv_iconst (v := 0) hx hb d_NC_memberAt_0 (by decide) ?_
  refine lv_istore_n (lv' := [(2, .int 0), (0, .int set), (1, .int x)]) hx hb d_NC_memberAt_1 rfl hl (by decide) rfl (fun ls hl => ?_)
  refine lv_iconst (v := 0) hx hb d_NC_memberAt_2 (by decide) ?_
  refine lv_istore_n (lv' := [(3, .int 0), (2, .int 0), (0, .int set), (1, .int x)]) hx hb d_NC_memberAt_3 rfl hl (by decide) rfl (fun ls hl => ?_)
  have loop_4 : ∀ (n : Nat) (z3 z2 : Int32) (ls : Array Slot), (f_NC_memberAt set x) = (f_NC_memberAt_L4 set x n z3 z2) → nc_mu 32 z3 < n → 0 ≤ z3.toInt → lv_has ls 4 [(0, .int set), (1, .int x), (3, .int z3), (2, .int z2)] → W p l e (headSpec ws_NC_memberAt rm_NC_memberAt).room s m [.int set, .int x].toArray below meth c s.heap [] 0 0 (MQ below (vp_Si (fun r => r = (f_NC_memberAt set x))) [.int set, .int x].toArray s 0 0 (fun _ => False)) (F0 m 4 ls []) := by
    intro n
    induction n with
    | zero =>
      intro z3 z2 ls hE hm h0 hl
      exact absurd hm (Nat.not_lt_zero _)
    | succ n ih =>
      intro z3 z2 ls hE hm h0 hl
      refine lv_iload_n hx hb d_NC_memberAt_4 rfl (lv_at hl 2 rfl) ?_
      refine lv_bipush (v := 32) hx hb d_NC_memberAt_5 (by decide) ?_
      refine lv_icmp_ge (tgt := 34) hx hb d_NC_memberAt_7 (by decide) (fun c_15 => ?_) (fun c_15 => ?_)
      · refine lv_iconst (v := (-1)) hx hb d_NC_memberAt_34 (by decide) ?_
        exact W.iret (v := (-1)) hx hb hr (fun t ht hW => ⟨(-1), rfl, by rw [hE, f_NC_memberAt_L4, if_pos c_15], ht⟩) (fun _ h => nomatch h) d_NC_memberAt_35
      · refine lv_iload_n hx hb d_NC_memberAt_10 rfl (lv_at hl 0 rfl) ?_
        refine lv_iload_n hx hb d_NC_memberAt_11 rfl (lv_at hl 2 rfl) ?_
        refine nc_ro (va_runS (As := [.int set, .int z3]) (rest := []) hfix (c_NC_holds l dC dI cA set z3) (k_NC_126 hts hN ⟨Nat.le_of_ble_eq_true rfl, Nat.le_of_ble_eq_true rfl⟩) (nc_preS0 hK hN) rfl rfl hl.1 rfl (lv_room (Nat.le_of_ble_eq_true rfl)) d_NC_memberAt_12 ⟨Nat.zero_le _, Nat.zero_le _⟩) (fun r er => ?_)
        obtain ⟨rfl, hz_16⟩ := er
        refine lv_if_eq (tgt := 28) hx hb d_NC_memberAt_15 (by decide) (fun c_17 => ?_) (fun c_17 => ?_)
        · refine lv_iinc (v := (z3 + 1)) (lv' := [(3, .int (z3 + 1)), (0, .int set), (1, .int x), (2, .int z2)]) hx hb d_NC_memberAt_28 hl (k := 2) rfl rfl (by decide) rfl (fun ls hl => ?_)
          refine lv_goto (tgt := 4) hx hb d_NC_memberAt_31 (by decide) ?_
          exact ih (z3 + 1) z2 ls (by rw [hE, f_NC_memberAt_L4, if_neg c_15, if_pos c_17]) (nc_mu_step c_15 hm) (nc_i_step c_15 h0) (lv_sub hl [1, 2, 0, 3] rfl)
        · refine lv_iload_n hx hb d_NC_memberAt_18 rfl (lv_at hl 3 rfl) ?_
          refine lv_iload_n hx hb d_NC_memberAt_19 rfl (lv_at hl 1 rfl) ?_
          refine lv_icmp_ne (tgt := 25) hx hb d_NC_memberAt_20 (by decide) (fun c_18 => ?_) (fun c_18 => ?_)
          · refine lv_iinc (v := (z2 + 1)) (lv' := [(2, .int (z2 + 1)), (0, .int set), (1, .int x), (3, .int z3)]) hx hb d_NC_memberAt_25 hl (k := 3) rfl rfl (by decide) rfl (fun ls hl => ?_)
            refine lv_iinc (v := (z3 + 1)) (lv' := [(3, .int (z3 + 1)), (2, .int (z2 + 1)), (0, .int set), (1, .int x)]) hx hb d_NC_memberAt_28 hl (k := 3) rfl rfl (by decide) rfl (fun ls hl => ?_)
            refine lv_goto (tgt := 4) hx hb d_NC_memberAt_31 (by decide) ?_
            exact ih (z3 + 1) (z2 + 1) ls (by rw [hE, f_NC_memberAt_L4, if_neg c_15, if_neg c_17, if_neg c_18]) (nc_mu_step c_15 hm) (nc_i_step c_15 h0) (lv_sub hl [2, 3, 0, 1] rfl)
          · refine lv_iload_n hx hb d_NC_memberAt_23 rfl (lv_at hl 2 rfl) ?_
            exact W.iret (v := z3) hx hb hr (fun t ht hW => ⟨z3, rfl, by rw [hE, f_NC_memberAt_L4, if_neg c_15, if_neg c_17, if_pos c_18], ht⟩) (fun _ h => nomatch h) d_NC_memberAt_24
  exact loop_4 (nc_mu 32 0 + 1) 0 0 ls (by rw [f_NC_memberAt]) (Nat.lt_succ_self _) (by decide) (lv_sub hl [2, 3, 0, 1] rfl)
def f_Things_isRule (x : Int32) : Int32 := (if x < 0 then 0 else (if 4 ≤ x then 0 else 1))
abbrev ws_Things_isRule : List Cond := .code y_Things_isRule b_Things_isRule 1 (some .boolean) :: lw_G
abbrev rm_Things_isRule : Room := { frames := 0, cells := 0, slots := 0, locals := 0 }
set_option maxHeartbeats 4000000 in
set_option maxRecDepth 100000 in
theorem c_Things_isRule (l : Launch) (dC : Nat → ClassId) (dI : Nat → Nat → Nat) (cA : ClassId) (x : Int32) : Met l y_Things_isRule ws_Things_isRule rm_Things_isRule (nc_Pre (dC, dI) cA [.int x] ([] : va_W)) (vp_Si (fun r => (r = (f_Things_isRule x) ∧ narrow .boolean (.int r) = .int r))) 0 0 (fun _ => False) := by
  refine Met.ofW (cc := b_Things_isRule) (maxL := 1) (ret := (some .boolean)) (by decide) rfl ?_
  intro p e s m args below meth c s₁ B hml hv
  obtain ⟨rfl, hP, hK, hD, hN⟩ := hv
  have hx := B.exec
  have hb := B.bytes
  have hr := B.returns
  have hts : ∀ w ∈ lw_G, w.before [.int x].toArray s = true := fun w h => atoms_spec (ws := ws_Things_isRule) B.pre w (List.mem_cons_of_mem _ h)
  have hown : s.vm.findClass R_Things = some m.cls := findClass_of_methodNamed B.named
  have hlocks := B.notSynchronized
  have hfix : CallFix p m c b_Things_isRule 1 s [.int x].toArray lw_G R_Things := ⟨hx, hb, hml, hown, hts⟩
  have hl := lv_entry ([.int x]) (n := 1) (Nat.le_of_ble_eq_true rfl)
  rw [lg_entry_eq]
  generalize (lg_sl ([.int x]) ++ List.replicate (1 - (lg_sl ([.int x])).length) Slot.unset).toArray = ls at hl ⊢
  have hl : lv_has ls 1 [(0, .int x)] := hl
  refine lv_iload_n hx hb d_Things_isRule_0 rfl (lv_at hl 0 rfl) ?_
  refine lv_if_lt (tgt := 13) hx hb d_Things_isRule_1 (by decide) (fun c_19 => ?_) (fun c_19 => ?_)
  · refine lv_iconst (v := 0) hx hb d_Things_isRule_13 (by decide) ?_
    exact W.zret (v := 0) hx hb hr rfl (fun t ht hW => ⟨0, rfl, ⟨by rw [f_Things_isRule, if_pos c_19], rfl⟩, ht⟩) (fun _ h => nomatch h) d_Things_isRule_14
  · refine lv_iload_n hx hb d_Things_isRule_4 rfl (lv_at hl 0 rfl) ?_
    refine lv_iconst (v := 4) hx hb d_Things_isRule_5 (by decide) ?_
    refine lv_icmp_ge (tgt := 13) hx hb d_Things_isRule_6 (by decide) (fun c_20 => ?_) (fun c_20 => ?_)
    · refine lv_iconst (v := 0) hx hb d_Things_isRule_13 (by decide) ?_
      exact W.zret (v := 0) hx hb hr rfl (fun t ht hW => ⟨0, rfl, ⟨by rw [f_Things_isRule, if_neg c_19, if_pos c_20], rfl⟩, ht⟩) (fun _ h => nomatch h) d_Things_isRule_14
    · refine lv_iconst (v := 1) hx hb d_Things_isRule_9 (by decide) ?_
      refine lv_goto (tgt := 14) hx hb d_Things_isRule_10 (by decide) ?_
      exact W.zret (v := 1) hx hb hr rfl (fun t ht hW => ⟨1, rfl, ⟨by rw [f_Things_isRule, if_neg c_19, if_neg c_20], rfl⟩, ht⟩) (fun _ h => nomatch h) d_Things_isRule_14
theorem isRule_pos {x : Int32} (h : ¬ f_Things_isRule x = 0) : 0 ≤ x.toInt ∧ x.toInt < 4 := by
  unfold f_Things_isRule at h
  split at h
  · exact absurd rfl h
  · split at h
    · exact absurd rfl h
    · rename_i h1 h2
      have q1 := nc_nlt h1 rfl L_0
      have q2 := nc_nle h2 L_4 rfl
      exact ⟨q1, q2⟩
def f_Things_isKind (x : Int32) : Int32 := (if x < 0 then 0 else (if 16 ≤ x then 0 else 1))
abbrev ws_Things_isKind : List Cond := .code y_Things_isKind b_Things_isKind 1 (some .boolean) :: lw_G
abbrev rm_Things_isKind : Room := { frames := 0, cells := 0, slots := 0, locals := 0 }
set_option maxHeartbeats 4000000 in
set_option maxRecDepth 100000 in
theorem c_Things_isKind (l : Launch) (dC : Nat → ClassId) (dI : Nat → Nat → Nat) (cA : ClassId) (x : Int32) : Met l y_Things_isKind ws_Things_isKind rm_Things_isKind (nc_Pre (dC, dI) cA [.int x] ([] : va_W)) (vp_Si (fun r => (r = (f_Things_isKind x) ∧ narrow .boolean (.int r) = .int r))) 0 0 (fun _ => False) := by
  refine Met.ofW (cc := b_Things_isKind) (maxL := 1) (ret := (some .boolean)) (by decide) rfl ?_
  intro p e s m args below meth c s₁ B hml hv
  obtain ⟨rfl, hP, hK, hD, hN⟩ := hv
  have hx := B.exec
  have hb := B.bytes
  have hr := B.returns
  have hts : ∀ w ∈ lw_G, w.before [.int x].toArray s = true := fun w h => atoms_spec (ws := ws_Things_isKind) B.pre w (List.mem_cons_of_mem _ h)
  have hown : s.vm.findClass R_Things = some m.cls := findClass_of_methodNamed B.named
  have hlocks := B.notSynchronized
  have hfix : CallFix p m c b_Things_isKind 1 s [.int x].toArray lw_G R_Things := ⟨hx, hb, hml, hown, hts⟩
  have hl := lv_entry ([.int x]) (n := 1) (Nat.le_of_ble_eq_true rfl)
  rw [lg_entry_eq]
  generalize (lg_sl ([.int x]) ++ List.replicate (1 - (lg_sl ([.int x])).length) Slot.unset).toArray = ls at hl ⊢
  have hl : lv_has ls 1 [(0, .int x)] := hl
  refine lv_iload_n hx hb d_Things_isKind_0 rfl (lv_at hl 0 rfl) ?_
  refine lv_if_lt (tgt := 14) hx hb d_Things_isKind_1 (by decide) (fun c_21 => ?_) (fun c_21 => ?_)
  · refine lv_iconst (v := 0) hx hb d_Things_isKind_14 (by decide) ?_
    exact W.zret (v := 0) hx hb hr rfl (fun t ht hW => ⟨0, rfl, ⟨by rw [f_Things_isKind, if_pos c_21], rfl⟩, ht⟩) (fun _ h => nomatch h) d_Things_isKind_15
  · refine lv_iload_n hx hb d_Things_isKind_4 rfl (lv_at hl 0 rfl) ?_
    refine lv_bipush (v := 16) hx hb d_Things_isKind_5 (by decide) ?_
    refine lv_icmp_ge (tgt := 14) hx hb d_Things_isKind_7 (by decide) (fun c_22 => ?_) (fun c_22 => ?_)
    · refine lv_iconst (v := 0) hx hb d_Things_isKind_14 (by decide) ?_
      exact W.zret (v := 0) hx hb hr rfl (fun t ht hW => ⟨0, rfl, ⟨by rw [f_Things_isKind, if_neg c_21, if_pos c_22], rfl⟩, ht⟩) (fun _ h => nomatch h) d_Things_isKind_15
    · refine lv_iconst (v := 1) hx hb d_Things_isKind_10 (by decide) ?_
      refine lv_goto (tgt := 15) hx hb d_Things_isKind_11 (by decide) ?_
      exact W.zret (v := 1) hx hb hr rfl (fun t ht hW => ⟨1, rfl, ⟨by rw [f_Things_isKind, if_neg c_21, if_neg c_22], rfl⟩, ht⟩) (fun _ h => nomatch h) d_Things_isKind_15
theorem isKind_pos {x : Int32} (h : ¬ f_Things_isKind x = 0) : 0 ≤ x.toInt ∧ x.toInt < 16 := by
  unfold f_Things_isKind at h
  split at h
  · exact absurd rfl h
  · split at h
    · exact absurd rfl h
    · rename_i h1 h2
      have q1 := nc_nlt h1 rfl L_0
      have q2 := nc_nle h2 L_16 rfl
      exact ⟨q1, q2⟩
end
