-- ===== PART A: goes FIRST, ahead of the names: the tables' words, and 'selects' of the private methods out of them =====
/-- a private method of a class that the tables say can be made, by its rows of tables_1 -/
def lw_okq (q : MethodName × Nat) : Prop := (q.1.cls ≠ "java/lang/invoke/MethodHandle" ∧ q.1.cls ≠ "java/lang/invoke/VarHandle") ∧ Cond.instantiable q.1.cls q.2 ∈ tables_1 ∧ Cond.privateMethod q.1 ∈ tables_1 ∧ Cond.instanceMethod q.1 ∈ tables_1
theorem lw_p0 : lw_okq (⟨"FuneralDebts", "reckonedOf", "(II)I"⟩, 11) := ⟨⟨by decide +kernel, by decide +kernel⟩, List.mem_of_getElem? (i := 18) (by decide +kernel), List.mem_of_getElem? (i := 319) (by decide +kernel), List.mem_of_getElem? (i := 320) (by decide +kernel)⟩
theorem lw_p1 : lw_okq (⟨"FuneralDebts", "held", "()LFuneralDebts$Parish;"⟩, 11) := ⟨⟨by decide +kernel, by decide +kernel⟩, List.mem_of_getElem? (i := 18) (by decide +kernel), List.mem_of_getElem? (i := 323) (by decide +kernel), List.mem_of_getElem? (i := 324) (by decide +kernel)⟩
theorem lw_p2 : lw_okq (⟨"FuneralDebts", "parishAt", "(I)LFuneralDebts$Parish;"⟩, 11) := ⟨⟨by decide +kernel, by decide +kernel⟩, List.mem_of_getElem? (i := 18) (by decide +kernel), List.mem_of_getElem? (i := 327) (by decide +kernel), List.mem_of_getElem? (i := 328) (by decide +kernel)⟩
theorem lw_p3 : lw_okq (⟨"FuneralDebts$Parish", "holdsFrom", "(II[I)Z"⟩, 8) := ⟨⟨by decide +kernel, by decide +kernel⟩, List.mem_of_getElem? (i := 137) (by decide +kernel), List.mem_of_getElem? (i := 342) (by decide +kernel), List.mem_of_getElem? (i := 343) (by decide +kernel)⟩
theorem lw_p4 : lw_okq (⟨"FuneralDebts$Reckoner", "pays", "(LFuneralDebts$Scene;IIII)I"⟩, 3) := ⟨⟨by decide +kernel, by decide +kernel⟩, List.mem_of_getElem? (i := 195) (by decide +kernel), List.mem_of_getElem? (i := 356) (by decide +kernel), List.mem_of_getElem? (i := 357) (by decide +kernel)⟩
theorem lw_p5 : lw_okq (⟨"FuneralDebts$Reader", "advance", "()V"⟩, 6) := ⟨⟨by decide +kernel, by decide +kernel⟩, List.mem_of_getElem? (i := 131) (by decide +kernel), List.mem_of_getElem? (i := 417) (by decide +kernel), List.mem_of_getElem? (i := 418) (by decide +kernel)⟩
theorem lw_p6 : lw_okq (⟨"FuneralDebts$Reader", "readClause", "()Z"⟩, 6) := ⟨⟨by decide +kernel, by decide +kernel⟩, List.mem_of_getElem? (i := 131) (by decide +kernel), List.mem_of_getElem? (i := 421) (by decide +kernel), List.mem_of_getElem? (i := 422) (by decide +kernel)⟩
theorem lw_p7 : lw_okq (⟨"FuneralDebts$Reader", "readWord", "(Ljava/lang/String;)Z"⟩, 6) := ⟨⟨by decide +kernel, by decide +kernel⟩, List.mem_of_getElem? (i := 131) (by decide +kernel), List.mem_of_getElem? (i := 428) (by decide +kernel), List.mem_of_getElem? (i := 429) (by decide +kernel)⟩
theorem lw_p8 : lw_okq (⟨"FuneralDebts$Reader", "readNumber", "()Z"⟩, 6) := ⟨⟨by decide +kernel, by decide +kernel⟩, List.mem_of_getElem? (i := 131) (by decide +kernel), List.mem_of_getElem? (i := 480) (by decide +kernel), List.mem_of_getElem? (i := 481) (by decide +kernel)⟩
theorem lw_p9 : lw_okq (⟨"FuneralDebts$Reader", "readEither", "(I)Z"⟩, 6) := ⟨⟨by decide +kernel, by decide +kernel⟩, List.mem_of_getElem? (i := 131) (by decide +kernel), List.mem_of_getElem? (i := 485) (by decide +kernel), List.mem_of_getElem? (i := 486) (by decide +kernel)⟩
theorem lw_p10 : lw_okq (⟨"FuneralDebts$Reader", "readPart", "(I)Z"⟩, 6) := ⟨⟨by decide +kernel, by decide +kernel⟩, List.mem_of_getElem? (i := 131) (by decide +kernel), List.mem_of_getElem? (i := 489) (by decide +kernel), List.mem_of_getElem? (i := 490) (by decide +kernel)⟩
theorem lw_p11 : lw_okq (⟨"FuneralDebts$Reader", "readTest", "()Z"⟩, 6) := ⟨⟨by decide +kernel, by decide +kernel⟩, List.mem_of_getElem? (i := 131) (by decide +kernel), List.mem_of_getElem? (i := 493) (by decide +kernel), List.mem_of_getElem? (i := 494) (by decide +kernel)⟩
theorem lw_p12 : lw_okq (⟨"FuneralDebts", "still", "()I"⟩, 11) := ⟨⟨by decide +kernel, by decide +kernel⟩, List.mem_of_getElem? (i := 18) (by decide +kernel), List.mem_of_getElem? (i := 514) (by decide +kernel), List.mem_of_getElem? (i := 515) (by decide +kernel)⟩
theorem lw_p13 : lw_okq (⟨"FuneralDebts", "gains", "()I"⟩, 11) := ⟨⟨by decide +kernel, by decide +kernel⟩, List.mem_of_getElem? (i := 18) (by decide +kernel), List.mem_of_getElem? (i := 544) (by decide +kernel), List.mem_of_getElem? (i := 545) (by decide +kernel)⟩
theorem lw_p14 : lw_okq (⟨"FuneralDebts", "owed", "(Z)I"⟩, 11) := ⟨⟨by decide +kernel, by decide +kernel⟩, List.mem_of_getElem? (i := 18) (by decide +kernel), List.mem_of_getElem? (i := 548) (by decide +kernel), List.mem_of_getElem? (i := 549) (by decide +kernel)⟩
theorem lw_p15 : lw_okq (⟨"FuneralDebts", "goStep", "(II)V"⟩, 11) := ⟨⟨by decide +kernel, by decide +kernel⟩, List.mem_of_getElem? (i := 18) (by decide +kernel), List.mem_of_getElem? (i := 612) (by decide +kernel), List.mem_of_getElem? (i := 613) (by decide +kernel)⟩
def lw_privs_1 : List (MethodName × Nat) := [(⟨"FuneralDebts", "reckonedOf", "(II)I"⟩, 11), (⟨"FuneralDebts", "held", "()LFuneralDebts$Parish;"⟩, 11), (⟨"FuneralDebts", "parishAt", "(I)LFuneralDebts$Parish;"⟩, 11), (⟨"FuneralDebts$Parish", "holdsFrom", "(II[I)Z"⟩, 8), (⟨"FuneralDebts$Reckoner", "pays", "(LFuneralDebts$Scene;IIII)I"⟩, 3), (⟨"FuneralDebts$Reader", "advance", "()V"⟩, 6), (⟨"FuneralDebts$Reader", "readClause", "()Z"⟩, 6), (⟨"FuneralDebts$Reader", "readWord", "(Ljava/lang/String;)Z"⟩, 6), (⟨"FuneralDebts$Reader", "readNumber", "()Z"⟩, 6), (⟨"FuneralDebts$Reader", "readEither", "(I)Z"⟩, 6), (⟨"FuneralDebts$Reader", "readPart", "(I)Z"⟩, 6), (⟨"FuneralDebts$Reader", "readTest", "()Z"⟩, 6), (⟨"FuneralDebts", "still", "()I"⟩, 11), (⟨"FuneralDebts", "gains", "()I"⟩, 11), (⟨"FuneralDebts", "owed", "(Z)I"⟩, 11), (⟨"FuneralDebts", "goStep", "(II)V"⟩, 11)]
theorem lw_r1 : ∀ q ∈ lw_privs_1, lw_okq q := List.forall_mem_cons.mpr ⟨lw_p0, List.forall_mem_cons.mpr ⟨lw_p1, List.forall_mem_cons.mpr ⟨lw_p2, List.forall_mem_cons.mpr ⟨lw_p3, List.forall_mem_cons.mpr ⟨lw_p4, List.forall_mem_cons.mpr ⟨lw_p5, List.forall_mem_cons.mpr ⟨lw_p6, List.forall_mem_cons.mpr ⟨lw_p7, List.forall_mem_cons.mpr ⟨lw_p8, List.forall_mem_cons.mpr ⟨lw_p9, List.forall_mem_cons.mpr ⟨lw_p10, List.forall_mem_cons.mpr ⟨lw_p11, List.forall_mem_cons.mpr ⟨lw_p12, List.forall_mem_cons.mpr ⟨lw_p13, List.forall_mem_cons.mpr ⟨lw_p14, List.forall_mem_cons.mpr ⟨lw_p15, fun _ h => absurd h List.not_mem_nil⟩⟩⟩⟩⟩⟩⟩⟩⟩⟩⟩⟩⟩⟩⟩⟩
theorem lw_p16 : lw_okq (⟨"FuneralDebts", "tapeAt", "(I)LFuneralDebts$Tape;"⟩, 11) := ⟨⟨by decide +kernel, by decide +kernel⟩, List.mem_of_getElem? (i := 18) (by decide +kernel), List.mem_of_getElem? (i := 628) (by decide +kernel), List.mem_of_getElem? (i := 629) (by decide +kernel)⟩
theorem lw_p17 : lw_okq (⟨"FuneralDebts$Actor", "run", "(IIII)I"⟩, 5) := ⟨⟨by decide +kernel, by decide +kernel⟩, List.mem_of_getElem? (i := 211) (by decide +kernel), List.mem_of_getElem? (i := 662) (by decide +kernel), List.mem_of_getElem? (i := 663) (by decide +kernel)⟩
theorem lw_p18 : lw_okq (⟨"FuneralDebts$Tape", "fitted", "(J)J"⟩, 3) := ⟨⟨by decide +kernel, by decide +kernel⟩, List.mem_of_getElem? (i := 236) (by decide +kernel), List.mem_of_getElem? (i := 704) (by decide +kernel), List.mem_of_getElem? (i := 705) (by decide +kernel)⟩
theorem lw_p19 : lw_okq (⟨"FuneralDebtsModel", "change", "(III)I"⟩, 31) := ⟨⟨by decide +kernel, by decide +kernel⟩, List.mem_of_getElem? (i := 720) (by decide +kernel), List.mem_of_getElem? (i := 842) (by decide +kernel), List.mem_of_getElem? (i := 843) (by decide +kernel)⟩
theorem lw_p20 : lw_okq (⟨"FuneralDebtsModel", "one", "(II)I"⟩, 31) := ⟨⟨by decide +kernel, by decide +kernel⟩, List.mem_of_getElem? (i := 720) (by decide +kernel), List.mem_of_getElem? (i := 846) (by decide +kernel), List.mem_of_getElem? (i := 847) (by decide +kernel)⟩
theorem lw_p21 : lw_okq (⟨"FuneralDebtsModel", "isOne", "(I)Z"⟩, 31) := ⟨⟨by decide +kernel, by decide +kernel⟩, List.mem_of_getElem? (i := 720) (by decide +kernel), List.mem_of_getElem? (i := 854) (by decide +kernel), List.mem_of_getElem? (i := 855) (by decide +kernel)⟩
theorem lw_p22 : lw_okq (⟨"FuneralDebtsModel", "share", "()V"⟩, 31) := ⟨⟨by decide +kernel, by decide +kernel⟩, List.mem_of_getElem? (i := 720) (by decide +kernel), List.mem_of_getElem? (i := 858) (by decide +kernel), List.mem_of_getElem? (i := 859) (by decide +kernel)⟩
theorem lw_p23 : lw_okq (⟨"FuneralDebtsModel", "isHere", "(I)Z"⟩, 31) := ⟨⟨by decide +kernel, by decide +kernel⟩, List.mem_of_getElem? (i := 720) (by decide +kernel), List.mem_of_getElem? (i := 862) (by decide +kernel), List.mem_of_getElem? (i := 863) (by decide +kernel)⟩
theorem lw_p24 : lw_okq (⟨"FuneralDebtsModel", "rate", "(II)I"⟩, 31) := ⟨⟨by decide +kernel, by decide +kernel⟩, List.mem_of_getElem? (i := 720) (by decide +kernel), List.mem_of_getElem? (i := 866) (by decide +kernel), List.mem_of_getElem? (i := 867) (by decide +kernel)⟩
theorem lw_p25 : lw_okq (⟨"FuneralDebtsModel", "readFor", "(II)V"⟩, 31) := ⟨⟨by decide +kernel, by decide +kernel⟩, List.mem_of_getElem? (i := 720) (by decide +kernel), List.mem_of_getElem? (i := 870) (by decide +kernel), List.mem_of_getElem? (i := 871) (by decide +kernel)⟩
theorem lw_p26 : lw_okq (⟨"FuneralDebtsModel", "readAll", "()Z"⟩, 31) := ⟨⟨by decide +kernel, by decide +kernel⟩, List.mem_of_getElem? (i := 720) (by decide +kernel), List.mem_of_getElem? (i := 874) (by decide +kernel), List.mem_of_getElem? (i := 875) (by decide +kernel)⟩
theorem lw_p27 : lw_okq (⟨"FuneralDebtsModel", "clause", "()V"⟩, 31) := ⟨⟨by decide +kernel, by decide +kernel⟩, List.mem_of_getElem? (i := 720) (by decide +kernel), List.mem_of_getElem? (i := 878) (by decide +kernel), List.mem_of_getElem? (i := 879) (by decide +kernel)⟩
theorem lw_p28 : lw_okq (⟨"FuneralDebtsModel", "isAt", "(I)Z"⟩, 31) := ⟨⟨by decide +kernel, by decide +kernel⟩, List.mem_of_getElem? (i := 720) (by decide +kernel), List.mem_of_getElem? (i := 882) (by decide +kernel), List.mem_of_getElem? (i := 883) (by decide +kernel)⟩
theorem lw_p29 : lw_okq (⟨"FuneralDebtsModel", "takes", "(I)V"⟩, 31) := ⟨⟨by decide +kernel, by decide +kernel⟩, List.mem_of_getElem? (i := 720) (by decide +kernel), List.mem_of_getElem? (i := 886) (by decide +kernel), List.mem_of_getElem? (i := 887) (by decide +kernel)⟩
theorem lw_p30 : lw_okq (⟨"FuneralDebtsModel", "number", "()I"⟩, 31) := ⟨⟨by decide +kernel, by decide +kernel⟩, List.mem_of_getElem? (i := 720) (by decide +kernel), List.mem_of_getElem? (i := 890) (by decide +kernel), List.mem_of_getElem? (i := 891) (by decide +kernel)⟩
theorem lw_p31 : lw_okq (⟨"FuneralDebtsModel", "isDigit", "()Z"⟩, 31) := ⟨⟨by decide +kernel, by decide +kernel⟩, List.mem_of_getElem? (i := 720) (by decide +kernel), List.mem_of_getElem? (i := 894) (by decide +kernel), List.mem_of_getElem? (i := 895) (by decide +kernel)⟩
def lw_privs_2 : List (MethodName × Nat) := [(⟨"FuneralDebts", "tapeAt", "(I)LFuneralDebts$Tape;"⟩, 11), (⟨"FuneralDebts$Actor", "run", "(IIII)I"⟩, 5), (⟨"FuneralDebts$Tape", "fitted", "(J)J"⟩, 3), (⟨"FuneralDebtsModel", "change", "(III)I"⟩, 31), (⟨"FuneralDebtsModel", "one", "(II)I"⟩, 31), (⟨"FuneralDebtsModel", "isOne", "(I)Z"⟩, 31), (⟨"FuneralDebtsModel", "share", "()V"⟩, 31), (⟨"FuneralDebtsModel", "isHere", "(I)Z"⟩, 31), (⟨"FuneralDebtsModel", "rate", "(II)I"⟩, 31), (⟨"FuneralDebtsModel", "readFor", "(II)V"⟩, 31), (⟨"FuneralDebtsModel", "readAll", "()Z"⟩, 31), (⟨"FuneralDebtsModel", "clause", "()V"⟩, 31), (⟨"FuneralDebtsModel", "isAt", "(I)Z"⟩, 31), (⟨"FuneralDebtsModel", "takes", "(I)V"⟩, 31), (⟨"FuneralDebtsModel", "number", "()I"⟩, 31), (⟨"FuneralDebtsModel", "isDigit", "()Z"⟩, 31)]
theorem lw_r2 : ∀ q ∈ lw_privs_2, lw_okq q := List.forall_mem_cons.mpr ⟨lw_p16, List.forall_mem_cons.mpr ⟨lw_p17, List.forall_mem_cons.mpr ⟨lw_p18, List.forall_mem_cons.mpr ⟨lw_p19, List.forall_mem_cons.mpr ⟨lw_p20, List.forall_mem_cons.mpr ⟨lw_p21, List.forall_mem_cons.mpr ⟨lw_p22, List.forall_mem_cons.mpr ⟨lw_p23, List.forall_mem_cons.mpr ⟨lw_p24, List.forall_mem_cons.mpr ⟨lw_p25, List.forall_mem_cons.mpr ⟨lw_p26, List.forall_mem_cons.mpr ⟨lw_p27, List.forall_mem_cons.mpr ⟨lw_p28, List.forall_mem_cons.mpr ⟨lw_p29, List.forall_mem_cons.mpr ⟨lw_p30, List.forall_mem_cons.mpr ⟨lw_p31, fun _ h => absurd h List.not_mem_nil⟩⟩⟩⟩⟩⟩⟩⟩⟩⟩⟩⟩⟩⟩⟩⟩
theorem lw_p32 : lw_okq (⟨"FuneralDebtsModel", "any", "()Z"⟩, 31) := ⟨⟨by decide +kernel, by decide +kernel⟩, List.mem_of_getElem? (i := 720) (by decide +kernel), List.mem_of_getElem? (i := 898) (by decide +kernel), List.mem_of_getElem? (i := 899) (by decide +kernel)⟩
theorem lw_p33 : lw_okq (⟨"FuneralDebtsModel", "both", "()Z"⟩, 31) := ⟨⟨by decide +kernel, by decide +kernel⟩, List.mem_of_getElem? (i := 720) (by decide +kernel), List.mem_of_getElem? (i := 902) (by decide +kernel), List.mem_of_getElem? (i := 903) (by decide +kernel)⟩
theorem lw_p34 : lw_okq (⟨"FuneralDebtsModel", "factor", "()Z"⟩, 31) := ⟨⟨by decide +kernel, by decide +kernel⟩, List.mem_of_getElem? (i := 720) (by decide +kernel), List.mem_of_getElem? (i := 906) (by decide +kernel), List.mem_of_getElem? (i := 907) (by decide +kernel)⟩
theorem lw_p35 : lw_okq (⟨"FuneralDebtsModel", "test", "()Z"⟩, 31) := ⟨⟨by decide +kernel, by decide +kernel⟩, List.mem_of_getElem? (i := 720) (by decide +kernel), List.mem_of_getElem? (i := 910) (by decide +kernel), List.mem_of_getElem? (i := 911) (by decide +kernel)⟩
theorem lw_p36 : lw_okq (⟨"FuneralDebtsModel", "best", "(I)I"⟩, 31) := ⟨⟨by decide +kernel, by decide +kernel⟩, List.mem_of_getElem? (i := 720) (by decide +kernel), List.mem_of_getElem? (i := 915) (by decide +kernel), List.mem_of_getElem? (i := 916) (by decide +kernel)⟩
theorem lw_p37 : lw_okq (⟨"FuneralDebtsModel", "worth", "(II)I"⟩, 31) := ⟨⟨by decide +kernel, by decide +kernel⟩, List.mem_of_getElem? (i := 720) (by decide +kernel), List.mem_of_getElem? (i := 919) (by decide +kernel), List.mem_of_getElem? (i := 920) (by decide +kernel)⟩
theorem lw_p38 : lw_okq (⟨"FuneralDebtsModel", "aways", "()I"⟩, 31) := ⟨⟨by decide +kernel, by decide +kernel⟩, List.mem_of_getElem? (i := 720) (by decide +kernel), List.mem_of_getElem? (i := 951) (by decide +kernel), List.mem_of_getElem? (i := 952) (by decide +kernel)⟩
theorem lw_p39 : lw_okq (⟨"FuneralDebtsModel", "still", "()I"⟩, 31) := ⟨⟨by decide +kernel, by decide +kernel⟩, List.mem_of_getElem? (i := 720) (by decide +kernel), List.mem_of_getElem? (i := 955) (by decide +kernel), List.mem_of_getElem? (i := 956) (by decide +kernel)⟩
theorem lw_p40 : lw_okq (⟨"FuneralDebtsModel", "keep", "(I)V"⟩, 31) := ⟨⟨by decide +kernel, by decide +kernel⟩, List.mem_of_getElem? (i := 720) (by decide +kernel), List.mem_of_getElem? (i := 959) (by decide +kernel), List.mem_of_getElem? (i := 960) (by decide +kernel)⟩
theorem lw_p41 : lw_okq (⟨"FuneralDebtsModel", "day", "(Z)I"⟩, 31) := ⟨⟨by decide +kernel, by decide +kernel⟩, List.mem_of_getElem? (i := 720) (by decide +kernel), List.mem_of_getElem? (i := 963) (by decide +kernel), List.mem_of_getElem? (i := 964) (by decide +kernel)⟩
theorem lw_p42 : lw_okq (⟨"FuneralDebtsModel", "moves", "()I"⟩, 31) := ⟨⟨by decide +kernel, by decide +kernel⟩, List.mem_of_getElem? (i := 720) (by decide +kernel), List.mem_of_getElem? (i := 967) (by decide +kernel), List.mem_of_getElem? (i := 968) (by decide +kernel)⟩
theorem lw_p43 : lw_okq (⟨"FuneralDebtsModel", "lay", "(I)V"⟩, 31) := ⟨⟨by decide +kernel, by decide +kernel⟩, List.mem_of_getElem? (i := 720) (by decide +kernel), List.mem_of_getElem? (i := 973) (by decide +kernel), List.mem_of_getElem? (i := 974) (by decide +kernel)⟩
theorem lw_p44 : lw_okq (⟨"FuneralDebtsModel", "gains", "()I"⟩, 31) := ⟨⟨by decide +kernel, by decide +kernel⟩, List.mem_of_getElem? (i := 720) (by decide +kernel), List.mem_of_getElem? (i := 977) (by decide +kernel), List.mem_of_getElem? (i := 978) (by decide +kernel)⟩
theorem lw_p45 : lw_okq (⟨"FuneralDebtsModel", "owed", "(Z)I"⟩, 31) := ⟨⟨by decide +kernel, by decide +kernel⟩, List.mem_of_getElem? (i := 720) (by decide +kernel), List.mem_of_getElem? (i := 981) (by decide +kernel), List.mem_of_getElem? (i := 982) (by decide +kernel)⟩
theorem lw_p46 : lw_okq (⟨"FuneralDebtsModel", "isAllSeen", "()Z"⟩, 31) := ⟨⟨by decide +kernel, by decide +kernel⟩, List.mem_of_getElem? (i := 720) (by decide +kernel), List.mem_of_getElem? (i := 985) (by decide +kernel), List.mem_of_getElem? (i := 986) (by decide +kernel)⟩
theorem lw_p47 : lw_okq (⟨"FuneralDebtsModel", "all", "(III)I"⟩, 31) := ⟨⟨by decide +kernel, by decide +kernel⟩, List.mem_of_getElem? (i := 720) (by decide +kernel), List.mem_of_getElem? (i := 1044) (by decide +kernel), List.mem_of_getElem? (i := 1045) (by decide +kernel)⟩
def lw_privs_3 : List (MethodName × Nat) := [(⟨"FuneralDebtsModel", "any", "()Z"⟩, 31), (⟨"FuneralDebtsModel", "both", "()Z"⟩, 31), (⟨"FuneralDebtsModel", "factor", "()Z"⟩, 31), (⟨"FuneralDebtsModel", "test", "()Z"⟩, 31), (⟨"FuneralDebtsModel", "best", "(I)I"⟩, 31), (⟨"FuneralDebtsModel", "worth", "(II)I"⟩, 31), (⟨"FuneralDebtsModel", "aways", "()I"⟩, 31), (⟨"FuneralDebtsModel", "still", "()I"⟩, 31), (⟨"FuneralDebtsModel", "keep", "(I)V"⟩, 31), (⟨"FuneralDebtsModel", "day", "(Z)I"⟩, 31), (⟨"FuneralDebtsModel", "moves", "()I"⟩, 31), (⟨"FuneralDebtsModel", "lay", "(I)V"⟩, 31), (⟨"FuneralDebtsModel", "gains", "()I"⟩, 31), (⟨"FuneralDebtsModel", "owed", "(Z)I"⟩, 31), (⟨"FuneralDebtsModel", "isAllSeen", "()Z"⟩, 31), (⟨"FuneralDebtsModel", "all", "(III)I"⟩, 31)]
theorem lw_r3 : ∀ q ∈ lw_privs_3, lw_okq q := List.forall_mem_cons.mpr ⟨lw_p32, List.forall_mem_cons.mpr ⟨lw_p33, List.forall_mem_cons.mpr ⟨lw_p34, List.forall_mem_cons.mpr ⟨lw_p35, List.forall_mem_cons.mpr ⟨lw_p36, List.forall_mem_cons.mpr ⟨lw_p37, List.forall_mem_cons.mpr ⟨lw_p38, List.forall_mem_cons.mpr ⟨lw_p39, List.forall_mem_cons.mpr ⟨lw_p40, List.forall_mem_cons.mpr ⟨lw_p41, List.forall_mem_cons.mpr ⟨lw_p42, List.forall_mem_cons.mpr ⟨lw_p43, List.forall_mem_cons.mpr ⟨lw_p44, List.forall_mem_cons.mpr ⟨lw_p45, List.forall_mem_cons.mpr ⟨lw_p46, List.forall_mem_cons.mpr ⟨lw_p47, fun _ h => absurd h List.not_mem_nil⟩⟩⟩⟩⟩⟩⟩⟩⟩⟩⟩⟩⟩⟩⟩⟩
theorem lw_p48 : lw_okq (⟨"FuneralDebtsModel", "byKind", "(IIII)I"⟩, 31) := ⟨⟨by decide +kernel, by decide +kernel⟩, List.mem_of_getElem? (i := 720) (by decide +kernel), List.mem_of_getElem? (i := 1048) (by decide +kernel), List.mem_of_getElem? (i := 1049) (by decide +kernel)⟩
theorem lw_p49 : lw_okq (⟨"FuneralDebtsModel", "body", "(I)I"⟩, 31) := ⟨⟨by decide +kernel, by decide +kernel⟩, List.mem_of_getElem? (i := 720) (by decide +kernel), List.mem_of_getElem? (i := 1052) (by decide +kernel), List.mem_of_getElem? (i := 1053) (by decide +kernel)⟩
def lw_privs_4 : List (MethodName × Nat) := [(⟨"FuneralDebtsModel", "byKind", "(IIII)I"⟩, 31), (⟨"FuneralDebtsModel", "body", "(I)I"⟩, 31)]
theorem lw_r4 : ∀ q ∈ lw_privs_4, lw_okq q := List.forall_mem_cons.mpr ⟨lw_p48, List.forall_mem_cons.mpr ⟨lw_p49, fun _ h => absurd h List.not_mem_nil⟩⟩
def lw_privs : List (MethodName × Nat) := lw_privs_1 ++ (lw_privs_2 ++ (lw_privs_3 ++ (lw_privs_4)))
def lw_tbl : List Cond := k2_sels lw_privs ++ tables_1
theorem lw_privs_ok : ∀ q ∈ lw_privs, lw_okq q := by
  show ∀ q ∈ lw_privs_1 ++ (lw_privs_2 ++ (lw_privs_3 ++ (lw_privs_4))), lw_okq q
  exact List.forall_mem_append.mpr ⟨lw_r1, List.forall_mem_append.mpr ⟨lw_r2, List.forall_mem_append.mpr ⟨lw_r3, lw_r4⟩⟩⟩
def RX0 : String := "FuneralDebts$Actor"
def TX0 : u_T := fun k => match k with
  | 0 => ("FuneralDebts$Actor", "number", "I", false)
  | 1 => ("FuneralDebts$Actor", "v", "I", false)
  | 2 => ("FuneralDebts$Actor", "kind", "I", false)
  | 3 => ("FuneralDebts$Actor", "ran", "I", false)
  | _ => ("FuneralDebts$Actor", "bodies", "[I", true)
def tyX0 : Nat → FieldType := fun k => match k with
  | 0 => .int
  | 1 => .int
  | 2 => .int
  | 3 => .int
  | _ => .array .int
abbrev wsX00 : List Cond := u_ws RX0 TX0 5
theorem nmX0 : ∀ a, a < 5 → ∀ b, b < 5 → a ≠ b → (TX0 a).2.1 ≠ (TX0 b).2.1 := by decide +kernel
theorem tyX0_ok : ∀ k, k < 5 → parseFieldDescriptor (TX0 k).2.2.1 = some (tyX0 k) := by decide +kernel
abbrev cX0_init : ByteArray := prog_2_method_1_code
def yX0_init : MethodName := ⟨RX0, "<init>", "()V"⟩
abbrev cX0_clear : ByteArray := prog_2_method_2_code
def yX0_clear : MethodName := ⟨RX0, "clear", "()V"⟩
abbrev cX0_start : ByteArray := prog_2_method_3_code
def yX0_start : MethodName := ⟨RX0, "start", "(LFuneralDebts$Scene;III)I"⟩
abbrev cX0_run : ByteArray := prog_2_method_4_code
def yX0_run : MethodName := ⟨RX0, "run", "(IIII)I"⟩
abbrev cX0_ownerOf : ByteArray := prog_2_method_5_code
def yX0_ownerOf : MethodName := ⟨RX0, "ownerOf", "(II)I"⟩
def RX1 : String := "FuneralDebts$Pairs"
def TX1 : u_T := fun k => match k with
  | 0 => ("FuneralDebts$Pairs", "most", "I", true)
  | 1 => ("FuneralDebts$Pairs", "firsts", "[I", true)
  | 2 => ("FuneralDebts$Pairs", "seconds", "[I", true)
  | _ => ("FuneralDebts$Pairs", "size", "I", false)
def tyX1 : Nat → FieldType := fun k => match k with
  | 0 => .int
  | 1 => .array .int
  | 2 => .array .int
  | _ => .int
abbrev wsX10 : List Cond := u_ws RX1 TX1 4
theorem nmX1 : ∀ a, a < 4 → ∀ b, b < 4 → a ≠ b → (TX1 a).2.1 ≠ (TX1 b).2.1 := by decide +kernel
theorem tyX1_ok : ∀ k, k < 4 → parseFieldDescriptor (TX1 k).2.2.1 = some (tyX1 k) := by decide +kernel
abbrev cX1_init : ByteArray := prog_3_method_1_code
def yX1_init : MethodName := ⟨RX1, "<init>", "(I)V"⟩
abbrev cX1_empty : ByteArray := prog_3_method_2_code
def yX1_empty : MethodName := ⟨RX1, "empty", "()I"⟩
abbrev cX1_add : ByteArray := prog_3_method_3_code
def yX1_add : MethodName := ⟨RX1, "add", "(II)I"⟩
abbrev cX1_takeAfter : ByteArray := prog_3_method_4_code
def yX1_takeAfter : MethodName := ⟨RX1, "takeAfter", "(LFuneralDebts$Pairs;)V"⟩
def RX2 : String := "FuneralDebts$Parish"
def TX2 : u_T := fun k => match k with
  | 0 => ("FuneralDebts$Parish", "fall", "I", false)
  | 1 => ("FuneralDebts$Parish", "clauses", "I", false)
  | 2 => ("FuneralDebts$Parish", "adds", "[I", true)
  | 3 => ("FuneralDebts$Parish", "ends", "[I", true)
  | 4 => ("FuneralDebts$Parish", "steps", "I", false)
  | 5 => ("FuneralDebts$Parish", "whats", "[I", true)
  | 6 => ("FuneralDebts$Parish", "signs", "[I", true)
  | _ => ("FuneralDebts$Parish", "numbers", "[I", true)
def tyX2 : Nat → FieldType := fun k => match k with
  | 0 => .int
  | 1 => .int
  | 2 => .array .int
  | 3 => .array .int
  | 4 => .int
  | 5 => .array .int
  | 6 => .array .int
  | _ => .array .int
abbrev wsX20 : List Cond := u_ws RX2 TX2 8
theorem nmX2 : ∀ a, a < 8 → ∀ b, b < 8 → a ≠ b → (TX2 a).2.1 ≠ (TX2 b).2.1 := by decide +kernel
theorem tyX2_ok : ∀ k, k < 8 → parseFieldDescriptor (TX2 k).2.2.1 = some (tyX2 k) := by decide +kernel
abbrev cX2_init : ByteArray := prog_4_method_1_code
def yX2_init : MethodName := ⟨RX2, "<init>", "()V"⟩
abbrev cX2_clear : ByteArray := prog_4_method_2_code
def yX2_clear : MethodName := ⟨RX2, "clear", "()V"⟩
abbrev cX2_addStep : ByteArray := prog_4_method_3_code
def yX2_addStep : MethodName := ⟨RX2, "addStep", "(III)V"⟩
abbrev cX2_endClause : ByteArray := prog_4_method_4_code
def yX2_endClause : MethodName := ⟨RX2, "endClause", "(I)V"⟩
abbrev cX2_sumOf : ByteArray := prog_4_method_5_code
def yX2_sumOf : MethodName := ⟨RX2, "sumOf", "([I)I"⟩
abbrev cX2_holdsFrom : ByteArray := prog_4_method_6_code
def yX2_holdsFrom : MethodName := ⟨RX2, "holdsFrom", "(II[I)Z"⟩
abbrev cX2_passes : ByteArray := prog_4_method_7_code
def yX2_passes : MethodName := ⟨RX2, "passes", "(III)Z"⟩
def RX3 : String := "FuneralDebts$Reader"
def TX3 : u_T := fun k => match k with
  | 0 => ("FuneralDebts$Reader", "text", "[B", true)
  | 1 => ("FuneralDebts$Reader", "size", "I", false)
  | 2 => ("FuneralDebts$Reader", "place", "I", false)
  | 3 => ("FuneralDebts$Reader", "sign", "I", false)
  | 4 => ("FuneralDebts$Reader", "number", "I", false)
  | _ => ("FuneralDebts$Reader", "into", "LFuneralDebts$Parish;", false)
def tyX3 : Nat → FieldType := fun k => match k with
  | 0 => .array .byte
  | 1 => .int
  | 2 => .int
  | 3 => .int
  | 4 => .int
  | _ => .object "FuneralDebts$Parish"
abbrev wsX30 : List Cond := u_ws RX3 TX3 6
theorem nmX3 : ∀ a, a < 6 → ∀ b, b < 6 → a ≠ b → (TX3 a).2.1 ≠ (TX3 b).2.1 := by decide +kernel
theorem tyX3_ok : ∀ k, k < 6 → parseFieldDescriptor (TX3 k).2.2.1 = some (tyX3 k) := by decide +kernel
abbrev cX3_init : ByteArray := prog_5_method_1_code
def yX3_init : MethodName := ⟨RX3, "<init>", "()V"⟩
abbrev cX3_append : ByteArray := prog_5_method_2_code
def yX3_append : MethodName := ⟨RX3, "append", "(I)I"⟩
abbrev cX3_readAll : ByteArray := prog_5_method_3_code
def yX3_readAll : MethodName := ⟨RX3, "readAll", "(LFuneralDebts$Parish;)Z"⟩
abbrev cX3_advance : ByteArray := prog_5_method_4_code
def yX3_advance : MethodName := ⟨RX3, "advance", "()V"⟩
abbrev cX3_readClause : ByteArray := prog_5_method_5_code
def yX3_readClause : MethodName := ⟨RX3, "readClause", "()Z"⟩
abbrev cX3_readWord : ByteArray := prog_5_method_6_code
def yX3_readWord : MethodName := ⟨RX3, "readWord", "(Ljava/lang/String;)Z"⟩
abbrev cX3_readNumber : ByteArray := prog_5_method_7_code
def yX3_readNumber : MethodName := ⟨RX3, "readNumber", "()Z"⟩
abbrev cX3_readEither : ByteArray := prog_5_method_8_code
def yX3_readEither : MethodName := ⟨RX3, "readEither", "(I)Z"⟩
abbrev cX3_readPart : ByteArray := prog_5_method_9_code
def yX3_readPart : MethodName := ⟨RX3, "readPart", "(I)Z"⟩
abbrev cX3_readTest : ByteArray := prog_5_method_10_code
def yX3_readTest : MethodName := ⟨RX3, "readTest", "()Z"⟩
abbrev cX3_whatOf : ByteArray := prog_5_method_11_code
def yX3_whatOf : MethodName := ⟨RX3, "whatOf", "(I)I"⟩
def RX4 : String := "FuneralDebts$Reckoner"
def TX4 : u_T := fun k => match k with
  | 0 => ("FuneralDebts$Reckoner", "rates", "[I", true)
  | 1 => ("FuneralDebts$Reckoner", "facts", "[I", true)
  | _ => ("FuneralDebts$Reckoner", "counted", "[I", true)
def tyX4 : Nat → FieldType := fun k => match k with
  | 0 => .array .int
  | 1 => .array .int
  | _ => .array .int
abbrev wsX40 : List Cond := u_ws RX4 TX4 3
theorem nmX4 : ∀ a, a < 3 → ∀ b, b < 3 → a ≠ b → (TX4 a).2.1 ≠ (TX4 b).2.1 := by decide +kernel
theorem tyX4_ok : ∀ k, k < 3 → parseFieldDescriptor (TX4 k).2.2.1 = some (tyX4 k) := by decide +kernel
abbrev cX4_init : ByteArray := prog_6_method_1_code
def yX4_init : MethodName := ⟨RX4, "<init>", "()V"⟩
abbrev cX4_look : ByteArray := prog_6_method_2_code
def yX4_look : MethodName := ⟨RX4, "look", "(LFuneralDebts$Scene;LFuneralDebts$Parish;)V"⟩
abbrev cX4_rateBySum : ByteArray := prog_6_method_3_code
def yX4_rateBySum : MethodName := ⟨RX4, "rateBySum", "(LFuneralDebts$Scene;III)I"⟩
abbrev cX4_rate : ByteArray := prog_6_method_4_code
def yX4_rate : MethodName := ⟨RX4, "rate", "(II)I"⟩
abbrev cX4_share : ByteArray := prog_6_method_5_code
def yX4_share : MethodName := ⟨RX4, "share", "(LFuneralDebts$Scene;III)I"⟩
abbrev cX4_pays : ByteArray := prog_6_method_6_code
def yX4_pays : MethodName := ⟨RX4, "pays", "(LFuneralDebts$Scene;IIII)I"⟩
abbrev cX4_worth : ByteArray := prog_6_method_7_code
def yX4_worth : MethodName := ⟨RX4, "worth", "(LFuneralDebts$Scene;II)I"⟩
abbrev cX4_best : ByteArray := prog_6_method_8_code
def yX4_best : MethodName := ⟨RX4, "best", "(LFuneralDebts$Scene;I)I"⟩
abbrev cX4_fits : ByteArray := prog_6_method_9_code
def yX4_fits : MethodName := ⟨RX4, "fits", "(LFuneralDebts$Scene;I)Z"⟩
abbrev cX4_goDay : ByteArray := prog_6_method_10_code
def yX4_goDay : MethodName := ⟨RX4, "goDay", "(LFuneralDebts$Scene;LFuneralDebts$Parish;I)I"⟩
def RX5 : String := "FuneralDebts$Scene"
def TX5 : u_T := fun k => match k with
  | 0 => ("FuneralDebts$Scene", "size", "I", false)
  | 1 => ("FuneralDebts$Scene", "kinds", "[I", true)
  | 2 => ("FuneralDebts$Scene", "vs", "[I", true)
  | 3 => ("FuneralDebts$Scene", "loves", "[I", true)
  | 4 => ("FuneralDebts$Scene", "yards", "[I", true)
  | 5 => ("FuneralDebts$Scene", "paid", "[I", true)
  | 6 => ("FuneralDebts$Scene", "rows", "[I", true)
  | 7 => ("FuneralDebts$Scene", "away", "I", false)
  | 8 => ("FuneralDebts$Scene", "debt", "I", false)
  | 9 => ("FuneralDebts$Scene", "day", "I", false)
  | 10 => ("FuneralDebts$Scene", "holds", "I", false)
  | 11 => ("FuneralDebts$Scene", "seen", "LFuneralDebts$Pairs;", true)
  | 12 => ("FuneralDebts$Scene", "plan", "LFuneralDebts$Pairs;", true)
  | _ => ("FuneralDebts$Scene", "book", "LFuneralDebts$Pairs;", true)
def tyX5 : Nat → FieldType := fun k => match k with
  | 0 => .int
  | 1 => .array .int
  | 2 => .array .int
  | 3 => .array .int
  | 4 => .array .int
  | 5 => .array .int
  | 6 => .array .int
  | 7 => .int
  | 8 => .int
  | 9 => .int
  | 10 => .int
  | 11 => .object "FuneralDebts$Pairs"
  | 12 => .object "FuneralDebts$Pairs"
  | _ => .object "FuneralDebts$Pairs"
abbrev wsX50 : List Cond := u_ws RX5 TX5 14
theorem nmX5 : ∀ a, a < 14 → ∀ b, b < 14 → a ≠ b → (TX5 a).2.1 ≠ (TX5 b).2.1 := by decide +kernel
theorem tyX5_ok : ∀ k, k < 14 → parseFieldDescriptor (TX5 k).2.2.1 = some (tyX5 k) := by decide +kernel
abbrev cX5_init : ByteArray := prog_7_method_1_code
def yX5_init : MethodName := ⟨RX5, "<init>", "()V"⟩
abbrev cX5_has : ByteArray := prog_7_method_2_code
def yX5_has : MethodName := ⟨RX5, "has", "(I)Z"⟩
abbrev cX5_isAway : ByteArray := prog_7_method_3_code
def yX5_isAway : MethodName := ⟨RX5, "isAway", "(I)Z"⟩
abbrev cX5_send : ByteArray := prog_7_method_4_code
def yX5_send : MethodName := ⟨RX5, "send", "(IZ)V"⟩
abbrev cX5_add : ByteArray := prog_7_method_5_code
def yX5_add : MethodName := ⟨RX5, "add", "(IIII)I"⟩
abbrev cX5_takeAfter : ByteArray := prog_7_method_6_code
def yX5_takeAfter : MethodName := ⟨RX5, "takeAfter", "(LFuneralDebts$Scene;)V"⟩
def RX6 : String := "FuneralDebts$Tape"
def TX6 : u_T := fun k => match k with
  | 0 => ("FuneralDebts$Tape", "sort", "I", false)
  | 1 => ("FuneralDebts$Tape", "length", "I", false)
  | _ => ("FuneralDebts$Tape", "items", "[J", true)
def tyX6 : Nat → FieldType := fun k => match k with
  | 0 => .int
  | 1 => .int
  | _ => .array .long
abbrev wsX60 : List Cond := u_ws RX6 TX6 3
theorem nmX6 : ∀ a, a < 3 → ∀ b, b < 3 → a ≠ b → (TX6 a).2.1 ≠ (TX6 b).2.1 := by decide +kernel
theorem tyX6_ok : ∀ k, k < 3 → parseFieldDescriptor (TX6 k).2.2.1 = some (tyX6 k) := by decide +kernel
abbrev cX6_init : ByteArray := prog_8_method_1_code
def yX6_init : MethodName := ⟨RX6, "<init>", "()V"⟩
abbrev cX6_holdsRow : ByteArray := prog_8_method_2_code
def yX6_holdsRow : MethodName := ⟨RX6, "holdsRow", "()Z"⟩
abbrev cX6_become : ByteArray := prog_8_method_3_code
def yX6_become : MethodName := ⟨RX6, "become", "(II)V"⟩
abbrev cX6_itemAt : ByteArray := prog_8_method_4_code
def yX6_itemAt : MethodName := ⟨RX6, "itemAt", "(I)J"⟩
abbrev cX6_store : ByteArray := prog_8_method_5_code
def yX6_store : MethodName := ⟨RX6, "store", "(IJ)Z"⟩
abbrev cX6_hasPlaces : ByteArray := prog_8_method_6_code
def yX6_hasPlaces : MethodName := ⟨RX6, "hasPlaces", "(II)Z"⟩
abbrev cX6_fitted : ByteArray := prog_8_method_7_code
def yX6_fitted : MethodName := ⟨RX6, "fitted", "(J)J"⟩
def RX7 : String := "FuneralDebts"
def TX7 : u_T := fun k => match k with
  | 0 => ("FuneralDebts", "now", "LFuneralDebts$Scene;", true)
  | 1 => ("FuneralDebts", "later", "LFuneralDebts$Scene;", true)
  | 2 => ("FuneralDebts", "image", "LFuneralDebts$Scene;", true)
  | 3 => ("FuneralDebts", "imageTaken", "Z", false)
  | 4 => ("FuneralDebts", "reader", "LFuneralDebts$Reader;", true)
  | 5 => ("FuneralDebts", "parishes", "[LFuneralDebts$Parish;", true)
  | 6 => ("FuneralDebts", "parishCount", "I", false)
  | 7 => ("FuneralDebts", "noParish", "LFuneralDebts$Parish;", true)
  | 8 => ("FuneralDebts", "reckoner", "LFuneralDebts$Reckoner;", true)
  | 9 => ("FuneralDebts", "actor", "LFuneralDebts$Actor;", true)
  | _ => ("FuneralDebts", "tapes", "[LFuneralDebts$Tape;", true)
def tyX7 : Nat → FieldType := fun k => match k with
  | 0 => .object "FuneralDebts$Scene"
  | 1 => .object "FuneralDebts$Scene"
  | 2 => .object "FuneralDebts$Scene"
  | 3 => .boolean
  | 4 => .object "FuneralDebts$Reader"
  | 5 => .array (.object "FuneralDebts$Parish")
  | 6 => .int
  | 7 => .object "FuneralDebts$Parish"
  | 8 => .object "FuneralDebts$Reckoner"
  | 9 => .object "FuneralDebts$Actor"
  | _ => .array (.object "FuneralDebts$Tape")
abbrev wsX70 : List Cond := u_ws RX7 TX7 11
theorem nmX7 : ∀ a, a < 11 → ∀ b, b < 11 → a ≠ b → (TX7 a).2.1 ≠ (TX7 b).2.1 := by decide +kernel
theorem tyX7_ok : ∀ k, k < 11 → parseFieldDescriptor (TX7 k).2.2.1 = some (tyX7 k) := by decide +kernel
abbrev cX7_init : ByteArray := prog_1_method_1_code
def yX7_init : MethodName := ⟨RX7, "<init>", "()V"⟩
abbrev cX7_mourner : ByteArray := prog_1_method_2_code
def yX7_mourner : MethodName := ⟨RX7, "mourner", "(IIII)I"⟩
abbrev cX7_of : ByteArray := prog_1_method_3_code
def yX7_of : MethodName := ⟨RX7, "of", "(II)I"⟩
abbrev cX7_reckonedOf : ByteArray := prog_1_method_4_code
def yX7_reckonedOf : MethodName := ⟨RX7, "reckonedOf", "(II)I"⟩
abbrev cX7_set : ByteArray := prog_1_method_5_code
def yX7_set : MethodName := ⟨RX7, "set", "(III)I"⟩
abbrev cX7_away : ByteArray := prog_1_method_6_code
def yX7_away : MethodName := ⟨RX7, "away", "(IZ)I"⟩
abbrev cX7_debt : ByteArray := prog_1_method_7_code
def yX7_debt : MethodName := ⟨RX7, "debt", "(I)I"⟩
abbrev cX7_row : ByteArray := prog_1_method_8_code
def yX7_row : MethodName := ⟨RX7, "row", "(III)I"⟩
abbrev cX7_feed : ByteArray := prog_1_method_9_code
def yX7_feed : MethodName := ⟨RX7, "feed", "(I)I"⟩
abbrev cX7_parish : ByteArray := prog_1_method_10_code
def yX7_parish : MethodName := ⟨RX7, "parish", "()I"⟩
abbrev cX7_told : ByteArray := prog_1_method_11_code
def yX7_told : MethodName := ⟨RX7, "told", "(I)I"⟩
abbrev cX7_parishAt : ByteArray := prog_1_method_12_code
def yX7_parishAt : MethodName := ⟨RX7, "parishAt", "(I)LFuneralDebts$Parish;"⟩
abbrev cX7_held : ByteArray := prog_1_method_13_code
def yX7_held : MethodName := ⟨RX7, "held", "()LFuneralDebts$Parish;"⟩
abbrev cX7_pass : ByteArray := prog_1_method_14_code
def yX7_pass : MethodName := ⟨RX7, "pass", "(I)I"⟩
abbrev cX7_on : ByteArray := prog_1_method_15_code
def yX7_on : MethodName := ⟨RX7, "on", "(II)I"⟩
abbrev cX7_kept : ByteArray := prog_1_method_16_code
def yX7_kept : MethodName := ⟨RX7, "kept", "(II)I"⟩
abbrev cX7_still : ByteArray := prog_1_method_17_code
def yX7_still : MethodName := ⟨RX7, "still", "()I"⟩
abbrev cX7_gains : ByteArray := prog_1_method_18_code
def yX7_gains : MethodName := ⟨RX7, "gains", "()I"⟩
abbrev cX7_see : ByteArray := prog_1_method_19_code
def yX7_see : MethodName := ⟨RX7, "see", "(II)I"⟩
abbrev cX7_can : ByteArray := prog_1_method_20_code
def yX7_can : MethodName := ⟨RX7, "can", "(II)I"⟩
abbrev cX7_owed : ByteArray := prog_1_method_21_code
def yX7_owed : MethodName := ⟨RX7, "owed", "(Z)I"⟩
abbrev cX7_odds : ByteArray := prog_1_method_22_code
def yX7_odds : MethodName := ⟨RX7, "odds", "(II)J"⟩
abbrev cX7_mean : ByteArray := prog_1_method_23_code
def yX7_mean : MethodName := ⟨RX7, "mean", "(I)J"⟩
abbrev cX7_fraction : ByteArray := prog_1_method_24_code
def yX7_fraction : MethodName := ⟨RX7, "fraction", "(III)J"⟩
abbrev cX7_plan : ByteArray := prog_1_method_25_code
def yX7_plan : MethodName := ⟨RX7, "plan", "(II)I"⟩
abbrev cX7_ends : ByteArray := prog_1_method_26_code
def yX7_ends : MethodName := ⟨RX7, "ends", "(I)I"⟩
abbrev cX7_goStep : ByteArray := prog_1_method_27_code
def yX7_goStep : MethodName := ⟨RX7, "goStep", "(II)V"⟩
abbrev cX7_book : ByteArray := prog_1_method_28_code
def yX7_book : MethodName := ⟨RX7, "book", "(II)I"⟩
abbrev cX7_looked : ByteArray := prog_1_method_29_code
def yX7_looked : MethodName := ⟨RX7, "looked", "()I"⟩
abbrev cX7_judge : ByteArray := prog_1_method_30_code
def yX7_judge : MethodName := ⟨RX7, "judge", "(II)I"⟩
abbrev cX7_image : ByteArray := prog_1_method_31_code
def yX7_image : MethodName := ⟨RX7, "image", "()I"⟩
abbrev cX7_undo : ByteArray := prog_1_method_32_code
def yX7_undo : MethodName := ⟨RX7, "undo", "()I"⟩
abbrev cX7_act : ByteArray := prog_1_method_33_code
def yX7_act : MethodName := ⟨RX7, "act", "(III)I"⟩
abbrev cX7_trace : ByteArray := prog_1_method_34_code
def yX7_trace : MethodName := ⟨RX7, "trace", "(I)I"⟩
abbrev cX7_taken : ByteArray := prog_1_method_35_code
def yX7_taken : MethodName := ⟨RX7, "taken", "(II)I"⟩
abbrev cX7_count : ByteArray := prog_1_method_36_code
def yX7_count : MethodName := ⟨RX7, "count", "(I)I"⟩
abbrev cX7_tape : ByteArray := prog_1_method_37_code
def yX7_tape : MethodName := ⟨RX7, "tape", "(III)I"⟩
abbrev cX7_item : ByteArray := prog_1_method_38_code
def yX7_item : MethodName := ⟨RX7, "item", "(IIJ)I"⟩
abbrev cX7_read : ByteArray := prog_1_method_39_code
def yX7_read : MethodName := ⟨RX7, "read", "(II)J"⟩
abbrev cX7_shift : ByteArray := prog_1_method_40_code
def yX7_shift : MethodName := ⟨RX7, "shift", "(IIIII)I"⟩
abbrev cX7_tapeAt : ByteArray := prog_1_method_41_code
def yX7_tapeAt : MethodName := ⟨RX7, "tapeAt", "(I)LFuneralDebts$Tape;"⟩
abbrev cX7_within : ByteArray := prog_1_method_42_code
def yX7_within : MethodName := ⟨RX7, "within", "(II)Z"⟩
abbrev cX7_at : ByteArray := prog_1_method_43_code
def yX7_at : MethodName := ⟨RX7, "at", "([II)I"⟩
abbrev cX7_put : ByteArray := prog_1_method_44_code
def yX7_put : MethodName := ⟨RX7, "put", "([III)V"⟩
abbrev cX7_copyRow : ByteArray := prog_1_method_45_code
def yX7_copyRow : MethodName := ⟨RX7, "copyRow", "([I[I)V"⟩
def RX8 : String := "FuneralDebtsModel"
def TX8 : u_T := fun k => match k with
  | 0 => ("FuneralDebtsModel", "now", "[I", true)
  | 1 => ("FuneralDebtsModel", "minds", "[I", true)
  | 2 => ("FuneralDebtsModel", "then", "[I", true)
  | 3 => ("FuneralDebtsModel", "kept", "Z", false)
  | 4 => ("FuneralDebtsModel", "text", "[I", true)
  | 5 => ("FuneralDebtsModel", "texted", "I", false)
  | 6 => ("FuneralDebtsModel", "rules", "[I", true)
  | 7 => ("FuneralDebtsModel", "sizes", "[I", true)
  | 8 => ("FuneralDebtsModel", "ruled", "I", false)
  | 9 => ("FuneralDebtsModel", "read", "[I", true)
  | 10 => ("FuneralDebtsModel", "size", "I", false)
  | 11 => ("FuneralDebtsModel", "at", "I", false)
  | 12 => ("FuneralDebtsModel", "well", "Z", false)
  | 13 => ("FuneralDebtsModel", "within", "I", false)
  | 14 => ("FuneralDebtsModel", "sum", "I", false)
  | 15 => ("FuneralDebtsModel", "fall", "I", false)
  | 16 => ("FuneralDebtsModel", "names", "[I", true)
  | 17 => ("FuneralDebtsModel", "letters", "[C", true)
  | 18 => ("FuneralDebtsModel", "begins", "[C", true)
  | 19 => ("FuneralDebtsModel", "words", "[C", true)
  | 20 => ("FuneralDebtsModel", "rates", "[I", true)
  | 21 => ("FuneralDebtsModel", "shares", "[I", true)
  | 22 => ("FuneralDebtsModel", "worthThen", "[I", true)
  | 23 => ("FuneralDebtsModel", "above", "[I", true)
  | 24 => ("FuneralDebtsModel", "bodies", "[I", true)
  | 25 => ("FuneralDebtsModel", "trace", "[I", true)
  | 26 => ("FuneralDebtsModel", "ran", "I", false)
  | 27 => ("FuneralDebtsModel", "sorts", "[I", true)
  | 28 => ("FuneralDebtsModel", "lengths", "[I", true)
  | 29 => ("FuneralDebtsModel", "items", "[J", true)
  | _ => ("FuneralDebtsModel", "moved", "[J", true)
def tyX8 : Nat → FieldType := fun k => match k with
  | 0 => .array .int
  | 1 => .array .int
  | 2 => .array .int
  | 3 => .boolean
  | 4 => .array .int
  | 5 => .int
  | 6 => .array .int
  | 7 => .array .int
  | 8 => .int
  | 9 => .array .int
  | 10 => .int
  | 11 => .int
  | 12 => .boolean
  | 13 => .int
  | 14 => .int
  | 15 => .int
  | 16 => .array .int
  | 17 => .array .char
  | 18 => .array .char
  | 19 => .array .char
  | 20 => .array .int
  | 21 => .array .int
  | 22 => .array .int
  | 23 => .array .int
  | 24 => .array .int
  | 25 => .array .int
  | 26 => .int
  | 27 => .array .int
  | 28 => .array .int
  | 29 => .array .long
  | _ => .array .long
abbrev wsX80 : List Cond := u_ws RX8 TX8 31
theorem nmX8 : ∀ a, a < 31 → ∀ b, b < 31 → a ≠ b → (TX8 a).2.1 ≠ (TX8 b).2.1 := by decide +kernel
theorem tyX8_ok : ∀ k, k < 31 → parseFieldDescriptor (TX8 k).2.2.1 = some (tyX8 k) := by decide +kernel
abbrev cX8_init : ByteArray := prog_10_method_1_code
def yX8_init : MethodName := ⟨RX8, "<init>", "()V"⟩
abbrev cX8_isIn : ByteArray := prog_10_method_2_code
def yX8_isIn : MethodName := ⟨RX8, "isIn", "(III)Z"⟩
abbrev cX8_fresh : ByteArray := prog_10_method_3_code
def yX8_fresh : MethodName := ⟨RX8, "fresh", "()[I"⟩
abbrev cX8_keep : ByteArray := prog_10_method_4_code
def yX8_keep : MethodName := ⟨RX8, "keep", "(I)V"⟩
abbrev cX8_lay : ByteArray := prog_10_method_5_code
def yX8_lay : MethodName := ⟨RX8, "lay", "(I)V"⟩
abbrev cX8_image : ByteArray := prog_10_method_6_code
def yX8_image : MethodName := ⟨RX8, "image", "()I"⟩
abbrev cX8_undo : ByteArray := prog_10_method_7_code
def yX8_undo : MethodName := ⟨RX8, "undo", "()I"⟩
abbrev cX8_isOne : ByteArray := prog_10_method_8_code
def yX8_isOne : MethodName := ⟨RX8, "isOne", "(I)Z"⟩
abbrev cX8_isYard : ByteArray := prog_10_method_9_code
def yX8_isYard : MethodName := ⟨RX8, "isYard", "(I)Z"⟩
abbrev cX8_one : ByteArray := prog_10_method_10_code
def yX8_one : MethodName := ⟨RX8, "one", "(II)I"⟩
abbrev cX8_change : ByteArray := prog_10_method_11_code
def yX8_change : MethodName := ⟨RX8, "change", "(III)I"⟩
abbrev cX8_isHere : ByteArray := prog_10_method_12_code
def yX8_isHere : MethodName := ⟨RX8, "isHere", "(I)Z"⟩
abbrev cX8_mourner : ByteArray := prog_10_method_13_code
def yX8_mourner : MethodName := ⟨RX8, "mourner", "(IIII)I"⟩
abbrev cX8_of : ByteArray := prog_10_method_14_code
def yX8_of : MethodName := ⟨RX8, "of", "(II)I"⟩
abbrev cX8_set : ByteArray := prog_10_method_15_code
def yX8_set : MethodName := ⟨RX8, "set", "(III)I"⟩
abbrev cX8_away : ByteArray := prog_10_method_16_code
def yX8_away : MethodName := ⟨RX8, "away", "(IZ)I"⟩
abbrev cX8_debt : ByteArray := prog_10_method_17_code
def yX8_debt : MethodName := ⟨RX8, "debt", "(I)I"⟩
abbrev cX8_row : ByteArray := prog_10_method_18_code
def yX8_row : MethodName := ⟨RX8, "row", "(III)I"⟩
abbrev cX8_feed : ByteArray := prog_10_method_19_code
def yX8_feed : MethodName := ⟨RX8, "feed", "(I)I"⟩
abbrev cX8_isAt : ByteArray := prog_10_method_20_code
def yX8_isAt : MethodName := ⟨RX8, "isAt", "(I)Z"⟩
abbrev cX8_takes : ByteArray := prog_10_method_21_code
def yX8_takes : MethodName := ⟨RX8, "takes", "(I)V"⟩
abbrev cX8_isDigit : ByteArray := prog_10_method_22_code
def yX8_isDigit : MethodName := ⟨RX8, "isDigit", "()Z"⟩
abbrev cX8_number : ByteArray := prog_10_method_23_code
def yX8_number : MethodName := ⟨RX8, "number", "()I"⟩
abbrev cX8_test : ByteArray := prog_10_method_24_code
def yX8_test : MethodName := ⟨RX8, "test", "()Z"⟩
abbrev cX8_factor : ByteArray := prog_10_method_25_code
def yX8_factor : MethodName := ⟨RX8, "factor", "()Z"⟩
abbrev cX8_both : ByteArray := prog_10_method_26_code
def yX8_both : MethodName := ⟨RX8, "both", "()Z"⟩
abbrev cX8_any : ByteArray := prog_10_method_27_code
def yX8_any : MethodName := ⟨RX8, "any", "()Z"⟩
abbrev cX8_clause : ByteArray := prog_10_method_28_code
def yX8_clause : MethodName := ⟨RX8, "clause", "()V"⟩
abbrev cX8_readAll : ByteArray := prog_10_method_29_code
def yX8_readAll : MethodName := ⟨RX8, "readAll", "()Z"⟩
abbrev cX8_readFor : ByteArray := prog_10_method_30_code
def yX8_readFor : MethodName := ⟨RX8, "readFor", "(II)V"⟩
abbrev cX8_parish : ByteArray := prog_10_method_31_code
def yX8_parish : MethodName := ⟨RX8, "parish", "()I"⟩
abbrev cX8_rate : ByteArray := prog_10_method_32_code
def yX8_rate : MethodName := ⟨RX8, "rate", "(II)I"⟩
abbrev cX8_share : ByteArray := prog_10_method_33_code
def yX8_share : MethodName := ⟨RX8, "share", "()V"⟩
abbrev cX8_worth : ByteArray := prog_10_method_34_code
def yX8_worth : MethodName := ⟨RX8, "worth", "(II)I"⟩
abbrev cX8_best : ByteArray := prog_10_method_35_code
def yX8_best : MethodName := ⟨RX8, "best", "(I)I"⟩
abbrev cX8_moves : ByteArray := prog_10_method_36_code
def yX8_moves : MethodName := ⟨RX8, "moves", "()I"⟩
abbrev cX8_day : ByteArray := prog_10_method_37_code
def yX8_day : MethodName := ⟨RX8, "day", "(Z)I"⟩
abbrev cX8_still : ByteArray := prog_10_method_38_code
def yX8_still : MethodName := ⟨RX8, "still", "()I"⟩
abbrev cX8_gains : ByteArray := prog_10_method_39_code
def yX8_gains : MethodName := ⟨RX8, "gains", "()I"⟩
abbrev cX8_aways : ByteArray := prog_10_method_40_code
def yX8_aways : MethodName := ⟨RX8, "aways", "()I"⟩
abbrev cX8_told : ByteArray := prog_10_method_41_code
def yX8_told : MethodName := ⟨RX8, "told", "(I)I"⟩
abbrev cX8_pass : ByteArray := prog_10_method_42_code
def yX8_pass : MethodName := ⟨RX8, "pass", "(I)I"⟩
abbrev cX8_on : ByteArray := prog_10_method_43_code
def yX8_on : MethodName := ⟨RX8, "on", "(II)I"⟩
abbrev cX8_many : ByteArray := prog_10_method_44_code
def yX8_many : MethodName := ⟨RX8, "many", "(I)I"⟩
abbrev cX8_kept : ByteArray := prog_10_method_45_code
def yX8_kept : MethodName := ⟨RX8, "kept", "(II)I"⟩
abbrev cX8_see : ByteArray := prog_10_method_46_code
def yX8_see : MethodName := ⟨RX8, "see", "(II)I"⟩
abbrev cX8_isAllSeen : ByteArray := prog_10_method_47_code
def yX8_isAllSeen : MethodName := ⟨RX8, "isAllSeen", "()Z"⟩
abbrev cX8_owed : ByteArray := prog_10_method_48_code
def yX8_owed : MethodName := ⟨RX8, "owed", "(Z)I"⟩
abbrev cX8_can : ByteArray := prog_10_method_49_code
def yX8_can : MethodName := ⟨RX8, "can", "(II)I"⟩
abbrev cX8_fraction : ByteArray := prog_10_method_50_code
def yX8_fraction : MethodName := ⟨RX8, "fraction", "(JJI)J"⟩
abbrev cX8_odds : ByteArray := prog_10_method_51_code
def yX8_odds : MethodName := ⟨RX8, "odds", "(II)J"⟩
abbrev cX8_mean : ByteArray := prog_10_method_52_code
def yX8_mean : MethodName := ⟨RX8, "mean", "(I)J"⟩
abbrev cX8_plan : ByteArray := prog_10_method_53_code
def yX8_plan : MethodName := ⟨RX8, "plan", "(II)I"⟩
abbrev cX8_ends : ByteArray := prog_10_method_54_code
def yX8_ends : MethodName := ⟨RX8, "ends", "(I)I"⟩
abbrev cX8_book : ByteArray := prog_10_method_55_code
def yX8_book : MethodName := ⟨RX8, "book", "(II)I"⟩
abbrev cX8_looked : ByteArray := prog_10_method_56_code
def yX8_looked : MethodName := ⟨RX8, "looked", "()I"⟩
abbrev cX8_body : ByteArray := prog_10_method_57_code
def yX8_body : MethodName := ⟨RX8, "body", "(I)I"⟩
abbrev cX8_all : ByteArray := prog_10_method_58_code
def yX8_all : MethodName := ⟨RX8, "all", "(III)I"⟩
abbrev cX8_byKind : ByteArray := prog_10_method_59_code
def yX8_byKind : MethodName := ⟨RX8, "byKind", "(IIII)I"⟩
abbrev cX8_act : ByteArray := prog_10_method_60_code
def yX8_act : MethodName := ⟨RX8, "act", "(III)I"⟩
abbrev cX8_trace : ByteArray := prog_10_method_61_code
def yX8_trace : MethodName := ⟨RX8, "trace", "(I)I"⟩
abbrev cX8_taken : ByteArray := prog_10_method_62_code
def yX8_taken : MethodName := ⟨RX8, "taken", "(II)I"⟩
abbrev cX8_count : ByteArray := prog_10_method_63_code
def yX8_count : MethodName := ⟨RX8, "count", "(I)I"⟩
abbrev cX8_isTape : ByteArray := prog_10_method_64_code
def yX8_isTape : MethodName := ⟨RX8, "isTape", "(I)Z"⟩
abbrev cX8_tape : ByteArray := prog_10_method_65_code
def yX8_tape : MethodName := ⟨RX8, "tape", "(III)I"⟩
abbrev cX8_item : ByteArray := prog_10_method_66_code
def yX8_item : MethodName := ⟨RX8, "item", "(IIJ)I"⟩
abbrev cX8_read : ByteArray := prog_10_method_67_code
def yX8_read : MethodName := ⟨RX8, "read", "(II)J"⟩
abbrev cX8_shift : ByteArray := prog_10_method_68_code
def yX8_shift : MethodName := ⟨RX8, "shift", "(IIIII)I"⟩
abbrev cX8_judge : ByteArray := prog_10_method_69_code
def yX8_judge : MethodName := ⟨RX8, "judge", "(II)I"⟩
def RJ6 : String := "java/lang/Integer"
def TJ6 : u_T := fun k => match k with
  | _ => ("", "", "", false)
def tyJ6 : Nat → FieldType := fun k => match k with
  | _ => .int
abbrev wsJ60 : List Cond := u_ws RJ6 TJ6 0
theorem nmJ6 : ∀ a, a < 0 → ∀ b, b < 0 → a ≠ b → (TJ6 a).2.1 ≠ (TJ6 b).2.1 := by decide +kernel
theorem tyJ6_ok : ∀ k, k < 0 → parseFieldDescriptor (TJ6 k).2.2.1 = some (tyJ6 k) := by decide +kernel
abbrev cJ6_bitCount_0f7a4 : ByteArray := prog_11_method_49_code
def yJ6_bitCount_0f7a4 : MethodName := ⟨RJ6, "bitCount", "(I)I"⟩
def RJ9 : String := "java/lang/Math"
def TJ9 : u_T := fun k => match k with
  | _ => ("", "", "", false)
def tyJ9 : Nat → FieldType := fun k => match k with
  | _ => .int
abbrev wsJ90 : List Cond := u_ws RJ9 TJ9 0
theorem nmJ9 : ∀ a, a < 0 → ∀ b, b < 0 → a ≠ b → (TJ9 a).2.1 ≠ (TJ9 b).2.1 := by decide +kernel
theorem tyJ9_ok : ∀ k, k < 0 → parseFieldDescriptor (TJ9 k).2.2.1 = some (tyJ9 k) := by decide +kernel
abbrev cJ9_max_7cf53 : ByteArray := prog_12_method_65_code
def yJ9_max_7cf53 : MethodName := ⟨RJ9, "max", "(II)I"⟩
abbrev cJ9_min_7cf53 : ByteArray := prog_12_method_69_code
def yJ9_min_7cf53 : MethodName := ⟨RJ9, "min", "(II)I"⟩
def RJ0 : String := "java/lang/String"
def TJ0 : u_T := fun k => match k with
  | _ => ("", "", "", false)
def tyJ0 : Nat → FieldType := fun k => match k with
  | _ => .int
abbrev wsJ00 : List Cond := u_ws RJ0 TJ0 0
theorem nmJ0 : ∀ a, a < 0 → ∀ b, b < 0 → a ≠ b → (TJ0 a).2.1 ≠ (TJ0 b).2.1 := by decide +kernel
theorem tyJ0_ok : ∀ k, k < 0 → parseFieldDescriptor (TJ0 k).2.2.1 = some (tyJ0 k) := by decide +kernel
abbrev cJ0_length_8abf5 : ByteArray := prog_13_method_54_code
def yJ0_length_8abf5 : MethodName := ⟨RJ0, "length", "()I"⟩
abbrev cJ0_charAt_5068e : ByteArray := prog_13_method_56_code
def yJ0_charAt_5068e : MethodName := ⟨RJ0, "charAt", "(I)C"⟩
abbrev cJ0_coder_7d493 : ByteArray := prog_13_method_152_code
def yJ0_coder_7d493 : MethodName := ⟨RJ0, "coder", "()B"⟩
abbrev cJ0_isLatin1_aae02 : ByteArray := prog_13_method_154_code
def yJ0_isLatin1_aae02 : MethodName := ⟨RJ0, "isLatin1", "()Z"⟩
abbrev cJ0_checkIndex_df160 : ByteArray := prog_13_method_155_code
def yJ0_checkIndex_df160 : MethodName := ⟨RJ0, "checkIndex", "(II)V"⟩
def RJ1 : String := "java/lang/StringLatin1"
def TJ1 : u_T := fun k => match k with
  | _ => ("", "", "", false)
def tyJ1 : Nat → FieldType := fun k => match k with
  | _ => .int
abbrev wsJ10 : List Cond := u_ws RJ1 TJ1 0
theorem nmJ1 : ∀ a, a < 0 → ∀ b, b < 0 → a ≠ b → (TJ1 a).2.1 ≠ (TJ1 b).2.1 := by decide +kernel
theorem tyJ1_ok : ∀ k, k < 0 → parseFieldDescriptor (TJ1 k).2.2.1 = some (tyJ1 k) := by decide +kernel
abbrev cJ1_charAt_3b067 : ByteArray := prog_14_method_2_code
def yJ1_charAt_3b067 : MethodName := ⟨RJ1, "charAt", "([BI)C"⟩
def RJ2 : String := "java/lang/StringUTF16"
def TJ2 : u_T := fun k => match k with
  | _ => ("", "", "", false)
def tyJ2 : Nat → FieldType := fun k => match k with
  | _ => .int
abbrev wsJ20 : List Cond := u_ws RJ2 TJ2 0
theorem nmJ2 : ∀ a, a < 0 → ∀ b, b < 0 → a ≠ b → (TJ2 a).2.1 ≠ (TJ2 b).2.1 := by decide +kernel
theorem tyJ2_ok : ∀ k, k < 0 → parseFieldDescriptor (TJ2 k).2.2.1 = some (tyJ2 k) := by decide +kernel
abbrev cJ2_getChar_3b067 : ByteArray := prog_15_method_5_code
def yJ2_getChar_3b067 : MethodName := ⟨RJ2, "getChar", "([BI)C"⟩
abbrev cJ2_length_9d52b : ByteArray := prog_15_method_6_code
def yJ2_length_9d52b : MethodName := ⟨RJ2, "length", "([B)I"⟩
abbrev cJ2_charAt_3b067 : ByteArray := prog_15_method_83_code
def yJ2_charAt_3b067 : MethodName := ⟨RJ2, "charAt", "([BI)C"⟩
abbrev cJ2_checkIndex_2214a : ByteArray := prog_15_method_91_code
def yJ2_checkIndex_2214a : MethodName := ⟨RJ2, "checkIndex", "(I[B)V"⟩
def RJ10 : String := "java/lang/System"
def TJ10 : u_T := fun k => match k with
  | _ => ("", "", "", false)
def tyJ10 : Nat → FieldType := fun k => match k with
  | _ => .int
abbrev wsJ100 : List Cond := u_ws RJ10 TJ10 0
theorem nmJ10 : ∀ a, a < 0 → ∀ b, b < 0 → a ≠ b → (TJ10 a).2.1 ≠ (TJ10 b).2.1 := by decide +kernel
theorem tyJ10_ok : ∀ k, k < 0 → parseFieldDescriptor (TJ10 k).2.2.1 = some (tyJ10 k) := by decide +kernel
def RJ3 : String := "jdk/internal/util/Preconditions"
def TJ3 : u_T := fun k => match k with
  | _ => ("", "", "", false)
def tyJ3 : Nat → FieldType := fun k => match k with
  | _ => .int
abbrev wsJ30 : List Cond := u_ws RJ3 TJ3 0
theorem nmJ3 : ∀ a, a < 0 → ∀ b, b < 0 → a ≠ b → (TJ3 a).2.1 ≠ (TJ3 b).2.1 := by decide +kernel
theorem tyJ3_ok : ∀ k, k < 0 → parseFieldDescriptor (TJ3 k).2.2.1 = some (tyJ3 k) := by decide +kernel
abbrev cJ3_checkIndex_8e157 : ByteArray := prog_17_method_11_code
def yJ3_checkIndex_8e157 : MethodName := ⟨RJ3, "checkIndex", "(IILjava/util/function/BiFunction;)I"⟩
def RL : String := "FuneralDebtsLaw"
abbrev cL_law : ByteArray := code
def yL_law : MethodName := ⟨RL, "law", "([I)Z"⟩
