section
-- ===== PART A: goes FIRST, ahead of the names: the tables' words, and 'selects' of the private methods out of them =====
/-- a private method of a class that the tables say can be made, by its rows of tables_1 -/
def lw_okq (q : MethodName × Nat) : Prop := (q.1.cls ≠ "java/lang/invoke/MethodHandle" ∧ q.1.cls ≠ "java/lang/invoke/VarHandle") ∧ Cond.instantiable q.1.cls q.2 ∈ tables_1 ∧ Cond.privateMethod q.1 ∈ tables_1 ∧ Cond.instanceMethod q.1 ∈ tables_1
theorem lw_p0 : lw_okq (⟨"FuneralDebts", "reckonedOf", "(II)I"⟩, 13) := ⟨⟨by decide +kernel, by decide +kernel⟩, List.mem_of_getElem? (i := 18) (by decide +kernel), List.mem_of_getElem? (i := 324) (by decide +kernel), List.mem_of_getElem? (i := 325) (by decide +kernel)⟩
theorem lw_p1 : lw_okq (⟨"FuneralDebts", "held", "()LFuneralDebts$Parish;"⟩, 13) := ⟨⟨by decide +kernel, by decide +kernel⟩, List.mem_of_getElem? (i := 18) (by decide +kernel), List.mem_of_getElem? (i := 328) (by decide +kernel), List.mem_of_getElem? (i := 329) (by decide +kernel)⟩
theorem lw_p2 : lw_okq (⟨"FuneralDebts", "parishAt", "(I)LFuneralDebts$Parish;"⟩, 13) := ⟨⟨by decide +kernel, by decide +kernel⟩, List.mem_of_getElem? (i := 18) (by decide +kernel), List.mem_of_getElem? (i := 332) (by decide +kernel), List.mem_of_getElem? (i := 333) (by decide +kernel)⟩
theorem lw_p3 : lw_okq (⟨"FuneralDebts$Parish", "holdsFrom", "(II[I)Z"⟩, 8) := ⟨⟨by decide +kernel, by decide +kernel⟩, List.mem_of_getElem? (i := 137) (by decide +kernel), List.mem_of_getElem? (i := 347) (by decide +kernel), List.mem_of_getElem? (i := 348) (by decide +kernel)⟩
theorem lw_p4 : lw_okq (⟨"FuneralDebts$Reckoner", "pays", "(LFuneralDebts$Scene;IIII)I"⟩, 3) := ⟨⟨by decide +kernel, by decide +kernel⟩, List.mem_of_getElem? (i := 194) (by decide +kernel), List.mem_of_getElem? (i := 361) (by decide +kernel), List.mem_of_getElem? (i := 362) (by decide +kernel)⟩
theorem lw_p5 : lw_okq (⟨"FuneralDebts$Reader", "advance", "()V"⟩, 6) := ⟨⟨by decide +kernel, by decide +kernel⟩, List.mem_of_getElem? (i := 131) (by decide +kernel), List.mem_of_getElem? (i := 418) (by decide +kernel), List.mem_of_getElem? (i := 419) (by decide +kernel)⟩
theorem lw_p6 : lw_okq (⟨"FuneralDebts$Reader", "readClause", "()Z"⟩, 6) := ⟨⟨by decide +kernel, by decide +kernel⟩, List.mem_of_getElem? (i := 131) (by decide +kernel), List.mem_of_getElem? (i := 422) (by decide +kernel), List.mem_of_getElem? (i := 423) (by decide +kernel)⟩
theorem lw_p7 : lw_okq (⟨"FuneralDebts$Reader", "readWord", "(Ljava/lang/String;)Z"⟩, 6) := ⟨⟨by decide +kernel, by decide +kernel⟩, List.mem_of_getElem? (i := 131) (by decide +kernel), List.mem_of_getElem? (i := 429) (by decide +kernel), List.mem_of_getElem? (i := 430) (by decide +kernel)⟩
theorem lw_p8 : lw_okq (⟨"FuneralDebts$Reader", "readNumber", "()Z"⟩, 6) := ⟨⟨by decide +kernel, by decide +kernel⟩, List.mem_of_getElem? (i := 131) (by decide +kernel), List.mem_of_getElem? (i := 481) (by decide +kernel), List.mem_of_getElem? (i := 482) (by decide +kernel)⟩
theorem lw_p9 : lw_okq (⟨"FuneralDebts$Reader", "readEither", "(I)Z"⟩, 6) := ⟨⟨by decide +kernel, by decide +kernel⟩, List.mem_of_getElem? (i := 131) (by decide +kernel), List.mem_of_getElem? (i := 486) (by decide +kernel), List.mem_of_getElem? (i := 487) (by decide +kernel)⟩
theorem lw_p10 : lw_okq (⟨"FuneralDebts$Reader", "readPart", "(I)Z"⟩, 6) := ⟨⟨by decide +kernel, by decide +kernel⟩, List.mem_of_getElem? (i := 131) (by decide +kernel), List.mem_of_getElem? (i := 490) (by decide +kernel), List.mem_of_getElem? (i := 491) (by decide +kernel)⟩
theorem lw_p11 : lw_okq (⟨"FuneralDebts$Reader", "readTest", "()Z"⟩, 6) := ⟨⟨by decide +kernel, by decide +kernel⟩, List.mem_of_getElem? (i := 131) (by decide +kernel), List.mem_of_getElem? (i := 494) (by decide +kernel), List.mem_of_getElem? (i := 495) (by decide +kernel)⟩
theorem lw_p12 : lw_okq (⟨"FuneralDebts", "still", "()I"⟩, 13) := ⟨⟨by decide +kernel, by decide +kernel⟩, List.mem_of_getElem? (i := 18) (by decide +kernel), List.mem_of_getElem? (i := 515) (by decide +kernel), List.mem_of_getElem? (i := 516) (by decide +kernel)⟩
theorem lw_p13 : lw_okq (⟨"FuneralDebts", "gains", "()I"⟩, 13) := ⟨⟨by decide +kernel, by decide +kernel⟩, List.mem_of_getElem? (i := 18) (by decide +kernel), List.mem_of_getElem? (i := 545) (by decide +kernel), List.mem_of_getElem? (i := 546) (by decide +kernel)⟩
theorem lw_p14 : lw_okq (⟨"FuneralDebts", "owed", "(Z)I"⟩, 13) := ⟨⟨by decide +kernel, by decide +kernel⟩, List.mem_of_getElem? (i := 18) (by decide +kernel), List.mem_of_getElem? (i := 549) (by decide +kernel), List.mem_of_getElem? (i := 550) (by decide +kernel)⟩
theorem lw_p15 : lw_okq (⟨"FuneralDebts", "goStep", "(II)V"⟩, 13) := ⟨⟨by decide +kernel, by decide +kernel⟩, List.mem_of_getElem? (i := 18) (by decide +kernel), List.mem_of_getElem? (i := 613) (by decide +kernel), List.mem_of_getElem? (i := 614) (by decide +kernel)⟩
def lw_privs_1 : List (MethodName × Nat) := [(⟨"FuneralDebts", "reckonedOf", "(II)I"⟩, 13), (⟨"FuneralDebts", "held", "()LFuneralDebts$Parish;"⟩, 13), (⟨"FuneralDebts", "parishAt", "(I)LFuneralDebts$Parish;"⟩, 13), (⟨"FuneralDebts$Parish", "holdsFrom", "(II[I)Z"⟩, 8), (⟨"FuneralDebts$Reckoner", "pays", "(LFuneralDebts$Scene;IIII)I"⟩, 3), (⟨"FuneralDebts$Reader", "advance", "()V"⟩, 6), (⟨"FuneralDebts$Reader", "readClause", "()Z"⟩, 6), (⟨"FuneralDebts$Reader", "readWord", "(Ljava/lang/String;)Z"⟩, 6), (⟨"FuneralDebts$Reader", "readNumber", "()Z"⟩, 6), (⟨"FuneralDebts$Reader", "readEither", "(I)Z"⟩, 6), (⟨"FuneralDebts$Reader", "readPart", "(I)Z"⟩, 6), (⟨"FuneralDebts$Reader", "readTest", "()Z"⟩, 6), (⟨"FuneralDebts", "still", "()I"⟩, 13), (⟨"FuneralDebts", "gains", "()I"⟩, 13), (⟨"FuneralDebts", "owed", "(Z)I"⟩, 13), (⟨"FuneralDebts", "goStep", "(II)V"⟩, 13)]
theorem lw_r1 : ∀ q ∈ lw_privs_1, lw_okq q := List.forall_mem_cons.mpr ⟨lw_p0, List.forall_mem_cons.mpr ⟨lw_p1, List.forall_mem_cons.mpr ⟨lw_p2, List.forall_mem_cons.mpr ⟨lw_p3, List.forall_mem_cons.mpr ⟨lw_p4, List.forall_mem_cons.mpr ⟨lw_p5, List.forall_mem_cons.mpr ⟨lw_p6, List.forall_mem_cons.mpr ⟨lw_p7, List.forall_mem_cons.mpr ⟨lw_p8, List.forall_mem_cons.mpr ⟨lw_p9, List.forall_mem_cons.mpr ⟨lw_p10, List.forall_mem_cons.mpr ⟨lw_p11, List.forall_mem_cons.mpr ⟨lw_p12, List.forall_mem_cons.mpr ⟨lw_p13, List.forall_mem_cons.mpr ⟨lw_p14, List.forall_mem_cons.mpr ⟨lw_p15, fun _ h => absurd h List.not_mem_nil⟩⟩⟩⟩⟩⟩⟩⟩⟩⟩⟩⟩⟩⟩⟩⟩
theorem lw_p16 : lw_okq (⟨"FuneralDebts", "tapeAt", "(I)LFuneralDebts$Tape;"⟩, 13) := ⟨⟨by decide +kernel, by decide +kernel⟩, List.mem_of_getElem? (i := 18) (by decide +kernel), List.mem_of_getElem? (i := 629) (by decide +kernel), List.mem_of_getElem? (i := 630) (by decide +kernel)⟩
theorem lw_p17 : lw_okq (⟨"FuneralDebts$Actor", "run", "(IIII)I"⟩, 5) := ⟨⟨by decide +kernel, by decide +kernel⟩, List.mem_of_getElem? (i := 210) (by decide +kernel), List.mem_of_getElem? (i := 663) (by decide +kernel), List.mem_of_getElem? (i := 664) (by decide +kernel)⟩
theorem lw_p18 : lw_okq (⟨"FuneralDebts$Tape", "fitted", "(J)J"⟩, 3) := ⟨⟨by decide +kernel, by decide +kernel⟩, List.mem_of_getElem? (i := 235) (by decide +kernel), List.mem_of_getElem? (i := 705) (by decide +kernel), List.mem_of_getElem? (i := 706) (by decide +kernel)⟩
theorem lw_p19 : lw_okq (⟨"FuneralDebtsModel", "change", "(III)I"⟩, 31) := ⟨⟨by decide +kernel, by decide +kernel⟩, List.mem_of_getElem? (i := 721) (by decide +kernel), List.mem_of_getElem? (i := 843) (by decide +kernel), List.mem_of_getElem? (i := 844) (by decide +kernel)⟩
theorem lw_p20 : lw_okq (⟨"FuneralDebtsModel", "one", "(II)I"⟩, 31) := ⟨⟨by decide +kernel, by decide +kernel⟩, List.mem_of_getElem? (i := 721) (by decide +kernel), List.mem_of_getElem? (i := 847) (by decide +kernel), List.mem_of_getElem? (i := 848) (by decide +kernel)⟩
theorem lw_p21 : lw_okq (⟨"FuneralDebtsModel", "isOne", "(I)Z"⟩, 31) := ⟨⟨by decide +kernel, by decide +kernel⟩, List.mem_of_getElem? (i := 721) (by decide +kernel), List.mem_of_getElem? (i := 855) (by decide +kernel), List.mem_of_getElem? (i := 856) (by decide +kernel)⟩
theorem lw_p22 : lw_okq (⟨"FuneralDebtsModel", "share", "()V"⟩, 31) := ⟨⟨by decide +kernel, by decide +kernel⟩, List.mem_of_getElem? (i := 721) (by decide +kernel), List.mem_of_getElem? (i := 859) (by decide +kernel), List.mem_of_getElem? (i := 860) (by decide +kernel)⟩
theorem lw_p23 : lw_okq (⟨"FuneralDebtsModel", "isHere", "(I)Z"⟩, 31) := ⟨⟨by decide +kernel, by decide +kernel⟩, List.mem_of_getElem? (i := 721) (by decide +kernel), List.mem_of_getElem? (i := 863) (by decide +kernel), List.mem_of_getElem? (i := 864) (by decide +kernel)⟩
theorem lw_p24 : lw_okq (⟨"FuneralDebtsModel", "rate", "(II)I"⟩, 31) := ⟨⟨by decide +kernel, by decide +kernel⟩, List.mem_of_getElem? (i := 721) (by decide +kernel), List.mem_of_getElem? (i := 867) (by decide +kernel), List.mem_of_getElem? (i := 868) (by decide +kernel)⟩
theorem lw_p25 : lw_okq (⟨"FuneralDebtsModel", "readFor", "(II)V"⟩, 31) := ⟨⟨by decide +kernel, by decide +kernel⟩, List.mem_of_getElem? (i := 721) (by decide +kernel), List.mem_of_getElem? (i := 871) (by decide +kernel), List.mem_of_getElem? (i := 872) (by decide +kernel)⟩
theorem lw_p26 : lw_okq (⟨"FuneralDebtsModel", "readAll", "()Z"⟩, 31) := ⟨⟨by decide +kernel, by decide +kernel⟩, List.mem_of_getElem? (i := 721) (by decide +kernel), List.mem_of_getElem? (i := 875) (by decide +kernel), List.mem_of_getElem? (i := 876) (by decide +kernel)⟩
theorem lw_p27 : lw_okq (⟨"FuneralDebtsModel", "clause", "()V"⟩, 31) := ⟨⟨by decide +kernel, by decide +kernel⟩, List.mem_of_getElem? (i := 721) (by decide +kernel), List.mem_of_getElem? (i := 879) (by decide +kernel), List.mem_of_getElem? (i := 880) (by decide +kernel)⟩
theorem lw_p28 : lw_okq (⟨"FuneralDebtsModel", "isAt", "(I)Z"⟩, 31) := ⟨⟨by decide +kernel, by decide +kernel⟩, List.mem_of_getElem? (i := 721) (by decide +kernel), List.mem_of_getElem? (i := 883) (by decide +kernel), List.mem_of_getElem? (i := 884) (by decide +kernel)⟩
theorem lw_p29 : lw_okq (⟨"FuneralDebtsModel", "takes", "(I)V"⟩, 31) := ⟨⟨by decide +kernel, by decide +kernel⟩, List.mem_of_getElem? (i := 721) (by decide +kernel), List.mem_of_getElem? (i := 887) (by decide +kernel), List.mem_of_getElem? (i := 888) (by decide +kernel)⟩
theorem lw_p30 : lw_okq (⟨"FuneralDebtsModel", "number", "()I"⟩, 31) := ⟨⟨by decide +kernel, by decide +kernel⟩, List.mem_of_getElem? (i := 721) (by decide +kernel), List.mem_of_getElem? (i := 891) (by decide +kernel), List.mem_of_getElem? (i := 892) (by decide +kernel)⟩
theorem lw_p31 : lw_okq (⟨"FuneralDebtsModel", "isDigit", "()Z"⟩, 31) := ⟨⟨by decide +kernel, by decide +kernel⟩, List.mem_of_getElem? (i := 721) (by decide +kernel), List.mem_of_getElem? (i := 895) (by decide +kernel), List.mem_of_getElem? (i := 896) (by decide +kernel)⟩
def lw_privs_2 : List (MethodName × Nat) := [(⟨"FuneralDebts", "tapeAt", "(I)LFuneralDebts$Tape;"⟩, 13), (⟨"FuneralDebts$Actor", "run", "(IIII)I"⟩, 5), (⟨"FuneralDebts$Tape", "fitted", "(J)J"⟩, 3), (⟨"FuneralDebtsModel", "change", "(III)I"⟩, 31), (⟨"FuneralDebtsModel", "one", "(II)I"⟩, 31), (⟨"FuneralDebtsModel", "isOne", "(I)Z"⟩, 31), (⟨"FuneralDebtsModel", "share", "()V"⟩, 31), (⟨"FuneralDebtsModel", "isHere", "(I)Z"⟩, 31), (⟨"FuneralDebtsModel", "rate", "(II)I"⟩, 31), (⟨"FuneralDebtsModel", "readFor", "(II)V"⟩, 31), (⟨"FuneralDebtsModel", "readAll", "()Z"⟩, 31), (⟨"FuneralDebtsModel", "clause", "()V"⟩, 31), (⟨"FuneralDebtsModel", "isAt", "(I)Z"⟩, 31), (⟨"FuneralDebtsModel", "takes", "(I)V"⟩, 31), (⟨"FuneralDebtsModel", "number", "()I"⟩, 31), (⟨"FuneralDebtsModel", "isDigit", "()Z"⟩, 31)]
theorem lw_r2 : ∀ q ∈ lw_privs_2, lw_okq q := List.forall_mem_cons.mpr ⟨lw_p16, List.forall_mem_cons.mpr ⟨lw_p17, List.forall_mem_cons.mpr ⟨lw_p18, List.forall_mem_cons.mpr ⟨lw_p19, List.forall_mem_cons.mpr ⟨lw_p20, List.forall_mem_cons.mpr ⟨lw_p21, List.forall_mem_cons.mpr ⟨lw_p22, List.forall_mem_cons.mpr ⟨lw_p23, List.forall_mem_cons.mpr ⟨lw_p24, List.forall_mem_cons.mpr ⟨lw_p25, List.forall_mem_cons.mpr ⟨lw_p26, List.forall_mem_cons.mpr ⟨lw_p27, List.forall_mem_cons.mpr ⟨lw_p28, List.forall_mem_cons.mpr ⟨lw_p29, List.forall_mem_cons.mpr ⟨lw_p30, List.forall_mem_cons.mpr ⟨lw_p31, fun _ h => absurd h List.not_mem_nil⟩⟩⟩⟩⟩⟩⟩⟩⟩⟩⟩⟩⟩⟩⟩⟩
theorem lw_p32 : lw_okq (⟨"FuneralDebtsModel", "any", "()Z"⟩, 31) := ⟨⟨by decide +kernel, by decide +kernel⟩, List.mem_of_getElem? (i := 721) (by decide +kernel), List.mem_of_getElem? (i := 899) (by decide +kernel), List.mem_of_getElem? (i := 900) (by decide +kernel)⟩
theorem lw_p33 : lw_okq (⟨"FuneralDebtsModel", "both", "()Z"⟩, 31) := ⟨⟨by decide +kernel, by decide +kernel⟩, List.mem_of_getElem? (i := 721) (by decide +kernel), List.mem_of_getElem? (i := 903) (by decide +kernel), List.mem_of_getElem? (i := 904) (by decide +kernel)⟩
theorem lw_p34 : lw_okq (⟨"FuneralDebtsModel", "factor", "()Z"⟩, 31) := ⟨⟨by decide +kernel, by decide +kernel⟩, List.mem_of_getElem? (i := 721) (by decide +kernel), List.mem_of_getElem? (i := 907) (by decide +kernel), List.mem_of_getElem? (i := 908) (by decide +kernel)⟩
theorem lw_p35 : lw_okq (⟨"FuneralDebtsModel", "test", "()Z"⟩, 31) := ⟨⟨by decide +kernel, by decide +kernel⟩, List.mem_of_getElem? (i := 721) (by decide +kernel), List.mem_of_getElem? (i := 911) (by decide +kernel), List.mem_of_getElem? (i := 912) (by decide +kernel)⟩
theorem lw_p36 : lw_okq (⟨"FuneralDebtsModel", "best", "(I)I"⟩, 31) := ⟨⟨by decide +kernel, by decide +kernel⟩, List.mem_of_getElem? (i := 721) (by decide +kernel), List.mem_of_getElem? (i := 916) (by decide +kernel), List.mem_of_getElem? (i := 917) (by decide +kernel)⟩
theorem lw_p37 : lw_okq (⟨"FuneralDebtsModel", "worth", "(II)I"⟩, 31) := ⟨⟨by decide +kernel, by decide +kernel⟩, List.mem_of_getElem? (i := 721) (by decide +kernel), List.mem_of_getElem? (i := 920) (by decide +kernel), List.mem_of_getElem? (i := 921) (by decide +kernel)⟩
theorem lw_p38 : lw_okq (⟨"FuneralDebtsModel", "aways", "()I"⟩, 31) := ⟨⟨by decide +kernel, by decide +kernel⟩, List.mem_of_getElem? (i := 721) (by decide +kernel), List.mem_of_getElem? (i := 952) (by decide +kernel), List.mem_of_getElem? (i := 953) (by decide +kernel)⟩
theorem lw_p39 : lw_okq (⟨"FuneralDebtsModel", "still", "()I"⟩, 31) := ⟨⟨by decide +kernel, by decide +kernel⟩, List.mem_of_getElem? (i := 721) (by decide +kernel), List.mem_of_getElem? (i := 956) (by decide +kernel), List.mem_of_getElem? (i := 957) (by decide +kernel)⟩
theorem lw_p40 : lw_okq (⟨"FuneralDebtsModel", "keep", "(I)V"⟩, 31) := ⟨⟨by decide +kernel, by decide +kernel⟩, List.mem_of_getElem? (i := 721) (by decide +kernel), List.mem_of_getElem? (i := 960) (by decide +kernel), List.mem_of_getElem? (i := 961) (by decide +kernel)⟩
theorem lw_p41 : lw_okq (⟨"FuneralDebtsModel", "day", "(Z)I"⟩, 31) := ⟨⟨by decide +kernel, by decide +kernel⟩, List.mem_of_getElem? (i := 721) (by decide +kernel), List.mem_of_getElem? (i := 964) (by decide +kernel), List.mem_of_getElem? (i := 965) (by decide +kernel)⟩
theorem lw_p42 : lw_okq (⟨"FuneralDebtsModel", "moves", "()I"⟩, 31) := ⟨⟨by decide +kernel, by decide +kernel⟩, List.mem_of_getElem? (i := 721) (by decide +kernel), List.mem_of_getElem? (i := 968) (by decide +kernel), List.mem_of_getElem? (i := 969) (by decide +kernel)⟩
theorem lw_p43 : lw_okq (⟨"FuneralDebtsModel", "lay", "(I)V"⟩, 31) := ⟨⟨by decide +kernel, by decide +kernel⟩, List.mem_of_getElem? (i := 721) (by decide +kernel), List.mem_of_getElem? (i := 974) (by decide +kernel), List.mem_of_getElem? (i := 975) (by decide +kernel)⟩
theorem lw_p44 : lw_okq (⟨"FuneralDebtsModel", "gains", "()I"⟩, 31) := ⟨⟨by decide +kernel, by decide +kernel⟩, List.mem_of_getElem? (i := 721) (by decide +kernel), List.mem_of_getElem? (i := 978) (by decide +kernel), List.mem_of_getElem? (i := 979) (by decide +kernel)⟩
theorem lw_p45 : lw_okq (⟨"FuneralDebtsModel", "owed", "(Z)I"⟩, 31) := ⟨⟨by decide +kernel, by decide +kernel⟩, List.mem_of_getElem? (i := 721) (by decide +kernel), List.mem_of_getElem? (i := 982) (by decide +kernel), List.mem_of_getElem? (i := 983) (by decide +kernel)⟩
theorem lw_p46 : lw_okq (⟨"FuneralDebtsModel", "isAllSeen", "()Z"⟩, 31) := ⟨⟨by decide +kernel, by decide +kernel⟩, List.mem_of_getElem? (i := 721) (by decide +kernel), List.mem_of_getElem? (i := 986) (by decide +kernel), List.mem_of_getElem? (i := 987) (by decide +kernel)⟩
theorem lw_p47 : lw_okq (⟨"FuneralDebtsModel", "all", "(III)I"⟩, 31) := ⟨⟨by decide +kernel, by decide +kernel⟩, List.mem_of_getElem? (i := 721) (by decide +kernel), List.mem_of_getElem? (i := 1045) (by decide +kernel), List.mem_of_getElem? (i := 1046) (by decide +kernel)⟩
def lw_privs_3 : List (MethodName × Nat) := [(⟨"FuneralDebtsModel", "any", "()Z"⟩, 31), (⟨"FuneralDebtsModel", "both", "()Z"⟩, 31), (⟨"FuneralDebtsModel", "factor", "()Z"⟩, 31), (⟨"FuneralDebtsModel", "test", "()Z"⟩, 31), (⟨"FuneralDebtsModel", "best", "(I)I"⟩, 31), (⟨"FuneralDebtsModel", "worth", "(II)I"⟩, 31), (⟨"FuneralDebtsModel", "aways", "()I"⟩, 31), (⟨"FuneralDebtsModel", "still", "()I"⟩, 31), (⟨"FuneralDebtsModel", "keep", "(I)V"⟩, 31), (⟨"FuneralDebtsModel", "day", "(Z)I"⟩, 31), (⟨"FuneralDebtsModel", "moves", "()I"⟩, 31), (⟨"FuneralDebtsModel", "lay", "(I)V"⟩, 31), (⟨"FuneralDebtsModel", "gains", "()I"⟩, 31), (⟨"FuneralDebtsModel", "owed", "(Z)I"⟩, 31), (⟨"FuneralDebtsModel", "isAllSeen", "()Z"⟩, 31), (⟨"FuneralDebtsModel", "all", "(III)I"⟩, 31)]
theorem lw_r3 : ∀ q ∈ lw_privs_3, lw_okq q := List.forall_mem_cons.mpr ⟨lw_p32, List.forall_mem_cons.mpr ⟨lw_p33, List.forall_mem_cons.mpr ⟨lw_p34, List.forall_mem_cons.mpr ⟨lw_p35, List.forall_mem_cons.mpr ⟨lw_p36, List.forall_mem_cons.mpr ⟨lw_p37, List.forall_mem_cons.mpr ⟨lw_p38, List.forall_mem_cons.mpr ⟨lw_p39, List.forall_mem_cons.mpr ⟨lw_p40, List.forall_mem_cons.mpr ⟨lw_p41, List.forall_mem_cons.mpr ⟨lw_p42, List.forall_mem_cons.mpr ⟨lw_p43, List.forall_mem_cons.mpr ⟨lw_p44, List.forall_mem_cons.mpr ⟨lw_p45, List.forall_mem_cons.mpr ⟨lw_p46, List.forall_mem_cons.mpr ⟨lw_p47, fun _ h => absurd h List.not_mem_nil⟩⟩⟩⟩⟩⟩⟩⟩⟩⟩⟩⟩⟩⟩⟩⟩
theorem lw_p48 : lw_okq (⟨"FuneralDebtsModel", "byKind", "(IIII)I"⟩, 31) := ⟨⟨by decide +kernel, by decide +kernel⟩, List.mem_of_getElem? (i := 721) (by decide +kernel), List.mem_of_getElem? (i := 1049) (by decide +kernel), List.mem_of_getElem? (i := 1050) (by decide +kernel)⟩
theorem lw_p49 : lw_okq (⟨"FuneralDebtsModel", "body", "(I)I"⟩, 31) := ⟨⟨by decide +kernel, by decide +kernel⟩, List.mem_of_getElem? (i := 721) (by decide +kernel), List.mem_of_getElem? (i := 1053) (by decide +kernel), List.mem_of_getElem? (i := 1054) (by decide +kernel)⟩
def lw_privs_4 : List (MethodName × Nat) := [(⟨"FuneralDebtsModel", "byKind", "(IIII)I"⟩, 31), (⟨"FuneralDebtsModel", "body", "(I)I"⟩, 31)]
theorem lw_r4 : ∀ q ∈ lw_privs_4, lw_okq q := List.forall_mem_cons.mpr ⟨lw_p48, List.forall_mem_cons.mpr ⟨lw_p49, fun _ h => absurd h List.not_mem_nil⟩⟩
def lw_privs : List (MethodName × Nat) := lw_privs_1 ++ (lw_privs_2 ++ (lw_privs_3 ++ (lw_privs_4)))
def lw_tbl : List Cond := k2_sels lw_privs ++ tables_1
theorem lw_privs_ok : ∀ q ∈ lw_privs, lw_okq q := by
  show ∀ q ∈ lw_privs_1 ++ (lw_privs_2 ++ (lw_privs_3 ++ (lw_privs_4))), lw_okq q
  exact List.forall_mem_append.mpr ⟨lw_r1, List.forall_mem_append.mpr ⟨lw_r2, List.forall_mem_append.mpr ⟨lw_r3, lw_r4⟩⟩⟩
def RX0 : String := "FuneralDebts$Actor"
def TX0 : u_T := fun k => match k with
  | 0 => ("FuneralDebts$Actor", "number", "I", false)
  | 1 => ("FuneralDebts$Actor", "v", "I", false)
  | 2 => ("FuneralDebts$Actor", "kind", "I", false)
  | 3 => ("FuneralDebts$Actor", "ran", "I", false)
  | _ => ("FuneralDebts$Actor", "bodies", "[I", true)
def tyX0 : Nat → FieldType := fun k => match k with
  | 0 => .int
  | 1 => .int
  | 2 => .int
  | 3 => .int
  | _ => .array .int
abbrev wsX00 : List Cond := u_ws RX0 TX0 5
theorem nmX0 : ∀ a, a < 5 → ∀ b, b < 5 → a ≠ b → (TX0 a).2.1 ≠ (TX0 b).2.1 := by decide +kernel
theorem tyX0_ok : ∀ k, k < 5 → parseFieldDescriptor (TX0 k).2.2.1 = some (tyX0 k) := by decide +kernel
abbrev cX0_init : ByteArray := prog_2_method_1_code
def yX0_init : MethodName := ⟨RX0, "<init>", "()V"⟩
abbrev cX0_clear : ByteArray := prog_2_method_2_code
def yX0_clear : MethodName := ⟨RX0, "clear", "()V"⟩
abbrev cX0_start : ByteArray := prog_2_method_3_code
def yX0_start : MethodName := ⟨RX0, "start", "(LFuneralDebts$Scene;III)I"⟩
abbrev cX0_run : ByteArray := prog_2_method_4_code
def yX0_run : MethodName := ⟨RX0, "run", "(IIII)I"⟩
abbrev cX0_ownerOf : ByteArray := prog_2_method_5_code
def yX0_ownerOf : MethodName := ⟨RX0, "ownerOf", "(II)I"⟩
def RX1 : String := "FuneralDebts$Pairs"
def TX1 : u_T := fun k => match k with
  | 0 => ("FuneralDebts$Pairs", "most", "I", true)
  | 1 => ("FuneralDebts$Pairs", "firsts", "[I", true)
  | 2 => ("FuneralDebts$Pairs", "seconds", "[I", true)
  | _ => ("FuneralDebts$Pairs", "size", "I", false)
def tyX1 : Nat → FieldType := fun k => match k with
  | 0 => .int
  | 1 => .array .int
  | 2 => .array .int
  | _ => .int
abbrev wsX10 : List Cond := u_ws RX1 TX1 4
theorem nmX1 : ∀ a, a < 4 → ∀ b, b < 4 → a ≠ b → (TX1 a).2.1 ≠ (TX1 b).2.1 := by decide +kernel
theorem tyX1_ok : ∀ k, k < 4 → parseFieldDescriptor (TX1 k).2.2.1 = some (tyX1 k) := by decide +kernel
abbrev cX1_init : ByteArray := prog_3_method_1_code
def yX1_init : MethodName := ⟨RX1, "<init>", "(I)V"⟩
abbrev cX1_empty : ByteArray := prog_3_method_2_code
def yX1_empty : MethodName := ⟨RX1, "empty", "()I"⟩
abbrev cX1_add : ByteArray := prog_3_method_3_code
def yX1_add : MethodName := ⟨RX1, "add", "(II)I"⟩
abbrev cX1_takeAfter : ByteArray := prog_3_method_4_code
def yX1_takeAfter : MethodName := ⟨RX1, "takeAfter", "(LFuneralDebts$Pairs;)V"⟩
def RX2 : String := "FuneralDebts$Parish"
def TX2 : u_T := fun k => match k with
  | 0 => ("FuneralDebts$Parish", "fall", "I", false)
  | 1 => ("FuneralDebts$Parish", "clauses", "I", false)
  | 2 => ("FuneralDebts$Parish", "adds", "[I", true)
  | 3 => ("FuneralDebts$Parish", "ends", "[I", true)
  | 4 => ("FuneralDebts$Parish", "steps", "I", false)
  | 5 => ("FuneralDebts$Parish", "whats", "[I", true)
  | 6 => ("FuneralDebts$Parish", "signs", "[I", true)
  | _ => ("FuneralDebts$Parish", "numbers", "[I", true)
def tyX2 : Nat → FieldType := fun k => match k with
  | 0 => .int
  | 1 => .int
  | 2 => .array .int
  | 3 => .array .int
  | 4 => .int
  | 5 => .array .int
  | 6 => .array .int
  | _ => .array .int
abbrev wsX20 : List Cond := u_ws RX2 TX2 8
theorem nmX2 : ∀ a, a < 8 → ∀ b, b < 8 → a ≠ b → (TX2 a).2.1 ≠ (TX2 b).2.1 := by decide +kernel
theorem tyX2_ok : ∀ k, k < 8 → parseFieldDescriptor (TX2 k).2.2.1 = some (tyX2 k) := by decide +kernel
abbrev cX2_init : ByteArray := prog_4_method_1_code
def yX2_init : MethodName := ⟨RX2, "<init>", "()V"⟩
abbrev cX2_clear : ByteArray := prog_4_method_2_code
def yX2_clear : MethodName := ⟨RX2, "clear", "()V"⟩
abbrev cX2_addStep : ByteArray := prog_4_method_3_code
def yX2_addStep : MethodName := ⟨RX2, "addStep", "(III)V"⟩
abbrev cX2_endClause : ByteArray := prog_4_method_4_code
def yX2_endClause : MethodName := ⟨RX2, "endClause", "(I)V"⟩
abbrev cX2_sumOf : ByteArray := prog_4_method_5_code
def yX2_sumOf : MethodName := ⟨RX2, "sumOf", "([I)I"⟩
abbrev cX2_holdsFrom : ByteArray := prog_4_method_6_code
def yX2_holdsFrom : MethodName := ⟨RX2, "holdsFrom", "(II[I)Z"⟩
abbrev cX2_passes : ByteArray := prog_4_method_7_code
def yX2_passes : MethodName := ⟨RX2, "passes", "(III)Z"⟩
def RX3 : String := "FuneralDebts$Reader"
def TX3 : u_T := fun k => match k with
  | 0 => ("FuneralDebts$Reader", "signs", "[B", true)
  | 1 => ("FuneralDebts$Reader", "size", "I", false)
  | 2 => ("FuneralDebts$Reader", "place", "I", false)
  | 3 => ("FuneralDebts$Reader", "sign", "I", false)
  | 4 => ("FuneralDebts$Reader", "number", "I", false)
  | _ => ("FuneralDebts$Reader", "into", "LFuneralDebts$Parish;", false)
def tyX3 : Nat → FieldType := fun k => match k with
  | 0 => .array .byte
  | 1 => .int
  | 2 => .int
  | 3 => .int
  | 4 => .int
  | _ => .object "FuneralDebts$Parish"
abbrev wsX30 : List Cond := u_ws RX3 TX3 6
theorem nmX3 : ∀ a, a < 6 → ∀ b, b < 6 → a ≠ b → (TX3 a).2.1 ≠ (TX3 b).2.1 := by decide +kernel
theorem tyX3_ok : ∀ k, k < 6 → parseFieldDescriptor (TX3 k).2.2.1 = some (tyX3 k) := by decide +kernel
abbrev cX3_init : ByteArray := prog_5_method_1_code
def yX3_init : MethodName := ⟨RX3, "<init>", "([B)V"⟩
abbrev cX3_readAll : ByteArray := prog_5_method_2_code
def yX3_readAll : MethodName := ⟨RX3, "readAll", "(ILFuneralDebts$Parish;)Z"⟩
abbrev cX3_advance : ByteArray := prog_5_method_3_code
def yX3_advance : MethodName := ⟨RX3, "advance", "()V"⟩
abbrev cX3_readClause : ByteArray := prog_5_method_4_code
def yX3_readClause : MethodName := ⟨RX3, "readClause", "()Z"⟩
abbrev cX3_readWord : ByteArray := prog_5_method_5_code
def yX3_readWord : MethodName := ⟨RX3, "readWord", "(Ljava/lang/String;)Z"⟩
abbrev cX3_readNumber : ByteArray := prog_5_method_6_code
def yX3_readNumber : MethodName := ⟨RX3, "readNumber", "()Z"⟩
abbrev cX3_readEither : ByteArray := prog_5_method_7_code
def yX3_readEither : MethodName := ⟨RX3, "readEither", "(I)Z"⟩
abbrev cX3_readPart : ByteArray := prog_5_method_8_code
def yX3_readPart : MethodName := ⟨RX3, "readPart", "(I)Z"⟩
abbrev cX3_readTest : ByteArray := prog_5_method_9_code
def yX3_readTest : MethodName := ⟨RX3, "readTest", "()Z"⟩
abbrev cX3_whatOf : ByteArray := prog_5_method_10_code
def yX3_whatOf : MethodName := ⟨RX3, "whatOf", "(I)I"⟩
def RX4 : String := "FuneralDebts$Reckoner"
def TX4 : u_T := fun k => match k with
  | 0 => ("FuneralDebts$Reckoner", "rates", "[I", true)
  | 1 => ("FuneralDebts$Reckoner", "facts", "[I", true)
  | _ => ("FuneralDebts$Reckoner", "counted", "[I", true)
def tyX4 : Nat → FieldType := fun k => match k with
  | 0 => .array .int
  | 1 => .array .int
  | _ => .array .int
abbrev wsX40 : List Cond := u_ws RX4 TX4 3
theorem nmX4 : ∀ a, a < 3 → ∀ b, b < 3 → a ≠ b → (TX4 a).2.1 ≠ (TX4 b).2.1 := by decide +kernel
theorem tyX4_ok : ∀ k, k < 3 → parseFieldDescriptor (TX4 k).2.2.1 = some (tyX4 k) := by decide +kernel
abbrev cX4_init : ByteArray := prog_6_method_1_code
def yX4_init : MethodName := ⟨RX4, "<init>", "()V"⟩
abbrev cX4_look : ByteArray := prog_6_method_2_code
def yX4_look : MethodName := ⟨RX4, "look", "(LFuneralDebts$Scene;LFuneralDebts$Parish;)V"⟩
abbrev cX4_rateBySum : ByteArray := prog_6_method_3_code
def yX4_rateBySum : MethodName := ⟨RX4, "rateBySum", "(LFuneralDebts$Scene;III)I"⟩
abbrev cX4_rate : ByteArray := prog_6_method_4_code
def yX4_rate : MethodName := ⟨RX4, "rate", "(II)I"⟩
abbrev cX4_share : ByteArray := prog_6_method_5_code
def yX4_share : MethodName := ⟨RX4, "share", "(LFuneralDebts$Scene;III)I"⟩
abbrev cX4_pays : ByteArray := prog_6_method_6_code
def yX4_pays : MethodName := ⟨RX4, "pays", "(LFuneralDebts$Scene;IIII)I"⟩
abbrev cX4_worth : ByteArray := prog_6_method_7_code
def yX4_worth : MethodName := ⟨RX4, "worth", "(LFuneralDebts$Scene;II)I"⟩
abbrev cX4_best : ByteArray := prog_6_method_8_code
def yX4_best : MethodName := ⟨RX4, "best", "(LFuneralDebts$Scene;I)I"⟩
abbrev cX4_fits : ByteArray := prog_6_method_9_code
def yX4_fits : MethodName := ⟨RX4, "fits", "(LFuneralDebts$Scene;I)Z"⟩
abbrev cX4_goDay : ByteArray := prog_6_method_10_code
def yX4_goDay : MethodName := ⟨RX4, "goDay", "(LFuneralDebts$Scene;LFuneralDebts$Parish;I)I"⟩
def RX5 : String := "FuneralDebts$Scene"
def TX5 : u_T := fun k => match k with
  | 0 => ("FuneralDebts$Scene", "size", "I", false)
  | 1 => ("FuneralDebts$Scene", "kinds", "[I", true)
  | 2 => ("FuneralDebts$Scene", "vs", "[I", true)
  | 3 => ("FuneralDebts$Scene", "loves", "[I", true)
  | 4 => ("FuneralDebts$Scene", "yards", "[I", true)
  | 5 => ("FuneralDebts$Scene", "paid", "[I", true)
  | 6 => ("FuneralDebts$Scene", "rows", "[I", true)
  | 7 => ("FuneralDebts$Scene", "away", "I", false)
  | 8 => ("FuneralDebts$Scene", "debt", "I", false)
  | 9 => ("FuneralDebts$Scene", "day", "I", false)
  | 10 => ("FuneralDebts$Scene", "holds", "I", false)
  | 11 => ("FuneralDebts$Scene", "seen", "LFuneralDebts$Pairs;", true)
  | 12 => ("FuneralDebts$Scene", "plan", "LFuneralDebts$Pairs;", true)
  | _ => ("FuneralDebts$Scene", "book", "LFuneralDebts$Pairs;", true)
def tyX5 : Nat → FieldType := fun k => match k with
  | 0 => .int
  | 1 => .array .int
  | 2 => .array .int
  | 3 => .array .int
  | 4 => .array .int
  | 5 => .array .int
  | 6 => .array .int
  | 7 => .int
  | 8 => .int
  | 9 => .int
  | 10 => .int
  | 11 => .object "FuneralDebts$Pairs"
  | 12 => .object "FuneralDebts$Pairs"
  | _ => .object "FuneralDebts$Pairs"
abbrev wsX50 : List Cond := u_ws RX5 TX5 14
theorem nmX5 : ∀ a, a < 14 → ∀ b, b < 14 → a ≠ b → (TX5 a).2.1 ≠ (TX5 b).2.1 := by decide +kernel
theorem tyX5_ok : ∀ k, k < 14 → parseFieldDescriptor (TX5 k).2.2.1 = some (tyX5 k) := by decide +kernel
abbrev cX5_init : ByteArray := prog_7_method_1_code
def yX5_init : MethodName := ⟨RX5, "<init>", "()V"⟩
abbrev cX5_has : ByteArray := prog_7_method_2_code
def yX5_has : MethodName := ⟨RX5, "has", "(I)Z"⟩
abbrev cX5_isAway : ByteArray := prog_7_method_3_code
def yX5_isAway : MethodName := ⟨RX5, "isAway", "(I)Z"⟩
abbrev cX5_send : ByteArray := prog_7_method_4_code
def yX5_send : MethodName := ⟨RX5, "send", "(IZ)V"⟩
abbrev cX5_add : ByteArray := prog_7_method_5_code
def yX5_add : MethodName := ⟨RX5, "add", "(IIII)I"⟩
abbrev cX5_takeAfter : ByteArray := prog_7_method_6_code
def yX5_takeAfter : MethodName := ⟨RX5, "takeAfter", "(LFuneralDebts$Scene;)V"⟩
def RX6 : String := "FuneralDebts$Tape"
def TX6 : u_T := fun k => match k with
  | 0 => ("FuneralDebts$Tape", "sort", "I", false)
  | 1 => ("FuneralDebts$Tape", "length", "I", false)
  | _ => ("FuneralDebts$Tape", "items", "[J", true)
def tyX6 : Nat → FieldType := fun k => match k with
  | 0 => .int
  | 1 => .int
  | _ => .array .long
abbrev wsX60 : List Cond := u_ws RX6 TX6 3
theorem nmX6 : ∀ a, a < 3 → ∀ b, b < 3 → a ≠ b → (TX6 a).2.1 ≠ (TX6 b).2.1 := by decide +kernel
theorem tyX6_ok : ∀ k, k < 3 → parseFieldDescriptor (TX6 k).2.2.1 = some (tyX6 k) := by decide +kernel
abbrev cX6_init : ByteArray := prog_8_method_1_code
def yX6_init : MethodName := ⟨RX6, "<init>", "()V"⟩
abbrev cX6_holdsRow : ByteArray := prog_8_method_2_code
def yX6_holdsRow : MethodName := ⟨RX6, "holdsRow", "()Z"⟩
abbrev cX6_become : ByteArray := prog_8_method_3_code
def yX6_become : MethodName := ⟨RX6, "become", "(II)V"⟩
abbrev cX6_itemAt : ByteArray := prog_8_method_4_code
def yX6_itemAt : MethodName := ⟨RX6, "itemAt", "(I)J"⟩
abbrev cX6_store : ByteArray := prog_8_method_5_code
def yX6_store : MethodName := ⟨RX6, "store", "(IJ)Z"⟩
abbrev cX6_hasPlaces : ByteArray := prog_8_method_6_code
def yX6_hasPlaces : MethodName := ⟨RX6, "hasPlaces", "(II)Z"⟩
abbrev cX6_fitted : ByteArray := prog_8_method_7_code
def yX6_fitted : MethodName := ⟨RX6, "fitted", "(J)J"⟩
def RX7 : String := "FuneralDebts"
def TX7 : u_T := fun k => match k with
  | 0 => ("FuneralDebts", "now", "LFuneralDebts$Scene;", true)
  | 1 => ("FuneralDebts", "later", "LFuneralDebts$Scene;", true)
  | 2 => ("FuneralDebts", "image", "LFuneralDebts$Scene;", true)
  | 3 => ("FuneralDebts", "imageTaken", "Z", false)
  | 4 => ("FuneralDebts", "text", "[B", true)
  | 5 => ("FuneralDebts", "textSize", "I", false)
  | 6 => ("FuneralDebts", "reader", "LFuneralDebts$Reader;", true)
  | 7 => ("FuneralDebts", "parishes", "[LFuneralDebts$Parish;", true)
  | 8 => ("FuneralDebts", "parishCount", "I", false)
  | 9 => ("FuneralDebts", "noParish", "LFuneralDebts$Parish;", true)
  | 10 => ("FuneralDebts", "reckoner", "LFuneralDebts$Reckoner;", true)
  | 11 => ("FuneralDebts", "actor", "LFuneralDebts$Actor;", true)
  | _ => ("FuneralDebts", "tapes", "[LFuneralDebts$Tape;", true)
def tyX7 : Nat → FieldType := fun k => match k with
  | 0 => .object "FuneralDebts$Scene"
  | 1 => .object "FuneralDebts$Scene"
  | 2 => .object "FuneralDebts$Scene"
  | 3 => .boolean
  | 4 => .array .byte
  | 5 => .int
  | 6 => .object "FuneralDebts$Reader"
  | 7 => .array (.object "FuneralDebts$Parish")
  | 8 => .int
  | 9 => .object "FuneralDebts$Parish"
  | 10 => .object "FuneralDebts$Reckoner"
  | 11 => .object "FuneralDebts$Actor"
  | _ => .array (.object "FuneralDebts$Tape")
abbrev wsX70 : List Cond := u_ws RX7 TX7 13
theorem nmX7 : ∀ a, a < 13 → ∀ b, b < 13 → a ≠ b → (TX7 a).2.1 ≠ (TX7 b).2.1 := by decide +kernel
theorem tyX7_ok : ∀ k, k < 13 → parseFieldDescriptor (TX7 k).2.2.1 = some (tyX7 k) := by decide +kernel
abbrev cX7_init : ByteArray := prog_1_method_1_code
def yX7_init : MethodName := ⟨RX7, "<init>", "()V"⟩
abbrev cX7_mourner : ByteArray := prog_1_method_2_code
def yX7_mourner : MethodName := ⟨RX7, "mourner", "(IIII)I"⟩
abbrev cX7_of : ByteArray := prog_1_method_3_code
def yX7_of : MethodName := ⟨RX7, "of", "(II)I"⟩
abbrev cX7_reckonedOf : ByteArray := prog_1_method_4_code
def yX7_reckonedOf : MethodName := ⟨RX7, "reckonedOf", "(II)I"⟩
abbrev cX7_set : ByteArray := prog_1_method_5_code
def yX7_set : MethodName := ⟨RX7, "set", "(III)I"⟩
abbrev cX7_away : ByteArray := prog_1_method_6_code
def yX7_away : MethodName := ⟨RX7, "away", "(IZ)I"⟩
abbrev cX7_debt : ByteArray := prog_1_method_7_code
def yX7_debt : MethodName := ⟨RX7, "debt", "(I)I"⟩
abbrev cX7_row : ByteArray := prog_1_method_8_code
def yX7_row : MethodName := ⟨RX7, "row", "(III)I"⟩
abbrev cX7_feed : ByteArray := prog_1_method_9_code
def yX7_feed : MethodName := ⟨RX7, "feed", "(I)I"⟩
abbrev cX7_parish : ByteArray := prog_1_method_10_code
def yX7_parish : MethodName := ⟨RX7, "parish", "()I"⟩
abbrev cX7_told : ByteArray := prog_1_method_11_code
def yX7_told : MethodName := ⟨RX7, "told", "(I)I"⟩
abbrev cX7_parishAt : ByteArray := prog_1_method_12_code
def yX7_parishAt : MethodName := ⟨RX7, "parishAt", "(I)LFuneralDebts$Parish;"⟩
abbrev cX7_held : ByteArray := prog_1_method_13_code
def yX7_held : MethodName := ⟨RX7, "held", "()LFuneralDebts$Parish;"⟩
abbrev cX7_pass : ByteArray := prog_1_method_14_code
def yX7_pass : MethodName := ⟨RX7, "pass", "(I)I"⟩
abbrev cX7_on : ByteArray := prog_1_method_15_code
def yX7_on : MethodName := ⟨RX7, "on", "(II)I"⟩
abbrev cX7_kept : ByteArray := prog_1_method_16_code
def yX7_kept : MethodName := ⟨RX7, "kept", "(II)I"⟩
abbrev cX7_still : ByteArray := prog_1_method_17_code
def yX7_still : MethodName := ⟨RX7, "still", "()I"⟩
abbrev cX7_gains : ByteArray := prog_1_method_18_code
def yX7_gains : MethodName := ⟨RX7, "gains", "()I"⟩
abbrev cX7_see : ByteArray := prog_1_method_19_code
def yX7_see : MethodName := ⟨RX7, "see", "(II)I"⟩
abbrev cX7_can : ByteArray := prog_1_method_20_code
def yX7_can : MethodName := ⟨RX7, "can", "(II)I"⟩
abbrev cX7_owed : ByteArray := prog_1_method_21_code
def yX7_owed : MethodName := ⟨RX7, "owed", "(Z)I"⟩
abbrev cX7_odds : ByteArray := prog_1_method_22_code
def yX7_odds : MethodName := ⟨RX7, "odds", "(II)J"⟩
abbrev cX7_mean : ByteArray := prog_1_method_23_code
def yX7_mean : MethodName := ⟨RX7, "mean", "(I)J"⟩
abbrev cX7_fraction : ByteArray := prog_1_method_24_code
def yX7_fraction : MethodName := ⟨RX7, "fraction", "(III)J"⟩
abbrev cX7_plan : ByteArray := prog_1_method_25_code
def yX7_plan : MethodName := ⟨RX7, "plan", "(II)I"⟩
abbrev cX7_ends : ByteArray := prog_1_method_26_code
def yX7_ends : MethodName := ⟨RX7, "ends", "(I)I"⟩
abbrev cX7_goStep : ByteArray := prog_1_method_27_code
def yX7_goStep : MethodName := ⟨RX7, "goStep", "(II)V"⟩
abbrev cX7_book : ByteArray := prog_1_method_28_code
def yX7_book : MethodName := ⟨RX7, "book", "(II)I"⟩
abbrev cX7_looked : ByteArray := prog_1_method_29_code
def yX7_looked : MethodName := ⟨RX7, "looked", "()I"⟩
abbrev cX7_judge : ByteArray := prog_1_method_30_code
def yX7_judge : MethodName := ⟨RX7, "judge", "(II)I"⟩
abbrev cX7_image : ByteArray := prog_1_method_31_code
def yX7_image : MethodName := ⟨RX7, "image", "()I"⟩
abbrev cX7_undo : ByteArray := prog_1_method_32_code
def yX7_undo : MethodName := ⟨RX7, "undo", "()I"⟩
abbrev cX7_act : ByteArray := prog_1_method_33_code
def yX7_act : MethodName := ⟨RX7, "act", "(III)I"⟩
abbrev cX7_trace : ByteArray := prog_1_method_34_code
def yX7_trace : MethodName := ⟨RX7, "trace", "(I)I"⟩
abbrev cX7_taken : ByteArray := prog_1_method_35_code
def yX7_taken : MethodName := ⟨RX7, "taken", "(II)I"⟩
abbrev cX7_count : ByteArray := prog_1_method_36_code
def yX7_count : MethodName := ⟨RX7, "count", "(I)I"⟩
abbrev cX7_tape : ByteArray := prog_1_method_37_code
def yX7_tape : MethodName := ⟨RX7, "tape", "(III)I"⟩
abbrev cX7_item : ByteArray := prog_1_method_38_code
def yX7_item : MethodName := ⟨RX7, "item", "(IIJ)I"⟩
abbrev cX7_read : ByteArray := prog_1_method_39_code
def yX7_read : MethodName := ⟨RX7, "read", "(II)J"⟩
abbrev cX7_shift : ByteArray := prog_1_method_40_code
def yX7_shift : MethodName := ⟨RX7, "shift", "(IIIII)I"⟩
abbrev cX7_tapeAt : ByteArray := prog_1_method_41_code
def yX7_tapeAt : MethodName := ⟨RX7, "tapeAt", "(I)LFuneralDebts$Tape;"⟩
abbrev cX7_within : ByteArray := prog_1_method_42_code
def yX7_within : MethodName := ⟨RX7, "within", "(II)Z"⟩
abbrev cX7_at : ByteArray := prog_1_method_43_code
def yX7_at : MethodName := ⟨RX7, "at", "([II)I"⟩
abbrev cX7_put : ByteArray := prog_1_method_44_code
def yX7_put : MethodName := ⟨RX7, "put", "([III)V"⟩
abbrev cX7_copyRow : ByteArray := prog_1_method_45_code
def yX7_copyRow : MethodName := ⟨RX7, "copyRow", "([I[I)V"⟩
def RX8 : String := "FuneralDebtsModel"
def TX8 : u_T := fun k => match k with
  | 0 => ("FuneralDebtsModel", "now", "[I", true)
  | 1 => ("FuneralDebtsModel", "minds", "[I", true)
  | 2 => ("FuneralDebtsModel", "then", "[I", true)
  | 3 => ("FuneralDebtsModel", "kept", "Z", false)
  | 4 => ("FuneralDebtsModel", "text", "[I", true)
  | 5 => ("FuneralDebtsModel", "texted", "I", false)
  | 6 => ("FuneralDebtsModel", "rules", "[I", true)
  | 7 => ("FuneralDebtsModel", "sizes", "[I", true)
  | 8 => ("FuneralDebtsModel", "ruled", "I", false)
  | 9 => ("FuneralDebtsModel", "read", "[I", true)
  | 10 => ("FuneralDebtsModel", "size", "I", false)
  | 11 => ("FuneralDebtsModel", "at", "I", false)
  | 12 => ("FuneralDebtsModel", "well", "Z", false)
  | 13 => ("FuneralDebtsModel", "within", "I", false)
  | 14 => ("FuneralDebtsModel", "sum", "I", false)
  | 15 => ("FuneralDebtsModel", "fall", "I", false)
  | 16 => ("FuneralDebtsModel", "names", "[I", true)
  | 17 => ("FuneralDebtsModel", "letters", "[C", true)
  | 18 => ("FuneralDebtsModel", "begins", "[C", true)
  | 19 => ("FuneralDebtsModel", "words", "[C", true)
  | 20 => ("FuneralDebtsModel", "rates", "[I", true)
  | 21 => ("FuneralDebtsModel", "shares", "[I", true)
  | 22 => ("FuneralDebtsModel", "worthThen", "[I", true)
  | 23 => ("FuneralDebtsModel", "above", "[I", true)
  | 24 => ("FuneralDebtsModel", "bodies", "[I", true)
  | 25 => ("FuneralDebtsModel", "trace", "[I", true)
  | 26 => ("FuneralDebtsModel", "ran", "I", false)
  | 27 => ("FuneralDebtsModel", "sorts", "[I", true)
  | 28 => ("FuneralDebtsModel", "lengths", "[I", true)
  | 29 => ("FuneralDebtsModel", "items", "[J", true)
  | _ => ("FuneralDebtsModel", "moved", "[J", true)
def tyX8 : Nat → FieldType := fun k => match k with
  | 0 => .array .int
  | 1 => .array .int
  | 2 => .array .int
  | 3 => .boolean
  | 4 => .array .int
  | 5 => .int
  | 6 => .array .int
  | 7 => .array .int
  | 8 => .int
  | 9 => .array .int
  | 10 => .int
  | 11 => .int
  | 12 => .boolean
  | 13 => .int
  | 14 => .int
  | 15 => .int
  | 16 => .array .int
  | 17 => .array .char
  | 18 => .array .char
  | 19 => .array .char
  | 20 => .array .int
  | 21 => .array .int
  | 22 => .array .int
  | 23 => .array .int
  | 24 => .array .int
  | 25 => .array .int
  | 26 => .int
  | 27 => .array .int
  | 28 => .array .int
  | 29 => .array .long
  | _ => .array .long
abbrev wsX80 : List Cond := u_ws RX8 TX8 31
theorem nmX8 : ∀ a, a < 31 → ∀ b, b < 31 → a ≠ b → (TX8 a).2.1 ≠ (TX8 b).2.1 := by decide +kernel
theorem tyX8_ok : ∀ k, k < 31 → parseFieldDescriptor (TX8 k).2.2.1 = some (tyX8 k) := by decide +kernel
abbrev cX8_init : ByteArray := prog_10_method_1_code
def yX8_init : MethodName := ⟨RX8, "<init>", "()V"⟩
abbrev cX8_isIn : ByteArray := prog_10_method_2_code
def yX8_isIn : MethodName := ⟨RX8, "isIn", "(III)Z"⟩
abbrev cX8_fresh : ByteArray := prog_10_method_3_code
def yX8_fresh : MethodName := ⟨RX8, "fresh", "()[I"⟩
abbrev cX8_keep : ByteArray := prog_10_method_4_code
def yX8_keep : MethodName := ⟨RX8, "keep", "(I)V"⟩
abbrev cX8_lay : ByteArray := prog_10_method_5_code
def yX8_lay : MethodName := ⟨RX8, "lay", "(I)V"⟩
abbrev cX8_image : ByteArray := prog_10_method_6_code
def yX8_image : MethodName := ⟨RX8, "image", "()I"⟩
abbrev cX8_undo : ByteArray := prog_10_method_7_code
def yX8_undo : MethodName := ⟨RX8, "undo", "()I"⟩
abbrev cX8_isOne : ByteArray := prog_10_method_8_code
def yX8_isOne : MethodName := ⟨RX8, "isOne", "(I)Z"⟩
abbrev cX8_isYard : ByteArray := prog_10_method_9_code
def yX8_isYard : MethodName := ⟨RX8, "isYard", "(I)Z"⟩
abbrev cX8_one : ByteArray := prog_10_method_10_code
def yX8_one : MethodName := ⟨RX8, "one", "(II)I"⟩
abbrev cX8_change : ByteArray := prog_10_method_11_code
def yX8_change : MethodName := ⟨RX8, "change", "(III)I"⟩
abbrev cX8_isHere : ByteArray := prog_10_method_12_code
def yX8_isHere : MethodName := ⟨RX8, "isHere", "(I)Z"⟩
abbrev cX8_mourner : ByteArray := prog_10_method_13_code
def yX8_mourner : MethodName := ⟨RX8, "mourner", "(IIII)I"⟩
abbrev cX8_of : ByteArray := prog_10_method_14_code
def yX8_of : MethodName := ⟨RX8, "of", "(II)I"⟩
abbrev cX8_set : ByteArray := prog_10_method_15_code
def yX8_set : MethodName := ⟨RX8, "set", "(III)I"⟩
abbrev cX8_away : ByteArray := prog_10_method_16_code
def yX8_away : MethodName := ⟨RX8, "away", "(IZ)I"⟩
abbrev cX8_debt : ByteArray := prog_10_method_17_code
def yX8_debt : MethodName := ⟨RX8, "debt", "(I)I"⟩
abbrev cX8_row : ByteArray := prog_10_method_18_code
def yX8_row : MethodName := ⟨RX8, "row", "(III)I"⟩
abbrev cX8_feed : ByteArray := prog_10_method_19_code
def yX8_feed : MethodName := ⟨RX8, "feed", "(I)I"⟩
abbrev cX8_isAt : ByteArray := prog_10_method_20_code
def yX8_isAt : MethodName := ⟨RX8, "isAt", "(I)Z"⟩
abbrev cX8_takes : ByteArray := prog_10_method_21_code
def yX8_takes : MethodName := ⟨RX8, "takes", "(I)V"⟩
abbrev cX8_isDigit : ByteArray := prog_10_method_22_code
def yX8_isDigit : MethodName := ⟨RX8, "isDigit", "()Z"⟩
abbrev cX8_number : ByteArray := prog_10_method_23_code
def yX8_number : MethodName := ⟨RX8, "number", "()I"⟩
abbrev cX8_test : ByteArray := prog_10_method_24_code
def yX8_test : MethodName := ⟨RX8, "test", "()Z"⟩
abbrev cX8_factor : ByteArray := prog_10_method_25_code
def yX8_factor : MethodName := ⟨RX8, "factor", "()Z"⟩
abbrev cX8_both : ByteArray := prog_10_method_26_code
def yX8_both : MethodName := ⟨RX8, "both", "()Z"⟩
abbrev cX8_any : ByteArray := prog_10_method_27_code
def yX8_any : MethodName := ⟨RX8, "any", "()Z"⟩
abbrev cX8_clause : ByteArray := prog_10_method_28_code
def yX8_clause : MethodName := ⟨RX8, "clause", "()V"⟩
abbrev cX8_readAll : ByteArray := prog_10_method_29_code
def yX8_readAll : MethodName := ⟨RX8, "readAll", "()Z"⟩
abbrev cX8_readFor : ByteArray := prog_10_method_30_code
def yX8_readFor : MethodName := ⟨RX8, "readFor", "(II)V"⟩
abbrev cX8_parish : ByteArray := prog_10_method_31_code
def yX8_parish : MethodName := ⟨RX8, "parish", "()I"⟩
abbrev cX8_rate : ByteArray := prog_10_method_32_code
def yX8_rate : MethodName := ⟨RX8, "rate", "(II)I"⟩
abbrev cX8_share : ByteArray := prog_10_method_33_code
def yX8_share : MethodName := ⟨RX8, "share", "()V"⟩
abbrev cX8_worth : ByteArray := prog_10_method_34_code
def yX8_worth : MethodName := ⟨RX8, "worth", "(II)I"⟩
abbrev cX8_best : ByteArray := prog_10_method_35_code
def yX8_best : MethodName := ⟨RX8, "best", "(I)I"⟩
abbrev cX8_moves : ByteArray := prog_10_method_36_code
def yX8_moves : MethodName := ⟨RX8, "moves", "()I"⟩
abbrev cX8_day : ByteArray := prog_10_method_37_code
def yX8_day : MethodName := ⟨RX8, "day", "(Z)I"⟩
abbrev cX8_still : ByteArray := prog_10_method_38_code
def yX8_still : MethodName := ⟨RX8, "still", "()I"⟩
abbrev cX8_gains : ByteArray := prog_10_method_39_code
def yX8_gains : MethodName := ⟨RX8, "gains", "()I"⟩
abbrev cX8_aways : ByteArray := prog_10_method_40_code
def yX8_aways : MethodName := ⟨RX8, "aways", "()I"⟩
abbrev cX8_told : ByteArray := prog_10_method_41_code
def yX8_told : MethodName := ⟨RX8, "told", "(I)I"⟩
abbrev cX8_pass : ByteArray := prog_10_method_42_code
def yX8_pass : MethodName := ⟨RX8, "pass", "(I)I"⟩
abbrev cX8_on : ByteArray := prog_10_method_43_code
def yX8_on : MethodName := ⟨RX8, "on", "(II)I"⟩
abbrev cX8_many : ByteArray := prog_10_method_44_code
def yX8_many : MethodName := ⟨RX8, "many", "(I)I"⟩
abbrev cX8_kept : ByteArray := prog_10_method_45_code
def yX8_kept : MethodName := ⟨RX8, "kept", "(II)I"⟩
abbrev cX8_see : ByteArray := prog_10_method_46_code
def yX8_see : MethodName := ⟨RX8, "see", "(II)I"⟩
abbrev cX8_isAllSeen : ByteArray := prog_10_method_47_code
def yX8_isAllSeen : MethodName := ⟨RX8, "isAllSeen", "()Z"⟩
abbrev cX8_owed : ByteArray := prog_10_method_48_code
def yX8_owed : MethodName := ⟨RX8, "owed", "(Z)I"⟩
abbrev cX8_can : ByteArray := prog_10_method_49_code
def yX8_can : MethodName := ⟨RX8, "can", "(II)I"⟩
abbrev cX8_fraction : ByteArray := prog_10_method_50_code
def yX8_fraction : MethodName := ⟨RX8, "fraction", "(JJI)J"⟩
abbrev cX8_odds : ByteArray := prog_10_method_51_code
def yX8_odds : MethodName := ⟨RX8, "odds", "(II)J"⟩
abbrev cX8_mean : ByteArray := prog_10_method_52_code
def yX8_mean : MethodName := ⟨RX8, "mean", "(I)J"⟩
abbrev cX8_plan : ByteArray := prog_10_method_53_code
def yX8_plan : MethodName := ⟨RX8, "plan", "(II)I"⟩
abbrev cX8_ends : ByteArray := prog_10_method_54_code
def yX8_ends : MethodName := ⟨RX8, "ends", "(I)I"⟩
abbrev cX8_book : ByteArray := prog_10_method_55_code
def yX8_book : MethodName := ⟨RX8, "book", "(II)I"⟩
abbrev cX8_looked : ByteArray := prog_10_method_56_code
def yX8_looked : MethodName := ⟨RX8, "looked", "()I"⟩
abbrev cX8_body : ByteArray := prog_10_method_57_code
def yX8_body : MethodName := ⟨RX8, "body", "(I)I"⟩
abbrev cX8_all : ByteArray := prog_10_method_58_code
def yX8_all : MethodName := ⟨RX8, "all", "(III)I"⟩
abbrev cX8_byKind : ByteArray := prog_10_method_59_code
def yX8_byKind : MethodName := ⟨RX8, "byKind", "(IIII)I"⟩
abbrev cX8_act : ByteArray := prog_10_method_60_code
def yX8_act : MethodName := ⟨RX8, "act", "(III)I"⟩
abbrev cX8_trace : ByteArray := prog_10_method_61_code
def yX8_trace : MethodName := ⟨RX8, "trace", "(I)I"⟩
abbrev cX8_taken : ByteArray := prog_10_method_62_code
def yX8_taken : MethodName := ⟨RX8, "taken", "(II)I"⟩
abbrev cX8_count : ByteArray := prog_10_method_63_code
def yX8_count : MethodName := ⟨RX8, "count", "(I)I"⟩
abbrev cX8_isTape : ByteArray := prog_10_method_64_code
def yX8_isTape : MethodName := ⟨RX8, "isTape", "(I)Z"⟩
abbrev cX8_tape : ByteArray := prog_10_method_65_code
def yX8_tape : MethodName := ⟨RX8, "tape", "(III)I"⟩
abbrev cX8_item : ByteArray := prog_10_method_66_code
def yX8_item : MethodName := ⟨RX8, "item", "(IIJ)I"⟩
abbrev cX8_read : ByteArray := prog_10_method_67_code
def yX8_read : MethodName := ⟨RX8, "read", "(II)J"⟩
abbrev cX8_shift : ByteArray := prog_10_method_68_code
def yX8_shift : MethodName := ⟨RX8, "shift", "(IIIII)I"⟩
abbrev cX8_judge : ByteArray := prog_10_method_69_code
def yX8_judge : MethodName := ⟨RX8, "judge", "(II)I"⟩
def RJ6 : String := "java/lang/Integer"
def TJ6 : u_T := fun k => match k with
  | _ => ("", "", "", false)
def tyJ6 : Nat → FieldType := fun k => match k with
  | _ => .int
abbrev wsJ60 : List Cond := u_ws RJ6 TJ6 0
theorem nmJ6 : ∀ a, a < 0 → ∀ b, b < 0 → a ≠ b → (TJ6 a).2.1 ≠ (TJ6 b).2.1 := by decide +kernel
theorem tyJ6_ok : ∀ k, k < 0 → parseFieldDescriptor (TJ6 k).2.2.1 = some (tyJ6 k) := by decide +kernel
abbrev cJ6_bitCount_0f7a4 : ByteArray := prog_11_method_49_code
def yJ6_bitCount_0f7a4 : MethodName := ⟨RJ6, "bitCount", "(I)I"⟩
def RJ9 : String := "java/lang/Math"
def TJ9 : u_T := fun k => match k with
  | _ => ("", "", "", false)
def tyJ9 : Nat → FieldType := fun k => match k with
  | _ => .int
abbrev wsJ90 : List Cond := u_ws RJ9 TJ9 0
theorem nmJ9 : ∀ a, a < 0 → ∀ b, b < 0 → a ≠ b → (TJ9 a).2.1 ≠ (TJ9 b).2.1 := by decide +kernel
theorem tyJ9_ok : ∀ k, k < 0 → parseFieldDescriptor (TJ9 k).2.2.1 = some (tyJ9 k) := by decide +kernel
abbrev cJ9_max_7cf53 : ByteArray := prog_12_method_65_code
def yJ9_max_7cf53 : MethodName := ⟨RJ9, "max", "(II)I"⟩
abbrev cJ9_min_7cf53 : ByteArray := prog_12_method_69_code
def yJ9_min_7cf53 : MethodName := ⟨RJ9, "min", "(II)I"⟩
def RJ0 : String := "java/lang/String"
def TJ0 : u_T := fun k => match k with
  | _ => ("", "", "", false)
def tyJ0 : Nat → FieldType := fun k => match k with
  | _ => .int
abbrev wsJ00 : List Cond := u_ws RJ0 TJ0 0
theorem nmJ0 : ∀ a, a < 0 → ∀ b, b < 0 → a ≠ b → (TJ0 a).2.1 ≠ (TJ0 b).2.1 := by decide +kernel
theorem tyJ0_ok : ∀ k, k < 0 → parseFieldDescriptor (TJ0 k).2.2.1 = some (tyJ0 k) := by decide +kernel
abbrev cJ0_length_8abf5 : ByteArray := prog_13_method_54_code
def yJ0_length_8abf5 : MethodName := ⟨RJ0, "length", "()I"⟩
abbrev cJ0_charAt_5068e : ByteArray := prog_13_method_56_code
def yJ0_charAt_5068e : MethodName := ⟨RJ0, "charAt", "(I)C"⟩
abbrev cJ0_coder_7d493 : ByteArray := prog_13_method_152_code
def yJ0_coder_7d493 : MethodName := ⟨RJ0, "coder", "()B"⟩
abbrev cJ0_isLatin1_aae02 : ByteArray := prog_13_method_154_code
def yJ0_isLatin1_aae02 : MethodName := ⟨RJ0, "isLatin1", "()Z"⟩
abbrev cJ0_checkIndex_df160 : ByteArray := prog_13_method_155_code
def yJ0_checkIndex_df160 : MethodName := ⟨RJ0, "checkIndex", "(II)V"⟩
def RJ1 : String := "java/lang/StringLatin1"
def TJ1 : u_T := fun k => match k with
  | _ => ("", "", "", false)
def tyJ1 : Nat → FieldType := fun k => match k with
  | _ => .int
abbrev wsJ10 : List Cond := u_ws RJ1 TJ1 0
theorem nmJ1 : ∀ a, a < 0 → ∀ b, b < 0 → a ≠ b → (TJ1 a).2.1 ≠ (TJ1 b).2.1 := by decide +kernel
theorem tyJ1_ok : ∀ k, k < 0 → parseFieldDescriptor (TJ1 k).2.2.1 = some (tyJ1 k) := by decide +kernel
abbrev cJ1_charAt_3b067 : ByteArray := prog_14_method_2_code
def yJ1_charAt_3b067 : MethodName := ⟨RJ1, "charAt", "([BI)C"⟩
def RJ2 : String := "java/lang/StringUTF16"
def TJ2 : u_T := fun k => match k with
  | _ => ("", "", "", false)
def tyJ2 : Nat → FieldType := fun k => match k with
  | _ => .int
abbrev wsJ20 : List Cond := u_ws RJ2 TJ2 0
theorem nmJ2 : ∀ a, a < 0 → ∀ b, b < 0 → a ≠ b → (TJ2 a).2.1 ≠ (TJ2 b).2.1 := by decide +kernel
theorem tyJ2_ok : ∀ k, k < 0 → parseFieldDescriptor (TJ2 k).2.2.1 = some (tyJ2 k) := by decide +kernel
abbrev cJ2_getChar_3b067 : ByteArray := prog_15_method_5_code
def yJ2_getChar_3b067 : MethodName := ⟨RJ2, "getChar", "([BI)C"⟩
abbrev cJ2_length_9d52b : ByteArray := prog_15_method_6_code
def yJ2_length_9d52b : MethodName := ⟨RJ2, "length", "([B)I"⟩
abbrev cJ2_charAt_3b067 : ByteArray := prog_15_method_83_code
def yJ2_charAt_3b067 : MethodName := ⟨RJ2, "charAt", "([BI)C"⟩
abbrev cJ2_checkIndex_2214a : ByteArray := prog_15_method_91_code
def yJ2_checkIndex_2214a : MethodName := ⟨RJ2, "checkIndex", "(I[B)V"⟩
def RJ10 : String := "java/lang/System"
def TJ10 : u_T := fun k => match k with
  | _ => ("", "", "", false)
def tyJ10 : Nat → FieldType := fun k => match k with
  | _ => .int
abbrev wsJ100 : List Cond := u_ws RJ10 TJ10 0
theorem nmJ10 : ∀ a, a < 0 → ∀ b, b < 0 → a ≠ b → (TJ10 a).2.1 ≠ (TJ10 b).2.1 := by decide +kernel
theorem tyJ10_ok : ∀ k, k < 0 → parseFieldDescriptor (TJ10 k).2.2.1 = some (tyJ10 k) := by decide +kernel
def RJ3 : String := "jdk/internal/util/Preconditions"
def TJ3 : u_T := fun k => match k with
  | _ => ("", "", "", false)
def tyJ3 : Nat → FieldType := fun k => match k with
  | _ => .int
abbrev wsJ30 : List Cond := u_ws RJ3 TJ3 0
theorem nmJ3 : ∀ a, a < 0 → ∀ b, b < 0 → a ≠ b → (TJ3 a).2.1 ≠ (TJ3 b).2.1 := by decide +kernel
theorem tyJ3_ok : ∀ k, k < 0 → parseFieldDescriptor (TJ3 k).2.2.1 = some (tyJ3 k) := by decide +kernel
abbrev cJ3_checkIndex_8e157 : ByteArray := prog_17_method_11_code
def yJ3_checkIndex_8e157 : MethodName := ⟨RJ3, "checkIndex", "(IILjava/util/function/BiFunction;)I"⟩
def RL : String := "FuneralDebtsLaw"
abbrev cL_law : ByteArray := code
def yL_law : MethodName := ⟨RL, "law", "([I)Z"⟩
end
section
theorem dX0_init_0 : decode cX0_init 0 = .ok (.aload_n 0, 1) := by decide +kernel
theorem dX0_init_1 : decode cX0_init 1 = .ok (.invokespecial 3, 3) := by decide +kernel
theorem dX0_init_4 : decode cX0_init 4 = .ok (.aload_n 0, 1) := by decide +kernel
theorem dX0_init_5 : decode cX0_init 5 = .ok (.bipush 20, 2) := by decide +kernel
theorem dX0_init_7 : decode cX0_init 7 = .ok (.newarray .int, 2) := by decide +kernel
theorem dX0_init_9 : decode cX0_init 9 = .ok (.putfield 9, 3) := by decide +kernel
theorem dX0_init_12 : decode cX0_init 12 = .ok (.return_, 1) := by decide +kernel
theorem dX0_clear_0 : decode cX0_clear 0 = .ok (.aload_n 0, 1) := by decide +kernel
theorem dX0_clear_1 : decode cX0_clear 1 = .ok (.iconst 0, 1) := by decide +kernel
theorem dX0_clear_2 : decode cX0_clear 2 = .ok (.putfield 15, 3) := by decide +kernel
theorem dX0_clear_5 : decode cX0_clear 5 = .ok (.return_, 1) := by decide +kernel
theorem dX0_start_0 : decode cX0_start 0 = .ok (.aload_n 0, 1) := by decide +kernel
theorem dX0_start_1 : decode cX0_start 1 = .ok (.iload_n 2, 1) := by decide +kernel
theorem dX0_start_2 : decode cX0_start 2 = .ok (.putfield 19, 3) := by decide +kernel
theorem dX0_start_5 : decode cX0_start 5 = .ok (.aload_n 0, 1) := by decide +kernel
theorem dX0_start_6 : decode cX0_start 6 = .ok (.aload_n 1, 1) := by decide +kernel
theorem dX0_start_7 : decode cX0_start 7 = .ok (.getfield 22, 3) := by decide +kernel
theorem dX0_start_10 : decode cX0_start 10 = .ok (.iload_n 2, 1) := by decide +kernel
theorem dX0_start_11 : decode cX0_start 11 = .ok (.invokestatic 27, 3) := by decide +kernel
theorem dX0_start_14 : decode cX0_start 14 = .ok (.putfield 31, 3) := by decide +kernel
theorem dX0_start_17 : decode cX0_start 17 = .ok (.aload_n 0, 1) := by decide +kernel
theorem dX0_start_18 : decode cX0_start 18 = .ok (.aload_n 1, 1) := by decide +kernel
theorem dX0_start_19 : decode cX0_start 19 = .ok (.getfield 34, 3) := by decide +kernel
theorem dX0_start_22 : decode cX0_start 22 = .ok (.iload_n 2, 1) := by decide +kernel
theorem dX0_start_23 : decode cX0_start 23 = .ok (.invokestatic 27, 3) := by decide +kernel
theorem dX0_start_26 : decode cX0_start 26 = .ok (.putfield 37, 3) := by decide +kernel
theorem dX0_start_29 : decode cX0_start 29 = .ok (.aload_n 0, 1) := by decide +kernel
theorem dX0_start_30 : decode cX0_start 30 = .ok (.iload_n 3, 1) := by decide +kernel
theorem dX0_start_31 : decode cX0_start 31 = .ok (.aload_n 0, 1) := by decide +kernel
theorem dX0_start_32 : decode cX0_start 32 = .ok (.getfield 37, 3) := by decide +kernel
theorem dX0_start_35 : decode cX0_start 35 = .ok (.iload 4, 2) := by decide +kernel
theorem dX0_start_37 : decode cX0_start 37 = .ok (.iconst 0, 1) := by decide +kernel
theorem dX0_start_38 : decode cX0_start 38 = .ok (.invokevirtual 40, 3) := by decide +kernel
theorem dX0_start_41 : decode cX0_start 41 = .ok (.ireturn, 1) := by decide +kernel
theorem dX0_run_0 : decode cX0_run 0 = .ok (.iload_n 1, 1) := by decide +kernel
theorem dX0_run_1 : decode cX0_run 1 = .ok (.iload_n 2, 1) := by decide +kernel
theorem dX0_run_2 : decode cX0_run 2 = .ok (.invokestatic 44, 3) := by decide +kernel
theorem dX0_run_5 : decode cX0_run 5 = .ok (.istore 5, 2) := by decide +kernel
theorem dX0_run_7 : decode cX0_run 7 = .ok (.getstatic 48, 3) := by decide +kernel
theorem dX0_run_10 : decode cX0_run 10 = .ok (.iload 5, 2) := by decide +kernel
theorem dX0_run_12 : decode cX0_run 12 = .ok (.invokestatic 27, 3) := by decide +kernel
theorem dX0_run_15 : decode cX0_run 15 = .ok (.istore 6, 2) := by decide +kernel
theorem dX0_run_17 : decode cX0_run 17 = .ok (.getstatic 51, 3) := by decide +kernel
theorem dX0_run_20 : decode cX0_run 20 = .ok (.iload_n 1, 1) := by decide +kernel
theorem dX0_run_21 : decode cX0_run 21 = .ok (.getstatic 48, 3) := by decide +kernel
theorem dX0_run_24 : decode cX0_run 24 = .ok (.arraylength, 1) := by decide +kernel
theorem dX0_run_25 : decode cX0_run 25 = .ok (.imul, 1) := by decide +kernel
theorem dX0_run_26 : decode cX0_run 26 = .ok (.iload 5, 2) := by decide +kernel
theorem dX0_run_28 : decode cX0_run 28 = .ok (.iadd, 1) := by decide +kernel
theorem dX0_run_29 : decode cX0_run 29 = .ok (.invokestatic 27, 3) := by decide +kernel
theorem dX0_run_32 : decode cX0_run 32 = .ok (.istore 7, 2) := by decide +kernel
theorem dX0_run_34 : decode cX0_run 34 = .ok (.iload 4, 2) := by decide +kernel
theorem dX0_run_36 : decode cX0_run 36 = .ok (.iconst 1, 1) := by decide +kernel
theorem dX0_run_37 : decode cX0_run 37 = .ok (.iadd, 1) := by decide +kernel
theorem dX0_run_38 : decode cX0_run 38 = .ok (.istore 8, 2) := by decide +kernel
theorem dX0_run_40 : decode cX0_run 40 = .ok (.iload 8, 2) := by decide +kernel
theorem dX0_run_42 : decode cX0_run 42 = .ok (.bipush 40, 2) := by decide +kernel
theorem dX0_run_44 : decode cX0_run 44 = .ok (.if_icmp .le 5, 3) := by decide +kernel
theorem dX0_run_47 : decode cX0_run 47 = .ok (.iconst 0, 1) := by decide +kernel
theorem dX0_run_48 : decode cX0_run 48 = .ok (.ireturn, 1) := by decide +kernel
theorem dX0_run_49 : decode cX0_run 49 = .ok (.aload_n 0, 1) := by decide +kernel
theorem dX0_run_50 : decode cX0_run 50 = .ok (.getfield 9, 3) := by decide +kernel
theorem dX0_run_53 : decode cX0_run 53 = .ok (.aload_n 0, 1) := by decide +kernel
theorem dX0_run_54 : decode cX0_run 54 = .ok (.getfield 15, 3) := by decide +kernel
theorem dX0_run_57 : decode cX0_run 57 = .ok (.iload 7, 2) := by decide +kernel
theorem dX0_run_59 : decode cX0_run 59 = .ok (.invokestatic 54, 3) := by decide +kernel
theorem dX0_run_62 : decode cX0_run 62 = .ok (.aload_n 0, 1) := by decide +kernel
theorem dX0_run_63 : decode cX0_run 63 = .ok (.dup, 1) := by decide +kernel
theorem dX0_run_64 : decode cX0_run 64 = .ok (.getfield 15, 3) := by decide +kernel
theorem dX0_run_67 : decode cX0_run 67 = .ok (.iconst 1, 1) := by decide +kernel
theorem dX0_run_68 : decode cX0_run 68 = .ok (.iadd, 1) := by decide +kernel
theorem dX0_run_69 : decode cX0_run 69 = .ok (.putfield 15, 3) := by decide +kernel
theorem dX0_run_72 : decode cX0_run 72 = .ok (.iload 7, 2) := by decide +kernel
theorem dX0_run_74 : decode cX0_run 74 = .ok (.lookupswitch 268 #[(10, 98), (11, 105), (12, 123), (20, 138), (30, 152), (40, 165), (50, 189), (51, 201), (60, 214), (70, 230), (71, 252)], 98) := by decide +kernel
theorem dX0_run_172 : decode cX0_run 172 = .ok (.iload_n 3, 1) := by decide +kernel
theorem dX0_run_173 : decode cX0_run 173 = .ok (.aload_n 0, 1) := by decide +kernel
theorem dX0_run_174 : decode cX0_run 174 = .ok (.getfield 19, 3) := by decide +kernel
theorem dX0_run_177 : decode cX0_run 177 = .ok (.iadd, 1) := by decide +kernel
theorem dX0_run_178 : decode cX0_run 178 = .ok (.ireturn, 1) := by decide +kernel
theorem dX0_run_179 : decode cX0_run 179 = .ok (.aload_n 0, 1) := by decide +kernel
theorem dX0_run_180 : decode cX0_run 180 = .ok (.iconst 0, 1) := by decide +kernel
theorem dX0_run_181 : decode cX0_run 181 = .ok (.aload_n 0, 1) := by decide +kernel
theorem dX0_run_182 : decode cX0_run 182 = .ok (.getfield 37, 3) := by decide +kernel
theorem dX0_run_185 : decode cX0_run 185 = .ok (.iload_n 3, 1) := by decide +kernel
theorem dX0_run_186 : decode cX0_run 186 = .ok (.iload 8, 2) := by decide +kernel
theorem dX0_run_188 : decode cX0_run 188 = .ok (.invokevirtual 40, 3) := by decide +kernel
theorem dX0_run_191 : decode cX0_run 191 = .ok (.aload_n 0, 1) := by decide +kernel
theorem dX0_run_192 : decode cX0_run 192 = .ok (.getfield 31, 3) := by decide +kernel
theorem dX0_run_195 : decode cX0_run 195 = .ok (.isub, 1) := by decide +kernel
theorem dX0_run_196 : decode cX0_run 196 = .ok (.ireturn, 1) := by decide +kernel
theorem dX0_run_197 : decode cX0_run 197 = .ok (.aload_n 0, 1) := by decide +kernel
theorem dX0_run_198 : decode cX0_run 198 = .ok (.iconst 1, 1) := by decide +kernel
theorem dX0_run_199 : decode cX0_run 199 = .ok (.aload_n 0, 1) := by decide +kernel
theorem dX0_run_200 : decode cX0_run 200 = .ok (.getfield 37, 3) := by decide +kernel
theorem dX0_run_203 : decode cX0_run 203 = .ok (.iload_n 3, 1) := by decide +kernel
theorem dX0_run_204 : decode cX0_run 204 = .ok (.iload 8, 2) := by decide +kernel
theorem dX0_run_206 : decode cX0_run 206 = .ok (.invokevirtual 40, 3) := by decide +kernel
theorem dX0_run_209 : decode cX0_run 209 = .ok (.iconst 2, 1) := by decide +kernel
theorem dX0_run_210 : decode cX0_run 210 = .ok (.imul, 1) := by decide +kernel
theorem dX0_run_211 : decode cX0_run 211 = .ok (.ireturn, 1) := by decide +kernel
theorem dX0_run_212 : decode cX0_run 212 = .ok (.aload_n 0, 1) := by decide +kernel
theorem dX0_run_213 : decode cX0_run 213 = .ok (.iconst 1, 1) := by decide +kernel
theorem dX0_run_214 : decode cX0_run 214 = .ok (.iload 6, 2) := by decide +kernel
theorem dX0_run_216 : decode cX0_run 216 = .ok (.iload_n 3, 1) := by decide +kernel
theorem dX0_run_217 : decode cX0_run 217 = .ok (.iload 8, 2) := by decide +kernel
theorem dX0_run_219 : decode cX0_run 219 = .ok (.invokevirtual 40, 3) := by decide +kernel
theorem dX0_run_222 : decode cX0_run 222 = .ok (.bipush 6, 2) := by decide +kernel
theorem dX0_run_224 : decode cX0_run 224 = .ok (.ixor, 1) := by decide +kernel
theorem dX0_run_225 : decode cX0_run 225 = .ok (.ireturn, 1) := by decide +kernel
theorem dX0_run_226 : decode cX0_run 226 = .ok (.aload_n 0, 1) := by decide +kernel
theorem dX0_run_227 : decode cX0_run 227 = .ok (.iconst 0, 1) := by decide +kernel
theorem dX0_run_228 : decode cX0_run 228 = .ok (.iload 6, 2) := by decide +kernel
theorem dX0_run_230 : decode cX0_run 230 = .ok (.iload_n 3, 1) := by decide +kernel
theorem dX0_run_231 : decode cX0_run 231 = .ok (.iconst 3, 1) := by decide +kernel
theorem dX0_run_232 : decode cX0_run 232 = .ok (.imul, 1) := by decide +kernel
theorem dX0_run_233 : decode cX0_run 233 = .ok (.iload 8, 2) := by decide +kernel
theorem dX0_run_235 : decode cX0_run 235 = .ok (.invokevirtual 40, 3) := by decide +kernel
theorem dX0_run_238 : decode cX0_run 238 = .ok (.ireturn, 1) := by decide +kernel
theorem dX0_run_239 : decode cX0_run 239 = .ok (.aload_n 0, 1) := by decide +kernel
theorem dX0_run_240 : decode cX0_run 240 = .ok (.iconst 2, 1) := by decide +kernel
theorem dX0_run_241 : decode cX0_run 241 = .ok (.iload 6, 2) := by decide +kernel
theorem dX0_run_243 : decode cX0_run 243 = .ok (.iload_n 3, 1) := by decide +kernel
theorem dX0_run_244 : decode cX0_run 244 = .ok (.iload 8, 2) := by decide +kernel
theorem dX0_run_246 : decode cX0_run 246 = .ok (.invokevirtual 40, 3) := by decide +kernel
theorem dX0_run_249 : decode cX0_run 249 = .ok (.aload_n 0, 1) := by decide +kernel
theorem dX0_run_250 : decode cX0_run 250 = .ok (.iconst 1, 1) := by decide +kernel
theorem dX0_run_251 : decode cX0_run 251 = .ok (.aload_n 0, 1) := by decide +kernel
theorem dX0_run_252 : decode cX0_run 252 = .ok (.getfield 37, 3) := by decide +kernel
theorem dX0_run_255 : decode cX0_run 255 = .ok (.iconst 1, 1) := by decide +kernel
theorem dX0_run_256 : decode cX0_run 256 = .ok (.iload 8, 2) := by decide +kernel
theorem dX0_run_258 : decode cX0_run 258 = .ok (.invokevirtual 40, 3) := by decide +kernel
theorem dX0_run_261 : decode cX0_run 261 = .ok (.iadd, 1) := by decide +kernel
theorem dX0_run_262 : decode cX0_run 262 = .ok (.ireturn, 1) := by decide +kernel
theorem dX0_run_263 : decode cX0_run 263 = .ok (.aload_n 0, 1) := by decide +kernel
theorem dX0_run_264 : decode cX0_run 264 = .ok (.iconst 0, 1) := by decide +kernel
theorem dX0_run_265 : decode cX0_run 265 = .ok (.iload 6, 2) := by decide +kernel
theorem dX0_run_267 : decode cX0_run 267 = .ok (.iload_n 3, 1) := by decide +kernel
theorem dX0_run_268 : decode cX0_run 268 = .ok (.iload 8, 2) := by decide +kernel
theorem dX0_run_270 : decode cX0_run 270 = .ok (.invokevirtual 40, 3) := by decide +kernel
theorem dX0_run_273 : decode cX0_run 273 = .ok (.ineg, 1) := by decide +kernel
theorem dX0_run_274 : decode cX0_run 274 = .ok (.ireturn, 1) := by decide +kernel
theorem dX0_run_275 : decode cX0_run 275 = .ok (.aload_n 0, 1) := by decide +kernel
theorem dX0_run_276 : decode cX0_run 276 = .ok (.iconst 1, 1) := by decide +kernel
theorem dX0_run_277 : decode cX0_run 277 = .ok (.iload 6, 2) := by decide +kernel
theorem dX0_run_279 : decode cX0_run 279 = .ok (.iload_n 3, 1) := by decide +kernel
theorem dX0_run_280 : decode cX0_run 280 = .ok (.iconst 1, 1) := by decide +kernel
theorem dX0_run_281 : decode cX0_run 281 = .ok (.iadd, 1) := by decide +kernel
theorem dX0_run_282 : decode cX0_run 282 = .ok (.iload 8, 2) := by decide +kernel
theorem dX0_run_284 : decode cX0_run 284 = .ok (.invokevirtual 40, 3) := by decide +kernel
theorem dX0_run_287 : decode cX0_run 287 = .ok (.ireturn, 1) := by decide +kernel
theorem dX0_run_288 : decode cX0_run 288 = .ok (.aload_n 0, 1) := by decide +kernel
theorem dX0_run_289 : decode cX0_run 289 = .ok (.iconst 2, 1) := by decide +kernel
theorem dX0_run_290 : decode cX0_run 290 = .ok (.iload 6, 2) := by decide +kernel
theorem dX0_run_292 : decode cX0_run 292 = .ok (.iload_n 3, 1) := by decide +kernel
theorem dX0_run_293 : decode cX0_run 293 = .ok (.aload_n 0, 1) := by decide +kernel
theorem dX0_run_294 : decode cX0_run 294 = .ok (.getfield 19, 3) := by decide +kernel
theorem dX0_run_297 : decode cX0_run 297 = .ok (.isub, 1) := by decide +kernel
theorem dX0_run_298 : decode cX0_run 298 = .ok (.iload 8, 2) := by decide +kernel
theorem dX0_run_300 : decode cX0_run 300 = .ok (.invokevirtual 40, 3) := by decide +kernel
theorem dX0_run_303 : decode cX0_run 303 = .ok (.ireturn, 1) := by decide +kernel
theorem dX0_run_304 : decode cX0_run 304 = .ok (.aload_n 0, 1) := by decide +kernel
theorem dX0_run_305 : decode cX0_run 305 = .ok (.iconst 1, 1) := by decide +kernel
theorem dX0_run_306 : decode cX0_run 306 = .ok (.iload 6, 2) := by decide +kernel
theorem dX0_run_308 : decode cX0_run 308 = .ok (.iload_n 3, 1) := by decide +kernel
theorem dX0_run_309 : decode cX0_run 309 = .ok (.iload 8, 2) := by decide +kernel
theorem dX0_run_311 : decode cX0_run 311 = .ok (.invokevirtual 40, 3) := by decide +kernel
theorem dX0_run_314 : decode cX0_run 314 = .ok (.aload_n 0, 1) := by decide +kernel
theorem dX0_run_315 : decode cX0_run 315 = .ok (.iconst 0, 1) := by decide +kernel
theorem dX0_run_316 : decode cX0_run 316 = .ok (.iload 6, 2) := by decide +kernel
theorem dX0_run_318 : decode cX0_run 318 = .ok (.iconst 2, 1) := by decide +kernel
theorem dX0_run_319 : decode cX0_run 319 = .ok (.iload 8, 2) := by decide +kernel
theorem dX0_run_321 : decode cX0_run 321 = .ok (.invokevirtual 40, 3) := by decide +kernel
theorem dX0_run_324 : decode cX0_run 324 = .ok (.iadd, 1) := by decide +kernel
theorem dX0_run_325 : decode cX0_run 325 = .ok (.ireturn, 1) := by decide +kernel
theorem dX0_run_326 : decode cX0_run 326 = .ok (.aload_n 0, 1) := by decide +kernel
theorem dX0_run_327 : decode cX0_run 327 = .ok (.iconst 0, 1) := by decide +kernel
theorem dX0_run_328 : decode cX0_run 328 = .ok (.iload 6, 2) := by decide +kernel
theorem dX0_run_330 : decode cX0_run 330 = .ok (.iload_n 3, 1) := by decide +kernel
theorem dX0_run_331 : decode cX0_run 331 = .ok (.iload 8, 2) := by decide +kernel
theorem dX0_run_333 : decode cX0_run 333 = .ok (.invokevirtual 40, 3) := by decide +kernel
theorem dX0_run_336 : decode cX0_run 336 = .ok (.aload_n 0, 1) := by decide +kernel
theorem dX0_run_337 : decode cX0_run 337 = .ok (.getfield 31, 3) := by decide +kernel
theorem dX0_run_340 : decode cX0_run 340 = .ok (.ixor, 1) := by decide +kernel
theorem dX0_run_341 : decode cX0_run 341 = .ok (.ireturn, 1) := by decide +kernel
theorem dX0_run_342 : decode cX0_run 342 = .ok (.iconst 0, 1) := by decide +kernel
theorem dX0_run_343 : decode cX0_run 343 = .ok (.ireturn, 1) := by decide +kernel
theorem dX0_ownerOf_0 : decode cX0_ownerOf 0 = .ok (.iload_n 1, 1) := by decide +kernel
theorem dX0_ownerOf_1 : decode cX0_ownerOf 1 = .ok (.istore_n 2, 1) := by decide +kernel
theorem dX0_ownerOf_2 : decode cX0_ownerOf 2 = .ok (.iconst 0, 1) := by decide +kernel
theorem dX0_ownerOf_3 : decode cX0_ownerOf 3 = .ok (.istore_n 3, 1) := by decide +kernel
theorem dX0_ownerOf_4 : decode cX0_ownerOf 4 = .ok (.iload_n 3, 1) := by decide +kernel
theorem dX0_ownerOf_5 : decode cX0_ownerOf 5 = .ok (.getstatic 48, 3) := by decide +kernel
theorem dX0_ownerOf_8 : decode cX0_ownerOf 8 = .ok (.arraylength, 1) := by decide +kernel
theorem dX0_ownerOf_9 : decode cX0_ownerOf 9 = .ok (.if_icmp .ge 40, 3) := by decide +kernel
theorem dX0_ownerOf_12 : decode cX0_ownerOf 12 = .ok (.iload_n 2, 1) := by decide +kernel
theorem dX0_ownerOf_13 : decode cX0_ownerOf 13 = .ok (.ifCond .le 36, 3) := by decide +kernel
theorem dX0_ownerOf_16 : decode cX0_ownerOf 16 = .ok (.getstatic 51, 3) := by decide +kernel
theorem dX0_ownerOf_19 : decode cX0_ownerOf 19 = .ok (.iload_n 0, 1) := by decide +kernel
theorem dX0_ownerOf_20 : decode cX0_ownerOf 20 = .ok (.getstatic 48, 3) := by decide +kernel
theorem dX0_ownerOf_23 : decode cX0_ownerOf 23 = .ok (.arraylength, 1) := by decide +kernel
theorem dX0_ownerOf_24 : decode cX0_ownerOf 24 = .ok (.imul, 1) := by decide +kernel
theorem dX0_ownerOf_25 : decode cX0_ownerOf 25 = .ok (.iload_n 2, 1) := by decide +kernel
theorem dX0_ownerOf_26 : decode cX0_ownerOf 26 = .ok (.iadd, 1) := by decide +kernel
theorem dX0_ownerOf_27 : decode cX0_ownerOf 27 = .ok (.invokestatic 27, 3) := by decide +kernel
theorem dX0_ownerOf_30 : decode cX0_ownerOf 30 = .ok (.ifCond .eq 5, 3) := by decide +kernel
theorem dX0_ownerOf_33 : decode cX0_ownerOf 33 = .ok (.iload_n 2, 1) := by decide +kernel
theorem dX0_ownerOf_34 : decode cX0_ownerOf 34 = .ok (.ireturn, 1) := by decide +kernel
theorem dX0_ownerOf_35 : decode cX0_ownerOf 35 = .ok (.getstatic 48, 3) := by decide +kernel
theorem dX0_ownerOf_38 : decode cX0_ownerOf 38 = .ok (.iload_n 2, 1) := by decide +kernel
theorem dX0_ownerOf_39 : decode cX0_ownerOf 39 = .ok (.invokestatic 27, 3) := by decide +kernel
theorem dX0_ownerOf_42 : decode cX0_ownerOf 42 = .ok (.istore_n 2, 1) := by decide +kernel
theorem dX0_ownerOf_43 : decode cX0_ownerOf 43 = .ok (.iinc 3 1, 3) := by decide +kernel
theorem dX0_ownerOf_46 : decode cX0_ownerOf 46 = .ok (.goto (-42), 3) := by decide +kernel
theorem dX0_ownerOf_49 : decode cX0_ownerOf 49 = .ok (.iconst 0, 1) := by decide +kernel
theorem dX0_ownerOf_50 : decode cX0_ownerOf 50 = .ok (.ireturn, 1) := by decide +kernel
theorem dX1_init_0 : decode cX1_init 0 = .ok (.aload_n 0, 1) := by decide +kernel
theorem dX1_init_1 : decode cX1_init 1 = .ok (.invokespecial 3, 3) := by decide +kernel
theorem dX1_init_4 : decode cX1_init 4 = .ok (.aload_n 0, 1) := by decide +kernel
theorem dX1_init_5 : decode cX1_init 5 = .ok (.bipush 8, 2) := by decide +kernel
theorem dX1_init_7 : decode cX1_init 7 = .ok (.newarray .int, 2) := by decide +kernel
theorem dX1_init_9 : decode cX1_init 9 = .ok (.putfield 9, 3) := by decide +kernel
theorem dX1_init_12 : decode cX1_init 12 = .ok (.aload_n 0, 1) := by decide +kernel
theorem dX1_init_13 : decode cX1_init 13 = .ok (.bipush 8, 2) := by decide +kernel
theorem dX1_init_15 : decode cX1_init 15 = .ok (.newarray .int, 2) := by decide +kernel
theorem dX1_init_17 : decode cX1_init 17 = .ok (.putfield 15, 3) := by decide +kernel
theorem dX1_init_20 : decode cX1_init 20 = .ok (.aload_n 0, 1) := by decide +kernel
theorem dX1_init_21 : decode cX1_init 21 = .ok (.iload_n 1, 1) := by decide +kernel
theorem dX1_init_22 : decode cX1_init 22 = .ok (.bipush 8, 2) := by decide +kernel
theorem dX1_init_24 : decode cX1_init 24 = .ok (.invokestatic 18, 3) := by decide +kernel
theorem dX1_init_27 : decode cX1_init 27 = .ok (.putfield 24, 3) := by decide +kernel
theorem dX1_init_30 : decode cX1_init 30 = .ok (.return_, 1) := by decide +kernel
theorem dX1_empty_0 : decode cX1_empty 0 = .ok (.aload_n 0, 1) := by decide +kernel
theorem dX1_empty_1 : decode cX1_empty 1 = .ok (.iconst 0, 1) := by decide +kernel
theorem dX1_empty_2 : decode cX1_empty 2 = .ok (.putfield 28, 3) := by decide +kernel
theorem dX1_empty_5 : decode cX1_empty 5 = .ok (.iconst 0, 1) := by decide +kernel
theorem dX1_empty_6 : decode cX1_empty 6 = .ok (.ireturn, 1) := by decide +kernel
theorem dX1_add_0 : decode cX1_add 0 = .ok (.aload_n 0, 1) := by decide +kernel
theorem dX1_add_1 : decode cX1_add 1 = .ok (.getfield 28, 3) := by decide +kernel
theorem dX1_add_4 : decode cX1_add 4 = .ok (.aload_n 0, 1) := by decide +kernel
theorem dX1_add_5 : decode cX1_add 5 = .ok (.getfield 24, 3) := by decide +kernel
theorem dX1_add_8 : decode cX1_add 8 = .ok (.if_icmp .lt 6, 3) := by decide +kernel
theorem dX1_add_11 : decode cX1_add 11 = .ok (.bipush (-4), 2) := by decide +kernel
theorem dX1_add_13 : decode cX1_add 13 = .ok (.ireturn, 1) := by decide +kernel
theorem dX1_add_14 : decode cX1_add 14 = .ok (.aload_n 0, 1) := by decide +kernel
theorem dX1_add_15 : decode cX1_add 15 = .ok (.getfield 9, 3) := by decide +kernel
theorem dX1_add_18 : decode cX1_add 18 = .ok (.aload_n 0, 1) := by decide +kernel
theorem dX1_add_19 : decode cX1_add 19 = .ok (.getfield 28, 3) := by decide +kernel
theorem dX1_add_22 : decode cX1_add 22 = .ok (.iload_n 1, 1) := by decide +kernel
theorem dX1_add_23 : decode cX1_add 23 = .ok (.invokestatic 31, 3) := by decide +kernel
theorem dX1_add_26 : decode cX1_add 26 = .ok (.aload_n 0, 1) := by decide +kernel
theorem dX1_add_27 : decode cX1_add 27 = .ok (.getfield 15, 3) := by decide +kernel
theorem dX1_add_30 : decode cX1_add 30 = .ok (.aload_n 0, 1) := by decide +kernel
theorem dX1_add_31 : decode cX1_add 31 = .ok (.getfield 28, 3) := by decide +kernel
theorem dX1_add_34 : decode cX1_add 34 = .ok (.iload_n 2, 1) := by decide +kernel
theorem dX1_add_35 : decode cX1_add 35 = .ok (.invokestatic 31, 3) := by decide +kernel
theorem dX1_add_38 : decode cX1_add 38 = .ok (.aload_n 0, 1) := by decide +kernel
theorem dX1_add_39 : decode cX1_add 39 = .ok (.dup, 1) := by decide +kernel
theorem dX1_add_40 : decode cX1_add 40 = .ok (.getfield 28, 3) := by decide +kernel
theorem dX1_add_43 : decode cX1_add 43 = .ok (.iconst 1, 1) := by decide +kernel
theorem dX1_add_44 : decode cX1_add 44 = .ok (.iadd, 1) := by decide +kernel
theorem dX1_add_45 : decode cX1_add 45 = .ok (.putfield 28, 3) := by decide +kernel
theorem dX1_add_48 : decode cX1_add 48 = .ok (.aload_n 0, 1) := by decide +kernel
theorem dX1_add_49 : decode cX1_add 49 = .ok (.getfield 28, 3) := by decide +kernel
theorem dX1_add_52 : decode cX1_add 52 = .ok (.ireturn, 1) := by decide +kernel
theorem dX1_takeAfter_0 : decode cX1_takeAfter 0 = .ok (.aload_n 1, 1) := by decide +kernel
theorem dX1_takeAfter_1 : decode cX1_takeAfter 1 = .ok (.getfield 9, 3) := by decide +kernel
theorem dX1_takeAfter_4 : decode cX1_takeAfter 4 = .ok (.aload_n 0, 1) := by decide +kernel
theorem dX1_takeAfter_5 : decode cX1_takeAfter 5 = .ok (.getfield 9, 3) := by decide +kernel
theorem dX1_takeAfter_8 : decode cX1_takeAfter 8 = .ok (.invokestatic 35, 3) := by decide +kernel
theorem dX1_takeAfter_11 : decode cX1_takeAfter 11 = .ok (.aload_n 1, 1) := by decide +kernel
theorem dX1_takeAfter_12 : decode cX1_takeAfter 12 = .ok (.getfield 15, 3) := by decide +kernel
theorem dX1_takeAfter_15 : decode cX1_takeAfter 15 = .ok (.aload_n 0, 1) := by decide +kernel
theorem dX1_takeAfter_16 : decode cX1_takeAfter 16 = .ok (.getfield 15, 3) := by decide +kernel
theorem dX1_takeAfter_19 : decode cX1_takeAfter 19 = .ok (.invokestatic 35, 3) := by decide +kernel
theorem dX1_takeAfter_22 : decode cX1_takeAfter 22 = .ok (.aload_n 0, 1) := by decide +kernel
theorem dX1_takeAfter_23 : decode cX1_takeAfter 23 = .ok (.aload_n 1, 1) := by decide +kernel
theorem dX1_takeAfter_24 : decode cX1_takeAfter 24 = .ok (.getfield 28, 3) := by decide +kernel
theorem dX1_takeAfter_27 : decode cX1_takeAfter 27 = .ok (.putfield 28, 3) := by decide +kernel
theorem dX1_takeAfter_30 : decode cX1_takeAfter 30 = .ok (.return_, 1) := by decide +kernel
theorem dX2_init_0 : decode cX2_init 0 = .ok (.aload_n 0, 1) := by decide +kernel
theorem dX2_init_1 : decode cX2_init 1 = .ok (.invokespecial 3, 3) := by decide +kernel
theorem dX2_init_4 : decode cX2_init 4 = .ok (.aload_n 0, 1) := by decide +kernel
theorem dX2_init_5 : decode cX2_init 5 = .ok (.iconst 2, 1) := by decide +kernel
theorem dX2_init_6 : decode cX2_init 6 = .ok (.putfield 11, 3) := by decide +kernel
theorem dX2_init_9 : decode cX2_init 9 = .ok (.aload_n 0, 1) := by decide +kernel
theorem dX2_init_10 : decode cX2_init 10 = .ok (.bipush 10, 2) := by decide +kernel
theorem dX2_init_12 : decode cX2_init 12 = .ok (.newarray .int, 2) := by decide +kernel
theorem dX2_init_14 : decode cX2_init 14 = .ok (.putfield 15, 3) := by decide +kernel
theorem dX2_init_17 : decode cX2_init 17 = .ok (.aload_n 0, 1) := by decide +kernel
theorem dX2_init_18 : decode cX2_init 18 = .ok (.bipush 10, 2) := by decide +kernel
theorem dX2_init_20 : decode cX2_init 20 = .ok (.newarray .int, 2) := by decide +kernel
theorem dX2_init_22 : decode cX2_init 22 = .ok (.putfield 19, 3) := by decide +kernel
theorem dX2_init_25 : decode cX2_init 25 = .ok (.aload_n 0, 1) := by decide +kernel
theorem dX2_init_26 : decode cX2_init 26 = .ok (.bipush 100, 2) := by decide +kernel
theorem dX2_init_28 : decode cX2_init 28 = .ok (.newarray .int, 2) := by decide +kernel
theorem dX2_init_30 : decode cX2_init 30 = .ok (.putfield 22, 3) := by decide +kernel
theorem dX2_init_33 : decode cX2_init 33 = .ok (.aload_n 0, 1) := by decide +kernel
theorem dX2_init_34 : decode cX2_init 34 = .ok (.bipush 100, 2) := by decide +kernel
theorem dX2_init_36 : decode cX2_init 36 = .ok (.newarray .int, 2) := by decide +kernel
theorem dX2_init_38 : decode cX2_init 38 = .ok (.putfield 25, 3) := by decide +kernel
theorem dX2_init_41 : decode cX2_init 41 = .ok (.aload_n 0, 1) := by decide +kernel
theorem dX2_init_42 : decode cX2_init 42 = .ok (.bipush 100, 2) := by decide +kernel
theorem dX2_init_44 : decode cX2_init 44 = .ok (.newarray .int, 2) := by decide +kernel
theorem dX2_init_46 : decode cX2_init 46 = .ok (.putfield 28, 3) := by decide +kernel
theorem dX2_init_49 : decode cX2_init 49 = .ok (.return_, 1) := by decide +kernel
theorem dX2_clear_0 : decode cX2_clear 0 = .ok (.aload_n 0, 1) := by decide +kernel
theorem dX2_clear_1 : decode cX2_clear 1 = .ok (.iconst 2, 1) := by decide +kernel
theorem dX2_clear_2 : decode cX2_clear 2 = .ok (.putfield 11, 3) := by decide +kernel
theorem dX2_clear_5 : decode cX2_clear 5 = .ok (.aload_n 0, 1) := by decide +kernel
theorem dX2_clear_6 : decode cX2_clear 6 = .ok (.iconst 0, 1) := by decide +kernel
theorem dX2_clear_7 : decode cX2_clear 7 = .ok (.putfield 31, 3) := by decide +kernel
theorem dX2_clear_10 : decode cX2_clear 10 = .ok (.aload_n 0, 1) := by decide +kernel
theorem dX2_clear_11 : decode cX2_clear 11 = .ok (.iconst 0, 1) := by decide +kernel
theorem dX2_clear_12 : decode cX2_clear 12 = .ok (.putfield 34, 3) := by decide +kernel
theorem dX2_clear_15 : decode cX2_clear 15 = .ok (.return_, 1) := by decide +kernel
theorem dX2_addStep_0 : decode cX2_addStep 0 = .ok (.aload_n 0, 1) := by decide +kernel
theorem dX2_addStep_1 : decode cX2_addStep 1 = .ok (.getfield 22, 3) := by decide +kernel
theorem dX2_addStep_4 : decode cX2_addStep 4 = .ok (.aload_n 0, 1) := by decide +kernel
theorem dX2_addStep_5 : decode cX2_addStep 5 = .ok (.getfield 34, 3) := by decide +kernel
theorem dX2_addStep_8 : decode cX2_addStep 8 = .ok (.iload_n 1, 1) := by decide +kernel
theorem dX2_addStep_9 : decode cX2_addStep 9 = .ok (.invokestatic 37, 3) := by decide +kernel
theorem dX2_addStep_12 : decode cX2_addStep 12 = .ok (.aload_n 0, 1) := by decide +kernel
theorem dX2_addStep_13 : decode cX2_addStep 13 = .ok (.getfield 25, 3) := by decide +kernel
theorem dX2_addStep_16 : decode cX2_addStep 16 = .ok (.aload_n 0, 1) := by decide +kernel
theorem dX2_addStep_17 : decode cX2_addStep 17 = .ok (.getfield 34, 3) := by decide +kernel
theorem dX2_addStep_20 : decode cX2_addStep 20 = .ok (.iload_n 2, 1) := by decide +kernel
theorem dX2_addStep_21 : decode cX2_addStep 21 = .ok (.invokestatic 37, 3) := by decide +kernel
theorem dX2_addStep_24 : decode cX2_addStep 24 = .ok (.aload_n 0, 1) := by decide +kernel
theorem dX2_addStep_25 : decode cX2_addStep 25 = .ok (.getfield 28, 3) := by decide +kernel
theorem dX2_addStep_28 : decode cX2_addStep 28 = .ok (.aload_n 0, 1) := by decide +kernel
theorem dX2_addStep_29 : decode cX2_addStep 29 = .ok (.getfield 34, 3) := by decide +kernel
theorem dX2_addStep_32 : decode cX2_addStep 32 = .ok (.iload_n 3, 1) := by decide +kernel
theorem dX2_addStep_33 : decode cX2_addStep 33 = .ok (.invokestatic 37, 3) := by decide +kernel
theorem dX2_addStep_36 : decode cX2_addStep 36 = .ok (.aload_n 0, 1) := by decide +kernel
theorem dX2_addStep_37 : decode cX2_addStep 37 = .ok (.dup, 1) := by decide +kernel
theorem dX2_addStep_38 : decode cX2_addStep 38 = .ok (.getfield 34, 3) := by decide +kernel
theorem dX2_addStep_41 : decode cX2_addStep 41 = .ok (.iconst 1, 1) := by decide +kernel
theorem dX2_addStep_42 : decode cX2_addStep 42 = .ok (.iadd, 1) := by decide +kernel
theorem dX2_addStep_43 : decode cX2_addStep 43 = .ok (.putfield 34, 3) := by decide +kernel
theorem dX2_addStep_46 : decode cX2_addStep 46 = .ok (.return_, 1) := by decide +kernel
theorem dX2_endClause_0 : decode cX2_endClause 0 = .ok (.aload_n 0, 1) := by decide +kernel
theorem dX2_endClause_1 : decode cX2_endClause 1 = .ok (.getfield 15, 3) := by decide +kernel
theorem dX2_endClause_4 : decode cX2_endClause 4 = .ok (.aload_n 0, 1) := by decide +kernel
theorem dX2_endClause_5 : decode cX2_endClause 5 = .ok (.getfield 31, 3) := by decide +kernel
theorem dX2_endClause_8 : decode cX2_endClause 8 = .ok (.iload_n 1, 1) := by decide +kernel
theorem dX2_endClause_9 : decode cX2_endClause 9 = .ok (.invokestatic 37, 3) := by decide +kernel
theorem dX2_endClause_12 : decode cX2_endClause 12 = .ok (.aload_n 0, 1) := by decide +kernel
theorem dX2_endClause_13 : decode cX2_endClause 13 = .ok (.getfield 19, 3) := by decide +kernel
theorem dX2_endClause_16 : decode cX2_endClause 16 = .ok (.aload_n 0, 1) := by decide +kernel
theorem dX2_endClause_17 : decode cX2_endClause 17 = .ok (.getfield 31, 3) := by decide +kernel
theorem dX2_endClause_20 : decode cX2_endClause 20 = .ok (.aload_n 0, 1) := by decide +kernel
theorem dX2_endClause_21 : decode cX2_endClause 21 = .ok (.getfield 34, 3) := by decide +kernel
theorem dX2_endClause_24 : decode cX2_endClause 24 = .ok (.invokestatic 37, 3) := by decide +kernel
theorem dX2_endClause_27 : decode cX2_endClause 27 = .ok (.aload_n 0, 1) := by decide +kernel
theorem dX2_endClause_28 : decode cX2_endClause 28 = .ok (.dup, 1) := by decide +kernel
theorem dX2_endClause_29 : decode cX2_endClause 29 = .ok (.getfield 31, 3) := by decide +kernel
theorem dX2_endClause_32 : decode cX2_endClause 32 = .ok (.iconst 1, 1) := by decide +kernel
theorem dX2_endClause_33 : decode cX2_endClause 33 = .ok (.iadd, 1) := by decide +kernel
theorem dX2_endClause_34 : decode cX2_endClause 34 = .ok (.putfield 31, 3) := by decide +kernel
theorem dX2_endClause_37 : decode cX2_endClause 37 = .ok (.return_, 1) := by decide +kernel
theorem dX2_sumOf_0 : decode cX2_sumOf 0 = .ok (.bipush 20, 2) := by decide +kernel
theorem dX2_sumOf_2 : decode cX2_sumOf 2 = .ok (.aload_n 0, 1) := by decide +kernel
theorem dX2_sumOf_3 : decode cX2_sumOf 3 = .ok (.getfield 11, 3) := by decide +kernel
theorem dX2_sumOf_6 : decode cX2_sumOf 6 = .ok (.aload_n 1, 1) := by decide +kernel
theorem dX2_sumOf_7 : decode cX2_sumOf 7 = .ok (.iconst 4, 1) := by decide +kernel
theorem dX2_sumOf_8 : decode cX2_sumOf 8 = .ok (.invokestatic 41, 3) := by decide +kernel
theorem dX2_sumOf_11 : decode cX2_sumOf 11 = .ok (.imul, 1) := by decide +kernel
theorem dX2_sumOf_12 : decode cX2_sumOf 12 = .ok (.isub, 1) := by decide +kernel
theorem dX2_sumOf_13 : decode cX2_sumOf 13 = .ok (.istore_n 2, 1) := by decide +kernel
theorem dX2_sumOf_14 : decode cX2_sumOf 14 = .ok (.iconst 0, 1) := by decide +kernel
theorem dX2_sumOf_15 : decode cX2_sumOf 15 = .ok (.istore_n 3, 1) := by decide +kernel
theorem dX2_sumOf_16 : decode cX2_sumOf 16 = .ok (.iconst 0, 1) := by decide +kernel
theorem dX2_sumOf_17 : decode cX2_sumOf 17 = .ok (.istore 4, 2) := by decide +kernel
theorem dX2_sumOf_19 : decode cX2_sumOf 19 = .ok (.iload 4, 2) := by decide +kernel
theorem dX2_sumOf_21 : decode cX2_sumOf 21 = .ok (.aload_n 0, 1) := by decide +kernel
theorem dX2_sumOf_22 : decode cX2_sumOf 22 = .ok (.getfield 31, 3) := by decide +kernel
theorem dX2_sumOf_25 : decode cX2_sumOf 25 = .ok (.if_icmp .ge 46, 3) := by decide +kernel
theorem dX2_sumOf_28 : decode cX2_sumOf 28 = .ok (.aload_n 0, 1) := by decide +kernel
theorem dX2_sumOf_29 : decode cX2_sumOf 29 = .ok (.getfield 19, 3) := by decide +kernel
theorem dX2_sumOf_32 : decode cX2_sumOf 32 = .ok (.iload 4, 2) := by decide +kernel
theorem dX2_sumOf_34 : decode cX2_sumOf 34 = .ok (.invokestatic 41, 3) := by decide +kernel
theorem dX2_sumOf_37 : decode cX2_sumOf 37 = .ok (.istore 5, 2) := by decide +kernel
theorem dX2_sumOf_39 : decode cX2_sumOf 39 = .ok (.aload_n 0, 1) := by decide +kernel
theorem dX2_sumOf_40 : decode cX2_sumOf 40 = .ok (.iload_n 3, 1) := by decide +kernel
theorem dX2_sumOf_41 : decode cX2_sumOf 41 = .ok (.iload 5, 2) := by decide +kernel
theorem dX2_sumOf_43 : decode cX2_sumOf 43 = .ok (.aload_n 1, 1) := by decide +kernel
theorem dX2_sumOf_44 : decode cX2_sumOf 44 = .ok (.invokevirtual 45, 3) := by decide +kernel
theorem dX2_sumOf_47 : decode cX2_sumOf 47 = .ok (.ifCond .eq 15, 3) := by decide +kernel
theorem dX2_sumOf_50 : decode cX2_sumOf 50 = .ok (.iload_n 2, 1) := by decide +kernel
theorem dX2_sumOf_51 : decode cX2_sumOf 51 = .ok (.aload_n 0, 1) := by decide +kernel
theorem dX2_sumOf_52 : decode cX2_sumOf 52 = .ok (.getfield 15, 3) := by decide +kernel
theorem dX2_sumOf_55 : decode cX2_sumOf 55 = .ok (.iload 4, 2) := by decide +kernel
theorem dX2_sumOf_57 : decode cX2_sumOf 57 = .ok (.invokestatic 41, 3) := by decide +kernel
theorem dX2_sumOf_60 : decode cX2_sumOf 60 = .ok (.iadd, 1) := by decide +kernel
theorem dX2_sumOf_61 : decode cX2_sumOf 61 = .ok (.istore_n 2, 1) := by decide +kernel
theorem dX2_sumOf_62 : decode cX2_sumOf 62 = .ok (.iload 5, 2) := by decide +kernel
theorem dX2_sumOf_64 : decode cX2_sumOf 64 = .ok (.istore_n 3, 1) := by decide +kernel
theorem dX2_sumOf_65 : decode cX2_sumOf 65 = .ok (.iinc 4 1, 3) := by decide +kernel
theorem dX2_sumOf_68 : decode cX2_sumOf 68 = .ok (.goto (-49), 3) := by decide +kernel
theorem dX2_sumOf_71 : decode cX2_sumOf 71 = .ok (.iload_n 2, 1) := by decide +kernel
theorem dX2_sumOf_72 : decode cX2_sumOf 72 = .ok (.ireturn, 1) := by decide +kernel
theorem dX2_holdsFrom_0 : decode cX2_holdsFrom 0 = .ok (.iconst 0, 1) := by decide +kernel
theorem dX2_holdsFrom_1 : decode cX2_holdsFrom 1 = .ok (.istore 4, 2) := by decide +kernel
theorem dX2_holdsFrom_3 : decode cX2_holdsFrom 3 = .ok (.iload_n 1, 1) := by decide +kernel
theorem dX2_holdsFrom_4 : decode cX2_holdsFrom 4 = .ok (.istore 5, 2) := by decide +kernel
theorem dX2_holdsFrom_6 : decode cX2_holdsFrom 6 = .ok (.iload 5, 2) := by decide +kernel
theorem dX2_holdsFrom_8 : decode cX2_holdsFrom 8 = .ok (.iload_n 2, 1) := by decide +kernel
theorem dX2_holdsFrom_9 : decode cX2_holdsFrom 9 = .ok (.if_icmp .ge 131, 3) := by decide +kernel
theorem dX2_holdsFrom_12 : decode cX2_holdsFrom 12 = .ok (.iload 4, 2) := by decide +kernel
theorem dX2_holdsFrom_14 : decode cX2_holdsFrom 14 = .ok (.iconst 1, 1) := by decide +kernel
theorem dX2_holdsFrom_15 : decode cX2_holdsFrom 15 = .ok (.ishr, 1) := by decide +kernel
theorem dX2_holdsFrom_16 : decode cX2_holdsFrom 16 = .ok (.istore 6, 2) := by decide +kernel
theorem dX2_holdsFrom_18 : decode cX2_holdsFrom 18 = .ok (.iload 4, 2) := by decide +kernel
theorem dX2_holdsFrom_20 : decode cX2_holdsFrom 20 = .ok (.iconst 1, 1) := by decide +kernel
theorem dX2_holdsFrom_21 : decode cX2_holdsFrom 21 = .ok (.iand, 1) := by decide +kernel
theorem dX2_holdsFrom_22 : decode cX2_holdsFrom 22 = .ok (.istore 7, 2) := by decide +kernel
theorem dX2_holdsFrom_24 : decode cX2_holdsFrom 24 = .ok (.aload_n 0, 1) := by decide +kernel
theorem dX2_holdsFrom_25 : decode cX2_holdsFrom 25 = .ok (.getfield 22, 3) := by decide +kernel
theorem dX2_holdsFrom_28 : decode cX2_holdsFrom 28 = .ok (.iload 5, 2) := by decide +kernel
theorem dX2_holdsFrom_30 : decode cX2_holdsFrom 30 = .ok (.invokestatic 41, 3) := by decide +kernel
theorem dX2_holdsFrom_33 : decode cX2_holdsFrom 33 = .ok (.istore 8, 2) := by decide +kernel
theorem dX2_holdsFrom_35 : decode cX2_holdsFrom 35 = .ok (.iload 8, 2) := by decide +kernel
theorem dX2_holdsFrom_37 : decode cX2_holdsFrom 37 = .ok (.bipush 6, 2) := by decide +kernel
theorem dX2_holdsFrom_39 : decode cX2_holdsFrom 39 = .ok (.if_icmp .ne 12, 3) := by decide +kernel
theorem dX2_holdsFrom_42 : decode cX2_holdsFrom 42 = .ok (.iload 4, 2) := by decide +kernel
theorem dX2_holdsFrom_44 : decode cX2_holdsFrom 44 = .ok (.iconst 1, 1) := by decide +kernel
theorem dX2_holdsFrom_45 : decode cX2_holdsFrom 45 = .ok (.ixor, 1) := by decide +kernel
theorem dX2_holdsFrom_46 : decode cX2_holdsFrom 46 = .ok (.istore 4, 2) := by decide +kernel
theorem dX2_holdsFrom_48 : decode cX2_holdsFrom 48 = .ok (.goto 86, 3) := by decide +kernel
theorem dX2_holdsFrom_51 : decode cX2_holdsFrom 51 = .ok (.iload 8, 2) := by decide +kernel
theorem dX2_holdsFrom_53 : decode cX2_holdsFrom 53 = .ok (.bipush 7, 2) := by decide +kernel
theorem dX2_holdsFrom_55 : decode cX2_holdsFrom 55 = .ok (.if_icmp .ne 16, 3) := by decide +kernel
theorem dX2_holdsFrom_58 : decode cX2_holdsFrom 58 = .ok (.iload 6, 2) := by decide +kernel
theorem dX2_holdsFrom_60 : decode cX2_holdsFrom 60 = .ok (.iload 7, 2) := by decide +kernel
theorem dX2_holdsFrom_62 : decode cX2_holdsFrom 62 = .ok (.bipush (-2), 2) := by decide +kernel
theorem dX2_holdsFrom_64 : decode cX2_holdsFrom 64 = .ok (.ior, 1) := by decide +kernel
theorem dX2_holdsFrom_65 : decode cX2_holdsFrom 65 = .ok (.iand, 1) := by decide +kernel
theorem dX2_holdsFrom_66 : decode cX2_holdsFrom 66 = .ok (.istore 4, 2) := by decide +kernel
theorem dX2_holdsFrom_68 : decode cX2_holdsFrom 68 = .ok (.goto 66, 3) := by decide +kernel
theorem dX2_holdsFrom_71 : decode cX2_holdsFrom 71 = .ok (.iload 8, 2) := by decide +kernel
theorem dX2_holdsFrom_73 : decode cX2_holdsFrom 73 = .ok (.bipush 8, 2) := by decide +kernel
theorem dX2_holdsFrom_75 : decode cX2_holdsFrom 75 = .ok (.if_icmp .ne 13, 3) := by decide +kernel
theorem dX2_holdsFrom_78 : decode cX2_holdsFrom 78 = .ok (.iload 6, 2) := by decide +kernel
theorem dX2_holdsFrom_80 : decode cX2_holdsFrom 80 = .ok (.iload 7, 2) := by decide +kernel
theorem dX2_holdsFrom_82 : decode cX2_holdsFrom 82 = .ok (.ior, 1) := by decide +kernel
theorem dX2_holdsFrom_83 : decode cX2_holdsFrom 83 = .ok (.istore 4, 2) := by decide +kernel
theorem dX2_holdsFrom_85 : decode cX2_holdsFrom 85 = .ok (.goto 49, 3) := by decide +kernel
theorem dX2_holdsFrom_88 : decode cX2_holdsFrom 88 = .ok (.aload_n 3, 1) := by decide +kernel
theorem dX2_holdsFrom_89 : decode cX2_holdsFrom 89 = .ok (.iload 8, 2) := by decide +kernel
theorem dX2_holdsFrom_91 : decode cX2_holdsFrom 91 = .ok (.invokestatic 41, 3) := by decide +kernel
theorem dX2_holdsFrom_94 : decode cX2_holdsFrom 94 = .ok (.aload_n 0, 1) := by decide +kernel
theorem dX2_holdsFrom_95 : decode cX2_holdsFrom 95 = .ok (.getfield 25, 3) := by decide +kernel
theorem dX2_holdsFrom_98 : decode cX2_holdsFrom 98 = .ok (.iload 5, 2) := by decide +kernel
theorem dX2_holdsFrom_100 : decode cX2_holdsFrom 100 = .ok (.invokestatic 41, 3) := by decide +kernel
theorem dX2_holdsFrom_103 : decode cX2_holdsFrom 103 = .ok (.aload_n 0, 1) := by decide +kernel
theorem dX2_holdsFrom_104 : decode cX2_holdsFrom 104 = .ok (.getfield 28, 3) := by decide +kernel
theorem dX2_holdsFrom_107 : decode cX2_holdsFrom 107 = .ok (.iload 5, 2) := by decide +kernel
theorem dX2_holdsFrom_109 : decode cX2_holdsFrom 109 = .ok (.invokestatic 41, 3) := by decide +kernel
theorem dX2_holdsFrom_112 : decode cX2_holdsFrom 112 = .ok (.invokestatic 49, 3) := by decide +kernel
theorem dX2_holdsFrom_115 : decode cX2_holdsFrom 115 = .ok (.istore 9, 2) := by decide +kernel
theorem dX2_holdsFrom_117 : decode cX2_holdsFrom 117 = .ok (.iload 4, 2) := by decide +kernel
theorem dX2_holdsFrom_119 : decode cX2_holdsFrom 119 = .ok (.iconst 1, 1) := by decide +kernel
theorem dX2_holdsFrom_120 : decode cX2_holdsFrom 120 = .ok (.ishl, 1) := by decide +kernel
theorem dX2_holdsFrom_121 : decode cX2_holdsFrom 121 = .ok (.iload 9, 2) := by decide +kernel
theorem dX2_holdsFrom_123 : decode cX2_holdsFrom 123 = .ok (.ifCond .eq 7, 3) := by decide +kernel
theorem dX2_holdsFrom_126 : decode cX2_holdsFrom 126 = .ok (.iconst 1, 1) := by decide +kernel
theorem dX2_holdsFrom_127 : decode cX2_holdsFrom 127 = .ok (.goto 4, 3) := by decide +kernel
theorem dX2_holdsFrom_130 : decode cX2_holdsFrom 130 = .ok (.iconst 0, 1) := by decide +kernel
theorem dX2_holdsFrom_131 : decode cX2_holdsFrom 131 = .ok (.ior, 1) := by decide +kernel
theorem dX2_holdsFrom_132 : decode cX2_holdsFrom 132 = .ok (.istore 4, 2) := by decide +kernel
theorem dX2_holdsFrom_134 : decode cX2_holdsFrom 134 = .ok (.iinc 5 1, 3) := by decide +kernel
theorem dX2_holdsFrom_137 : decode cX2_holdsFrom 137 = .ok (.goto (-131), 3) := by decide +kernel
theorem dX2_holdsFrom_140 : decode cX2_holdsFrom 140 = .ok (.iload 4, 2) := by decide +kernel
theorem dX2_holdsFrom_142 : decode cX2_holdsFrom 142 = .ok (.iconst 1, 1) := by decide +kernel
theorem dX2_holdsFrom_143 : decode cX2_holdsFrom 143 = .ok (.iand, 1) := by decide +kernel
theorem dX2_holdsFrom_144 : decode cX2_holdsFrom 144 = .ok (.ifCond .eq 7, 3) := by decide +kernel
theorem dX2_holdsFrom_147 : decode cX2_holdsFrom 147 = .ok (.iconst 1, 1) := by decide +kernel
theorem dX2_holdsFrom_148 : decode cX2_holdsFrom 148 = .ok (.goto 4, 3) := by decide +kernel
theorem dX2_holdsFrom_151 : decode cX2_holdsFrom 151 = .ok (.iconst 0, 1) := by decide +kernel
theorem dX2_holdsFrom_152 : decode cX2_holdsFrom 152 = .ok (.ireturn, 1) := by decide +kernel
theorem dX2_passes_0 : decode cX2_passes 0 = .ok (.iload_n 1, 1) := by decide +kernel
theorem dX2_passes_1 : decode cX2_passes 1 = .ok (.lookupswitch 49 #[(60, 27), (62, 38)], 27) := by decide +kernel
theorem dX2_passes_28 : decode cX2_passes 28 = .ok (.iload_n 0, 1) := by decide +kernel
theorem dX2_passes_29 : decode cX2_passes 29 = .ok (.iload_n 2, 1) := by decide +kernel
theorem dX2_passes_30 : decode cX2_passes 30 = .ok (.if_icmp .ge 7, 3) := by decide +kernel
theorem dX2_passes_33 : decode cX2_passes 33 = .ok (.iconst 1, 1) := by decide +kernel
theorem dX2_passes_34 : decode cX2_passes 34 = .ok (.goto 4, 3) := by decide +kernel
theorem dX2_passes_37 : decode cX2_passes 37 = .ok (.iconst 0, 1) := by decide +kernel
theorem dX2_passes_38 : decode cX2_passes 38 = .ok (.ireturn, 1) := by decide +kernel
theorem dX2_passes_39 : decode cX2_passes 39 = .ok (.iload_n 0, 1) := by decide +kernel
theorem dX2_passes_40 : decode cX2_passes 40 = .ok (.iload_n 2, 1) := by decide +kernel
theorem dX2_passes_41 : decode cX2_passes 41 = .ok (.if_icmp .le 7, 3) := by decide +kernel
theorem dX2_passes_44 : decode cX2_passes 44 = .ok (.iconst 1, 1) := by decide +kernel
theorem dX2_passes_45 : decode cX2_passes 45 = .ok (.goto 4, 3) := by decide +kernel
theorem dX2_passes_48 : decode cX2_passes 48 = .ok (.iconst 0, 1) := by decide +kernel
theorem dX2_passes_49 : decode cX2_passes 49 = .ok (.ireturn, 1) := by decide +kernel
theorem dX2_passes_50 : decode cX2_passes 50 = .ok (.iload_n 0, 1) := by decide +kernel
theorem dX2_passes_51 : decode cX2_passes 51 = .ok (.iload_n 2, 1) := by decide +kernel
theorem dX2_passes_52 : decode cX2_passes 52 = .ok (.if_icmp .ne 7, 3) := by decide +kernel
theorem dX2_passes_55 : decode cX2_passes 55 = .ok (.iconst 1, 1) := by decide +kernel
theorem dX2_passes_56 : decode cX2_passes 56 = .ok (.goto 4, 3) := by decide +kernel
theorem dX2_passes_59 : decode cX2_passes 59 = .ok (.iconst 0, 1) := by decide +kernel
theorem dX2_passes_60 : decode cX2_passes 60 = .ok (.ireturn, 1) := by decide +kernel
theorem dX3_init_0 : decode cX3_init 0 = .ok (.aload_n 0, 1) := by decide +kernel
theorem dX3_init_1 : decode cX3_init 1 = .ok (.invokespecial 3, 3) := by decide +kernel
theorem dX3_init_4 : decode cX3_init 4 = .ok (.aload_n 0, 1) := by decide +kernel
theorem dX3_init_5 : decode cX3_init 5 = .ok (.iconst (-1), 1) := by decide +kernel
theorem dX3_init_6 : decode cX3_init 6 = .ok (.putfield 11, 3) := by decide +kernel
theorem dX3_init_9 : decode cX3_init 9 = .ok (.aload_n 0, 1) := by decide +kernel
theorem dX3_init_10 : decode cX3_init 10 = .ok (.new 15, 3) := by decide +kernel
theorem dX3_init_13 : decode cX3_init 13 = .ok (.dup, 1) := by decide +kernel
theorem dX3_init_14 : decode cX3_init 14 = .ok (.invokespecial 17, 3) := by decide +kernel
theorem dX3_init_17 : decode cX3_init 17 = .ok (.putfield 18, 3) := by decide +kernel
theorem dX3_init_20 : decode cX3_init 20 = .ok (.aload_n 0, 1) := by decide +kernel
theorem dX3_init_21 : decode cX3_init 21 = .ok (.aload_n 1, 1) := by decide +kernel
theorem dX3_init_22 : decode cX3_init 22 = .ok (.putfield 22, 3) := by decide +kernel
theorem dX3_init_25 : decode cX3_init 25 = .ok (.return_, 1) := by decide +kernel
theorem dX3_readAll_0 : decode cX3_readAll 0 = .ok (.aload_n 0, 1) := by decide +kernel
theorem dX3_readAll_1 : decode cX3_readAll 1 = .ok (.iload_n 1, 1) := by decide +kernel
theorem dX3_readAll_2 : decode cX3_readAll 2 = .ok (.putfield 26, 3) := by decide +kernel
theorem dX3_readAll_5 : decode cX3_readAll 5 = .ok (.aload_n 0, 1) := by decide +kernel
theorem dX3_readAll_6 : decode cX3_readAll 6 = .ok (.aload_n 2, 1) := by decide +kernel
theorem dX3_readAll_7 : decode cX3_readAll 7 = .ok (.putfield 18, 3) := by decide +kernel
theorem dX3_readAll_10 : decode cX3_readAll 10 = .ok (.aload_n 0, 1) := by decide +kernel
theorem dX3_readAll_11 : decode cX3_readAll 11 = .ok (.getfield 18, 3) := by decide +kernel
theorem dX3_readAll_14 : decode cX3_readAll 14 = .ok (.invokevirtual 29, 3) := by decide +kernel
theorem dX3_readAll_17 : decode cX3_readAll 17 = .ok (.aload_n 0, 1) := by decide +kernel
theorem dX3_readAll_18 : decode cX3_readAll 18 = .ok (.iconst (-1), 1) := by decide +kernel
theorem dX3_readAll_19 : decode cX3_readAll 19 = .ok (.putfield 32, 3) := by decide +kernel
theorem dX3_readAll_22 : decode cX3_readAll 22 = .ok (.aload_n 0, 1) := by decide +kernel
theorem dX3_readAll_23 : decode cX3_readAll 23 = .ok (.invokevirtual 35, 3) := by decide +kernel
theorem dX3_readAll_26 : decode cX3_readAll 26 = .ok (.aload_n 0, 1) := by decide +kernel
theorem dX3_readAll_27 : decode cX3_readAll 27 = .ok (.invokevirtual 38, 3) := by decide +kernel
theorem dX3_readAll_30 : decode cX3_readAll 30 = .ok (.istore_n 3, 1) := by decide +kernel
theorem dX3_readAll_31 : decode cX3_readAll 31 = .ok (.iconst 1, 1) := by decide +kernel
theorem dX3_readAll_32 : decode cX3_readAll 32 = .ok (.istore 4, 2) := by decide +kernel
theorem dX3_readAll_34 : decode cX3_readAll 34 = .ok (.iload 4, 2) := by decide +kernel
theorem dX3_readAll_36 : decode cX3_readAll 36 = .ok (.bipush 10, 2) := by decide +kernel
theorem dX3_readAll_38 : decode cX3_readAll 38 = .ok (.if_icmp .ge 31, 3) := by decide +kernel
theorem dX3_readAll_41 : decode cX3_readAll 41 = .ok (.iload_n 3, 1) := by decide +kernel
theorem dX3_readAll_42 : decode cX3_readAll 42 = .ok (.ifCond .eq 27, 3) := by decide +kernel
theorem dX3_readAll_45 : decode cX3_readAll 45 = .ok (.aload_n 0, 1) := by decide +kernel
theorem dX3_readAll_46 : decode cX3_readAll 46 = .ok (.getfield 11, 3) := by decide +kernel
theorem dX3_readAll_49 : decode cX3_readAll 49 = .ok (.bipush 59, 2) := by decide +kernel
theorem dX3_readAll_51 : decode cX3_readAll 51 = .ok (.if_icmp .ne 18, 3) := by decide +kernel
theorem dX3_readAll_54 : decode cX3_readAll 54 = .ok (.aload_n 0, 1) := by decide +kernel
theorem dX3_readAll_55 : decode cX3_readAll 55 = .ok (.invokevirtual 35, 3) := by decide +kernel
theorem dX3_readAll_58 : decode cX3_readAll 58 = .ok (.aload_n 0, 1) := by decide +kernel
theorem dX3_readAll_59 : decode cX3_readAll 59 = .ok (.invokevirtual 38, 3) := by decide +kernel
theorem dX3_readAll_62 : decode cX3_readAll 62 = .ok (.istore_n 3, 1) := by decide +kernel
theorem dX3_readAll_63 : decode cX3_readAll 63 = .ok (.iinc 4 1, 3) := by decide +kernel
theorem dX3_readAll_66 : decode cX3_readAll 66 = .ok (.goto (-32), 3) := by decide +kernel
theorem dX3_readAll_69 : decode cX3_readAll 69 = .ok (.iload_n 3, 1) := by decide +kernel
theorem dX3_readAll_70 : decode cX3_readAll 70 = .ok (.ifCond .eq 15, 3) := by decide +kernel
theorem dX3_readAll_73 : decode cX3_readAll 73 = .ok (.aload_n 0, 1) := by decide +kernel
theorem dX3_readAll_74 : decode cX3_readAll 74 = .ok (.getfield 11, 3) := by decide +kernel
theorem dX3_readAll_77 : decode cX3_readAll 77 = .ok (.iconst (-1), 1) := by decide +kernel
theorem dX3_readAll_78 : decode cX3_readAll 78 = .ok (.if_icmp .ne 7, 3) := by decide +kernel
theorem dX3_readAll_81 : decode cX3_readAll 81 = .ok (.iconst 1, 1) := by decide +kernel
theorem dX3_readAll_82 : decode cX3_readAll 82 = .ok (.goto 4, 3) := by decide +kernel
theorem dX3_readAll_85 : decode cX3_readAll 85 = .ok (.iconst 0, 1) := by decide +kernel
theorem dX3_readAll_86 : decode cX3_readAll 86 = .ok (.ireturn, 1) := by decide +kernel
theorem dX3_advance_0 : decode cX3_advance 0 = .ok (.aload_n 0, 1) := by decide +kernel
theorem dX3_advance_1 : decode cX3_advance 1 = .ok (.dup, 1) := by decide +kernel
theorem dX3_advance_2 : decode cX3_advance 2 = .ok (.getfield 32, 3) := by decide +kernel
theorem dX3_advance_5 : decode cX3_advance 5 = .ok (.iconst 1, 1) := by decide +kernel
theorem dX3_advance_6 : decode cX3_advance 6 = .ok (.iadd, 1) := by decide +kernel
theorem dX3_advance_7 : decode cX3_advance 7 = .ok (.putfield 32, 3) := by decide +kernel
theorem dX3_advance_10 : decode cX3_advance 10 = .ok (.aload_n 0, 1) := by decide +kernel
theorem dX3_advance_11 : decode cX3_advance 11 = .ok (.aload_n 0, 1) := by decide +kernel
theorem dX3_advance_12 : decode cX3_advance 12 = .ok (.getfield 32, 3) := by decide +kernel
theorem dX3_advance_15 : decode cX3_advance 15 = .ok (.ifCond .lt 38, 3) := by decide +kernel
theorem dX3_advance_18 : decode cX3_advance 18 = .ok (.aload_n 0, 1) := by decide +kernel
theorem dX3_advance_19 : decode cX3_advance 19 = .ok (.getfield 32, 3) := by decide +kernel
theorem dX3_advance_22 : decode cX3_advance 22 = .ok (.aload_n 0, 1) := by decide +kernel
theorem dX3_advance_23 : decode cX3_advance 23 = .ok (.getfield 26, 3) := by decide +kernel
theorem dX3_advance_26 : decode cX3_advance 26 = .ok (.if_icmp .ge 27, 3) := by decide +kernel
theorem dX3_advance_29 : decode cX3_advance 29 = .ok (.aload_n 0, 1) := by decide +kernel
theorem dX3_advance_30 : decode cX3_advance 30 = .ok (.getfield 32, 3) := by decide +kernel
theorem dX3_advance_33 : decode cX3_advance 33 = .ok (.aload_n 0, 1) := by decide +kernel
theorem dX3_advance_34 : decode cX3_advance 34 = .ok (.getfield 22, 3) := by decide +kernel
theorem dX3_advance_37 : decode cX3_advance 37 = .ok (.arraylength, 1) := by decide +kernel
theorem dX3_advance_38 : decode cX3_advance 38 = .ok (.if_icmp .ge 15, 3) := by decide +kernel
theorem dX3_advance_41 : decode cX3_advance 41 = .ok (.aload_n 0, 1) := by decide +kernel
theorem dX3_advance_42 : decode cX3_advance 42 = .ok (.getfield 22, 3) := by decide +kernel
theorem dX3_advance_45 : decode cX3_advance 45 = .ok (.aload_n 0, 1) := by decide +kernel
theorem dX3_advance_46 : decode cX3_advance 46 = .ok (.getfield 32, 3) := by decide +kernel
theorem dX3_advance_49 : decode cX3_advance 49 = .ok (.baload, 1) := by decide +kernel
theorem dX3_advance_50 : decode cX3_advance 50 = .ok (.goto 4, 3) := by decide +kernel
theorem dX3_advance_53 : decode cX3_advance 53 = .ok (.iconst (-1), 1) := by decide +kernel
theorem dX3_advance_54 : decode cX3_advance 54 = .ok (.putfield 11, 3) := by decide +kernel
theorem dX3_advance_57 : decode cX3_advance 57 = .ok (.return_, 1) := by decide +kernel
theorem dX3_readClause_0 : decode cX3_readClause 0 = .ok (.aload_n 0, 1) := by decide +kernel
theorem dX3_readClause_1 : decode cX3_readClause 1 = .ok (.getfield 11, 3) := by decide +kernel
theorem dX3_readClause_4 : decode cX3_readClause 4 = .ok (.bipush 121, 2) := by decide +kernel
theorem dX3_readClause_6 : decode cX3_readClause 6 = .ok (.if_icmp .ne 7, 3) := by decide +kernel
theorem dX3_readClause_9 : decode cX3_readClause 9 = .ok (.iconst 1, 1) := by decide +kernel
theorem dX3_readClause_10 : decode cX3_readClause 10 = .ok (.goto 4, 3) := by decide +kernel
theorem dX3_readClause_13 : decode cX3_readClause 13 = .ok (.iconst 0, 1) := by decide +kernel
theorem dX3_readClause_14 : decode cX3_readClause 14 = .ok (.istore_n 1, 1) := by decide +kernel
theorem dX3_readClause_15 : decode cX3_readClause 15 = .ok (.aload_n 0, 1) := by decide +kernel
theorem dX3_readClause_16 : decode cX3_readClause 16 = .ok (.getfield 11, 3) := by decide +kernel
theorem dX3_readClause_19 : decode cX3_readClause 19 = .ok (.bipush 108, 2) := by decide +kernel
theorem dX3_readClause_21 : decode cX3_readClause 21 = .ok (.if_icmp .ne 7, 3) := by decide +kernel
theorem dX3_readClause_24 : decode cX3_readClause 24 = .ok (.iconst 1, 1) := by decide +kernel
theorem dX3_readClause_25 : decode cX3_readClause 25 = .ok (.goto 4, 3) := by decide +kernel
theorem dX3_readClause_28 : decode cX3_readClause 28 = .ok (.iconst 0, 1) := by decide +kernel
theorem dX3_readClause_29 : decode cX3_readClause 29 = .ok (.istore_n 2, 1) := by decide +kernel
theorem dX3_readClause_30 : decode cX3_readClause 30 = .ok (.aload_n 0, 1) := by decide +kernel
theorem dX3_readClause_31 : decode cX3_readClause 31 = .ok (.iload_n 1, 1) := by decide +kernel
theorem dX3_readClause_32 : decode cX3_readClause 32 = .ok (.ifCond .eq 8, 3) := by decide +kernel
theorem dX3_readClause_35 : decode cX3_readClause 35 = .ok (.ldc 42, 2) := by decide +kernel
theorem dX3_readClause_37 : decode cX3_readClause 37 = .ok (.goto 14, 3) := by decide +kernel
theorem dX3_readClause_40 : decode cX3_readClause 40 = .ok (.iload_n 2, 1) := by decide +kernel
theorem dX3_readClause_41 : decode cX3_readClause 41 = .ok (.ifCond .eq 8, 3) := by decide +kernel
theorem dX3_readClause_44 : decode cX3_readClause 44 = .ok (.ldc 44, 2) := by decide +kernel
theorem dX3_readClause_46 : decode cX3_readClause 46 = .ok (.goto 5, 3) := by decide +kernel
theorem dX3_readClause_49 : decode cX3_readClause 49 = .ok (.ldc 46, 2) := by decide +kernel
theorem dX3_readClause_51 : decode cX3_readClause 51 = .ok (.invokevirtual 48, 3) := by decide +kernel
theorem dX3_readClause_54 : decode cX3_readClause 54 = .ok (.ifCond .eq 10, 3) := by decide +kernel
theorem dX3_readClause_57 : decode cX3_readClause 57 = .ok (.aload_n 0, 1) := by decide +kernel
theorem dX3_readClause_58 : decode cX3_readClause 58 = .ok (.invokevirtual 52, 3) := by decide +kernel
theorem dX3_readClause_61 : decode cX3_readClause 61 = .ok (.ifCond .ne 5, 3) := by decide +kernel
theorem dX3_readClause_64 : decode cX3_readClause 64 = .ok (.iconst 0, 1) := by decide +kernel
theorem dX3_readClause_65 : decode cX3_readClause 65 = .ok (.ireturn, 1) := by decide +kernel
theorem dX3_readClause_66 : decode cX3_readClause 66 = .ok (.iload_n 1, 1) := by decide +kernel
theorem dX3_readClause_67 : decode cX3_readClause 67 = .ok (.ifCond .eq 16, 3) := by decide +kernel
theorem dX3_readClause_70 : decode cX3_readClause 70 = .ok (.aload_n 0, 1) := by decide +kernel
theorem dX3_readClause_71 : decode cX3_readClause 71 = .ok (.getfield 18, 3) := by decide +kernel
theorem dX3_readClause_74 : decode cX3_readClause 74 = .ok (.aload_n 0, 1) := by decide +kernel
theorem dX3_readClause_75 : decode cX3_readClause 75 = .ok (.getfield 55, 3) := by decide +kernel
theorem dX3_readClause_78 : decode cX3_readClause 78 = .ok (.putfield 58, 3) := by decide +kernel
theorem dX3_readClause_81 : decode cX3_readClause 81 = .ok (.iconst 1, 1) := by decide +kernel
theorem dX3_readClause_82 : decode cX3_readClause 82 = .ok (.ireturn, 1) := by decide +kernel
theorem dX3_readClause_83 : decode cX3_readClause 83 = .ok (.iload_n 2, 1) := by decide +kernel
theorem dX3_readClause_84 : decode cX3_readClause 84 = .ok (.ifCond .eq 11, 3) := by decide +kernel
theorem dX3_readClause_87 : decode cX3_readClause 87 = .ok (.aload_n 0, 1) := by decide +kernel
theorem dX3_readClause_88 : decode cX3_readClause 88 = .ok (.getfield 55, 3) := by decide +kernel
theorem dX3_readClause_91 : decode cX3_readClause 91 = .ok (.ineg, 1) := by decide +kernel
theorem dX3_readClause_92 : decode cX3_readClause 92 = .ok (.goto 7, 3) := by decide +kernel
theorem dX3_readClause_95 : decode cX3_readClause 95 = .ok (.aload_n 0, 1) := by decide +kernel
theorem dX3_readClause_96 : decode cX3_readClause 96 = .ok (.getfield 55, 3) := by decide +kernel
theorem dX3_readClause_99 : decode cX3_readClause 99 = .ok (.istore_n 3, 1) := by decide +kernel
theorem dX3_readClause_100 : decode cX3_readClause 100 = .ok (.aload_n 0, 1) := by decide +kernel
theorem dX3_readClause_101 : decode cX3_readClause 101 = .ok (.ldc 61, 2) := by decide +kernel
theorem dX3_readClause_103 : decode cX3_readClause 103 = .ok (.invokevirtual 48, 3) := by decide +kernel
theorem dX3_readClause_106 : decode cX3_readClause 106 = .ok (.ifCond .eq 15, 3) := by decide +kernel
theorem dX3_readClause_109 : decode cX3_readClause 109 = .ok (.aload_n 0, 1) := by decide +kernel
theorem dX3_readClause_110 : decode cX3_readClause 110 = .ok (.iconst 0, 1) := by decide +kernel
theorem dX3_readClause_111 : decode cX3_readClause 111 = .ok (.invokevirtual 63, 3) := by decide +kernel
theorem dX3_readClause_114 : decode cX3_readClause 114 = .ok (.ifCond .eq 7, 3) := by decide +kernel
theorem dX3_readClause_117 : decode cX3_readClause 117 = .ok (.iconst 1, 1) := by decide +kernel
theorem dX3_readClause_118 : decode cX3_readClause 118 = .ok (.goto 4, 3) := by decide +kernel
theorem dX3_readClause_121 : decode cX3_readClause 121 = .ok (.iconst 0, 1) := by decide +kernel
theorem dX3_readClause_122 : decode cX3_readClause 122 = .ok (.istore 4, 2) := by decide +kernel
theorem dX3_readClause_124 : decode cX3_readClause 124 = .ok (.aload_n 0, 1) := by decide +kernel
theorem dX3_readClause_125 : decode cX3_readClause 125 = .ok (.getfield 18, 3) := by decide +kernel
theorem dX3_readClause_128 : decode cX3_readClause 128 = .ok (.iload_n 3, 1) := by decide +kernel
theorem dX3_readClause_129 : decode cX3_readClause 129 = .ok (.invokevirtual 67, 3) := by decide +kernel
theorem dX3_readClause_132 : decode cX3_readClause 132 = .ok (.iload 4, 2) := by decide +kernel
theorem dX3_readClause_134 : decode cX3_readClause 134 = .ok (.ireturn, 1) := by decide +kernel
theorem dX3_readWord_0 : decode cX3_readWord 0 = .ok (.iconst 0, 1) := by decide +kernel
theorem dX3_readWord_1 : decode cX3_readWord 1 = .ok (.istore_n 2, 1) := by decide +kernel
theorem dX3_readWord_2 : decode cX3_readWord 2 = .ok (.iload_n 2, 1) := by decide +kernel
theorem dX3_readWord_3 : decode cX3_readWord 3 = .ok (.aload_n 1, 1) := by decide +kernel
theorem dX3_readWord_4 : decode cX3_readWord 4 = .ok (.invokevirtual 71, 3) := by decide +kernel
theorem dX3_readWord_7 : decode cX3_readWord 7 = .ok (.if_icmp .ge 27, 3) := by decide +kernel
theorem dX3_readWord_10 : decode cX3_readWord 10 = .ok (.aload_n 0, 1) := by decide +kernel
theorem dX3_readWord_11 : decode cX3_readWord 11 = .ok (.getfield 11, 3) := by decide +kernel
theorem dX3_readWord_14 : decode cX3_readWord 14 = .ok (.aload_n 1, 1) := by decide +kernel
theorem dX3_readWord_15 : decode cX3_readWord 15 = .ok (.iload_n 2, 1) := by decide +kernel
theorem dX3_readWord_16 : decode cX3_readWord 16 = .ok (.invokevirtual 77, 3) := by decide +kernel
theorem dX3_readWord_19 : decode cX3_readWord 19 = .ok (.if_icmp .eq 5, 3) := by decide +kernel
theorem dX3_readWord_22 : decode cX3_readWord 22 = .ok (.iconst 0, 1) := by decide +kernel
theorem dX3_readWord_23 : decode cX3_readWord 23 = .ok (.ireturn, 1) := by decide +kernel
theorem dX3_readWord_24 : decode cX3_readWord 24 = .ok (.aload_n 0, 1) := by decide +kernel
theorem dX3_readWord_25 : decode cX3_readWord 25 = .ok (.invokevirtual 35, 3) := by decide +kernel
theorem dX3_readWord_28 : decode cX3_readWord 28 = .ok (.iinc 2 1, 3) := by decide +kernel
theorem dX3_readWord_31 : decode cX3_readWord 31 = .ok (.goto (-29), 3) := by decide +kernel
theorem dX3_readWord_34 : decode cX3_readWord 34 = .ok (.iconst 1, 1) := by decide +kernel
theorem dX3_readWord_35 : decode cX3_readWord 35 = .ok (.ireturn, 1) := by decide +kernel
theorem dX3_readNumber_0 : decode cX3_readNumber 0 = .ok (.aload_n 0, 1) := by decide +kernel
theorem dX3_readNumber_1 : decode cX3_readNumber 1 = .ok (.getfield 11, 3) := by decide +kernel
theorem dX3_readNumber_4 : decode cX3_readNumber 4 = .ok (.bipush 48, 2) := by decide +kernel
theorem dX3_readNumber_6 : decode cX3_readNumber 6 = .ok (.if_icmp .lt 12, 3) := by decide +kernel
theorem dX3_readNumber_9 : decode cX3_readNumber 9 = .ok (.aload_n 0, 1) := by decide +kernel
theorem dX3_readNumber_10 : decode cX3_readNumber 10 = .ok (.getfield 11, 3) := by decide +kernel
theorem dX3_readNumber_13 : decode cX3_readNumber 13 = .ok (.bipush 57, 2) := by decide +kernel
theorem dX3_readNumber_15 : decode cX3_readNumber 15 = .ok (.if_icmp .le 5, 3) := by decide +kernel
theorem dX3_readNumber_18 : decode cX3_readNumber 18 = .ok (.iconst 0, 1) := by decide +kernel
theorem dX3_readNumber_19 : decode cX3_readNumber 19 = .ok (.ireturn, 1) := by decide +kernel
theorem dX3_readNumber_20 : decode cX3_readNumber 20 = .ok (.aload_n 0, 1) := by decide +kernel
theorem dX3_readNumber_21 : decode cX3_readNumber 21 = .ok (.aload_n 0, 1) := by decide +kernel
theorem dX3_readNumber_22 : decode cX3_readNumber 22 = .ok (.getfield 11, 3) := by decide +kernel
theorem dX3_readNumber_25 : decode cX3_readNumber 25 = .ok (.bipush 48, 2) := by decide +kernel
theorem dX3_readNumber_27 : decode cX3_readNumber 27 = .ok (.isub, 1) := by decide +kernel
theorem dX3_readNumber_28 : decode cX3_readNumber 28 = .ok (.putfield 55, 3) := by decide +kernel
theorem dX3_readNumber_31 : decode cX3_readNumber 31 = .ok (.aload_n 0, 1) := by decide +kernel
theorem dX3_readNumber_32 : decode cX3_readNumber 32 = .ok (.invokevirtual 35, 3) := by decide +kernel
theorem dX3_readNumber_35 : decode cX3_readNumber 35 = .ok (.aload_n 0, 1) := by decide +kernel
theorem dX3_readNumber_36 : decode cX3_readNumber 36 = .ok (.getfield 11, 3) := by decide +kernel
theorem dX3_readNumber_39 : decode cX3_readNumber 39 = .ok (.bipush 48, 2) := by decide +kernel
theorem dX3_readNumber_41 : decode cX3_readNumber 41 = .ok (.if_icmp .lt 35, 3) := by decide +kernel
theorem dX3_readNumber_44 : decode cX3_readNumber 44 = .ok (.aload_n 0, 1) := by decide +kernel
theorem dX3_readNumber_45 : decode cX3_readNumber 45 = .ok (.getfield 11, 3) := by decide +kernel
theorem dX3_readNumber_48 : decode cX3_readNumber 48 = .ok (.bipush 57, 2) := by decide +kernel
theorem dX3_readNumber_50 : decode cX3_readNumber 50 = .ok (.if_icmp .gt 26, 3) := by decide +kernel
theorem dX3_readNumber_53 : decode cX3_readNumber 53 = .ok (.aload_n 0, 1) := by decide +kernel
theorem dX3_readNumber_54 : decode cX3_readNumber 54 = .ok (.aload_n 0, 1) := by decide +kernel
theorem dX3_readNumber_55 : decode cX3_readNumber 55 = .ok (.getfield 55, 3) := by decide +kernel
theorem dX3_readNumber_58 : decode cX3_readNumber 58 = .ok (.bipush 10, 2) := by decide +kernel
theorem dX3_readNumber_60 : decode cX3_readNumber 60 = .ok (.imul, 1) := by decide +kernel
theorem dX3_readNumber_61 : decode cX3_readNumber 61 = .ok (.aload_n 0, 1) := by decide +kernel
theorem dX3_readNumber_62 : decode cX3_readNumber 62 = .ok (.getfield 11, 3) := by decide +kernel
theorem dX3_readNumber_65 : decode cX3_readNumber 65 = .ok (.iadd, 1) := by decide +kernel
theorem dX3_readNumber_66 : decode cX3_readNumber 66 = .ok (.bipush 48, 2) := by decide +kernel
theorem dX3_readNumber_68 : decode cX3_readNumber 68 = .ok (.isub, 1) := by decide +kernel
theorem dX3_readNumber_69 : decode cX3_readNumber 69 = .ok (.putfield 55, 3) := by decide +kernel
theorem dX3_readNumber_72 : decode cX3_readNumber 72 = .ok (.aload_n 0, 1) := by decide +kernel
theorem dX3_readNumber_73 : decode cX3_readNumber 73 = .ok (.invokevirtual 35, 3) := by decide +kernel
theorem dX3_readNumber_76 : decode cX3_readNumber 76 = .ok (.iconst 1, 1) := by decide +kernel
theorem dX3_readNumber_77 : decode cX3_readNumber 77 = .ok (.ireturn, 1) := by decide +kernel
theorem dX3_readEither_0 : decode cX3_readEither 0 = .ok (.aload_n 0, 1) := by decide +kernel
theorem dX3_readEither_1 : decode cX3_readEither 1 = .ok (.iload_n 1, 1) := by decide +kernel
theorem dX3_readEither_2 : decode cX3_readEither 2 = .ok (.invokevirtual 81, 3) := by decide +kernel
theorem dX3_readEither_5 : decode cX3_readEither 5 = .ok (.istore_n 2, 1) := by decide +kernel
theorem dX3_readEither_6 : decode cX3_readEither 6 = .ok (.iconst 0, 1) := by decide +kernel
theorem dX3_readEither_7 : decode cX3_readEither 7 = .ok (.istore_n 3, 1) := by decide +kernel
theorem dX3_readEither_8 : decode cX3_readEither 8 = .ok (.iconst 0, 1) := by decide +kernel
theorem dX3_readEither_9 : decode cX3_readEither 9 = .ok (.istore 4, 2) := by decide +kernel
theorem dX3_readEither_11 : decode cX3_readEither 11 = .ok (.iload 4, 2) := by decide +kernel
theorem dX3_readEither_13 : decode cX3_readEither 13 = .ok (.bipush 100, 2) := by decide +kernel
theorem dX3_readEither_15 : decode cX3_readEither 15 = .ok (.if_icmp .ge 106, 3) := by decide +kernel
theorem dX3_readEither_18 : decode cX3_readEither 18 = .ok (.iload_n 2, 1) := by decide +kernel
theorem dX3_readEither_19 : decode cX3_readEither 19 = .ok (.ifCond .eq 102, 3) := by decide +kernel
theorem dX3_readEither_22 : decode cX3_readEither 22 = .ok (.aload_n 0, 1) := by decide +kernel
theorem dX3_readEither_23 : decode cX3_readEither 23 = .ok (.getfield 11, 3) := by decide +kernel
theorem dX3_readEither_26 : decode cX3_readEither 26 = .ok (.bipush 38, 2) := by decide +kernel
theorem dX3_readEither_28 : decode cX3_readEither 28 = .ok (.if_icmp .eq 12, 3) := by decide +kernel
theorem dX3_readEither_31 : decode cX3_readEither 31 = .ok (.aload_n 0, 1) := by decide +kernel
theorem dX3_readEither_32 : decode cX3_readEither 32 = .ok (.getfield 11, 3) := by decide +kernel
theorem dX3_readEither_35 : decode cX3_readEither 35 = .ok (.bipush 124, 2) := by decide +kernel
theorem dX3_readEither_37 : decode cX3_readEither 37 = .ok (.if_icmp .ne 84, 3) := by decide +kernel
theorem dX3_readEither_40 : decode cX3_readEither 40 = .ok (.aload_n 0, 1) := by decide +kernel
theorem dX3_readEither_41 : decode cX3_readEither 41 = .ok (.getfield 11, 3) := by decide +kernel
theorem dX3_readEither_44 : decode cX3_readEither 44 = .ok (.bipush 38, 2) := by decide +kernel
theorem dX3_readEither_46 : decode cX3_readEither 46 = .ok (.if_icmp .ne 7, 3) := by decide +kernel
theorem dX3_readEither_49 : decode cX3_readEither 49 = .ok (.iconst 1, 1) := by decide +kernel
theorem dX3_readEither_50 : decode cX3_readEither 50 = .ok (.goto 4, 3) := by decide +kernel
theorem dX3_readEither_53 : decode cX3_readEither 53 = .ok (.iconst 0, 1) := by decide +kernel
theorem dX3_readEither_54 : decode cX3_readEither 54 = .ok (.istore 5, 2) := by decide +kernel
theorem dX3_readEither_56 : decode cX3_readEither 56 = .ok (.iload 5, 2) := by decide +kernel
theorem dX3_readEither_58 : decode cX3_readEither 58 = .ok (.ifCond .ne 18, 3) := by decide +kernel
theorem dX3_readEither_61 : decode cX3_readEither 61 = .ok (.iload_n 3, 1) := by decide +kernel
theorem dX3_readEither_62 : decode cX3_readEither 62 = .ok (.ifCond .eq 14, 3) := by decide +kernel
theorem dX3_readEither_65 : decode cX3_readEither 65 = .ok (.aload_n 0, 1) := by decide +kernel
theorem dX3_readEither_66 : decode cX3_readEither 66 = .ok (.getfield 18, 3) := by decide +kernel
theorem dX3_readEither_69 : decode cX3_readEither 69 = .ok (.bipush 8, 2) := by decide +kernel
theorem dX3_readEither_71 : decode cX3_readEither 71 = .ok (.iconst 0, 1) := by decide +kernel
theorem dX3_readEither_72 : decode cX3_readEither 72 = .ok (.iconst 0, 1) := by decide +kernel
theorem dX3_readEither_73 : decode cX3_readEither 73 = .ok (.invokevirtual 84, 3) := by decide +kernel
theorem dX3_readEither_76 : decode cX3_readEither 76 = .ok (.iload_n 3, 1) := by decide +kernel
theorem dX3_readEither_77 : decode cX3_readEither 77 = .ok (.iload 5, 2) := by decide +kernel
theorem dX3_readEither_79 : decode cX3_readEither 79 = .ok (.ifCond .ne 7, 3) := by decide +kernel
theorem dX3_readEither_82 : decode cX3_readEither 82 = .ok (.iconst 1, 1) := by decide +kernel
theorem dX3_readEither_83 : decode cX3_readEither 83 = .ok (.goto 4, 3) := by decide +kernel
theorem dX3_readEither_86 : decode cX3_readEither 86 = .ok (.iconst 0, 1) := by decide +kernel
theorem dX3_readEither_87 : decode cX3_readEither 87 = .ok (.ior, 1) := by decide +kernel
theorem dX3_readEither_88 : decode cX3_readEither 88 = .ok (.istore_n 3, 1) := by decide +kernel
theorem dX3_readEither_89 : decode cX3_readEither 89 = .ok (.aload_n 0, 1) := by decide +kernel
theorem dX3_readEither_90 : decode cX3_readEither 90 = .ok (.invokevirtual 35, 3) := by decide +kernel
theorem dX3_readEither_93 : decode cX3_readEither 93 = .ok (.aload_n 0, 1) := by decide +kernel
theorem dX3_readEither_94 : decode cX3_readEither 94 = .ok (.iload_n 1, 1) := by decide +kernel
theorem dX3_readEither_95 : decode cX3_readEither 95 = .ok (.invokevirtual 81, 3) := by decide +kernel
theorem dX3_readEither_98 : decode cX3_readEither 98 = .ok (.istore_n 2, 1) := by decide +kernel
theorem dX3_readEither_99 : decode cX3_readEither 99 = .ok (.iload 5, 2) := by decide +kernel
theorem dX3_readEither_101 : decode cX3_readEither 101 = .ok (.ifCond .eq 14, 3) := by decide +kernel
theorem dX3_readEither_104 : decode cX3_readEither 104 = .ok (.aload_n 0, 1) := by decide +kernel
theorem dX3_readEither_105 : decode cX3_readEither 105 = .ok (.getfield 18, 3) := by decide +kernel
theorem dX3_readEither_108 : decode cX3_readEither 108 = .ok (.bipush 7, 2) := by decide +kernel
theorem dX3_readEither_110 : decode cX3_readEither 110 = .ok (.iconst 0, 1) := by decide +kernel
theorem dX3_readEither_111 : decode cX3_readEither 111 = .ok (.iconst 0, 1) := by decide +kernel
theorem dX3_readEither_112 : decode cX3_readEither 112 = .ok (.invokevirtual 84, 3) := by decide +kernel
theorem dX3_readEither_115 : decode cX3_readEither 115 = .ok (.iinc 4 1, 3) := by decide +kernel
theorem dX3_readEither_118 : decode cX3_readEither 118 = .ok (.goto (-107), 3) := by decide +kernel
theorem dX3_readEither_121 : decode cX3_readEither 121 = .ok (.iload_n 3, 1) := by decide +kernel
theorem dX3_readEither_122 : decode cX3_readEither 122 = .ok (.ifCond .eq 14, 3) := by decide +kernel
theorem dX3_readEither_125 : decode cX3_readEither 125 = .ok (.aload_n 0, 1) := by decide +kernel
theorem dX3_readEither_126 : decode cX3_readEither 126 = .ok (.getfield 18, 3) := by decide +kernel
theorem dX3_readEither_129 : decode cX3_readEither 129 = .ok (.bipush 8, 2) := by decide +kernel
theorem dX3_readEither_131 : decode cX3_readEither 131 = .ok (.iconst 0, 1) := by decide +kernel
theorem dX3_readEither_132 : decode cX3_readEither 132 = .ok (.iconst 0, 1) := by decide +kernel
theorem dX3_readEither_133 : decode cX3_readEither 133 = .ok (.invokevirtual 84, 3) := by decide +kernel
theorem dX3_readEither_136 : decode cX3_readEither 136 = .ok (.iload_n 2, 1) := by decide +kernel
theorem dX3_readEither_137 : decode cX3_readEither 137 = .ok (.ireturn, 1) := by decide +kernel
theorem dX3_readPart_0 : decode cX3_readPart 0 = .ok (.aload_n 0, 1) := by decide +kernel
theorem dX3_readPart_1 : decode cX3_readPart 1 = .ok (.getfield 11, 3) := by decide +kernel
theorem dX3_readPart_4 : decode cX3_readPart 4 = .ok (.bipush 33, 2) := by decide +kernel
theorem dX3_readPart_6 : decode cX3_readPart 6 = .ok (.if_icmp .eq 17, 3) := by decide +kernel
theorem dX3_readPart_9 : decode cX3_readPart 9 = .ok (.aload_n 0, 1) := by decide +kernel
theorem dX3_readPart_10 : decode cX3_readPart 10 = .ok (.getfield 11, 3) := by decide +kernel
theorem dX3_readPart_13 : decode cX3_readPart 13 = .ok (.bipush 40, 2) := by decide +kernel
theorem dX3_readPart_15 : decode cX3_readPart 15 = .ok (.if_icmp .eq 8, 3) := by decide +kernel
theorem dX3_readPart_18 : decode cX3_readPart 18 = .ok (.aload_n 0, 1) := by decide +kernel
theorem dX3_readPart_19 : decode cX3_readPart 19 = .ok (.invokevirtual 88, 3) := by decide +kernel
theorem dX3_readPart_22 : decode cX3_readPart 22 = .ok (.ireturn, 1) := by decide +kernel
theorem dX3_readPart_23 : decode cX3_readPart 23 = .ok (.iload_n 1, 1) := by decide +kernel
theorem dX3_readPart_24 : decode cX3_readPart 24 = .ok (.iconst 4, 1) := by decide +kernel
theorem dX3_readPart_25 : decode cX3_readPart 25 = .ok (.if_icmp .lt 5, 3) := by decide +kernel
theorem dX3_readPart_28 : decode cX3_readPart 28 = .ok (.iconst 0, 1) := by decide +kernel
theorem dX3_readPart_29 : decode cX3_readPart 29 = .ok (.ireturn, 1) := by decide +kernel
theorem dX3_readPart_30 : decode cX3_readPart 30 = .ok (.aload_n 0, 1) := by decide +kernel
theorem dX3_readPart_31 : decode cX3_readPart 31 = .ok (.getfield 11, 3) := by decide +kernel
theorem dX3_readPart_34 : decode cX3_readPart 34 = .ok (.bipush 33, 2) := by decide +kernel
theorem dX3_readPart_36 : decode cX3_readPart 36 = .ok (.if_icmp .ne 7, 3) := by decide +kernel
theorem dX3_readPart_39 : decode cX3_readPart 39 = .ok (.iconst 1, 1) := by decide +kernel
theorem dX3_readPart_40 : decode cX3_readPart 40 = .ok (.goto 4, 3) := by decide +kernel
theorem dX3_readPart_43 : decode cX3_readPart 43 = .ok (.iconst 0, 1) := by decide +kernel
theorem dX3_readPart_44 : decode cX3_readPart 44 = .ok (.istore_n 2, 1) := by decide +kernel
theorem dX3_readPart_45 : decode cX3_readPart 45 = .ok (.aload_n 0, 1) := by decide +kernel
theorem dX3_readPart_46 : decode cX3_readPart 46 = .ok (.invokevirtual 35, 3) := by decide +kernel
theorem dX3_readPart_49 : decode cX3_readPart 49 = .ok (.iload_n 2, 1) := by decide +kernel
theorem dX3_readPart_50 : decode cX3_readPart 50 = .ok (.ifCond .eq 24, 3) := by decide +kernel
theorem dX3_readPart_53 : decode cX3_readPart 53 = .ok (.aload_n 0, 1) := by decide +kernel
theorem dX3_readPart_54 : decode cX3_readPart 54 = .ok (.iload_n 1, 1) := by decide +kernel
theorem dX3_readPart_55 : decode cX3_readPart 55 = .ok (.iconst 1, 1) := by decide +kernel
theorem dX3_readPart_56 : decode cX3_readPart 56 = .ok (.iadd, 1) := by decide +kernel
theorem dX3_readPart_57 : decode cX3_readPart 57 = .ok (.invokevirtual 81, 3) := by decide +kernel
theorem dX3_readPart_60 : decode cX3_readPart 60 = .ok (.istore_n 3, 1) := by decide +kernel
theorem dX3_readPart_61 : decode cX3_readPart 61 = .ok (.aload_n 0, 1) := by decide +kernel
theorem dX3_readPart_62 : decode cX3_readPart 62 = .ok (.getfield 18, 3) := by decide +kernel
theorem dX3_readPart_65 : decode cX3_readPart 65 = .ok (.bipush 6, 2) := by decide +kernel
theorem dX3_readPart_67 : decode cX3_readPart 67 = .ok (.iconst 0, 1) := by decide +kernel
theorem dX3_readPart_68 : decode cX3_readPart 68 = .ok (.iconst 0, 1) := by decide +kernel
theorem dX3_readPart_69 : decode cX3_readPart 69 = .ok (.invokevirtual 84, 3) := by decide +kernel
theorem dX3_readPart_72 : decode cX3_readPart 72 = .ok (.iload_n 3, 1) := by decide +kernel
theorem dX3_readPart_73 : decode cX3_readPart 73 = .ok (.ireturn, 1) := by decide +kernel
theorem dX3_readPart_74 : decode cX3_readPart 74 = .ok (.aload_n 0, 1) := by decide +kernel
theorem dX3_readPart_75 : decode cX3_readPart 75 = .ok (.iload_n 1, 1) := by decide +kernel
theorem dX3_readPart_76 : decode cX3_readPart 76 = .ok (.iconst 1, 1) := by decide +kernel
theorem dX3_readPart_77 : decode cX3_readPart 77 = .ok (.iadd, 1) := by decide +kernel
theorem dX3_readPart_78 : decode cX3_readPart 78 = .ok (.invokevirtual 63, 3) := by decide +kernel
theorem dX3_readPart_81 : decode cX3_readPart 81 = .ok (.ifCond .eq 16, 3) := by decide +kernel
theorem dX3_readPart_84 : decode cX3_readPart 84 = .ok (.aload_n 0, 1) := by decide +kernel
theorem dX3_readPart_85 : decode cX3_readPart 85 = .ok (.ldc 91, 2) := by decide +kernel
theorem dX3_readPart_87 : decode cX3_readPart 87 = .ok (.invokevirtual 48, 3) := by decide +kernel
theorem dX3_readPart_90 : decode cX3_readPart 90 = .ok (.ifCond .eq 7, 3) := by decide +kernel
theorem dX3_readPart_93 : decode cX3_readPart 93 = .ok (.iconst 1, 1) := by decide +kernel
theorem dX3_readPart_94 : decode cX3_readPart 94 = .ok (.goto 4, 3) := by decide +kernel
theorem dX3_readPart_97 : decode cX3_readPart 97 = .ok (.iconst 0, 1) := by decide +kernel
theorem dX3_readPart_98 : decode cX3_readPart 98 = .ok (.ireturn, 1) := by decide +kernel
theorem dX3_readTest_0 : decode cX3_readTest 0 = .ok (.aload_n 0, 1) := by decide +kernel
theorem dX3_readTest_1 : decode cX3_readTest 1 = .ok (.getfield 11, 3) := by decide +kernel
theorem dX3_readTest_4 : decode cX3_readTest 4 = .ok (.invokestatic 93, 3) := by decide +kernel
theorem dX3_readTest_7 : decode cX3_readTest 7 = .ok (.istore_n 1, 1) := by decide +kernel
theorem dX3_readTest_8 : decode cX3_readTest 8 = .ok (.iload_n 1, 1) := by decide +kernel
theorem dX3_readTest_9 : decode cX3_readTest 9 = .ok (.iconst (-1), 1) := by decide +kernel
theorem dX3_readTest_10 : decode cX3_readTest 10 = .ok (.if_icmp .ne 5, 3) := by decide +kernel
theorem dX3_readTest_13 : decode cX3_readTest 13 = .ok (.iconst 0, 1) := by decide +kernel
theorem dX3_readTest_14 : decode cX3_readTest 14 = .ok (.ireturn, 1) := by decide +kernel
theorem dX3_readTest_15 : decode cX3_readTest 15 = .ok (.aload_n 0, 1) := by decide +kernel
theorem dX3_readTest_16 : decode cX3_readTest 16 = .ok (.invokevirtual 35, 3) := by decide +kernel
theorem dX3_readTest_19 : decode cX3_readTest 19 = .ok (.aload_n 0, 1) := by decide +kernel
theorem dX3_readTest_20 : decode cX3_readTest 20 = .ok (.getfield 11, 3) := by decide +kernel
theorem dX3_readTest_23 : decode cX3_readTest 23 = .ok (.istore_n 2, 1) := by decide +kernel
theorem dX3_readTest_24 : decode cX3_readTest 24 = .ok (.iload_n 2, 1) := by decide +kernel
theorem dX3_readTest_25 : decode cX3_readTest 25 = .ok (.bipush 60, 2) := by decide +kernel
theorem dX3_readTest_27 : decode cX3_readTest 27 = .ok (.if_icmp .eq 17, 3) := by decide +kernel
theorem dX3_readTest_30 : decode cX3_readTest 30 = .ok (.iload_n 2, 1) := by decide +kernel
theorem dX3_readTest_31 : decode cX3_readTest 31 = .ok (.bipush 61, 2) := by decide +kernel
theorem dX3_readTest_33 : decode cX3_readTest 33 = .ok (.if_icmp .eq 11, 3) := by decide +kernel
theorem dX3_readTest_36 : decode cX3_readTest 36 = .ok (.iload_n 2, 1) := by decide +kernel
theorem dX3_readTest_37 : decode cX3_readTest 37 = .ok (.bipush 62, 2) := by decide +kernel
theorem dX3_readTest_39 : decode cX3_readTest 39 = .ok (.if_icmp .eq 5, 3) := by decide +kernel
theorem dX3_readTest_42 : decode cX3_readTest 42 = .ok (.iconst 0, 1) := by decide +kernel
theorem dX3_readTest_43 : decode cX3_readTest 43 = .ok (.ireturn, 1) := by decide +kernel
theorem dX3_readTest_44 : decode cX3_readTest 44 = .ok (.aload_n 0, 1) := by decide +kernel
theorem dX3_readTest_45 : decode cX3_readTest 45 = .ok (.invokevirtual 35, 3) := by decide +kernel
theorem dX3_readTest_48 : decode cX3_readTest 48 = .ok (.aload_n 0, 1) := by decide +kernel
theorem dX3_readTest_49 : decode cX3_readTest 49 = .ok (.invokevirtual 52, 3) := by decide +kernel
theorem dX3_readTest_52 : decode cX3_readTest 52 = .ok (.istore_n 3, 1) := by decide +kernel
theorem dX3_readTest_53 : decode cX3_readTest 53 = .ok (.aload_n 0, 1) := by decide +kernel
theorem dX3_readTest_54 : decode cX3_readTest 54 = .ok (.getfield 18, 3) := by decide +kernel
theorem dX3_readTest_57 : decode cX3_readTest 57 = .ok (.iload_n 1, 1) := by decide +kernel
theorem dX3_readTest_58 : decode cX3_readTest 58 = .ok (.iload_n 2, 1) := by decide +kernel
theorem dX3_readTest_59 : decode cX3_readTest 59 = .ok (.aload_n 0, 1) := by decide +kernel
theorem dX3_readTest_60 : decode cX3_readTest 60 = .ok (.getfield 55, 3) := by decide +kernel
theorem dX3_readTest_63 : decode cX3_readTest 63 = .ok (.invokevirtual 84, 3) := by decide +kernel
theorem dX3_readTest_66 : decode cX3_readTest 66 = .ok (.iload_n 3, 1) := by decide +kernel
theorem dX3_readTest_67 : decode cX3_readTest 67 = .ok (.ireturn, 1) := by decide +kernel
theorem dX3_whatOf_0 : decode cX3_whatOf 0 = .ok (.iload_n 0, 1) := by decide +kernel
theorem dX3_whatOf_1 : decode cX3_whatOf 1 = .ok (.lookupswitch 71 #[(100, 69), (107, 61), (108, 65), (112, 59), (118, 63), (121, 67)], 59) := by decide +kernel
theorem dX3_whatOf_60 : decode cX3_whatOf 60 = .ok (.iconst 0, 1) := by decide +kernel
theorem dX3_whatOf_61 : decode cX3_whatOf 61 = .ok (.ireturn, 1) := by decide +kernel
theorem dX3_whatOf_62 : decode cX3_whatOf 62 = .ok (.iconst 1, 1) := by decide +kernel
theorem dX3_whatOf_63 : decode cX3_whatOf 63 = .ok (.ireturn, 1) := by decide +kernel
theorem dX3_whatOf_64 : decode cX3_whatOf 64 = .ok (.iconst 2, 1) := by decide +kernel
theorem dX3_whatOf_65 : decode cX3_whatOf 65 = .ok (.ireturn, 1) := by decide +kernel
theorem dX3_whatOf_66 : decode cX3_whatOf 66 = .ok (.iconst 3, 1) := by decide +kernel
theorem dX3_whatOf_67 : decode cX3_whatOf 67 = .ok (.ireturn, 1) := by decide +kernel
theorem dX3_whatOf_68 : decode cX3_whatOf 68 = .ok (.iconst 4, 1) := by decide +kernel
theorem dX3_whatOf_69 : decode cX3_whatOf 69 = .ok (.ireturn, 1) := by decide +kernel
theorem dX3_whatOf_70 : decode cX3_whatOf 70 = .ok (.iconst 5, 1) := by decide +kernel
theorem dX3_whatOf_71 : decode cX3_whatOf 71 = .ok (.ireturn, 1) := by decide +kernel
theorem dX3_whatOf_72 : decode cX3_whatOf 72 = .ok (.iconst (-1), 1) := by decide +kernel
theorem dX3_whatOf_73 : decode cX3_whatOf 73 = .ok (.ireturn, 1) := by decide +kernel
theorem dX4_init_0 : decode cX4_init 0 = .ok (.aload_n 0, 1) := by decide +kernel
theorem dX4_init_1 : decode cX4_init 1 = .ok (.invokespecial 3, 3) := by decide +kernel
theorem dX4_init_4 : decode cX4_init 4 = .ok (.aload_n 0, 1) := by decide +kernel
theorem dX4_init_5 : decode cX4_init 5 = .ok (.bipush 60, 2) := by decide +kernel
theorem dX4_init_7 : decode cX4_init 7 = .ok (.newarray .int, 2) := by decide +kernel
theorem dX4_init_9 : decode cX4_init 9 = .ok (.putfield 9, 3) := by decide +kernel
theorem dX4_init_12 : decode cX4_init 12 = .ok (.aload_n 0, 1) := by decide +kernel
theorem dX4_init_13 : decode cX4_init 13 = .ok (.bipush 6, 2) := by decide +kernel
theorem dX4_init_15 : decode cX4_init 15 = .ok (.newarray .int, 2) := by decide +kernel
theorem dX4_init_17 : decode cX4_init 17 = .ok (.putfield 17, 3) := by decide +kernel
theorem dX4_init_20 : decode cX4_init 20 = .ok (.aload_n 0, 1) := by decide +kernel
theorem dX4_init_21 : decode cX4_init 21 = .ok (.bipush 6, 2) := by decide +kernel
theorem dX4_init_23 : decode cX4_init 23 = .ok (.newarray .int, 2) := by decide +kernel
theorem dX4_init_25 : decode cX4_init 25 = .ok (.putfield 20, 3) := by decide +kernel
theorem dX4_init_28 : decode cX4_init 28 = .ok (.return_, 1) := by decide +kernel
theorem dX4_look_0 : decode cX4_look 0 = .ok (.aload_n 0, 1) := by decide +kernel
theorem dX4_look_1 : decode cX4_look 1 = .ok (.getfield 17, 3) := by decide +kernel
theorem dX4_look_4 : decode cX4_look 4 = .ok (.iconst 5, 1) := by decide +kernel
theorem dX4_look_5 : decode cX4_look 5 = .ok (.aload_n 1, 1) := by decide +kernel
theorem dX4_look_6 : decode cX4_look 6 = .ok (.getfield 23, 3) := by decide +kernel
theorem dX4_look_9 : decode cX4_look 9 = .ok (.bipush 10, 2) := by decide +kernel
theorem dX4_look_11 : decode cX4_look 11 = .ok (.irem, 1) := by decide +kernel
theorem dX4_look_12 : decode cX4_look 12 = .ok (.invokestatic 29, 3) := by decide +kernel
theorem dX4_look_15 : decode cX4_look 15 = .ok (.iconst 0, 1) := by decide +kernel
theorem dX4_look_16 : decode cX4_look 16 = .ok (.istore_n 3, 1) := by decide +kernel
theorem dX4_look_17 : decode cX4_look 17 = .ok (.iload_n 3, 1) := by decide +kernel
theorem dX4_look_18 : decode cX4_look 18 = .ok (.aload_n 1, 1) := by decide +kernel
theorem dX4_look_19 : decode cX4_look 19 = .ok (.getfield 33, 3) := by decide +kernel
theorem dX4_look_22 : decode cX4_look 22 = .ok (.if_icmp .ge 125, 3) := by decide +kernel
theorem dX4_look_25 : decode cX4_look 25 = .ok (.aload_n 0, 1) := by decide +kernel
theorem dX4_look_26 : decode cX4_look 26 = .ok (.getfield 17, 3) := by decide +kernel
theorem dX4_look_29 : decode cX4_look 29 = .ok (.iconst 0, 1) := by decide +kernel
theorem dX4_look_30 : decode cX4_look 30 = .ok (.iload_n 3, 1) := by decide +kernel
theorem dX4_look_31 : decode cX4_look 31 = .ok (.invokestatic 29, 3) := by decide +kernel
theorem dX4_look_34 : decode cX4_look 34 = .ok (.aload_n 0, 1) := by decide +kernel
theorem dX4_look_35 : decode cX4_look 35 = .ok (.getfield 17, 3) := by decide +kernel
theorem dX4_look_38 : decode cX4_look 38 = .ok (.iconst 1, 1) := by decide +kernel
theorem dX4_look_39 : decode cX4_look 39 = .ok (.aload_n 1, 1) := by decide +kernel
theorem dX4_look_40 : decode cX4_look 40 = .ok (.getfield 36, 3) := by decide +kernel
theorem dX4_look_43 : decode cX4_look 43 = .ok (.iload_n 3, 1) := by decide +kernel
theorem dX4_look_44 : decode cX4_look 44 = .ok (.invokestatic 39, 3) := by decide +kernel
theorem dX4_look_47 : decode cX4_look 47 = .ok (.invokestatic 29, 3) := by decide +kernel
theorem dX4_look_50 : decode cX4_look 50 = .ok (.aload_n 0, 1) := by decide +kernel
theorem dX4_look_51 : decode cX4_look 51 = .ok (.getfield 17, 3) := by decide +kernel
theorem dX4_look_54 : decode cX4_look 54 = .ok (.iconst 2, 1) := by decide +kernel
theorem dX4_look_55 : decode cX4_look 55 = .ok (.aload_n 1, 1) := by decide +kernel
theorem dX4_look_56 : decode cX4_look 56 = .ok (.getfield 43, 3) := by decide +kernel
theorem dX4_look_59 : decode cX4_look 59 = .ok (.iload_n 3, 1) := by decide +kernel
theorem dX4_look_60 : decode cX4_look 60 = .ok (.invokestatic 39, 3) := by decide +kernel
theorem dX4_look_63 : decode cX4_look 63 = .ok (.invokestatic 29, 3) := by decide +kernel
theorem dX4_look_66 : decode cX4_look 66 = .ok (.aload_n 0, 1) := by decide +kernel
theorem dX4_look_67 : decode cX4_look 67 = .ok (.getfield 17, 3) := by decide +kernel
theorem dX4_look_70 : decode cX4_look 70 = .ok (.iconst 3, 1) := by decide +kernel
theorem dX4_look_71 : decode cX4_look 71 = .ok (.aload_n 1, 1) := by decide +kernel
theorem dX4_look_72 : decode cX4_look 72 = .ok (.getfield 46, 3) := by decide +kernel
theorem dX4_look_75 : decode cX4_look 75 = .ok (.iload_n 3, 1) := by decide +kernel
theorem dX4_look_76 : decode cX4_look 76 = .ok (.invokestatic 39, 3) := by decide +kernel
theorem dX4_look_79 : decode cX4_look 79 = .ok (.invokestatic 29, 3) := by decide +kernel
theorem dX4_look_82 : decode cX4_look 82 = .ok (.iconst 0, 1) := by decide +kernel
theorem dX4_look_83 : decode cX4_look 83 = .ok (.istore 4, 2) := by decide +kernel
theorem dX4_look_85 : decode cX4_look 85 = .ok (.iload 4, 2) := by decide +kernel
theorem dX4_look_87 : decode cX4_look 87 = .ok (.bipush 10, 2) := by decide +kernel
theorem dX4_look_89 : decode cX4_look 89 = .ok (.if_icmp .ge 52, 3) := by decide +kernel
theorem dX4_look_92 : decode cX4_look 92 = .ok (.aload_n 0, 1) := by decide +kernel
theorem dX4_look_93 : decode cX4_look 93 = .ok (.getfield 17, 3) := by decide +kernel
theorem dX4_look_96 : decode cX4_look 96 = .ok (.iconst 4, 1) := by decide +kernel
theorem dX4_look_97 : decode cX4_look 97 = .ok (.iload 4, 2) := by decide +kernel
theorem dX4_look_99 : decode cX4_look 99 = .ok (.invokestatic 29, 3) := by decide +kernel
theorem dX4_look_102 : decode cX4_look 102 = .ok (.aload_n 2, 1) := by decide +kernel
theorem dX4_look_103 : decode cX4_look 103 = .ok (.aload_n 0, 1) := by decide +kernel
theorem dX4_look_104 : decode cX4_look 104 = .ok (.getfield 17, 3) := by decide +kernel
theorem dX4_look_107 : decode cX4_look 107 = .ok (.invokevirtual 49, 3) := by decide +kernel
theorem dX4_look_110 : decode cX4_look 110 = .ok (.istore 5, 2) := by decide +kernel
theorem dX4_look_112 : decode cX4_look 112 = .ok (.aload_n 0, 1) := by decide +kernel
theorem dX4_look_113 : decode cX4_look 113 = .ok (.getfield 9, 3) := by decide +kernel
theorem dX4_look_116 : decode cX4_look 116 = .ok (.iload_n 3, 1) := by decide +kernel
theorem dX4_look_117 : decode cX4_look 117 = .ok (.bipush 10, 2) := by decide +kernel
theorem dX4_look_119 : decode cX4_look 119 = .ok (.imul, 1) := by decide +kernel
theorem dX4_look_120 : decode cX4_look 120 = .ok (.iload 4, 2) := by decide +kernel
theorem dX4_look_122 : decode cX4_look 122 = .ok (.iadd, 1) := by decide +kernel
theorem dX4_look_123 : decode cX4_look 123 = .ok (.aload_n 1, 1) := by decide +kernel
theorem dX4_look_124 : decode cX4_look 124 = .ok (.iload_n 3, 1) := by decide +kernel
theorem dX4_look_125 : decode cX4_look 125 = .ok (.iload 4, 2) := by decide +kernel
theorem dX4_look_127 : decode cX4_look 127 = .ok (.iload 5, 2) := by decide +kernel
theorem dX4_look_129 : decode cX4_look 129 = .ok (.invokestatic 53, 3) := by decide +kernel
theorem dX4_look_132 : decode cX4_look 132 = .ok (.invokestatic 29, 3) := by decide +kernel
theorem dX4_look_135 : decode cX4_look 135 = .ok (.iinc 4 1, 3) := by decide +kernel
theorem dX4_look_138 : decode cX4_look 138 = .ok (.goto (-53), 3) := by decide +kernel
theorem dX4_look_141 : decode cX4_look 141 = .ok (.iinc 3 1, 3) := by decide +kernel
theorem dX4_look_144 : decode cX4_look 144 = .ok (.goto (-127), 3) := by decide +kernel
theorem dX4_look_147 : decode cX4_look 147 = .ok (.return_, 1) := by decide +kernel
theorem dX4_rateBySum_0 : decode cX4_rateBySum 0 = .ok (.aload_n 0, 1) := by decide +kernel
theorem dX4_rateBySum_1 : decode cX4_rateBySum 1 = .ok (.getfield 43, 3) := by decide +kernel
theorem dX4_rateBySum_4 : decode cX4_rateBySum 4 = .ok (.iload_n 1, 1) := by decide +kernel
theorem dX4_rateBySum_5 : decode cX4_rateBySum 5 = .ok (.invokestatic 39, 3) := by decide +kernel
theorem dX4_rateBySum_8 : decode cX4_rateBySum 8 = .ok (.istore 4, 2) := by decide +kernel
theorem dX4_rateBySum_10 : decode cX4_rateBySum 10 = .ok (.iload_n 2, 1) := by decide +kernel
theorem dX4_rateBySum_11 : decode cX4_rateBySum 11 = .ok (.iconst 5, 1) := by decide +kernel
theorem dX4_rateBySum_12 : decode cX4_rateBySum 12 = .ok (.if_icmp .lt 7, 3) := by decide +kernel
theorem dX4_rateBySum_15 : decode cX4_rateBySum 15 = .ok (.iconst 1, 1) := by decide +kernel
theorem dX4_rateBySum_16 : decode cX4_rateBySum 16 = .ok (.goto 4, 3) := by decide +kernel
theorem dX4_rateBySum_19 : decode cX4_rateBySum 19 = .ok (.iload_n 3, 1) := by decide +kernel
theorem dX4_rateBySum_20 : decode cX4_rateBySum 20 = .ok (.istore 5, 2) := by decide +kernel
theorem dX4_rateBySum_22 : decode cX4_rateBySum 22 = .ok (.aload_n 0, 1) := by decide +kernel
theorem dX4_rateBySum_23 : decode cX4_rateBySum 23 = .ok (.getfield 36, 3) := by decide +kernel
theorem dX4_rateBySum_26 : decode cX4_rateBySum 26 = .ok (.iload_n 1, 1) := by decide +kernel
theorem dX4_rateBySum_27 : decode cX4_rateBySum 27 = .ok (.invokestatic 39, 3) := by decide +kernel
theorem dX4_rateBySum_30 : decode cX4_rateBySum 30 = .ok (.tableswitch 93 1 6 #[38, 43, 47, 50, 69, 75], 38) := by decide +kernel
theorem dX4_rateBySum_68 : decode cX4_rateBySum 68 = .ok (.iload_n 3, 1) := by decide +kernel
theorem dX4_rateBySum_69 : decode cX4_rateBySum 69 = .ok (.iload 4, 2) := by decide +kernel
theorem dX4_rateBySum_71 : decode cX4_rateBySum 71 = .ok (.iadd, 1) := by decide +kernel
theorem dX4_rateBySum_72 : decode cX4_rateBySum 72 = .ok (.ireturn, 1) := by decide +kernel
theorem dX4_rateBySum_73 : decode cX4_rateBySum 73 = .ok (.iload_n 3, 1) := by decide +kernel
theorem dX4_rateBySum_74 : decode cX4_rateBySum 74 = .ok (.iconst 2, 1) := by decide +kernel
theorem dX4_rateBySum_75 : decode cX4_rateBySum 75 = .ok (.idiv, 1) := by decide +kernel
theorem dX4_rateBySum_76 : decode cX4_rateBySum 76 = .ok (.ireturn, 1) := by decide +kernel
theorem dX4_rateBySum_77 : decode cX4_rateBySum 77 = .ok (.iload 5, 2) := by decide +kernel
theorem dX4_rateBySum_79 : decode cX4_rateBySum 79 = .ok (.ireturn, 1) := by decide +kernel
theorem dX4_rateBySum_80 : decode cX4_rateBySum 80 = .ok (.aload_n 0, 1) := by decide +kernel
theorem dX4_rateBySum_81 : decode cX4_rateBySum 81 = .ok (.getfield 23, 3) := by decide +kernel
theorem dX4_rateBySum_84 : decode cX4_rateBySum 84 = .ok (.bipush 7, 2) := by decide +kernel
theorem dX4_rateBySum_86 : decode cX4_rateBySum 86 = .ok (.irem, 1) := by decide +kernel
theorem dX4_rateBySum_87 : decode cX4_rateBySum 87 = .ok (.ifCond .ne 7, 3) := by decide +kernel
theorem dX4_rateBySum_90 : decode cX4_rateBySum 90 = .ok (.iconst 0, 1) := by decide +kernel
theorem dX4_rateBySum_91 : decode cX4_rateBySum 91 = .ok (.goto 7, 3) := by decide +kernel
theorem dX4_rateBySum_94 : decode cX4_rateBySum 94 = .ok (.iload_n 3, 1) := by decide +kernel
theorem dX4_rateBySum_95 : decode cX4_rateBySum 95 = .ok (.iload 4, 2) := by decide +kernel
theorem dX4_rateBySum_97 : decode cX4_rateBySum 97 = .ok (.iadd, 1) := by decide +kernel
theorem dX4_rateBySum_98 : decode cX4_rateBySum 98 = .ok (.ireturn, 1) := by decide +kernel
theorem dX4_rateBySum_99 : decode cX4_rateBySum 99 = .ok (.iload_n 3, 1) := by decide +kernel
theorem dX4_rateBySum_100 : decode cX4_rateBySum 100 = .ok (.iconst 2, 1) := by decide +kernel
theorem dX4_rateBySum_101 : decode cX4_rateBySum 101 = .ok (.idiv, 1) := by decide +kernel
theorem dX4_rateBySum_102 : decode cX4_rateBySum 102 = .ok (.iconst 5, 1) := by decide +kernel
theorem dX4_rateBySum_103 : decode cX4_rateBySum 103 = .ok (.iadd, 1) := by decide +kernel
theorem dX4_rateBySum_104 : decode cX4_rateBySum 104 = .ok (.ireturn, 1) := by decide +kernel
theorem dX4_rateBySum_105 : decode cX4_rateBySum 105 = .ok (.iload 5, 2) := by decide +kernel
theorem dX4_rateBySum_107 : decode cX4_rateBySum 107 = .ok (.aload_n 0, 1) := by decide +kernel
theorem dX4_rateBySum_108 : decode cX4_rateBySum 108 = .ok (.getfield 57, 3) := by decide +kernel
theorem dX4_rateBySum_111 : decode cX4_rateBySum 111 = .ok (.iload_n 1, 1) := by decide +kernel
theorem dX4_rateBySum_112 : decode cX4_rateBySum 112 = .ok (.iconst 4, 1) := by decide +kernel
theorem dX4_rateBySum_113 : decode cX4_rateBySum 113 = .ok (.imul, 1) := by decide +kernel
theorem dX4_rateBySum_114 : decode cX4_rateBySum 114 = .ok (.iload_n 2, 1) := by decide +kernel
theorem dX4_rateBySum_115 : decode cX4_rateBySum 115 = .ok (.iconst 4, 1) := by decide +kernel
theorem dX4_rateBySum_116 : decode cX4_rateBySum 116 = .ok (.irem, 1) := by decide +kernel
theorem dX4_rateBySum_117 : decode cX4_rateBySum 117 = .ok (.iadd, 1) := by decide +kernel
theorem dX4_rateBySum_118 : decode cX4_rateBySum 118 = .ok (.invokestatic 39, 3) := by decide +kernel
theorem dX4_rateBySum_121 : decode cX4_rateBySum 121 = .ok (.iadd, 1) := by decide +kernel
theorem dX4_rateBySum_122 : decode cX4_rateBySum 122 = .ok (.ireturn, 1) := by decide +kernel
theorem dX4_rateBySum_123 : decode cX4_rateBySum 123 = .ok (.iload_n 3, 1) := by decide +kernel
theorem dX4_rateBySum_124 : decode cX4_rateBySum 124 = .ok (.ireturn, 1) := by decide +kernel
theorem dX4_rate_0 : decode cX4_rate 0 = .ok (.aload_n 0, 1) := by decide +kernel
theorem dX4_rate_1 : decode cX4_rate 1 = .ok (.getfield 9, 3) := by decide +kernel
theorem dX4_rate_4 : decode cX4_rate 4 = .ok (.iload_n 1, 1) := by decide +kernel
theorem dX4_rate_5 : decode cX4_rate 5 = .ok (.bipush 10, 2) := by decide +kernel
theorem dX4_rate_7 : decode cX4_rate 7 = .ok (.imul, 1) := by decide +kernel
theorem dX4_rate_8 : decode cX4_rate 8 = .ok (.iload_n 2, 1) := by decide +kernel
theorem dX4_rate_9 : decode cX4_rate 9 = .ok (.iadd, 1) := by decide +kernel
theorem dX4_rate_10 : decode cX4_rate 10 = .ok (.invokestatic 39, 3) := by decide +kernel
theorem dX4_rate_13 : decode cX4_rate 13 = .ok (.ireturn, 1) := by decide +kernel
theorem dX4_share_0 : decode cX4_share 0 = .ok (.aload_n 0, 1) := by decide +kernel
theorem dX4_share_1 : decode cX4_share 1 = .ok (.aload_n 1, 1) := by decide +kernel
theorem dX4_share_2 : decode cX4_share 2 = .ok (.iload_n 2, 1) := by decide +kernel
theorem dX4_share_3 : decode cX4_share 3 = .ok (.aload_n 1, 1) := by decide +kernel
theorem dX4_share_4 : decode cX4_share 4 = .ok (.getfield 60, 3) := by decide +kernel
theorem dX4_share_7 : decode cX4_share 7 = .ok (.iload_n 2, 1) := by decide +kernel
theorem dX4_share_8 : decode cX4_share 8 = .ok (.invokestatic 39, 3) := by decide +kernel
theorem dX4_share_11 : decode cX4_share 11 = .ok (.iload_n 3, 1) := by decide +kernel
theorem dX4_share_12 : decode cX4_share 12 = .ok (.iload 4, 2) := by decide +kernel
theorem dX4_share_14 : decode cX4_share 14 = .ok (.invokevirtual 63, 3) := by decide +kernel
theorem dX4_share_17 : decode cX4_share 17 = .ok (.ireturn, 1) := by decide +kernel
theorem dX4_pays_0 : decode cX4_pays 0 = .ok (.iconst 0, 1) := by decide +kernel
theorem dX4_pays_1 : decode cX4_pays 1 = .ok (.istore 6, 2) := by decide +kernel
theorem dX4_pays_3 : decode cX4_pays 3 = .ok (.iconst (-1), 1) := by decide +kernel
theorem dX4_pays_4 : decode cX4_pays 4 = .ok (.istore 7, 2) := by decide +kernel
theorem dX4_pays_6 : decode cX4_pays 6 = .ok (.iconst 0, 1) := by decide +kernel
theorem dX4_pays_7 : decode cX4_pays 7 = .ok (.istore 8, 2) := by decide +kernel
theorem dX4_pays_9 : decode cX4_pays 9 = .ok (.iconst 0, 1) := by decide +kernel
theorem dX4_pays_10 : decode cX4_pays 10 = .ok (.istore 9, 2) := by decide +kernel
theorem dX4_pays_12 : decode cX4_pays 12 = .ok (.iload 9, 2) := by decide +kernel
theorem dX4_pays_14 : decode cX4_pays 14 = .ok (.aload_n 1, 1) := by decide +kernel
theorem dX4_pays_15 : decode cX4_pays 15 = .ok (.getfield 33, 3) := by decide +kernel
theorem dX4_pays_18 : decode cX4_pays 18 = .ok (.if_icmp .ge 98, 3) := by decide +kernel
theorem dX4_pays_21 : decode cX4_pays 21 = .ok (.iload 9, 2) := by decide +kernel
theorem dX4_pays_23 : decode cX4_pays 23 = .ok (.iload_n 2, 1) := by decide +kernel
theorem dX4_pays_24 : decode cX4_pays 24 = .ok (.if_icmp .ne 7, 3) := by decide +kernel
theorem dX4_pays_27 : decode cX4_pays 27 = .ok (.iload_n 3, 1) := by decide +kernel
theorem dX4_pays_28 : decode cX4_pays 28 = .ok (.goto 12, 3) := by decide +kernel
theorem dX4_pays_31 : decode cX4_pays 31 = .ok (.aload_n 1, 1) := by decide +kernel
theorem dX4_pays_32 : decode cX4_pays 32 = .ok (.getfield 60, 3) := by decide +kernel
theorem dX4_pays_35 : decode cX4_pays 35 = .ok (.iload 9, 2) := by decide +kernel
theorem dX4_pays_37 : decode cX4_pays 37 = .ok (.invokestatic 39, 3) := by decide +kernel
theorem dX4_pays_40 : decode cX4_pays 40 = .ok (.istore 10, 2) := by decide +kernel
theorem dX4_pays_42 : decode cX4_pays 42 = .ok (.iload 5, 2) := by decide +kernel
theorem dX4_pays_44 : decode cX4_pays 44 = .ok (.iload 9, 2) := by decide +kernel
theorem dX4_pays_46 : decode cX4_pays 46 = .ok (.ishr, 1) := by decide +kernel
theorem dX4_pays_47 : decode cX4_pays 47 = .ok (.iconst 1, 1) := by decide +kernel
theorem dX4_pays_48 : decode cX4_pays 48 = .ok (.iand, 1) := by decide +kernel
theorem dX4_pays_49 : decode cX4_pays 49 = .ok (.ifCond .eq 7, 3) := by decide +kernel
theorem dX4_pays_52 : decode cX4_pays 52 = .ok (.iconst 0, 1) := by decide +kernel
theorem dX4_pays_53 : decode cX4_pays 53 = .ok (.goto 22, 3) := by decide +kernel
theorem dX4_pays_56 : decode cX4_pays 56 = .ok (.iconst 0, 1) := by decide +kernel
theorem dX4_pays_57 : decode cX4_pays 57 = .ok (.aload_n 0, 1) := by decide +kernel
theorem dX4_pays_58 : decode cX4_pays 58 = .ok (.getfield 9, 3) := by decide +kernel
theorem dX4_pays_61 : decode cX4_pays 61 = .ok (.iload 9, 2) := by decide +kernel
theorem dX4_pays_63 : decode cX4_pays 63 = .ok (.bipush 10, 2) := by decide +kernel
theorem dX4_pays_65 : decode cX4_pays 65 = .ok (.imul, 1) := by decide +kernel
theorem dX4_pays_66 : decode cX4_pays 66 = .ok (.iload 10, 2) := by decide +kernel
theorem dX4_pays_68 : decode cX4_pays 68 = .ok (.iadd, 1) := by decide +kernel
theorem dX4_pays_69 : decode cX4_pays 69 = .ok (.invokestatic 39, 3) := by decide +kernel
theorem dX4_pays_72 : decode cX4_pays 72 = .ok (.invokestatic 67, 3) := by decide +kernel
theorem dX4_pays_75 : decode cX4_pays 75 = .ok (.istore 11, 2) := by decide +kernel
theorem dX4_pays_77 : decode cX4_pays 77 = .ok (.aload_n 0, 1) := by decide +kernel
theorem dX4_pays_78 : decode cX4_pays 78 = .ok (.getfield 20, 3) := by decide +kernel
theorem dX4_pays_81 : decode cX4_pays 81 = .ok (.iload 9, 2) := by decide +kernel
theorem dX4_pays_83 : decode cX4_pays 83 = .ok (.iload 11, 2) := by decide +kernel
theorem dX4_pays_85 : decode cX4_pays 85 = .ok (.invokestatic 29, 3) := by decide +kernel
theorem dX4_pays_88 : decode cX4_pays 88 = .ok (.iload 6, 2) := by decide +kernel
theorem dX4_pays_90 : decode cX4_pays 90 = .ok (.iload 11, 2) := by decide +kernel
theorem dX4_pays_92 : decode cX4_pays 92 = .ok (.iadd, 1) := by decide +kernel
theorem dX4_pays_93 : decode cX4_pays 93 = .ok (.istore 6, 2) := by decide +kernel
theorem dX4_pays_95 : decode cX4_pays 95 = .ok (.iload 11, 2) := by decide +kernel
theorem dX4_pays_97 : decode cX4_pays 97 = .ok (.iload 8, 2) := by decide +kernel
theorem dX4_pays_99 : decode cX4_pays 99 = .ok (.if_icmp .le 11, 3) := by decide +kernel
theorem dX4_pays_102 : decode cX4_pays 102 = .ok (.iload 11, 2) := by decide +kernel
theorem dX4_pays_104 : decode cX4_pays 104 = .ok (.istore 8, 2) := by decide +kernel
theorem dX4_pays_106 : decode cX4_pays 106 = .ok (.iload 9, 2) := by decide +kernel
theorem dX4_pays_108 : decode cX4_pays 108 = .ok (.istore 7, 2) := by decide +kernel
theorem dX4_pays_110 : decode cX4_pays 110 = .ok (.iinc 9 1, 3) := by decide +kernel
theorem dX4_pays_113 : decode cX4_pays 113 = .ok (.goto (-101), 3) := by decide +kernel
theorem dX4_pays_116 : decode cX4_pays 116 = .ok (.iload 6, 2) := by decide +kernel
theorem dX4_pays_118 : decode cX4_pays 118 = .ok (.ifCond .gt 5, 3) := by decide +kernel
theorem dX4_pays_121 : decode cX4_pays 121 = .ok (.iconst 0, 1) := by decide +kernel
theorem dX4_pays_122 : decode cX4_pays 122 = .ok (.ireturn, 1) := by decide +kernel
theorem dX4_pays_123 : decode cX4_pays 123 = .ok (.iload_n 2, 1) := by decide +kernel
theorem dX4_pays_124 : decode cX4_pays 124 = .ok (.iload 7, 2) := by decide +kernel
theorem dX4_pays_126 : decode cX4_pays 126 = .ok (.if_icmp .eq 18, 3) := by decide +kernel
theorem dX4_pays_129 : decode cX4_pays 129 = .ok (.iload 4, 2) := by decide +kernel
theorem dX4_pays_131 : decode cX4_pays 131 = .ok (.aload_n 0, 1) := by decide +kernel
theorem dX4_pays_132 : decode cX4_pays 132 = .ok (.getfield 20, 3) := by decide +kernel
theorem dX4_pays_135 : decode cX4_pays 135 = .ok (.iload_n 2, 1) := by decide +kernel
theorem dX4_pays_136 : decode cX4_pays 136 = .ok (.invokestatic 39, 3) := by decide +kernel
theorem dX4_pays_139 : decode cX4_pays 139 = .ok (.imul, 1) := by decide +kernel
theorem dX4_pays_140 : decode cX4_pays 140 = .ok (.iload 6, 2) := by decide +kernel
theorem dX4_pays_142 : decode cX4_pays 142 = .ok (.idiv, 1) := by decide +kernel
theorem dX4_pays_143 : decode cX4_pays 143 = .ok (.ireturn, 1) := by decide +kernel
theorem dX4_pays_144 : decode cX4_pays 144 = .ok (.iload 4, 2) := by decide +kernel
theorem dX4_pays_146 : decode cX4_pays 146 = .ok (.istore 9, 2) := by decide +kernel
theorem dX4_pays_148 : decode cX4_pays 148 = .ok (.iconst 0, 1) := by decide +kernel
theorem dX4_pays_149 : decode cX4_pays 149 = .ok (.istore 10, 2) := by decide +kernel
theorem dX4_pays_151 : decode cX4_pays 151 = .ok (.iload 10, 2) := by decide +kernel
theorem dX4_pays_153 : decode cX4_pays 153 = .ok (.aload_n 1, 1) := by decide +kernel
theorem dX4_pays_154 : decode cX4_pays 154 = .ok (.getfield 33, 3) := by decide +kernel
theorem dX4_pays_157 : decode cX4_pays 157 = .ok (.if_icmp .ge 40, 3) := by decide +kernel
theorem dX4_pays_160 : decode cX4_pays 160 = .ok (.iload 9, 2) := by decide +kernel
theorem dX4_pays_162 : decode cX4_pays 162 = .ok (.iload 10, 2) := by decide +kernel
theorem dX4_pays_164 : decode cX4_pays 164 = .ok (.iload 7, 2) := by decide +kernel
theorem dX4_pays_166 : decode cX4_pays 166 = .ok (.if_icmp .ne 7, 3) := by decide +kernel
theorem dX4_pays_169 : decode cX4_pays 169 = .ok (.iconst 0, 1) := by decide +kernel
theorem dX4_pays_170 : decode cX4_pays 170 = .ok (.goto 18, 3) := by decide +kernel
theorem dX4_pays_173 : decode cX4_pays 173 = .ok (.iload 4, 2) := by decide +kernel
theorem dX4_pays_175 : decode cX4_pays 175 = .ok (.aload_n 0, 1) := by decide +kernel
theorem dX4_pays_176 : decode cX4_pays 176 = .ok (.getfield 20, 3) := by decide +kernel
theorem dX4_pays_179 : decode cX4_pays 179 = .ok (.iload 10, 2) := by decide +kernel
theorem dX4_pays_181 : decode cX4_pays 181 = .ok (.invokestatic 39, 3) := by decide +kernel
theorem dX4_pays_184 : decode cX4_pays 184 = .ok (.imul, 1) := by decide +kernel
theorem dX4_pays_185 : decode cX4_pays 185 = .ok (.iload 6, 2) := by decide +kernel
theorem dX4_pays_187 : decode cX4_pays 187 = .ok (.idiv, 1) := by decide +kernel
theorem dX4_pays_188 : decode cX4_pays 188 = .ok (.isub, 1) := by decide +kernel
theorem dX4_pays_189 : decode cX4_pays 189 = .ok (.istore 9, 2) := by decide +kernel
theorem dX4_pays_191 : decode cX4_pays 191 = .ok (.iinc 10 1, 3) := by decide +kernel
theorem dX4_pays_194 : decode cX4_pays 194 = .ok (.goto (-43), 3) := by decide +kernel
theorem dX4_pays_197 : decode cX4_pays 197 = .ok (.iload 9, 2) := by decide +kernel
theorem dX4_pays_199 : decode cX4_pays 199 = .ok (.ireturn, 1) := by decide +kernel
theorem dX4_worth_0 : decode cX4_worth 0 = .ok (.aload_n 1, 1) := by decide +kernel
theorem dX4_worth_1 : decode cX4_worth 1 = .ok (.getfield 73, 3) := by decide +kernel
theorem dX4_worth_4 : decode cX4_worth 4 = .ok (.iconst 1, 1) := by decide +kernel
theorem dX4_worth_5 : decode cX4_worth 5 = .ok (.iload_n 2, 1) := by decide +kernel
theorem dX4_worth_6 : decode cX4_worth 6 = .ok (.ishl, 1) := by decide +kernel
theorem dX4_worth_7 : decode cX4_worth 7 = .ok (.iconst (-1), 1) := by decide +kernel
theorem dX4_worth_8 : decode cX4_worth 8 = .ok (.ixor, 1) := by decide +kernel
theorem dX4_worth_9 : decode cX4_worth 9 = .ok (.iand, 1) := by decide +kernel
theorem dX4_worth_10 : decode cX4_worth 10 = .ok (.istore 4, 2) := by decide +kernel
theorem dX4_worth_12 : decode cX4_worth 12 = .ok (.aload_n 1, 1) := by decide +kernel
theorem dX4_worth_13 : decode cX4_worth 13 = .ok (.getfield 46, 3) := by decide +kernel
theorem dX4_worth_16 : decode cX4_worth 16 = .ok (.iload_n 2, 1) := by decide +kernel
theorem dX4_worth_17 : decode cX4_worth 17 = .ok (.invokestatic 39, 3) := by decide +kernel
theorem dX4_worth_20 : decode cX4_worth 20 = .ok (.bipush 10, 2) := by decide +kernel
theorem dX4_worth_22 : decode cX4_worth 22 = .ok (.iload_n 3, 1) := by decide +kernel
theorem dX4_worth_23 : decode cX4_worth 23 = .ok (.isub, 1) := by decide +kernel
theorem dX4_worth_24 : decode cX4_worth 24 = .ok (.imul, 1) := by decide +kernel
theorem dX4_worth_25 : decode cX4_worth 25 = .ok (.istore 5, 2) := by decide +kernel
theorem dX4_worth_27 : decode cX4_worth 27 = .ok (.iload 5, 2) := by decide +kernel
theorem dX4_worth_29 : decode cX4_worth 29 = .ok (.aload_n 0, 1) := by decide +kernel
theorem dX4_worth_30 : decode cX4_worth 30 = .ok (.aload_n 1, 1) := by decide +kernel
theorem dX4_worth_31 : decode cX4_worth 31 = .ok (.iload_n 2, 1) := by decide +kernel
theorem dX4_worth_32 : decode cX4_worth 32 = .ok (.iload_n 3, 1) := by decide +kernel
theorem dX4_worth_33 : decode cX4_worth 33 = .ok (.aload_n 1, 1) := by decide +kernel
theorem dX4_worth_34 : decode cX4_worth 34 = .ok (.getfield 76, 3) := by decide +kernel
theorem dX4_worth_37 : decode cX4_worth 37 = .ok (.iload 4, 2) := by decide +kernel
theorem dX4_worth_39 : decode cX4_worth 39 = .ok (.invokevirtual 63, 3) := by decide +kernel
theorem dX4_worth_42 : decode cX4_worth 42 = .ok (.isub, 1) := by decide +kernel
theorem dX4_worth_43 : decode cX4_worth 43 = .ok (.ireturn, 1) := by decide +kernel
theorem dX4_best_0 : decode cX4_best 0 = .ok (.iconst 0, 1) := by decide +kernel
theorem dX4_best_1 : decode cX4_best 1 = .ok (.istore_n 3, 1) := by decide +kernel
theorem dX4_best_2 : decode cX4_best 2 = .ok (.aload_n 0, 1) := by decide +kernel
theorem dX4_best_3 : decode cX4_best 3 = .ok (.aload_n 1, 1) := by decide +kernel
theorem dX4_best_4 : decode cX4_best 4 = .ok (.iload_n 2, 1) := by decide +kernel
theorem dX4_best_5 : decode cX4_best 5 = .ok (.iconst 0, 1) := by decide +kernel
theorem dX4_best_6 : decode cX4_best 6 = .ok (.invokevirtual 79, 3) := by decide +kernel
theorem dX4_best_9 : decode cX4_best 9 = .ok (.istore 4, 2) := by decide +kernel
theorem dX4_best_11 : decode cX4_best 11 = .ok (.iconst 1, 1) := by decide +kernel
theorem dX4_best_12 : decode cX4_best 12 = .ok (.istore 5, 2) := by decide +kernel
theorem dX4_best_14 : decode cX4_best 14 = .ok (.iload 5, 2) := by decide +kernel
theorem dX4_best_16 : decode cX4_best 16 = .ok (.bipush 10, 2) := by decide +kernel
theorem dX4_best_18 : decode cX4_best 18 = .ok (.if_icmp .ge 33, 3) := by decide +kernel
theorem dX4_best_21 : decode cX4_best 21 = .ok (.aload_n 0, 1) := by decide +kernel
theorem dX4_best_22 : decode cX4_best 22 = .ok (.aload_n 1, 1) := by decide +kernel
theorem dX4_best_23 : decode cX4_best 23 = .ok (.iload_n 2, 1) := by decide +kernel
theorem dX4_best_24 : decode cX4_best 24 = .ok (.iload 5, 2) := by decide +kernel
theorem dX4_best_26 : decode cX4_best 26 = .ok (.invokevirtual 79, 3) := by decide +kernel
theorem dX4_best_29 : decode cX4_best 29 = .ok (.istore 6, 2) := by decide +kernel
theorem dX4_best_31 : decode cX4_best 31 = .ok (.iload 6, 2) := by decide +kernel
theorem dX4_best_33 : decode cX4_best 33 = .ok (.iload 4, 2) := by decide +kernel
theorem dX4_best_35 : decode cX4_best 35 = .ok (.if_icmp .le 10, 3) := by decide +kernel
theorem dX4_best_38 : decode cX4_best 38 = .ok (.iload 6, 2) := by decide +kernel
theorem dX4_best_40 : decode cX4_best 40 = .ok (.istore 4, 2) := by decide +kernel
theorem dX4_best_42 : decode cX4_best 42 = .ok (.iload 5, 2) := by decide +kernel
theorem dX4_best_44 : decode cX4_best 44 = .ok (.istore_n 3, 1) := by decide +kernel
theorem dX4_best_45 : decode cX4_best 45 = .ok (.iinc 5 1, 3) := by decide +kernel
theorem dX4_best_48 : decode cX4_best 48 = .ok (.goto (-34), 3) := by decide +kernel
theorem dX4_best_51 : decode cX4_best 51 = .ok (.iload_n 3, 1) := by decide +kernel
theorem dX4_best_52 : decode cX4_best 52 = .ok (.ireturn, 1) := by decide +kernel
theorem dX4_fits_0 : decode cX4_fits 0 = .ok (.iconst 0, 1) := by decide +kernel
theorem dX4_fits_1 : decode cX4_fits 1 = .ok (.istore_n 3, 1) := by decide +kernel
theorem dX4_fits_2 : decode cX4_fits 2 = .ok (.iload_n 3, 1) := by decide +kernel
theorem dX4_fits_3 : decode cX4_fits 3 = .ok (.aload_n 1, 1) := by decide +kernel
theorem dX4_fits_4 : decode cX4_fits 4 = .ok (.getfield 83, 3) := by decide +kernel
theorem dX4_fits_7 : decode cX4_fits 7 = .ok (.getfield 87, 3) := by decide +kernel
theorem dX4_fits_10 : decode cX4_fits 10 = .ok (.if_icmp .ge 50, 3) := by decide +kernel
theorem dX4_fits_13 : decode cX4_fits 13 = .ok (.aload_n 0, 1) := by decide +kernel
theorem dX4_fits_14 : decode cX4_fits 14 = .ok (.aload_n 1, 1) := by decide +kernel
theorem dX4_fits_15 : decode cX4_fits 15 = .ok (.aload_n 1, 1) := by decide +kernel
theorem dX4_fits_16 : decode cX4_fits 16 = .ok (.getfield 83, 3) := by decide +kernel
theorem dX4_fits_19 : decode cX4_fits 19 = .ok (.getfield 90, 3) := by decide +kernel
theorem dX4_fits_22 : decode cX4_fits 22 = .ok (.iload_n 3, 1) := by decide +kernel
theorem dX4_fits_23 : decode cX4_fits 23 = .ok (.invokestatic 39, 3) := by decide +kernel
theorem dX4_fits_26 : decode cX4_fits 26 = .ok (.iload_n 2, 1) := by decide +kernel
theorem dX4_fits_27 : decode cX4_fits 27 = .ok (.aload_n 1, 1) := by decide +kernel
theorem dX4_fits_28 : decode cX4_fits 28 = .ok (.getfield 73, 3) := by decide +kernel
theorem dX4_fits_31 : decode cX4_fits 31 = .ok (.invokevirtual 93, 3) := by decide +kernel
theorem dX4_fits_34 : decode cX4_fits 34 = .ok (.istore 4, 2) := by decide +kernel
theorem dX4_fits_36 : decode cX4_fits 36 = .ok (.iload 4, 2) := by decide +kernel
theorem dX4_fits_38 : decode cX4_fits 38 = .ok (.aload_n 1, 1) := by decide +kernel
theorem dX4_fits_39 : decode cX4_fits 39 = .ok (.getfield 83, 3) := by decide +kernel
theorem dX4_fits_42 : decode cX4_fits 42 = .ok (.getfield 96, 3) := by decide +kernel
theorem dX4_fits_45 : decode cX4_fits 45 = .ok (.iload_n 3, 1) := by decide +kernel
theorem dX4_fits_46 : decode cX4_fits 46 = .ok (.invokestatic 39, 3) := by decide +kernel
theorem dX4_fits_49 : decode cX4_fits 49 = .ok (.if_icmp .eq 5, 3) := by decide +kernel
theorem dX4_fits_52 : decode cX4_fits 52 = .ok (.iconst 0, 1) := by decide +kernel
theorem dX4_fits_53 : decode cX4_fits 53 = .ok (.ireturn, 1) := by decide +kernel
theorem dX4_fits_54 : decode cX4_fits 54 = .ok (.iinc 3 1, 3) := by decide +kernel
theorem dX4_fits_57 : decode cX4_fits 57 = .ok (.goto (-55), 3) := by decide +kernel
theorem dX4_fits_60 : decode cX4_fits 60 = .ok (.iconst 1, 1) := by decide +kernel
theorem dX4_fits_61 : decode cX4_fits 61 = .ok (.ireturn, 1) := by decide +kernel
theorem dX4_goDay_0 : decode cX4_goDay 0 = .ok (.aload_n 0, 1) := by decide +kernel
theorem dX4_goDay_1 : decode cX4_goDay 1 = .ok (.aload_n 1, 1) := by decide +kernel
theorem dX4_goDay_2 : decode cX4_goDay 2 = .ok (.aload_n 2, 1) := by decide +kernel
theorem dX4_goDay_3 : decode cX4_goDay 3 = .ok (.invokevirtual 99, 3) := by decide +kernel
theorem dX4_goDay_6 : decode cX4_goDay 6 = .ok (.iconst 0, 1) := by decide +kernel
theorem dX4_goDay_7 : decode cX4_goDay 7 = .ok (.istore 4, 2) := by decide +kernel
theorem dX4_goDay_9 : decode cX4_goDay 9 = .ok (.iconst 0, 1) := by decide +kernel
theorem dX4_goDay_10 : decode cX4_goDay 10 = .ok (.istore 5, 2) := by decide +kernel
theorem dX4_goDay_12 : decode cX4_goDay 12 = .ok (.iload 5, 2) := by decide +kernel
theorem dX4_goDay_14 : decode cX4_goDay 14 = .ok (.aload_n 1, 1) := by decide +kernel
theorem dX4_goDay_15 : decode cX4_goDay 15 = .ok (.getfield 33, 3) := by decide +kernel
theorem dX4_goDay_18 : decode cX4_goDay 18 = .ok (.if_icmp .ge 73, 3) := by decide +kernel
theorem dX4_goDay_21 : decode cX4_goDay 21 = .ok (.aload_n 1, 1) := by decide +kernel
theorem dX4_goDay_22 : decode cX4_goDay 22 = .ok (.getfield 60, 3) := by decide +kernel
theorem dX4_goDay_25 : decode cX4_goDay 25 = .ok (.iload 5, 2) := by decide +kernel
theorem dX4_goDay_27 : decode cX4_goDay 27 = .ok (.invokestatic 39, 3) := by decide +kernel
theorem dX4_goDay_30 : decode cX4_goDay 30 = .ok (.istore 6, 2) := by decide +kernel
theorem dX4_goDay_32 : decode cX4_goDay 32 = .ok (.aload_n 0, 1) := by decide +kernel
theorem dX4_goDay_33 : decode cX4_goDay 33 = .ok (.aload_n 1, 1) := by decide +kernel
theorem dX4_goDay_34 : decode cX4_goDay 34 = .ok (.iload 5, 2) := by decide +kernel
theorem dX4_goDay_36 : decode cX4_goDay 36 = .ok (.invokevirtual 103, 3) := by decide +kernel
theorem dX4_goDay_39 : decode cX4_goDay 39 = .ok (.istore 7, 2) := by decide +kernel
theorem dX4_goDay_41 : decode cX4_goDay 41 = .ok (.aload_n 1, 1) := by decide +kernel
theorem dX4_goDay_42 : decode cX4_goDay 42 = .ok (.iload 5, 2) := by decide +kernel
theorem dX4_goDay_44 : decode cX4_goDay 44 = .ok (.invokevirtual 107, 3) := by decide +kernel
theorem dX4_goDay_47 : decode cX4_goDay 47 = .ok (.ifCond .ne 38, 3) := by decide +kernel
theorem dX4_goDay_50 : decode cX4_goDay 50 = .ok (.aload_n 0, 1) := by decide +kernel
theorem dX4_goDay_51 : decode cX4_goDay 51 = .ok (.aload_n 1, 1) := by decide +kernel
theorem dX4_goDay_52 : decode cX4_goDay 52 = .ok (.iload 5, 2) := by decide +kernel
theorem dX4_goDay_54 : decode cX4_goDay 54 = .ok (.iload 7, 2) := by decide +kernel
theorem dX4_goDay_56 : decode cX4_goDay 56 = .ok (.invokevirtual 79, 3) := by decide +kernel
theorem dX4_goDay_59 : decode cX4_goDay 59 = .ok (.aload_n 0, 1) := by decide +kernel
theorem dX4_goDay_60 : decode cX4_goDay 60 = .ok (.aload_n 1, 1) := by decide +kernel
theorem dX4_goDay_61 : decode cX4_goDay 61 = .ok (.iload 5, 2) := by decide +kernel
theorem dX4_goDay_63 : decode cX4_goDay 63 = .ok (.iload 6, 2) := by decide +kernel
theorem dX4_goDay_65 : decode cX4_goDay 65 = .ok (.invokevirtual 79, 3) := by decide +kernel
theorem dX4_goDay_68 : decode cX4_goDay 68 = .ok (.if_icmp .le 17, 3) := by decide +kernel
theorem dX4_goDay_71 : decode cX4_goDay 71 = .ok (.aload_n 1, 1) := by decide +kernel
theorem dX4_goDay_72 : decode cX4_goDay 72 = .ok (.getfield 60, 3) := by decide +kernel
theorem dX4_goDay_75 : decode cX4_goDay 75 = .ok (.iload 5, 2) := by decide +kernel
theorem dX4_goDay_77 : decode cX4_goDay 77 = .ok (.iload 7, 2) := by decide +kernel
theorem dX4_goDay_79 : decode cX4_goDay 79 = .ok (.invokestatic 29, 3) := by decide +kernel
theorem dX4_goDay_82 : decode cX4_goDay 82 = .ok (.iinc 4 1, 3) := by decide +kernel
theorem dX4_goDay_85 : decode cX4_goDay 85 = .ok (.iinc 5 1, 3) := by decide +kernel
theorem dX4_goDay_88 : decode cX4_goDay 88 = .ok (.goto (-76), 3) := by decide +kernel
theorem dX4_goDay_91 : decode cX4_goDay 91 = .ok (.iconst 0, 1) := by decide +kernel
theorem dX4_goDay_92 : decode cX4_goDay 92 = .ok (.istore 5, 2) := by decide +kernel
theorem dX4_goDay_94 : decode cX4_goDay 94 = .ok (.iload 5, 2) := by decide +kernel
theorem dX4_goDay_96 : decode cX4_goDay 96 = .ok (.aload_n 1, 1) := by decide +kernel
theorem dX4_goDay_97 : decode cX4_goDay 97 = .ok (.getfield 33, 3) := by decide +kernel
theorem dX4_goDay_100 : decode cX4_goDay 100 = .ok (.if_icmp .ge 51, 3) := by decide +kernel
theorem dX4_goDay_103 : decode cX4_goDay 103 = .ok (.aload_n 1, 1) := by decide +kernel
theorem dX4_goDay_104 : decode cX4_goDay 104 = .ok (.getfield 111, 3) := by decide +kernel
theorem dX4_goDay_107 : decode cX4_goDay 107 = .ok (.iload 5, 2) := by decide +kernel
theorem dX4_goDay_109 : decode cX4_goDay 109 = .ok (.invokestatic 39, 3) := by decide +kernel
theorem dX4_goDay_112 : decode cX4_goDay 112 = .ok (.aload_n 0, 1) := by decide +kernel
theorem dX4_goDay_113 : decode cX4_goDay 113 = .ok (.aload_n 1, 1) := by decide +kernel
theorem dX4_goDay_114 : decode cX4_goDay 114 = .ok (.iload 5, 2) := by decide +kernel
theorem dX4_goDay_116 : decode cX4_goDay 116 = .ok (.aload_n 1, 1) := by decide +kernel
theorem dX4_goDay_117 : decode cX4_goDay 117 = .ok (.getfield 76, 3) := by decide +kernel
theorem dX4_goDay_120 : decode cX4_goDay 120 = .ok (.aload_n 1, 1) := by decide +kernel
theorem dX4_goDay_121 : decode cX4_goDay 121 = .ok (.getfield 73, 3) := by decide +kernel
theorem dX4_goDay_124 : decode cX4_goDay 124 = .ok (.invokevirtual 93, 3) := by decide +kernel
theorem dX4_goDay_127 : decode cX4_goDay 127 = .ok (.iadd, 1) := by decide +kernel
theorem dX4_goDay_128 : decode cX4_goDay 128 = .ok (.istore 6, 2) := by decide +kernel
theorem dX4_goDay_130 : decode cX4_goDay 130 = .ok (.aload_n 1, 1) := by decide +kernel
theorem dX4_goDay_131 : decode cX4_goDay 131 = .ok (.getfield 111, 3) := by decide +kernel
theorem dX4_goDay_134 : decode cX4_goDay 134 = .ok (.iload 5, 2) := by decide +kernel
theorem dX4_goDay_136 : decode cX4_goDay 136 = .ok (.iload_n 3, 1) := by decide +kernel
theorem dX4_goDay_137 : decode cX4_goDay 137 = .ok (.iload 6, 2) := by decide +kernel
theorem dX4_goDay_139 : decode cX4_goDay 139 = .ok (.invokestatic 114, 3) := by decide +kernel
theorem dX4_goDay_142 : decode cX4_goDay 142 = .ok (.invokestatic 29, 3) := by decide +kernel
theorem dX4_goDay_145 : decode cX4_goDay 145 = .ok (.iinc 5 1, 3) := by decide +kernel
theorem dX4_goDay_148 : decode cX4_goDay 148 = .ok (.goto (-54), 3) := by decide +kernel
theorem dX4_goDay_151 : decode cX4_goDay 151 = .ok (.aload_n 1, 1) := by decide +kernel
theorem dX4_goDay_152 : decode cX4_goDay 152 = .ok (.dup, 1) := by decide +kernel
theorem dX4_goDay_153 : decode cX4_goDay 153 = .ok (.getfield 23, 3) := by decide +kernel
theorem dX4_goDay_156 : decode cX4_goDay 156 = .ok (.iconst 1, 1) := by decide +kernel
theorem dX4_goDay_157 : decode cX4_goDay 157 = .ok (.iadd, 1) := by decide +kernel
theorem dX4_goDay_158 : decode cX4_goDay 158 = .ok (.putfield 23, 3) := by decide +kernel
theorem dX4_goDay_161 : decode cX4_goDay 161 = .ok (.iload 4, 2) := by decide +kernel
theorem dX4_goDay_163 : decode cX4_goDay 163 = .ok (.ireturn, 1) := by decide +kernel
theorem dX5_init_0 : decode cX5_init 0 = .ok (.aload_n 0, 1) := by decide +kernel
theorem dX5_init_1 : decode cX5_init 1 = .ok (.invokespecial 3, 3) := by decide +kernel
theorem dX5_init_4 : decode cX5_init 4 = .ok (.aload_n 0, 1) := by decide +kernel
theorem dX5_init_5 : decode cX5_init 5 = .ok (.bipush 6, 2) := by decide +kernel
theorem dX5_init_7 : decode cX5_init 7 = .ok (.newarray .int, 2) := by decide +kernel
theorem dX5_init_9 : decode cX5_init 9 = .ok (.putfield 9, 3) := by decide +kernel
theorem dX5_init_12 : decode cX5_init 12 = .ok (.aload_n 0, 1) := by decide +kernel
theorem dX5_init_13 : decode cX5_init 13 = .ok (.bipush 6, 2) := by decide +kernel
theorem dX5_init_15 : decode cX5_init 15 = .ok (.newarray .int, 2) := by decide +kernel
theorem dX5_init_17 : decode cX5_init 17 = .ok (.putfield 15, 3) := by decide +kernel
theorem dX5_init_20 : decode cX5_init 20 = .ok (.aload_n 0, 1) := by decide +kernel
theorem dX5_init_21 : decode cX5_init 21 = .ok (.bipush 6, 2) := by decide +kernel
theorem dX5_init_23 : decode cX5_init 23 = .ok (.newarray .int, 2) := by decide +kernel
theorem dX5_init_25 : decode cX5_init 25 = .ok (.putfield 18, 3) := by decide +kernel
theorem dX5_init_28 : decode cX5_init 28 = .ok (.aload_n 0, 1) := by decide +kernel
theorem dX5_init_29 : decode cX5_init 29 = .ok (.bipush 6, 2) := by decide +kernel
theorem dX5_init_31 : decode cX5_init 31 = .ok (.newarray .int, 2) := by decide +kernel
theorem dX5_init_33 : decode cX5_init 33 = .ok (.putfield 21, 3) := by decide +kernel
theorem dX5_init_36 : decode cX5_init 36 = .ok (.aload_n 0, 1) := by decide +kernel
theorem dX5_init_37 : decode cX5_init 37 = .ok (.bipush 6, 2) := by decide +kernel
theorem dX5_init_39 : decode cX5_init 39 = .ok (.newarray .int, 2) := by decide +kernel
theorem dX5_init_41 : decode cX5_init 41 = .ok (.putfield 24, 3) := by decide +kernel
theorem dX5_init_44 : decode cX5_init 44 = .ok (.aload_n 0, 1) := by decide +kernel
theorem dX5_init_45 : decode cX5_init 45 = .ok (.bipush 24, 2) := by decide +kernel
theorem dX5_init_47 : decode cX5_init 47 = .ok (.newarray .int, 2) := by decide +kernel
theorem dX5_init_49 : decode cX5_init 49 = .ok (.putfield 27, 3) := by decide +kernel
theorem dX5_init_52 : decode cX5_init 52 = .ok (.aload_n 0, 1) := by decide +kernel
theorem dX5_init_53 : decode cX5_init 53 = .ok (.bipush 100, 2) := by decide +kernel
theorem dX5_init_55 : decode cX5_init 55 = .ok (.putfield 30, 3) := by decide +kernel
theorem dX5_init_58 : decode cX5_init 58 = .ok (.aload_n 0, 1) := by decide +kernel
theorem dX5_init_59 : decode cX5_init 59 = .ok (.iconst (-1), 1) := by decide +kernel
theorem dX5_init_60 : decode cX5_init 60 = .ok (.putfield 34, 3) := by decide +kernel
theorem dX5_init_63 : decode cX5_init 63 = .ok (.aload_n 0, 1) := by decide +kernel
theorem dX5_init_64 : decode cX5_init 64 = .ok (.new 37, 3) := by decide +kernel
theorem dX5_init_67 : decode cX5_init 67 = .ok (.dup, 1) := by decide +kernel
theorem dX5_init_68 : decode cX5_init 68 = .ok (.iconst 5, 1) := by decide +kernel
theorem dX5_init_69 : decode cX5_init 69 = .ok (.invokespecial 39, 3) := by decide +kernel
theorem dX5_init_72 : decode cX5_init 72 = .ok (.putfield 42, 3) := by decide +kernel
theorem dX5_init_75 : decode cX5_init 75 = .ok (.aload_n 0, 1) := by decide +kernel
theorem dX5_init_76 : decode cX5_init 76 = .ok (.new 37, 3) := by decide +kernel
theorem dX5_init_79 : decode cX5_init 79 = .ok (.dup, 1) := by decide +kernel
theorem dX5_init_80 : decode cX5_init 80 = .ok (.bipush 8, 2) := by decide +kernel
theorem dX5_init_82 : decode cX5_init 82 = .ok (.invokespecial 39, 3) := by decide +kernel
theorem dX5_init_85 : decode cX5_init 85 = .ok (.putfield 46, 3) := by decide +kernel
theorem dX5_init_88 : decode cX5_init 88 = .ok (.aload_n 0, 1) := by decide +kernel
theorem dX5_init_89 : decode cX5_init 89 = .ok (.new 37, 3) := by decide +kernel
theorem dX5_init_92 : decode cX5_init 92 = .ok (.dup, 1) := by decide +kernel
theorem dX5_init_93 : decode cX5_init 93 = .ok (.bipush 8, 2) := by decide +kernel
theorem dX5_init_95 : decode cX5_init 95 = .ok (.invokespecial 39, 3) := by decide +kernel
theorem dX5_init_98 : decode cX5_init 98 = .ok (.putfield 49, 3) := by decide +kernel
theorem dX5_init_101 : decode cX5_init 101 = .ok (.return_, 1) := by decide +kernel
theorem dX5_has_0 : decode cX5_has 0 = .ok (.iload_n 1, 1) := by decide +kernel
theorem dX5_has_1 : decode cX5_has 1 = .ok (.ifCond .lt 15, 3) := by decide +kernel
theorem dX5_has_4 : decode cX5_has 4 = .ok (.iload_n 1, 1) := by decide +kernel
theorem dX5_has_5 : decode cX5_has 5 = .ok (.aload_n 0, 1) := by decide +kernel
theorem dX5_has_6 : decode cX5_has 6 = .ok (.getfield 52, 3) := by decide +kernel
theorem dX5_has_9 : decode cX5_has 9 = .ok (.if_icmp .ge 7, 3) := by decide +kernel
theorem dX5_has_12 : decode cX5_has 12 = .ok (.iconst 1, 1) := by decide +kernel
theorem dX5_has_13 : decode cX5_has 13 = .ok (.goto 4, 3) := by decide +kernel
theorem dX5_has_16 : decode cX5_has 16 = .ok (.iconst 0, 1) := by decide +kernel
theorem dX5_has_17 : decode cX5_has 17 = .ok (.ireturn, 1) := by decide +kernel
theorem dX5_isAway_0 : decode cX5_isAway 0 = .ok (.aload_n 0, 1) := by decide +kernel
theorem dX5_isAway_1 : decode cX5_isAway 1 = .ok (.getfield 55, 3) := by decide +kernel
theorem dX5_isAway_4 : decode cX5_isAway 4 = .ok (.iload_n 1, 1) := by decide +kernel
theorem dX5_isAway_5 : decode cX5_isAway 5 = .ok (.ishr, 1) := by decide +kernel
theorem dX5_isAway_6 : decode cX5_isAway 6 = .ok (.iconst 1, 1) := by decide +kernel
theorem dX5_isAway_7 : decode cX5_isAway 7 = .ok (.iand, 1) := by decide +kernel
theorem dX5_isAway_8 : decode cX5_isAway 8 = .ok (.ifCond .eq 7, 3) := by decide +kernel
theorem dX5_isAway_11 : decode cX5_isAway 11 = .ok (.iconst 1, 1) := by decide +kernel
theorem dX5_isAway_12 : decode cX5_isAway 12 = .ok (.goto 4, 3) := by decide +kernel
theorem dX5_isAway_15 : decode cX5_isAway 15 = .ok (.iconst 0, 1) := by decide +kernel
theorem dX5_isAway_16 : decode cX5_isAway 16 = .ok (.ireturn, 1) := by decide +kernel
theorem dX5_send_0 : decode cX5_send 0 = .ok (.aload_n 0, 1) := by decide +kernel
theorem dX5_send_1 : decode cX5_send 1 = .ok (.iload_n 2, 1) := by decide +kernel
theorem dX5_send_2 : decode cX5_send 2 = .ok (.ifCond .eq 14, 3) := by decide +kernel
theorem dX5_send_5 : decode cX5_send 5 = .ok (.aload_n 0, 1) := by decide +kernel
theorem dX5_send_6 : decode cX5_send 6 = .ok (.getfield 55, 3) := by decide +kernel
theorem dX5_send_9 : decode cX5_send 9 = .ok (.iconst 1, 1) := by decide +kernel
theorem dX5_send_10 : decode cX5_send 10 = .ok (.iload_n 1, 1) := by decide +kernel
theorem dX5_send_11 : decode cX5_send 11 = .ok (.ishl, 1) := by decide +kernel
theorem dX5_send_12 : decode cX5_send 12 = .ok (.ior, 1) := by decide +kernel
theorem dX5_send_13 : decode cX5_send 13 = .ok (.goto 13, 3) := by decide +kernel
theorem dX5_send_16 : decode cX5_send 16 = .ok (.aload_n 0, 1) := by decide +kernel
theorem dX5_send_17 : decode cX5_send 17 = .ok (.getfield 55, 3) := by decide +kernel
theorem dX5_send_20 : decode cX5_send 20 = .ok (.iconst 1, 1) := by decide +kernel
theorem dX5_send_21 : decode cX5_send 21 = .ok (.iload_n 1, 1) := by decide +kernel
theorem dX5_send_22 : decode cX5_send 22 = .ok (.ishl, 1) := by decide +kernel
theorem dX5_send_23 : decode cX5_send 23 = .ok (.iconst (-1), 1) := by decide +kernel
theorem dX5_send_24 : decode cX5_send 24 = .ok (.ixor, 1) := by decide +kernel
theorem dX5_send_25 : decode cX5_send 25 = .ok (.iand, 1) := by decide +kernel
theorem dX5_send_26 : decode cX5_send 26 = .ok (.putfield 55, 3) := by decide +kernel
theorem dX5_send_29 : decode cX5_send 29 = .ok (.return_, 1) := by decide +kernel
theorem dX5_add_0 : decode cX5_add 0 = .ok (.aload_n 0, 1) := by decide +kernel
theorem dX5_add_1 : decode cX5_add 1 = .ok (.getfield 52, 3) := by decide +kernel
theorem dX5_add_4 : decode cX5_add 4 = .ok (.istore 5, 2) := by decide +kernel
theorem dX5_add_6 : decode cX5_add 6 = .ok (.aload_n 0, 1) := by decide +kernel
theorem dX5_add_7 : decode cX5_add 7 = .ok (.getfield 9, 3) := by decide +kernel
theorem dX5_add_10 : decode cX5_add 10 = .ok (.iload 5, 2) := by decide +kernel
theorem dX5_add_12 : decode cX5_add 12 = .ok (.iload_n 1, 1) := by decide +kernel
theorem dX5_add_13 : decode cX5_add 13 = .ok (.invokestatic 58, 3) := by decide +kernel
theorem dX5_add_16 : decode cX5_add 16 = .ok (.aload_n 0, 1) := by decide +kernel
theorem dX5_add_17 : decode cX5_add 17 = .ok (.getfield 15, 3) := by decide +kernel
theorem dX5_add_20 : decode cX5_add 20 = .ok (.iload 5, 2) := by decide +kernel
theorem dX5_add_22 : decode cX5_add 22 = .ok (.iload_n 2, 1) := by decide +kernel
theorem dX5_add_23 : decode cX5_add 23 = .ok (.invokestatic 58, 3) := by decide +kernel
theorem dX5_add_26 : decode cX5_add 26 = .ok (.aload_n 0, 1) := by decide +kernel
theorem dX5_add_27 : decode cX5_add 27 = .ok (.getfield 18, 3) := by decide +kernel
theorem dX5_add_30 : decode cX5_add 30 = .ok (.iload 5, 2) := by decide +kernel
theorem dX5_add_32 : decode cX5_add 32 = .ok (.iload_n 3, 1) := by decide +kernel
theorem dX5_add_33 : decode cX5_add 33 = .ok (.invokestatic 58, 3) := by decide +kernel
theorem dX5_add_36 : decode cX5_add 36 = .ok (.aload_n 0, 1) := by decide +kernel
theorem dX5_add_37 : decode cX5_add 37 = .ok (.getfield 21, 3) := by decide +kernel
theorem dX5_add_40 : decode cX5_add 40 = .ok (.iload 5, 2) := by decide +kernel
theorem dX5_add_42 : decode cX5_add 42 = .ok (.iload 4, 2) := by decide +kernel
theorem dX5_add_44 : decode cX5_add 44 = .ok (.invokestatic 58, 3) := by decide +kernel
theorem dX5_add_47 : decode cX5_add 47 = .ok (.aload_n 0, 1) := by decide +kernel
theorem dX5_add_48 : decode cX5_add 48 = .ok (.dup, 1) := by decide +kernel
theorem dX5_add_49 : decode cX5_add 49 = .ok (.getfield 52, 3) := by decide +kernel
theorem dX5_add_52 : decode cX5_add 52 = .ok (.iconst 1, 1) := by decide +kernel
theorem dX5_add_53 : decode cX5_add 53 = .ok (.iadd, 1) := by decide +kernel
theorem dX5_add_54 : decode cX5_add 54 = .ok (.putfield 52, 3) := by decide +kernel
theorem dX5_add_57 : decode cX5_add 57 = .ok (.iload 5, 2) := by decide +kernel
theorem dX5_add_59 : decode cX5_add 59 = .ok (.ireturn, 1) := by decide +kernel
theorem dX5_takeAfter_0 : decode cX5_takeAfter 0 = .ok (.aload_n 0, 1) := by decide +kernel
theorem dX5_takeAfter_1 : decode cX5_takeAfter 1 = .ok (.aload_n 1, 1) := by decide +kernel
theorem dX5_takeAfter_2 : decode cX5_takeAfter 2 = .ok (.getfield 52, 3) := by decide +kernel
theorem dX5_takeAfter_5 : decode cX5_takeAfter 5 = .ok (.putfield 52, 3) := by decide +kernel
theorem dX5_takeAfter_8 : decode cX5_takeAfter 8 = .ok (.aload_n 1, 1) := by decide +kernel
theorem dX5_takeAfter_9 : decode cX5_takeAfter 9 = .ok (.getfield 9, 3) := by decide +kernel
theorem dX5_takeAfter_12 : decode cX5_takeAfter 12 = .ok (.aload_n 0, 1) := by decide +kernel
theorem dX5_takeAfter_13 : decode cX5_takeAfter 13 = .ok (.getfield 9, 3) := by decide +kernel
theorem dX5_takeAfter_16 : decode cX5_takeAfter 16 = .ok (.invokestatic 62, 3) := by decide +kernel
theorem dX5_takeAfter_19 : decode cX5_takeAfter 19 = .ok (.aload_n 1, 1) := by decide +kernel
theorem dX5_takeAfter_20 : decode cX5_takeAfter 20 = .ok (.getfield 15, 3) := by decide +kernel
theorem dX5_takeAfter_23 : decode cX5_takeAfter 23 = .ok (.aload_n 0, 1) := by decide +kernel
theorem dX5_takeAfter_24 : decode cX5_takeAfter 24 = .ok (.getfield 15, 3) := by decide +kernel
theorem dX5_takeAfter_27 : decode cX5_takeAfter 27 = .ok (.invokestatic 62, 3) := by decide +kernel
theorem dX5_takeAfter_30 : decode cX5_takeAfter 30 = .ok (.aload_n 1, 1) := by decide +kernel
theorem dX5_takeAfter_31 : decode cX5_takeAfter 31 = .ok (.getfield 18, 3) := by decide +kernel
theorem dX5_takeAfter_34 : decode cX5_takeAfter 34 = .ok (.aload_n 0, 1) := by decide +kernel
theorem dX5_takeAfter_35 : decode cX5_takeAfter 35 = .ok (.getfield 18, 3) := by decide +kernel
theorem dX5_takeAfter_38 : decode cX5_takeAfter 38 = .ok (.invokestatic 62, 3) := by decide +kernel
theorem dX5_takeAfter_41 : decode cX5_takeAfter 41 = .ok (.aload_n 1, 1) := by decide +kernel
theorem dX5_takeAfter_42 : decode cX5_takeAfter 42 = .ok (.getfield 21, 3) := by decide +kernel
theorem dX5_takeAfter_45 : decode cX5_takeAfter 45 = .ok (.aload_n 0, 1) := by decide +kernel
theorem dX5_takeAfter_46 : decode cX5_takeAfter 46 = .ok (.getfield 21, 3) := by decide +kernel
theorem dX5_takeAfter_49 : decode cX5_takeAfter 49 = .ok (.invokestatic 62, 3) := by decide +kernel
theorem dX5_takeAfter_52 : decode cX5_takeAfter 52 = .ok (.aload_n 1, 1) := by decide +kernel
theorem dX5_takeAfter_53 : decode cX5_takeAfter 53 = .ok (.getfield 24, 3) := by decide +kernel
theorem dX5_takeAfter_56 : decode cX5_takeAfter 56 = .ok (.aload_n 0, 1) := by decide +kernel
theorem dX5_takeAfter_57 : decode cX5_takeAfter 57 = .ok (.getfield 24, 3) := by decide +kernel
theorem dX5_takeAfter_60 : decode cX5_takeAfter 60 = .ok (.invokestatic 62, 3) := by decide +kernel
theorem dX5_takeAfter_63 : decode cX5_takeAfter 63 = .ok (.aload_n 1, 1) := by decide +kernel
theorem dX5_takeAfter_64 : decode cX5_takeAfter 64 = .ok (.getfield 27, 3) := by decide +kernel
theorem dX5_takeAfter_67 : decode cX5_takeAfter 67 = .ok (.aload_n 0, 1) := by decide +kernel
theorem dX5_takeAfter_68 : decode cX5_takeAfter 68 = .ok (.getfield 27, 3) := by decide +kernel
theorem dX5_takeAfter_71 : decode cX5_takeAfter 71 = .ok (.invokestatic 62, 3) := by decide +kernel
theorem dX5_takeAfter_74 : decode cX5_takeAfter 74 = .ok (.aload_n 0, 1) := by decide +kernel
theorem dX5_takeAfter_75 : decode cX5_takeAfter 75 = .ok (.aload_n 1, 1) := by decide +kernel
theorem dX5_takeAfter_76 : decode cX5_takeAfter 76 = .ok (.getfield 55, 3) := by decide +kernel
theorem dX5_takeAfter_79 : decode cX5_takeAfter 79 = .ok (.putfield 55, 3) := by decide +kernel
theorem dX5_takeAfter_82 : decode cX5_takeAfter 82 = .ok (.aload_n 0, 1) := by decide +kernel
theorem dX5_takeAfter_83 : decode cX5_takeAfter 83 = .ok (.aload_n 1, 1) := by decide +kernel
theorem dX5_takeAfter_84 : decode cX5_takeAfter 84 = .ok (.getfield 30, 3) := by decide +kernel
theorem dX5_takeAfter_87 : decode cX5_takeAfter 87 = .ok (.putfield 30, 3) := by decide +kernel
theorem dX5_takeAfter_90 : decode cX5_takeAfter 90 = .ok (.aload_n 0, 1) := by decide +kernel
theorem dX5_takeAfter_91 : decode cX5_takeAfter 91 = .ok (.aload_n 1, 1) := by decide +kernel
theorem dX5_takeAfter_92 : decode cX5_takeAfter 92 = .ok (.getfield 66, 3) := by decide +kernel
theorem dX5_takeAfter_95 : decode cX5_takeAfter 95 = .ok (.putfield 66, 3) := by decide +kernel
theorem dX5_takeAfter_98 : decode cX5_takeAfter 98 = .ok (.aload_n 0, 1) := by decide +kernel
theorem dX5_takeAfter_99 : decode cX5_takeAfter 99 = .ok (.aload_n 1, 1) := by decide +kernel
theorem dX5_takeAfter_100 : decode cX5_takeAfter 100 = .ok (.getfield 34, 3) := by decide +kernel
theorem dX5_takeAfter_103 : decode cX5_takeAfter 103 = .ok (.putfield 34, 3) := by decide +kernel
theorem dX5_takeAfter_106 : decode cX5_takeAfter 106 = .ok (.aload_n 0, 1) := by decide +kernel
theorem dX5_takeAfter_107 : decode cX5_takeAfter 107 = .ok (.getfield 42, 3) := by decide +kernel
theorem dX5_takeAfter_110 : decode cX5_takeAfter 110 = .ok (.aload_n 1, 1) := by decide +kernel
theorem dX5_takeAfter_111 : decode cX5_takeAfter 111 = .ok (.getfield 42, 3) := by decide +kernel
theorem dX5_takeAfter_114 : decode cX5_takeAfter 114 = .ok (.invokevirtual 69, 3) := by decide +kernel
theorem dX5_takeAfter_117 : decode cX5_takeAfter 117 = .ok (.aload_n 0, 1) := by decide +kernel
theorem dX5_takeAfter_118 : decode cX5_takeAfter 118 = .ok (.getfield 46, 3) := by decide +kernel
theorem dX5_takeAfter_121 : decode cX5_takeAfter 121 = .ok (.aload_n 1, 1) := by decide +kernel
theorem dX5_takeAfter_122 : decode cX5_takeAfter 122 = .ok (.getfield 46, 3) := by decide +kernel
theorem dX5_takeAfter_125 : decode cX5_takeAfter 125 = .ok (.invokevirtual 69, 3) := by decide +kernel
theorem dX5_takeAfter_128 : decode cX5_takeAfter 128 = .ok (.aload_n 0, 1) := by decide +kernel
theorem dX5_takeAfter_129 : decode cX5_takeAfter 129 = .ok (.getfield 49, 3) := by decide +kernel
theorem dX5_takeAfter_132 : decode cX5_takeAfter 132 = .ok (.aload_n 1, 1) := by decide +kernel
theorem dX5_takeAfter_133 : decode cX5_takeAfter 133 = .ok (.getfield 49, 3) := by decide +kernel
theorem dX5_takeAfter_136 : decode cX5_takeAfter 136 = .ok (.invokevirtual 69, 3) := by decide +kernel
theorem dX5_takeAfter_139 : decode cX5_takeAfter 139 = .ok (.return_, 1) := by decide +kernel
theorem dX6_init_0 : decode cX6_init 0 = .ok (.aload_n 0, 1) := by decide +kernel
theorem dX6_init_1 : decode cX6_init 1 = .ok (.invokespecial 3, 3) := by decide +kernel
theorem dX6_init_4 : decode cX6_init 4 = .ok (.aload_n 0, 1) := by decide +kernel
theorem dX6_init_5 : decode cX6_init 5 = .ok (.iconst (-1), 1) := by decide +kernel
theorem dX6_init_6 : decode cX6_init 6 = .ok (.putfield 11, 3) := by decide +kernel
theorem dX6_init_9 : decode cX6_init 9 = .ok (.aload_n 0, 1) := by decide +kernel
theorem dX6_init_10 : decode cX6_init 10 = .ok (.bipush 60, 2) := by decide +kernel
theorem dX6_init_12 : decode cX6_init 12 = .ok (.newarray .long, 2) := by decide +kernel
theorem dX6_init_14 : decode cX6_init 14 = .ok (.putfield 15, 3) := by decide +kernel
theorem dX6_init_17 : decode cX6_init 17 = .ok (.return_, 1) := by decide +kernel
theorem dX6_holdsRow_0 : decode cX6_holdsRow 0 = .ok (.aload_n 0, 1) := by decide +kernel
theorem dX6_holdsRow_1 : decode cX6_holdsRow 1 = .ok (.getfield 11, 3) := by decide +kernel
theorem dX6_holdsRow_4 : decode cX6_holdsRow 4 = .ok (.iconst (-1), 1) := by decide +kernel
theorem dX6_holdsRow_5 : decode cX6_holdsRow 5 = .ok (.if_icmp .eq 7, 3) := by decide +kernel
theorem dX6_holdsRow_8 : decode cX6_holdsRow 8 = .ok (.iconst 1, 1) := by decide +kernel
theorem dX6_holdsRow_9 : decode cX6_holdsRow 9 = .ok (.goto 4, 3) := by decide +kernel
theorem dX6_holdsRow_12 : decode cX6_holdsRow 12 = .ok (.iconst 0, 1) := by decide +kernel
theorem dX6_holdsRow_13 : decode cX6_holdsRow 13 = .ok (.ireturn, 1) := by decide +kernel
theorem dX6_become_0 : decode cX6_become 0 = .ok (.aload_n 0, 1) := by decide +kernel
theorem dX6_become_1 : decode cX6_become 1 = .ok (.iload_n 1, 1) := by decide +kernel
theorem dX6_become_2 : decode cX6_become 2 = .ok (.putfield 11, 3) := by decide +kernel
theorem dX6_become_5 : decode cX6_become 5 = .ok (.aload_n 0, 1) := by decide +kernel
theorem dX6_become_6 : decode cX6_become 6 = .ok (.iload_n 2, 1) := by decide +kernel
theorem dX6_become_7 : decode cX6_become 7 = .ok (.aload_n 0, 1) := by decide +kernel
theorem dX6_become_8 : decode cX6_become 8 = .ok (.getfield 15, 3) := by decide +kernel
theorem dX6_become_11 : decode cX6_become 11 = .ok (.arraylength, 1) := by decide +kernel
theorem dX6_become_12 : decode cX6_become 12 = .ok (.invokestatic 19, 3) := by decide +kernel
theorem dX6_become_15 : decode cX6_become 15 = .ok (.putfield 25, 3) := by decide +kernel
theorem dX6_become_18 : decode cX6_become 18 = .ok (.iconst 0, 1) := by decide +kernel
theorem dX6_become_19 : decode cX6_become 19 = .ok (.istore_n 3, 1) := by decide +kernel
theorem dX6_become_20 : decode cX6_become 20 = .ok (.iload_n 3, 1) := by decide +kernel
theorem dX6_become_21 : decode cX6_become 21 = .ok (.aload_n 0, 1) := by decide +kernel
theorem dX6_become_22 : decode cX6_become 22 = .ok (.getfield 15, 3) := by decide +kernel
theorem dX6_become_25 : decode cX6_become 25 = .ok (.arraylength, 1) := by decide +kernel
theorem dX6_become_26 : decode cX6_become 26 = .ok (.if_icmp .ge 16, 3) := by decide +kernel
theorem dX6_become_29 : decode cX6_become 29 = .ok (.aload_n 0, 1) := by decide +kernel
theorem dX6_become_30 : decode cX6_become 30 = .ok (.getfield 15, 3) := by decide +kernel
theorem dX6_become_33 : decode cX6_become 33 = .ok (.iload_n 3, 1) := by decide +kernel
theorem dX6_become_34 : decode cX6_become 34 = .ok (.lconst 0, 1) := by decide +kernel
theorem dX6_become_35 : decode cX6_become 35 = .ok (.lastore, 1) := by decide +kernel
theorem dX6_become_36 : decode cX6_become 36 = .ok (.iinc 3 1, 3) := by decide +kernel
theorem dX6_become_39 : decode cX6_become 39 = .ok (.goto (-19), 3) := by decide +kernel
theorem dX6_become_42 : decode cX6_become 42 = .ok (.return_, 1) := by decide +kernel
theorem dX6_itemAt_0 : decode cX6_itemAt 0 = .ok (.iload_n 1, 1) := by decide +kernel
theorem dX6_itemAt_1 : decode cX6_itemAt 1 = .ok (.ifCond .lt 29, 3) := by decide +kernel
theorem dX6_itemAt_4 : decode cX6_itemAt 4 = .ok (.iload_n 1, 1) := by decide +kernel
theorem dX6_itemAt_5 : decode cX6_itemAt 5 = .ok (.aload_n 0, 1) := by decide +kernel
theorem dX6_itemAt_6 : decode cX6_itemAt 6 = .ok (.getfield 25, 3) := by decide +kernel
theorem dX6_itemAt_9 : decode cX6_itemAt 9 = .ok (.if_icmp .ge 21, 3) := by decide +kernel
theorem dX6_itemAt_12 : decode cX6_itemAt 12 = .ok (.iload_n 1, 1) := by decide +kernel
theorem dX6_itemAt_13 : decode cX6_itemAt 13 = .ok (.aload_n 0, 1) := by decide +kernel
theorem dX6_itemAt_14 : decode cX6_itemAt 14 = .ok (.getfield 15, 3) := by decide +kernel
theorem dX6_itemAt_17 : decode cX6_itemAt 17 = .ok (.arraylength, 1) := by decide +kernel
theorem dX6_itemAt_18 : decode cX6_itemAt 18 = .ok (.if_icmp .ge 12, 3) := by decide +kernel
theorem dX6_itemAt_21 : decode cX6_itemAt 21 = .ok (.aload_n 0, 1) := by decide +kernel
theorem dX6_itemAt_22 : decode cX6_itemAt 22 = .ok (.getfield 15, 3) := by decide +kernel
theorem dX6_itemAt_25 : decode cX6_itemAt 25 = .ok (.iload_n 1, 1) := by decide +kernel
theorem dX6_itemAt_26 : decode cX6_itemAt 26 = .ok (.laload, 1) := by decide +kernel
theorem dX6_itemAt_27 : decode cX6_itemAt 27 = .ok (.goto 6, 3) := by decide +kernel
theorem dX6_itemAt_30 : decode cX6_itemAt 30 = .ok (.ldc2_w 28, 3) := by decide +kernel
theorem dX6_itemAt_33 : decode cX6_itemAt 33 = .ok (.lreturn, 1) := by decide +kernel
theorem dX6_store_0 : decode cX6_store 0 = .ok (.iload_n 1, 1) := by decide +kernel
theorem dX6_store_1 : decode cX6_store 1 = .ok (.ifCond .lt 20, 3) := by decide +kernel
theorem dX6_store_4 : decode cX6_store 4 = .ok (.iload_n 1, 1) := by decide +kernel
theorem dX6_store_5 : decode cX6_store 5 = .ok (.aload_n 0, 1) := by decide +kernel
theorem dX6_store_6 : decode cX6_store 6 = .ok (.getfield 25, 3) := by decide +kernel
theorem dX6_store_9 : decode cX6_store 9 = .ok (.if_icmp .ge 12, 3) := by decide +kernel
theorem dX6_store_12 : decode cX6_store 12 = .ok (.iload_n 1, 1) := by decide +kernel
theorem dX6_store_13 : decode cX6_store 13 = .ok (.aload_n 0, 1) := by decide +kernel
theorem dX6_store_14 : decode cX6_store 14 = .ok (.getfield 15, 3) := by decide +kernel
theorem dX6_store_17 : decode cX6_store 17 = .ok (.arraylength, 1) := by decide +kernel
theorem dX6_store_18 : decode cX6_store 18 = .ok (.if_icmp .lt 5, 3) := by decide +kernel
theorem dX6_store_21 : decode cX6_store 21 = .ok (.iconst 0, 1) := by decide +kernel
theorem dX6_store_22 : decode cX6_store 22 = .ok (.ireturn, 1) := by decide +kernel
theorem dX6_store_23 : decode cX6_store 23 = .ok (.aload_n 0, 1) := by decide +kernel
theorem dX6_store_24 : decode cX6_store 24 = .ok (.getfield 15, 3) := by decide +kernel
theorem dX6_store_27 : decode cX6_store 27 = .ok (.iload_n 1, 1) := by decide +kernel
theorem dX6_store_28 : decode cX6_store 28 = .ok (.aload_n 0, 1) := by decide +kernel
theorem dX6_store_29 : decode cX6_store 29 = .ok (.lload_n 2, 1) := by decide +kernel
theorem dX6_store_30 : decode cX6_store 30 = .ok (.invokevirtual 30, 3) := by decide +kernel
theorem dX6_store_33 : decode cX6_store 33 = .ok (.lastore, 1) := by decide +kernel
theorem dX6_store_34 : decode cX6_store 34 = .ok (.iconst 1, 1) := by decide +kernel
theorem dX6_store_35 : decode cX6_store 35 = .ok (.ireturn, 1) := by decide +kernel
theorem dX6_hasPlaces_0 : decode cX6_hasPlaces 0 = .ok (.iload_n 2, 1) := by decide +kernel
theorem dX6_hasPlaces_1 : decode cX6_hasPlaces 1 = .ok (.ifCond .lt 29, 3) := by decide +kernel
theorem dX6_hasPlaces_4 : decode cX6_hasPlaces 4 = .ok (.iload_n 1, 1) := by decide +kernel
theorem dX6_hasPlaces_5 : decode cX6_hasPlaces 5 = .ok (.ifCond .lt 25, 3) := by decide +kernel
theorem dX6_hasPlaces_8 : decode cX6_hasPlaces 8 = .ok (.iload_n 2, 1) := by decide +kernel
theorem dX6_hasPlaces_9 : decode cX6_hasPlaces 9 = .ok (.aload_n 0, 1) := by decide +kernel
theorem dX6_hasPlaces_10 : decode cX6_hasPlaces 10 = .ok (.getfield 25, 3) := by decide +kernel
theorem dX6_hasPlaces_13 : decode cX6_hasPlaces 13 = .ok (.if_icmp .gt 17, 3) := by decide +kernel
theorem dX6_hasPlaces_16 : decode cX6_hasPlaces 16 = .ok (.iload_n 1, 1) := by decide +kernel
theorem dX6_hasPlaces_17 : decode cX6_hasPlaces 17 = .ok (.aload_n 0, 1) := by decide +kernel
theorem dX6_hasPlaces_18 : decode cX6_hasPlaces 18 = .ok (.getfield 25, 3) := by decide +kernel
theorem dX6_hasPlaces_21 : decode cX6_hasPlaces 21 = .ok (.iload_n 2, 1) := by decide +kernel
theorem dX6_hasPlaces_22 : decode cX6_hasPlaces 22 = .ok (.isub, 1) := by decide +kernel
theorem dX6_hasPlaces_23 : decode cX6_hasPlaces 23 = .ok (.if_icmp .gt 7, 3) := by decide +kernel
theorem dX6_hasPlaces_26 : decode cX6_hasPlaces 26 = .ok (.iconst 1, 1) := by decide +kernel
theorem dX6_hasPlaces_27 : decode cX6_hasPlaces 27 = .ok (.goto 4, 3) := by decide +kernel
theorem dX6_hasPlaces_30 : decode cX6_hasPlaces 30 = .ok (.iconst 0, 1) := by decide +kernel
theorem dX6_hasPlaces_31 : decode cX6_hasPlaces 31 = .ok (.ireturn, 1) := by decide +kernel
theorem dX6_fitted_0 : decode cX6_fitted 0 = .ok (.aload_n 0, 1) := by decide +kernel
theorem dX6_fitted_1 : decode cX6_fitted 1 = .ok (.getfield 11, 3) := by decide +kernel
theorem dX6_fitted_4 : decode cX6_fitted 4 = .ok (.tableswitch 62 0 4 #[36, 41, 46, 62, 50], 36) := by decide +kernel
theorem dX6_fitted_40 : decode cX6_fitted 40 = .ok (.lload_n 1, 1) := by decide +kernel
theorem dX6_fitted_41 : decode cX6_fitted 41 = .ok (.l2i, 1) := by decide +kernel
theorem dX6_fitted_42 : decode cX6_fitted 42 = .ok (.i2b, 1) := by decide +kernel
theorem dX6_fitted_43 : decode cX6_fitted 43 = .ok (.i2l, 1) := by decide +kernel
theorem dX6_fitted_44 : decode cX6_fitted 44 = .ok (.lreturn, 1) := by decide +kernel
theorem dX6_fitted_45 : decode cX6_fitted 45 = .ok (.lload_n 1, 1) := by decide +kernel
theorem dX6_fitted_46 : decode cX6_fitted 46 = .ok (.l2i, 1) := by decide +kernel
theorem dX6_fitted_47 : decode cX6_fitted 47 = .ok (.i2s, 1) := by decide +kernel
theorem dX6_fitted_48 : decode cX6_fitted 48 = .ok (.i2l, 1) := by decide +kernel
theorem dX6_fitted_49 : decode cX6_fitted 49 = .ok (.lreturn, 1) := by decide +kernel
theorem dX6_fitted_50 : decode cX6_fitted 50 = .ok (.lload_n 1, 1) := by decide +kernel
theorem dX6_fitted_51 : decode cX6_fitted 51 = .ok (.l2i, 1) := by decide +kernel
theorem dX6_fitted_52 : decode cX6_fitted 52 = .ok (.i2l, 1) := by decide +kernel
theorem dX6_fitted_53 : decode cX6_fitted 53 = .ok (.lreturn, 1) := by decide +kernel
theorem dX6_fitted_54 : decode cX6_fitted 54 = .ok (.lload_n 1, 1) := by decide +kernel
theorem dX6_fitted_55 : decode cX6_fitted 55 = .ok (.lconst 0, 1) := by decide +kernel
theorem dX6_fitted_56 : decode cX6_fitted 56 = .ok (.lcmp, 1) := by decide +kernel
theorem dX6_fitted_57 : decode cX6_fitted 57 = .ok (.ifCond .eq 7, 3) := by decide +kernel
theorem dX6_fitted_60 : decode cX6_fitted 60 = .ok (.lconst 1, 1) := by decide +kernel
theorem dX6_fitted_61 : decode cX6_fitted 61 = .ok (.goto 4, 3) := by decide +kernel
theorem dX6_fitted_64 : decode cX6_fitted 64 = .ok (.lconst 0, 1) := by decide +kernel
theorem dX6_fitted_65 : decode cX6_fitted 65 = .ok (.lreturn, 1) := by decide +kernel
theorem dX6_fitted_66 : decode cX6_fitted 66 = .ok (.lload_n 1, 1) := by decide +kernel
theorem dX6_fitted_67 : decode cX6_fitted 67 = .ok (.lreturn, 1) := by decide +kernel
theorem dX7_init_0 : decode cX7_init 0 = .ok (.aload_n 0, 1) := by decide +kernel
theorem dX7_init_1 : decode cX7_init 1 = .ok (.invokespecial 5, 3) := by decide +kernel
theorem dX7_init_4 : decode cX7_init 4 = .ok (.aload_n 0, 1) := by decide +kernel
theorem dX7_init_5 : decode cX7_init 5 = .ok (.new 11, 3) := by decide +kernel
theorem dX7_init_8 : decode cX7_init 8 = .ok (.dup, 1) := by decide +kernel
theorem dX7_init_9 : decode cX7_init 9 = .ok (.invokespecial 13, 3) := by decide +kernel
theorem dX7_init_12 : decode cX7_init 12 = .ok (.putfield 14, 3) := by decide +kernel
theorem dX7_init_15 : decode cX7_init 15 = .ok (.aload_n 0, 1) := by decide +kernel
theorem dX7_init_16 : decode cX7_init 16 = .ok (.new 11, 3) := by decide +kernel
theorem dX7_init_19 : decode cX7_init 19 = .ok (.dup, 1) := by decide +kernel
theorem dX7_init_20 : decode cX7_init 20 = .ok (.invokespecial 13, 3) := by decide +kernel
theorem dX7_init_23 : decode cX7_init 23 = .ok (.putfield 20, 3) := by decide +kernel
theorem dX7_init_26 : decode cX7_init 26 = .ok (.aload_n 0, 1) := by decide +kernel
theorem dX7_init_27 : decode cX7_init 27 = .ok (.new 11, 3) := by decide +kernel
theorem dX7_init_30 : decode cX7_init 30 = .ok (.dup, 1) := by decide +kernel
theorem dX7_init_31 : decode cX7_init 31 = .ok (.invokespecial 13, 3) := by decide +kernel
theorem dX7_init_34 : decode cX7_init 34 = .ok (.putfield 23, 3) := by decide +kernel
theorem dX7_init_37 : decode cX7_init 37 = .ok (.aload_n 0, 1) := by decide +kernel
theorem dX7_init_38 : decode cX7_init 38 = .ok (.bipush 100, 2) := by decide +kernel
theorem dX7_init_40 : decode cX7_init 40 = .ok (.newarray .byte, 2) := by decide +kernel
theorem dX7_init_42 : decode cX7_init 42 = .ok (.putfield 26, 3) := by decide +kernel
theorem dX7_init_45 : decode cX7_init 45 = .ok (.aload_n 0, 1) := by decide +kernel
theorem dX7_init_46 : decode cX7_init 46 = .ok (.new 30, 3) := by decide +kernel
theorem dX7_init_49 : decode cX7_init 49 = .ok (.dup, 1) := by decide +kernel
theorem dX7_init_50 : decode cX7_init 50 = .ok (.aload_n 0, 1) := by decide +kernel
theorem dX7_init_51 : decode cX7_init 51 = .ok (.getfield 26, 3) := by decide +kernel
theorem dX7_init_54 : decode cX7_init 54 = .ok (.invokespecial 32, 3) := by decide +kernel
theorem dX7_init_57 : decode cX7_init 57 = .ok (.putfield 35, 3) := by decide +kernel
theorem dX7_init_60 : decode cX7_init 60 = .ok (.aload_n 0, 1) := by decide +kernel
theorem dX7_init_61 : decode cX7_init 61 = .ok (.bipush 6, 2) := by decide +kernel
theorem dX7_init_63 : decode cX7_init 63 = .ok (.anewarray 39, 3) := by decide +kernel
theorem dX7_init_66 : decode cX7_init 66 = .ok (.putfield 41, 3) := by decide +kernel
theorem dX7_init_69 : decode cX7_init 69 = .ok (.aload_n 0, 1) := by decide +kernel
theorem dX7_init_70 : decode cX7_init 70 = .ok (.new 39, 3) := by decide +kernel
theorem dX7_init_73 : decode cX7_init 73 = .ok (.dup, 1) := by decide +kernel
theorem dX7_init_74 : decode cX7_init 74 = .ok (.invokespecial 45, 3) := by decide +kernel
theorem dX7_init_77 : decode cX7_init 77 = .ok (.putfield 46, 3) := by decide +kernel
theorem dX7_init_80 : decode cX7_init 80 = .ok (.aload_n 0, 1) := by decide +kernel
theorem dX7_init_81 : decode cX7_init 81 = .ok (.new 50, 3) := by decide +kernel
theorem dX7_init_84 : decode cX7_init 84 = .ok (.dup, 1) := by decide +kernel
theorem dX7_init_85 : decode cX7_init 85 = .ok (.invokespecial 52, 3) := by decide +kernel
theorem dX7_init_88 : decode cX7_init 88 = .ok (.putfield 53, 3) := by decide +kernel
theorem dX7_init_91 : decode cX7_init 91 = .ok (.aload_n 0, 1) := by decide +kernel
theorem dX7_init_92 : decode cX7_init 92 = .ok (.new 57, 3) := by decide +kernel
theorem dX7_init_95 : decode cX7_init 95 = .ok (.dup, 1) := by decide +kernel
theorem dX7_init_96 : decode cX7_init 96 = .ok (.invokespecial 59, 3) := by decide +kernel
theorem dX7_init_99 : decode cX7_init 99 = .ok (.putfield 60, 3) := by decide +kernel
theorem dX7_init_102 : decode cX7_init 102 = .ok (.aload_n 0, 1) := by decide +kernel
theorem dX7_init_103 : decode cX7_init 103 = .ok (.bipush 6, 2) := by decide +kernel
theorem dX7_init_105 : decode cX7_init 105 = .ok (.anewarray 64, 3) := by decide +kernel
theorem dX7_init_108 : decode cX7_init 108 = .ok (.putfield 66, 3) := by decide +kernel
theorem dX7_init_111 : decode cX7_init 111 = .ok (.iconst 0, 1) := by decide +kernel
theorem dX7_init_112 : decode cX7_init 112 = .ok (.istore_n 1, 1) := by decide +kernel
theorem dX7_init_113 : decode cX7_init 113 = .ok (.iload_n 1, 1) := by decide +kernel
theorem dX7_init_114 : decode cX7_init 114 = .ok (.aload_n 0, 1) := by decide +kernel
theorem dX7_init_115 : decode cX7_init 115 = .ok (.getfield 41, 3) := by decide +kernel
theorem dX7_init_118 : decode cX7_init 118 = .ok (.arraylength, 1) := by decide +kernel
theorem dX7_init_119 : decode cX7_init 119 = .ok (.if_icmp .ge 22, 3) := by decide +kernel
theorem dX7_init_122 : decode cX7_init 122 = .ok (.aload_n 0, 1) := by decide +kernel
theorem dX7_init_123 : decode cX7_init 123 = .ok (.getfield 41, 3) := by decide +kernel
theorem dX7_init_126 : decode cX7_init 126 = .ok (.iload_n 1, 1) := by decide +kernel
theorem dX7_init_127 : decode cX7_init 127 = .ok (.new 39, 3) := by decide +kernel
theorem dX7_init_130 : decode cX7_init 130 = .ok (.dup, 1) := by decide +kernel
theorem dX7_init_131 : decode cX7_init 131 = .ok (.invokespecial 45, 3) := by decide +kernel
theorem dX7_init_134 : decode cX7_init 134 = .ok (.aastore, 1) := by decide +kernel
theorem dX7_init_135 : decode cX7_init 135 = .ok (.iinc 1 1, 3) := by decide +kernel
theorem dX7_init_138 : decode cX7_init 138 = .ok (.goto (-25), 3) := by decide +kernel
theorem dX7_init_141 : decode cX7_init 141 = .ok (.iconst 0, 1) := by decide +kernel
theorem dX7_init_142 : decode cX7_init 142 = .ok (.istore_n 1, 1) := by decide +kernel
theorem dX7_init_143 : decode cX7_init 143 = .ok (.iload_n 1, 1) := by decide +kernel
theorem dX7_init_144 : decode cX7_init 144 = .ok (.aload_n 0, 1) := by decide +kernel
theorem dX7_init_145 : decode cX7_init 145 = .ok (.getfield 66, 3) := by decide +kernel
theorem dX7_init_148 : decode cX7_init 148 = .ok (.arraylength, 1) := by decide +kernel
theorem dX7_init_149 : decode cX7_init 149 = .ok (.if_icmp .ge 22, 3) := by decide +kernel
theorem dX7_init_152 : decode cX7_init 152 = .ok (.aload_n 0, 1) := by decide +kernel
theorem dX7_init_153 : decode cX7_init 153 = .ok (.getfield 66, 3) := by decide +kernel
theorem dX7_init_156 : decode cX7_init 156 = .ok (.iload_n 1, 1) := by decide +kernel
theorem dX7_init_157 : decode cX7_init 157 = .ok (.new 64, 3) := by decide +kernel
theorem dX7_init_160 : decode cX7_init 160 = .ok (.dup, 1) := by decide +kernel
theorem dX7_init_161 : decode cX7_init 161 = .ok (.invokespecial 70, 3) := by decide +kernel
theorem dX7_init_164 : decode cX7_init 164 = .ok (.aastore, 1) := by decide +kernel
theorem dX7_init_165 : decode cX7_init 165 = .ok (.iinc 1 1, 3) := by decide +kernel
theorem dX7_init_168 : decode cX7_init 168 = .ok (.goto (-25), 3) := by decide +kernel
theorem dX7_init_171 : decode cX7_init 171 = .ok (.return_, 1) := by decide +kernel
theorem dX7_mourner_0 : decode cX7_mourner 0 = .ok (.iload_n 1, 1) := by decide +kernel
theorem dX7_mourner_1 : decode cX7_mourner 1 = .ok (.bipush 6, 2) := by decide +kernel
theorem dX7_mourner_3 : decode cX7_mourner 3 = .ok (.invokestatic 71, 3) := by decide +kernel
theorem dX7_mourner_6 : decode cX7_mourner 6 = .ok (.ifCond .eq 13, 3) := by decide +kernel
theorem dX7_mourner_9 : decode cX7_mourner 9 = .ok (.iload 4, 2) := by decide +kernel
theorem dX7_mourner_11 : decode cX7_mourner 11 = .ok (.bipush 9, 2) := by decide +kernel
theorem dX7_mourner_13 : decode cX7_mourner 13 = .ok (.invokestatic 71, 3) := by decide +kernel
theorem dX7_mourner_16 : decode cX7_mourner 16 = .ok (.ifCond .ne 5, 3) := by decide +kernel
theorem dX7_mourner_19 : decode cX7_mourner 19 = .ok (.iconst (-1), 1) := by decide +kernel
theorem dX7_mourner_20 : decode cX7_mourner 20 = .ok (.ireturn, 1) := by decide +kernel
theorem dX7_mourner_21 : decode cX7_mourner 21 = .ok (.iload_n 2, 1) := by decide +kernel
theorem dX7_mourner_22 : decode cX7_mourner 22 = .ok (.bipush 9, 2) := by decide +kernel
theorem dX7_mourner_24 : decode cX7_mourner 24 = .ok (.invokestatic 71, 3) := by decide +kernel
theorem dX7_mourner_27 : decode cX7_mourner 27 = .ok (.ifCond .eq 12, 3) := by decide +kernel
theorem dX7_mourner_30 : decode cX7_mourner 30 = .ok (.iload_n 3, 1) := by decide +kernel
theorem dX7_mourner_31 : decode cX7_mourner 31 = .ok (.bipush 20, 2) := by decide +kernel
theorem dX7_mourner_33 : decode cX7_mourner 33 = .ok (.invokestatic 71, 3) := by decide +kernel
theorem dX7_mourner_36 : decode cX7_mourner 36 = .ok (.ifCond .ne 6, 3) := by decide +kernel
theorem dX7_mourner_39 : decode cX7_mourner 39 = .ok (.bipush (-2), 2) := by decide +kernel
theorem dX7_mourner_41 : decode cX7_mourner 41 = .ok (.ireturn, 1) := by decide +kernel
theorem dX7_mourner_42 : decode cX7_mourner 42 = .ok (.aload_n 0, 1) := by decide +kernel
theorem dX7_mourner_43 : decode cX7_mourner 43 = .ok (.getfield 14, 3) := by decide +kernel
theorem dX7_mourner_46 : decode cX7_mourner 46 = .ok (.getfield 75, 3) := by decide +kernel
theorem dX7_mourner_49 : decode cX7_mourner 49 = .ok (.bipush 6, 2) := by decide +kernel
theorem dX7_mourner_51 : decode cX7_mourner 51 = .ok (.if_icmp .lt 8, 3) := by decide +kernel
theorem dX7_mourner_54 : decode cX7_mourner 54 = .ok (.bipush (-4), 2) := by decide +kernel
theorem dX7_mourner_56 : decode cX7_mourner 56 = .ok (.goto 15, 3) := by decide +kernel
theorem dX7_mourner_59 : decode cX7_mourner 59 = .ok (.aload_n 0, 1) := by decide +kernel
theorem dX7_mourner_60 : decode cX7_mourner 60 = .ok (.getfield 14, 3) := by decide +kernel
theorem dX7_mourner_63 : decode cX7_mourner 63 = .ok (.iload_n 1, 1) := by decide +kernel
theorem dX7_mourner_64 : decode cX7_mourner 64 = .ok (.iload_n 2, 1) := by decide +kernel
theorem dX7_mourner_65 : decode cX7_mourner 65 = .ok (.iload_n 3, 1) := by decide +kernel
theorem dX7_mourner_66 : decode cX7_mourner 66 = .ok (.iload 4, 2) := by decide +kernel
theorem dX7_mourner_68 : decode cX7_mourner 68 = .ok (.invokevirtual 79, 3) := by decide +kernel
theorem dX7_mourner_71 : decode cX7_mourner 71 = .ok (.ireturn, 1) := by decide +kernel
theorem dX7_of_0 : decode cX7_of 0 = .ok (.aload_n 0, 1) := by decide +kernel
theorem dX7_of_1 : decode cX7_of 1 = .ok (.getfield 14, 3) := by decide +kernel
theorem dX7_of_4 : decode cX7_of 4 = .ok (.iload_n 1, 1) := by decide +kernel
theorem dX7_of_5 : decode cX7_of 5 = .ok (.invokevirtual 83, 3) := by decide +kernel
theorem dX7_of_8 : decode cX7_of 8 = .ok (.ifCond .ne 7, 3) := by decide +kernel
theorem dX7_of_11 : decode cX7_of 11 = .ok (.sipush (-10001), 3) := by decide +kernel
theorem dX7_of_14 : decode cX7_of 14 = .ok (.ireturn, 1) := by decide +kernel
theorem dX7_of_15 : decode cX7_of 15 = .ok (.iload_n 2, 1) := by decide +kernel
theorem dX7_of_16 : decode cX7_of 16 = .ok (.tableswitch 117 0 5 #[40, 52, 64, 76, 88, 105], 40) := by decide +kernel
theorem dX7_of_56 : decode cX7_of 56 = .ok (.aload_n 0, 1) := by decide +kernel
theorem dX7_of_57 : decode cX7_of 57 = .ok (.getfield 14, 3) := by decide +kernel
theorem dX7_of_60 : decode cX7_of 60 = .ok (.getfield 87, 3) := by decide +kernel
theorem dX7_of_63 : decode cX7_of 63 = .ok (.iload_n 1, 1) := by decide +kernel
theorem dX7_of_64 : decode cX7_of 64 = .ok (.invokestatic 91, 3) := by decide +kernel
theorem dX7_of_67 : decode cX7_of 67 = .ok (.ireturn, 1) := by decide +kernel
theorem dX7_of_68 : decode cX7_of 68 = .ok (.aload_n 0, 1) := by decide +kernel
theorem dX7_of_69 : decode cX7_of 69 = .ok (.getfield 14, 3) := by decide +kernel
theorem dX7_of_72 : decode cX7_of 72 = .ok (.getfield 95, 3) := by decide +kernel
theorem dX7_of_75 : decode cX7_of 75 = .ok (.iload_n 1, 1) := by decide +kernel
theorem dX7_of_76 : decode cX7_of 76 = .ok (.invokestatic 91, 3) := by decide +kernel
theorem dX7_of_79 : decode cX7_of 79 = .ok (.ireturn, 1) := by decide +kernel
theorem dX7_of_80 : decode cX7_of 80 = .ok (.aload_n 0, 1) := by decide +kernel
theorem dX7_of_81 : decode cX7_of 81 = .ok (.getfield 14, 3) := by decide +kernel
theorem dX7_of_84 : decode cX7_of 84 = .ok (.getfield 98, 3) := by decide +kernel
theorem dX7_of_87 : decode cX7_of 87 = .ok (.iload_n 1, 1) := by decide +kernel
theorem dX7_of_88 : decode cX7_of 88 = .ok (.invokestatic 91, 3) := by decide +kernel
theorem dX7_of_91 : decode cX7_of 91 = .ok (.ireturn, 1) := by decide +kernel
theorem dX7_of_92 : decode cX7_of 92 = .ok (.aload_n 0, 1) := by decide +kernel
theorem dX7_of_93 : decode cX7_of 93 = .ok (.getfield 14, 3) := by decide +kernel
theorem dX7_of_96 : decode cX7_of 96 = .ok (.getfield 101, 3) := by decide +kernel
theorem dX7_of_99 : decode cX7_of 99 = .ok (.iload_n 1, 1) := by decide +kernel
theorem dX7_of_100 : decode cX7_of 100 = .ok (.invokestatic 91, 3) := by decide +kernel
theorem dX7_of_103 : decode cX7_of 103 = .ok (.ireturn, 1) := by decide +kernel
theorem dX7_of_104 : decode cX7_of 104 = .ok (.aload_n 0, 1) := by decide +kernel
theorem dX7_of_105 : decode cX7_of 105 = .ok (.getfield 14, 3) := by decide +kernel
theorem dX7_of_108 : decode cX7_of 108 = .ok (.iload_n 1, 1) := by decide +kernel
theorem dX7_of_109 : decode cX7_of 109 = .ok (.invokevirtual 104, 3) := by decide +kernel
theorem dX7_of_112 : decode cX7_of 112 = .ok (.ifCond .eq 7, 3) := by decide +kernel
theorem dX7_of_115 : decode cX7_of 115 = .ok (.iconst 1, 1) := by decide +kernel
theorem dX7_of_116 : decode cX7_of 116 = .ok (.goto 4, 3) := by decide +kernel
theorem dX7_of_119 : decode cX7_of 119 = .ok (.iconst 0, 1) := by decide +kernel
theorem dX7_of_120 : decode cX7_of 120 = .ok (.ireturn, 1) := by decide +kernel
theorem dX7_of_121 : decode cX7_of 121 = .ok (.aload_n 0, 1) := by decide +kernel
theorem dX7_of_122 : decode cX7_of 122 = .ok (.getfield 14, 3) := by decide +kernel
theorem dX7_of_125 : decode cX7_of 125 = .ok (.getfield 107, 3) := by decide +kernel
theorem dX7_of_128 : decode cX7_of 128 = .ok (.iload_n 1, 1) := by decide +kernel
theorem dX7_of_129 : decode cX7_of 129 = .ok (.invokestatic 91, 3) := by decide +kernel
theorem dX7_of_132 : decode cX7_of 132 = .ok (.ireturn, 1) := by decide +kernel
theorem dX7_of_133 : decode cX7_of 133 = .ok (.aload_n 0, 1) := by decide +kernel
theorem dX7_of_134 : decode cX7_of 134 = .ok (.iload_n 1, 1) := by decide +kernel
theorem dX7_of_135 : decode cX7_of 135 = .ok (.iload_n 2, 1) := by decide +kernel
theorem dX7_of_136 : decode cX7_of 136 = .ok (.invokevirtual 110, 3) := by decide +kernel
theorem dX7_of_139 : decode cX7_of 139 = .ok (.ireturn, 1) := by decide +kernel
theorem dX7_reckonedOf_0 : decode cX7_reckonedOf 0 = .ok (.aload_n 0, 1) := by decide +kernel
theorem dX7_reckonedOf_1 : decode cX7_reckonedOf 1 = .ok (.getfield 53, 3) := by decide +kernel
theorem dX7_reckonedOf_4 : decode cX7_reckonedOf 4 = .ok (.aload_n 0, 1) := by decide +kernel
theorem dX7_reckonedOf_5 : decode cX7_reckonedOf 5 = .ok (.getfield 14, 3) := by decide +kernel
theorem dX7_reckonedOf_8 : decode cX7_reckonedOf 8 = .ok (.aload_n 0, 1) := by decide +kernel
theorem dX7_reckonedOf_9 : decode cX7_reckonedOf 9 = .ok (.invokevirtual 114, 3) := by decide +kernel
theorem dX7_reckonedOf_12 : decode cX7_reckonedOf 12 = .ok (.invokevirtual 118, 3) := by decide +kernel
theorem dX7_reckonedOf_15 : decode cX7_reckonedOf 15 = .ok (.iload_n 2, 1) := by decide +kernel
theorem dX7_reckonedOf_16 : decode cX7_reckonedOf 16 = .ok (.bipush 6, 2) := by decide +kernel
theorem dX7_reckonedOf_18 : decode cX7_reckonedOf 18 = .ok (.if_icmp .ne 30, 3) := by decide +kernel
theorem dX7_reckonedOf_21 : decode cX7_reckonedOf 21 = .ok (.aload_n 0, 1) := by decide +kernel
theorem dX7_reckonedOf_22 : decode cX7_reckonedOf 22 = .ok (.getfield 53, 3) := by decide +kernel
theorem dX7_reckonedOf_25 : decode cX7_reckonedOf 25 = .ok (.aload_n 0, 1) := by decide +kernel
theorem dX7_reckonedOf_26 : decode cX7_reckonedOf 26 = .ok (.getfield 14, 3) := by decide +kernel
theorem dX7_reckonedOf_29 : decode cX7_reckonedOf 29 = .ok (.iload_n 1, 1) := by decide +kernel
theorem dX7_reckonedOf_30 : decode cX7_reckonedOf 30 = .ok (.aload_n 0, 1) := by decide +kernel
theorem dX7_reckonedOf_31 : decode cX7_reckonedOf 31 = .ok (.getfield 14, 3) := by decide +kernel
theorem dX7_reckonedOf_34 : decode cX7_reckonedOf 34 = .ok (.getfield 122, 3) := by decide +kernel
theorem dX7_reckonedOf_37 : decode cX7_reckonedOf 37 = .ok (.aload_n 0, 1) := by decide +kernel
theorem dX7_reckonedOf_38 : decode cX7_reckonedOf 38 = .ok (.getfield 14, 3) := by decide +kernel
theorem dX7_reckonedOf_41 : decode cX7_reckonedOf 41 = .ok (.getfield 125, 3) := by decide +kernel
theorem dX7_reckonedOf_44 : decode cX7_reckonedOf 44 = .ok (.invokevirtual 128, 3) := by decide +kernel
theorem dX7_reckonedOf_47 : decode cX7_reckonedOf 47 = .ok (.ireturn, 1) := by decide +kernel
theorem dX7_reckonedOf_48 : decode cX7_reckonedOf 48 = .ok (.iload_n 2, 1) := by decide +kernel
theorem dX7_reckonedOf_49 : decode cX7_reckonedOf 49 = .ok (.bipush 7, 2) := by decide +kernel
theorem dX7_reckonedOf_51 : decode cX7_reckonedOf 51 = .ok (.if_icmp .ne 16, 3) := by decide +kernel
theorem dX7_reckonedOf_54 : decode cX7_reckonedOf 54 = .ok (.aload_n 0, 1) := by decide +kernel
theorem dX7_reckonedOf_55 : decode cX7_reckonedOf 55 = .ok (.getfield 53, 3) := by decide +kernel
theorem dX7_reckonedOf_58 : decode cX7_reckonedOf 58 = .ok (.aload_n 0, 1) := by decide +kernel
theorem dX7_reckonedOf_59 : decode cX7_reckonedOf 59 = .ok (.getfield 14, 3) := by decide +kernel
theorem dX7_reckonedOf_62 : decode cX7_reckonedOf 62 = .ok (.iload_n 1, 1) := by decide +kernel
theorem dX7_reckonedOf_63 : decode cX7_reckonedOf 63 = .ok (.invokevirtual 132, 3) := by decide +kernel
theorem dX7_reckonedOf_66 : decode cX7_reckonedOf 66 = .ok (.ireturn, 1) := by decide +kernel
theorem dX7_reckonedOf_67 : decode cX7_reckonedOf 67 = .ok (.iload_n 2, 1) := by decide +kernel
theorem dX7_reckonedOf_68 : decode cX7_reckonedOf 68 = .ok (.bipush 10, 2) := by decide +kernel
theorem dX7_reckonedOf_70 : decode cX7_reckonedOf 70 = .ok (.if_icmp .lt 22, 3) := by decide +kernel
theorem dX7_reckonedOf_73 : decode cX7_reckonedOf 73 = .ok (.iload_n 2, 1) := by decide +kernel
theorem dX7_reckonedOf_74 : decode cX7_reckonedOf 74 = .ok (.bipush 20, 2) := by decide +kernel
theorem dX7_reckonedOf_76 : decode cX7_reckonedOf 76 = .ok (.if_icmp .ge 16, 3) := by decide +kernel
theorem dX7_reckonedOf_79 : decode cX7_reckonedOf 79 = .ok (.aload_n 0, 1) := by decide +kernel
theorem dX7_reckonedOf_80 : decode cX7_reckonedOf 80 = .ok (.getfield 53, 3) := by decide +kernel
theorem dX7_reckonedOf_83 : decode cX7_reckonedOf 83 = .ok (.iload_n 1, 1) := by decide +kernel
theorem dX7_reckonedOf_84 : decode cX7_reckonedOf 84 = .ok (.iload_n 2, 1) := by decide +kernel
theorem dX7_reckonedOf_85 : decode cX7_reckonedOf 85 = .ok (.bipush 10, 2) := by decide +kernel
theorem dX7_reckonedOf_87 : decode cX7_reckonedOf 87 = .ok (.isub, 1) := by decide +kernel
theorem dX7_reckonedOf_88 : decode cX7_reckonedOf 88 = .ok (.invokevirtual 136, 3) := by decide +kernel
theorem dX7_reckonedOf_91 : decode cX7_reckonedOf 91 = .ok (.ireturn, 1) := by decide +kernel
theorem dX7_reckonedOf_92 : decode cX7_reckonedOf 92 = .ok (.iload_n 2, 1) := by decide +kernel
theorem dX7_reckonedOf_93 : decode cX7_reckonedOf 93 = .ok (.bipush 20, 2) := by decide +kernel
theorem dX7_reckonedOf_95 : decode cX7_reckonedOf 95 = .ok (.if_icmp .lt 26, 3) := by decide +kernel
theorem dX7_reckonedOf_98 : decode cX7_reckonedOf 98 = .ok (.iload_n 2, 1) := by decide +kernel
theorem dX7_reckonedOf_99 : decode cX7_reckonedOf 99 = .ok (.bipush 30, 2) := by decide +kernel
theorem dX7_reckonedOf_101 : decode cX7_reckonedOf 101 = .ok (.if_icmp .ge 20, 3) := by decide +kernel
theorem dX7_reckonedOf_104 : decode cX7_reckonedOf 104 = .ok (.aload_n 0, 1) := by decide +kernel
theorem dX7_reckonedOf_105 : decode cX7_reckonedOf 105 = .ok (.getfield 53, 3) := by decide +kernel
theorem dX7_reckonedOf_108 : decode cX7_reckonedOf 108 = .ok (.aload_n 0, 1) := by decide +kernel
theorem dX7_reckonedOf_109 : decode cX7_reckonedOf 109 = .ok (.getfield 14, 3) := by decide +kernel
theorem dX7_reckonedOf_112 : decode cX7_reckonedOf 112 = .ok (.iload_n 1, 1) := by decide +kernel
theorem dX7_reckonedOf_113 : decode cX7_reckonedOf 113 = .ok (.iload_n 2, 1) := by decide +kernel
theorem dX7_reckonedOf_114 : decode cX7_reckonedOf 114 = .ok (.bipush 20, 2) := by decide +kernel
theorem dX7_reckonedOf_116 : decode cX7_reckonedOf 116 = .ok (.isub, 1) := by decide +kernel
theorem dX7_reckonedOf_117 : decode cX7_reckonedOf 117 = .ok (.invokevirtual 139, 3) := by decide +kernel
theorem dX7_reckonedOf_120 : decode cX7_reckonedOf 120 = .ok (.ireturn, 1) := by decide +kernel
theorem dX7_reckonedOf_121 : decode cX7_reckonedOf 121 = .ok (.sipush (-10001), 3) := by decide +kernel
theorem dX7_reckonedOf_124 : decode cX7_reckonedOf 124 = .ok (.ireturn, 1) := by decide +kernel
theorem dX7_set_0 : decode cX7_set 0 = .ok (.aload_n 0, 1) := by decide +kernel
theorem dX7_set_1 : decode cX7_set 1 = .ok (.getfield 14, 3) := by decide +kernel
theorem dX7_set_4 : decode cX7_set 4 = .ok (.iload_n 1, 1) := by decide +kernel
theorem dX7_set_5 : decode cX7_set 5 = .ok (.invokevirtual 83, 3) := by decide +kernel
theorem dX7_set_8 : decode cX7_set 8 = .ok (.ifCond .eq 11, 3) := by decide +kernel
theorem dX7_set_11 : decode cX7_set 11 = .ok (.iload_n 2, 1) := by decide +kernel
theorem dX7_set_12 : decode cX7_set 12 = .ok (.iconst 1, 1) := by decide +kernel
theorem dX7_set_13 : decode cX7_set 13 = .ok (.invokestatic 71, 3) := by decide +kernel
theorem dX7_set_16 : decode cX7_set 16 = .ok (.ifCond .ne 5, 3) := by decide +kernel
theorem dX7_set_19 : decode cX7_set 19 = .ok (.iconst (-1), 1) := by decide +kernel
theorem dX7_set_20 : decode cX7_set 20 = .ok (.ireturn, 1) := by decide +kernel
theorem dX7_set_21 : decode cX7_set 21 = .ok (.iload_n 3, 1) := by decide +kernel
theorem dX7_set_22 : decode cX7_set 22 = .ok (.iload_n 2, 1) := by decide +kernel
theorem dX7_set_23 : decode cX7_set 23 = .ok (.ifCond .ne 8, 3) := by decide +kernel
theorem dX7_set_26 : decode cX7_set 26 = .ok (.bipush 20, 2) := by decide +kernel
theorem dX7_set_28 : decode cX7_set 28 = .ok (.goto 5, 3) := by decide +kernel
theorem dX7_set_31 : decode cX7_set 31 = .ok (.bipush 9, 2) := by decide +kernel
theorem dX7_set_33 : decode cX7_set 33 = .ok (.invokestatic 71, 3) := by decide +kernel
theorem dX7_set_36 : decode cX7_set 36 = .ok (.ifCond .ne 6, 3) := by decide +kernel
theorem dX7_set_39 : decode cX7_set 39 = .ok (.bipush (-2), 2) := by decide +kernel
theorem dX7_set_41 : decode cX7_set 41 = .ok (.ireturn, 1) := by decide +kernel
theorem dX7_set_42 : decode cX7_set 42 = .ok (.iload_n 2, 1) := by decide +kernel
theorem dX7_set_43 : decode cX7_set 43 = .ok (.ifCond .ne 13, 3) := by decide +kernel
theorem dX7_set_46 : decode cX7_set 46 = .ok (.aload_n 0, 1) := by decide +kernel
theorem dX7_set_47 : decode cX7_set 47 = .ok (.getfield 14, 3) := by decide +kernel
theorem dX7_set_50 : decode cX7_set 50 = .ok (.getfield 98, 3) := by decide +kernel
theorem dX7_set_53 : decode cX7_set 53 = .ok (.goto 10, 3) := by decide +kernel
theorem dX7_set_56 : decode cX7_set 56 = .ok (.aload_n 0, 1) := by decide +kernel
theorem dX7_set_57 : decode cX7_set 57 = .ok (.getfield 14, 3) := by decide +kernel
theorem dX7_set_60 : decode cX7_set 60 = .ok (.getfield 101, 3) := by decide +kernel
theorem dX7_set_63 : decode cX7_set 63 = .ok (.astore 4, 2) := by decide +kernel
theorem dX7_set_65 : decode cX7_set 65 = .ok (.aload 4, 2) := by decide +kernel
theorem dX7_set_67 : decode cX7_set 67 = .ok (.iload_n 1, 1) := by decide +kernel
theorem dX7_set_68 : decode cX7_set 68 = .ok (.invokestatic 91, 3) := by decide +kernel
theorem dX7_set_71 : decode cX7_set 71 = .ok (.istore 5, 2) := by decide +kernel
theorem dX7_set_73 : decode cX7_set 73 = .ok (.aload 4, 2) := by decide +kernel
theorem dX7_set_75 : decode cX7_set 75 = .ok (.iload_n 1, 1) := by decide +kernel
theorem dX7_set_76 : decode cX7_set 76 = .ok (.iload_n 3, 1) := by decide +kernel
theorem dX7_set_77 : decode cX7_set 77 = .ok (.invokestatic 143, 3) := by decide +kernel
theorem dX7_set_80 : decode cX7_set 80 = .ok (.iload 5, 2) := by decide +kernel
theorem dX7_set_82 : decode cX7_set 82 = .ok (.ireturn, 1) := by decide +kernel
theorem dX7_away_0 : decode cX7_away 0 = .ok (.aload_n 0, 1) := by decide +kernel
theorem dX7_away_1 : decode cX7_away 1 = .ok (.getfield 14, 3) := by decide +kernel
theorem dX7_away_4 : decode cX7_away 4 = .ok (.iload_n 1, 1) := by decide +kernel
theorem dX7_away_5 : decode cX7_away 5 = .ok (.invokevirtual 83, 3) := by decide +kernel
theorem dX7_away_8 : decode cX7_away 8 = .ok (.ifCond .ne 5, 3) := by decide +kernel
theorem dX7_away_11 : decode cX7_away 11 = .ok (.iconst (-1), 1) := by decide +kernel
theorem dX7_away_12 : decode cX7_away 12 = .ok (.ireturn, 1) := by decide +kernel
theorem dX7_away_13 : decode cX7_away 13 = .ok (.aload_n 0, 1) := by decide +kernel
theorem dX7_away_14 : decode cX7_away 14 = .ok (.getfield 14, 3) := by decide +kernel
theorem dX7_away_17 : decode cX7_away 17 = .ok (.iload_n 1, 1) := by decide +kernel
theorem dX7_away_18 : decode cX7_away 18 = .ok (.invokevirtual 104, 3) := by decide +kernel
theorem dX7_away_21 : decode cX7_away 21 = .ok (.istore_n 3, 1) := by decide +kernel
theorem dX7_away_22 : decode cX7_away 22 = .ok (.aload_n 0, 1) := by decide +kernel
theorem dX7_away_23 : decode cX7_away 23 = .ok (.getfield 14, 3) := by decide +kernel
theorem dX7_away_26 : decode cX7_away 26 = .ok (.iload_n 1, 1) := by decide +kernel
theorem dX7_away_27 : decode cX7_away 27 = .ok (.iload_n 2, 1) := by decide +kernel
theorem dX7_away_28 : decode cX7_away 28 = .ok (.invokevirtual 147, 3) := by decide +kernel
theorem dX7_away_31 : decode cX7_away 31 = .ok (.iload_n 3, 1) := by decide +kernel
theorem dX7_away_32 : decode cX7_away 32 = .ok (.ifCond .eq 7, 3) := by decide +kernel
theorem dX7_away_35 : decode cX7_away 35 = .ok (.iconst 1, 1) := by decide +kernel
theorem dX7_away_36 : decode cX7_away 36 = .ok (.goto 4, 3) := by decide +kernel
theorem dX7_away_39 : decode cX7_away 39 = .ok (.iconst 0, 1) := by decide +kernel
theorem dX7_away_40 : decode cX7_away 40 = .ok (.ireturn, 1) := by decide +kernel
theorem dX7_debt_0 : decode cX7_debt 0 = .ok (.iload_n 1, 1) := by decide +kernel
theorem dX7_debt_1 : decode cX7_debt 1 = .ok (.sipush 999, 3) := by decide +kernel
theorem dX7_debt_4 : decode cX7_debt 4 = .ok (.invokestatic 71, 3) := by decide +kernel
theorem dX7_debt_7 : decode cX7_debt 7 = .ok (.ifCond .ne 6, 3) := by decide +kernel
theorem dX7_debt_10 : decode cX7_debt 10 = .ok (.bipush (-2), 2) := by decide +kernel
theorem dX7_debt_12 : decode cX7_debt 12 = .ok (.ireturn, 1) := by decide +kernel
theorem dX7_debt_13 : decode cX7_debt 13 = .ok (.aload_n 0, 1) := by decide +kernel
theorem dX7_debt_14 : decode cX7_debt 14 = .ok (.getfield 14, 3) := by decide +kernel
theorem dX7_debt_17 : decode cX7_debt 17 = .ok (.getfield 122, 3) := by decide +kernel
theorem dX7_debt_20 : decode cX7_debt 20 = .ok (.istore_n 2, 1) := by decide +kernel
theorem dX7_debt_21 : decode cX7_debt 21 = .ok (.aload_n 0, 1) := by decide +kernel
theorem dX7_debt_22 : decode cX7_debt 22 = .ok (.getfield 14, 3) := by decide +kernel
theorem dX7_debt_25 : decode cX7_debt 25 = .ok (.iload_n 1, 1) := by decide +kernel
theorem dX7_debt_26 : decode cX7_debt 26 = .ok (.putfield 122, 3) := by decide +kernel
theorem dX7_debt_29 : decode cX7_debt 29 = .ok (.iload_n 2, 1) := by decide +kernel
theorem dX7_debt_30 : decode cX7_debt 30 = .ok (.ireturn, 1) := by decide +kernel
theorem dX7_row_0 : decode cX7_row 0 = .ok (.aload_n 0, 1) := by decide +kernel
theorem dX7_row_1 : decode cX7_row 1 = .ok (.getfield 14, 3) := by decide +kernel
theorem dX7_row_4 : decode cX7_row 4 = .ok (.iload_n 1, 1) := by decide +kernel
theorem dX7_row_5 : decode cX7_row 5 = .ok (.invokevirtual 83, 3) := by decide +kernel
theorem dX7_row_8 : decode cX7_row 8 = .ok (.ifCond .eq 11, 3) := by decide +kernel
theorem dX7_row_11 : decode cX7_row 11 = .ok (.iload_n 2, 1) := by decide +kernel
theorem dX7_row_12 : decode cX7_row 12 = .ok (.iconst 3, 1) := by decide +kernel
theorem dX7_row_13 : decode cX7_row 13 = .ok (.invokestatic 71, 3) := by decide +kernel
theorem dX7_row_16 : decode cX7_row 16 = .ok (.ifCond .ne 5, 3) := by decide +kernel
theorem dX7_row_19 : decode cX7_row 19 = .ok (.iconst (-1), 1) := by decide +kernel
theorem dX7_row_20 : decode cX7_row 20 = .ok (.ireturn, 1) := by decide +kernel
theorem dX7_row_21 : decode cX7_row 21 = .ok (.iload_n 3, 1) := by decide +kernel
theorem dX7_row_22 : decode cX7_row 22 = .ok (.bipush 9, 2) := by decide +kernel
theorem dX7_row_24 : decode cX7_row 24 = .ok (.invokestatic 71, 3) := by decide +kernel
theorem dX7_row_27 : decode cX7_row 27 = .ok (.ifCond .ne 6, 3) := by decide +kernel
theorem dX7_row_30 : decode cX7_row 30 = .ok (.bipush (-2), 2) := by decide +kernel
theorem dX7_row_32 : decode cX7_row 32 = .ok (.ireturn, 1) := by decide +kernel
theorem dX7_row_33 : decode cX7_row 33 = .ok (.aload_n 0, 1) := by decide +kernel
theorem dX7_row_34 : decode cX7_row 34 = .ok (.getfield 14, 3) := by decide +kernel
theorem dX7_row_37 : decode cX7_row 37 = .ok (.getfield 87, 3) := by decide +kernel
theorem dX7_row_40 : decode cX7_row 40 = .ok (.iload_n 1, 1) := by decide +kernel
theorem dX7_row_41 : decode cX7_row 41 = .ok (.invokestatic 91, 3) := by decide +kernel
theorem dX7_row_44 : decode cX7_row 44 = .ok (.bipush 6, 2) := by decide +kernel
theorem dX7_row_46 : decode cX7_row 46 = .ok (.if_icmp .eq 6, 3) := by decide +kernel
theorem dX7_row_49 : decode cX7_row 49 = .ok (.bipush (-3), 2) := by decide +kernel
theorem dX7_row_51 : decode cX7_row 51 = .ok (.ireturn, 1) := by decide +kernel
theorem dX7_row_52 : decode cX7_row 52 = .ok (.iload_n 1, 1) := by decide +kernel
theorem dX7_row_53 : decode cX7_row 53 = .ok (.iconst 4, 1) := by decide +kernel
theorem dX7_row_54 : decode cX7_row 54 = .ok (.imul, 1) := by decide +kernel
theorem dX7_row_55 : decode cX7_row 55 = .ok (.iload_n 2, 1) := by decide +kernel
theorem dX7_row_56 : decode cX7_row 56 = .ok (.iadd, 1) := by decide +kernel
theorem dX7_row_57 : decode cX7_row 57 = .ok (.istore 4, 2) := by decide +kernel
theorem dX7_row_59 : decode cX7_row 59 = .ok (.aload_n 0, 1) := by decide +kernel
theorem dX7_row_60 : decode cX7_row 60 = .ok (.getfield 14, 3) := by decide +kernel
theorem dX7_row_63 : decode cX7_row 63 = .ok (.getfield 151, 3) := by decide +kernel
theorem dX7_row_66 : decode cX7_row 66 = .ok (.iload 4, 2) := by decide +kernel
theorem dX7_row_68 : decode cX7_row 68 = .ok (.invokestatic 91, 3) := by decide +kernel
theorem dX7_row_71 : decode cX7_row 71 = .ok (.istore 5, 2) := by decide +kernel
theorem dX7_row_73 : decode cX7_row 73 = .ok (.aload_n 0, 1) := by decide +kernel
theorem dX7_row_74 : decode cX7_row 74 = .ok (.getfield 14, 3) := by decide +kernel
theorem dX7_row_77 : decode cX7_row 77 = .ok (.getfield 151, 3) := by decide +kernel
theorem dX7_row_80 : decode cX7_row 80 = .ok (.iload 4, 2) := by decide +kernel
theorem dX7_row_82 : decode cX7_row 82 = .ok (.iload_n 3, 1) := by decide +kernel
theorem dX7_row_83 : decode cX7_row 83 = .ok (.invokestatic 143, 3) := by decide +kernel
theorem dX7_row_86 : decode cX7_row 86 = .ok (.iload 5, 2) := by decide +kernel
theorem dX7_row_88 : decode cX7_row 88 = .ok (.ireturn, 1) := by decide +kernel
theorem dX7_feed_0 : decode cX7_feed 0 = .ok (.iload_n 1, 1) := by decide +kernel
theorem dX7_feed_1 : decode cX7_feed 1 = .ok (.bipush 127, 2) := by decide +kernel
theorem dX7_feed_3 : decode cX7_feed 3 = .ok (.invokestatic 71, 3) := by decide +kernel
theorem dX7_feed_6 : decode cX7_feed 6 = .ok (.ifCond .ne 6, 3) := by decide +kernel
theorem dX7_feed_9 : decode cX7_feed 9 = .ok (.bipush (-2), 2) := by decide +kernel
theorem dX7_feed_11 : decode cX7_feed 11 = .ok (.ireturn, 1) := by decide +kernel
theorem dX7_feed_12 : decode cX7_feed 12 = .ok (.aload_n 0, 1) := by decide +kernel
theorem dX7_feed_13 : decode cX7_feed 13 = .ok (.getfield 154, 3) := by decide +kernel
theorem dX7_feed_16 : decode cX7_feed 16 = .ok (.ifCond .lt 15, 3) := by decide +kernel
theorem dX7_feed_19 : decode cX7_feed 19 = .ok (.aload_n 0, 1) := by decide +kernel
theorem dX7_feed_20 : decode cX7_feed 20 = .ok (.getfield 154, 3) := by decide +kernel
theorem dX7_feed_23 : decode cX7_feed 23 = .ok (.aload_n 0, 1) := by decide +kernel
theorem dX7_feed_24 : decode cX7_feed 24 = .ok (.getfield 26, 3) := by decide +kernel
theorem dX7_feed_27 : decode cX7_feed 27 = .ok (.arraylength, 1) := by decide +kernel
theorem dX7_feed_28 : decode cX7_feed 28 = .ok (.if_icmp .lt 6, 3) := by decide +kernel
theorem dX7_feed_31 : decode cX7_feed 31 = .ok (.bipush (-4), 2) := by decide +kernel
theorem dX7_feed_33 : decode cX7_feed 33 = .ok (.ireturn, 1) := by decide +kernel
theorem dX7_feed_34 : decode cX7_feed 34 = .ok (.aload_n 0, 1) := by decide +kernel
theorem dX7_feed_35 : decode cX7_feed 35 = .ok (.getfield 26, 3) := by decide +kernel
theorem dX7_feed_38 : decode cX7_feed 38 = .ok (.aload_n 0, 1) := by decide +kernel
theorem dX7_feed_39 : decode cX7_feed 39 = .ok (.getfield 154, 3) := by decide +kernel
theorem dX7_feed_42 : decode cX7_feed 42 = .ok (.iload_n 1, 1) := by decide +kernel
theorem dX7_feed_43 : decode cX7_feed 43 = .ok (.i2b, 1) := by decide +kernel
theorem dX7_feed_44 : decode cX7_feed 44 = .ok (.bastore, 1) := by decide +kernel
theorem dX7_feed_45 : decode cX7_feed 45 = .ok (.aload_n 0, 1) := by decide +kernel
theorem dX7_feed_46 : decode cX7_feed 46 = .ok (.dup, 1) := by decide +kernel
theorem dX7_feed_47 : decode cX7_feed 47 = .ok (.getfield 154, 3) := by decide +kernel
theorem dX7_feed_50 : decode cX7_feed 50 = .ok (.iconst 1, 1) := by decide +kernel
theorem dX7_feed_51 : decode cX7_feed 51 = .ok (.iadd, 1) := by decide +kernel
theorem dX7_feed_52 : decode cX7_feed 52 = .ok (.putfield 154, 3) := by decide +kernel
theorem dX7_feed_55 : decode cX7_feed 55 = .ok (.aload_n 0, 1) := by decide +kernel
theorem dX7_feed_56 : decode cX7_feed 56 = .ok (.getfield 154, 3) := by decide +kernel
theorem dX7_feed_59 : decode cX7_feed 59 = .ok (.ireturn, 1) := by decide +kernel
theorem dX7_parish_0 : decode cX7_parish 0 = .ok (.aload_n 0, 1) := by decide +kernel
theorem dX7_parish_1 : decode cX7_parish 1 = .ok (.aload_n 0, 1) := by decide +kernel
theorem dX7_parish_2 : decode cX7_parish 2 = .ok (.getfield 157, 3) := by decide +kernel
theorem dX7_parish_5 : decode cX7_parish 5 = .ok (.invokevirtual 160, 3) := by decide +kernel
theorem dX7_parish_8 : decode cX7_parish 8 = .ok (.astore_n 1, 1) := by decide +kernel
theorem dX7_parish_9 : decode cX7_parish 9 = .ok (.aload_n 1, 1) := by decide +kernel
theorem dX7_parish_10 : decode cX7_parish 10 = .ok (.ifnonnull 6, 3) := by decide +kernel
theorem dX7_parish_13 : decode cX7_parish 13 = .ok (.bipush (-4), 2) := by decide +kernel
theorem dX7_parish_15 : decode cX7_parish 15 = .ok (.ireturn, 1) := by decide +kernel
theorem dX7_parish_16 : decode cX7_parish 16 = .ok (.aload_n 0, 1) := by decide +kernel
theorem dX7_parish_17 : decode cX7_parish 17 = .ok (.getfield 35, 3) := by decide +kernel
theorem dX7_parish_20 : decode cX7_parish 20 = .ok (.aload_n 0, 1) := by decide +kernel
theorem dX7_parish_21 : decode cX7_parish 21 = .ok (.getfield 154, 3) := by decide +kernel
theorem dX7_parish_24 : decode cX7_parish 24 = .ok (.aload_n 1, 1) := by decide +kernel
theorem dX7_parish_25 : decode cX7_parish 25 = .ok (.invokevirtual 164, 3) := by decide +kernel
theorem dX7_parish_28 : decode cX7_parish 28 = .ok (.istore_n 2, 1) := by decide +kernel
theorem dX7_parish_29 : decode cX7_parish 29 = .ok (.aload_n 0, 1) := by decide +kernel
theorem dX7_parish_30 : decode cX7_parish 30 = .ok (.iconst 0, 1) := by decide +kernel
theorem dX7_parish_31 : decode cX7_parish 31 = .ok (.putfield 154, 3) := by decide +kernel
theorem dX7_parish_34 : decode cX7_parish 34 = .ok (.iload_n 2, 1) := by decide +kernel
theorem dX7_parish_35 : decode cX7_parish 35 = .ok (.ifCond .ne 14, 3) := by decide +kernel
theorem dX7_parish_38 : decode cX7_parish 38 = .ok (.bipush (-10), 2) := by decide +kernel
theorem dX7_parish_40 : decode cX7_parish 40 = .ok (.aload_n 0, 1) := by decide +kernel
theorem dX7_parish_41 : decode cX7_parish 41 = .ok (.getfield 35, 3) := by decide +kernel
theorem dX7_parish_44 : decode cX7_parish 44 = .ok (.getfield 168, 3) := by decide +kernel
theorem dX7_parish_47 : decode cX7_parish 47 = .ok (.isub, 1) := by decide +kernel
theorem dX7_parish_48 : decode cX7_parish 48 = .ok (.ireturn, 1) := by decide +kernel
theorem dX7_parish_49 : decode cX7_parish 49 = .ok (.aload_n 0, 1) := by decide +kernel
theorem dX7_parish_50 : decode cX7_parish 50 = .ok (.getfield 14, 3) := by decide +kernel
theorem dX7_parish_53 : decode cX7_parish 53 = .ok (.aload_n 0, 1) := by decide +kernel
theorem dX7_parish_54 : decode cX7_parish 54 = .ok (.getfield 157, 3) := by decide +kernel
theorem dX7_parish_57 : decode cX7_parish 57 = .ok (.putfield 171, 3) := by decide +kernel
theorem dX7_parish_60 : decode cX7_parish 60 = .ok (.aload_n 0, 1) := by decide +kernel
theorem dX7_parish_61 : decode cX7_parish 61 = .ok (.dup, 1) := by decide +kernel
theorem dX7_parish_62 : decode cX7_parish 62 = .ok (.getfield 157, 3) := by decide +kernel
theorem dX7_parish_65 : decode cX7_parish 65 = .ok (.iconst 1, 1) := by decide +kernel
theorem dX7_parish_66 : decode cX7_parish 66 = .ok (.iadd, 1) := by decide +kernel
theorem dX7_parish_67 : decode cX7_parish 67 = .ok (.putfield 157, 3) := by decide +kernel
theorem dX7_parish_70 : decode cX7_parish 70 = .ok (.aload_n 0, 1) := by decide +kernel
theorem dX7_parish_71 : decode cX7_parish 71 = .ok (.getfield 14, 3) := by decide +kernel
theorem dX7_parish_74 : decode cX7_parish 74 = .ok (.getfield 171, 3) := by decide +kernel
theorem dX7_parish_77 : decode cX7_parish 77 = .ok (.ireturn, 1) := by decide +kernel
theorem dX7_told_0 : decode cX7_told 0 = .ok (.iload_n 1, 1) := by decide +kernel
theorem dX7_told_1 : decode cX7_told 1 = .ok (.tableswitch 101 0 7 #[47, 55, 63, 71, 79, 84, 89, 95], 47) := by decide +kernel
theorem dX7_told_48 : decode cX7_told 48 = .ok (.aload_n 0, 1) := by decide +kernel
theorem dX7_told_49 : decode cX7_told 49 = .ok (.getfield 14, 3) := by decide +kernel
theorem dX7_told_52 : decode cX7_told 52 = .ok (.getfield 174, 3) := by decide +kernel
theorem dX7_told_55 : decode cX7_told 55 = .ok (.ireturn, 1) := by decide +kernel
theorem dX7_told_56 : decode cX7_told 56 = .ok (.aload_n 0, 1) := by decide +kernel
theorem dX7_told_57 : decode cX7_told 57 = .ok (.invokevirtual 114, 3) := by decide +kernel
theorem dX7_told_60 : decode cX7_told 60 = .ok (.getfield 177, 3) := by decide +kernel
theorem dX7_told_63 : decode cX7_told 63 = .ok (.ireturn, 1) := by decide +kernel
theorem dX7_told_64 : decode cX7_told 64 = .ok (.aload_n 0, 1) := by decide +kernel
theorem dX7_told_65 : decode cX7_told 65 = .ok (.getfield 14, 3) := by decide +kernel
theorem dX7_told_68 : decode cX7_told 68 = .ok (.getfield 122, 3) := by decide +kernel
theorem dX7_told_71 : decode cX7_told 71 = .ok (.ireturn, 1) := by decide +kernel
theorem dX7_told_72 : decode cX7_told 72 = .ok (.aload_n 0, 1) := by decide +kernel
theorem dX7_told_73 : decode cX7_told 73 = .ok (.getfield 14, 3) := by decide +kernel
theorem dX7_told_76 : decode cX7_told 76 = .ok (.getfield 125, 3) := by decide +kernel
theorem dX7_told_79 : decode cX7_told 79 = .ok (.ireturn, 1) := by decide +kernel
theorem dX7_told_80 : decode cX7_told 80 = .ok (.aload_n 0, 1) := by decide +kernel
theorem dX7_told_81 : decode cX7_told 81 = .ok (.invokevirtual 180, 3) := by decide +kernel
theorem dX7_told_84 : decode cX7_told 84 = .ok (.ireturn, 1) := by decide +kernel
theorem dX7_told_85 : decode cX7_told 85 = .ok (.aload_n 0, 1) := by decide +kernel
theorem dX7_told_86 : decode cX7_told 86 = .ok (.invokevirtual 184, 3) := by decide +kernel
theorem dX7_told_89 : decode cX7_told 89 = .ok (.ireturn, 1) := by decide +kernel
theorem dX7_told_90 : decode cX7_told 90 = .ok (.aload_n 0, 1) := by decide +kernel
theorem dX7_told_91 : decode cX7_told 91 = .ok (.iconst 0, 1) := by decide +kernel
theorem dX7_told_92 : decode cX7_told 92 = .ok (.invokevirtual 187, 3) := by decide +kernel
theorem dX7_told_95 : decode cX7_told 95 = .ok (.ireturn, 1) := by decide +kernel
theorem dX7_told_96 : decode cX7_told 96 = .ok (.aload_n 0, 1) := by decide +kernel
theorem dX7_told_97 : decode cX7_told 97 = .ok (.iconst 1, 1) := by decide +kernel
theorem dX7_told_98 : decode cX7_told 98 = .ok (.invokevirtual 187, 3) := by decide +kernel
theorem dX7_told_101 : decode cX7_told 101 = .ok (.ireturn, 1) := by decide +kernel
theorem dX7_told_102 : decode cX7_told 102 = .ok (.iconst (-1), 1) := by decide +kernel
theorem dX7_told_103 : decode cX7_told 103 = .ok (.ireturn, 1) := by decide +kernel
theorem dX7_parishAt_0 : decode cX7_parishAt 0 = .ok (.iload_n 1, 1) := by decide +kernel
theorem dX7_parishAt_1 : decode cX7_parishAt 1 = .ok (.ifCond .lt 21, 3) := by decide +kernel
theorem dX7_parishAt_4 : decode cX7_parishAt 4 = .ok (.iload_n 1, 1) := by decide +kernel
theorem dX7_parishAt_5 : decode cX7_parishAt 5 = .ok (.aload_n 0, 1) := by decide +kernel
theorem dX7_parishAt_6 : decode cX7_parishAt 6 = .ok (.getfield 41, 3) := by decide +kernel
theorem dX7_parishAt_9 : decode cX7_parishAt 9 = .ok (.arraylength, 1) := by decide +kernel
theorem dX7_parishAt_10 : decode cX7_parishAt 10 = .ok (.if_icmp .ge 12, 3) := by decide +kernel
theorem dX7_parishAt_13 : decode cX7_parishAt 13 = .ok (.aload_n 0, 1) := by decide +kernel
theorem dX7_parishAt_14 : decode cX7_parishAt 14 = .ok (.getfield 41, 3) := by decide +kernel
theorem dX7_parishAt_17 : decode cX7_parishAt 17 = .ok (.iload_n 1, 1) := by decide +kernel
theorem dX7_parishAt_18 : decode cX7_parishAt 18 = .ok (.aaload, 1) := by decide +kernel
theorem dX7_parishAt_19 : decode cX7_parishAt 19 = .ok (.goto 4, 3) := by decide +kernel
theorem dX7_parishAt_22 : decode cX7_parishAt 22 = .ok (.aconst_null, 1) := by decide +kernel
theorem dX7_parishAt_23 : decode cX7_parishAt 23 = .ok (.areturn, 1) := by decide +kernel
theorem dX7_held_0 : decode cX7_held 0 = .ok (.aload_n 0, 1) := by decide +kernel
theorem dX7_held_1 : decode cX7_held 1 = .ok (.aload_n 0, 1) := by decide +kernel
theorem dX7_held_2 : decode cX7_held 2 = .ok (.getfield 14, 3) := by decide +kernel
theorem dX7_held_5 : decode cX7_held 5 = .ok (.getfield 171, 3) := by decide +kernel
theorem dX7_held_8 : decode cX7_held 8 = .ok (.invokevirtual 160, 3) := by decide +kernel
theorem dX7_held_11 : decode cX7_held 11 = .ok (.astore_n 1, 1) := by decide +kernel
theorem dX7_held_12 : decode cX7_held 12 = .ok (.aload_n 1, 1) := by decide +kernel
theorem dX7_held_13 : decode cX7_held 13 = .ok (.ifnonnull 10, 3) := by decide +kernel
theorem dX7_held_16 : decode cX7_held 16 = .ok (.aload_n 0, 1) := by decide +kernel
theorem dX7_held_17 : decode cX7_held 17 = .ok (.getfield 46, 3) := by decide +kernel
theorem dX7_held_20 : decode cX7_held 20 = .ok (.goto 4, 3) := by decide +kernel
theorem dX7_held_23 : decode cX7_held 23 = .ok (.aload_n 1, 1) := by decide +kernel
theorem dX7_held_24 : decode cX7_held 24 = .ok (.areturn, 1) := by decide +kernel
theorem dX7_pass_0 : decode cX7_pass 0 = .ok (.iload_n 1, 1) := by decide +kernel
theorem dX7_pass_1 : decode cX7_pass 1 = .ok (.bipush 20, 2) := by decide +kernel
theorem dX7_pass_3 : decode cX7_pass 3 = .ok (.invokestatic 71, 3) := by decide +kernel
theorem dX7_pass_6 : decode cX7_pass 6 = .ok (.ifCond .ne 6, 3) := by decide +kernel
theorem dX7_pass_9 : decode cX7_pass 9 = .ok (.bipush (-2), 2) := by decide +kernel
theorem dX7_pass_11 : decode cX7_pass 11 = .ok (.ireturn, 1) := by decide +kernel
theorem dX7_pass_12 : decode cX7_pass 12 = .ok (.aload_n 0, 1) := by decide +kernel
theorem dX7_pass_13 : decode cX7_pass 13 = .ok (.getfield 14, 3) := by decide +kernel
theorem dX7_pass_16 : decode cX7_pass 16 = .ok (.getfield 174, 3) := by decide +kernel
theorem dX7_pass_19 : decode cX7_pass 19 = .ok (.iload_n 1, 1) := by decide +kernel
theorem dX7_pass_20 : decode cX7_pass 20 = .ok (.iadd, 1) := by decide +kernel
theorem dX7_pass_21 : decode cX7_pass 21 = .ok (.sipush 9999, 3) := by decide +kernel
theorem dX7_pass_24 : decode cX7_pass 24 = .ok (.if_icmp .le 6, 3) := by decide +kernel
theorem dX7_pass_27 : decode cX7_pass 27 = .ok (.bipush (-3), 2) := by decide +kernel
theorem dX7_pass_29 : decode cX7_pass 29 = .ok (.ireturn, 1) := by decide +kernel
theorem dX7_pass_30 : decode cX7_pass 30 = .ok (.iconst 0, 1) := by decide +kernel
theorem dX7_pass_31 : decode cX7_pass 31 = .ok (.istore_n 2, 1) := by decide +kernel
theorem dX7_pass_32 : decode cX7_pass 32 = .ok (.iload_n 2, 1) := by decide +kernel
theorem dX7_pass_33 : decode cX7_pass 33 = .ok (.iload_n 1, 1) := by decide +kernel
theorem dX7_pass_34 : decode cX7_pass 34 = .ok (.if_icmp .ge 27, 3) := by decide +kernel
theorem dX7_pass_37 : decode cX7_pass 37 = .ok (.aload_n 0, 1) := by decide +kernel
theorem dX7_pass_38 : decode cX7_pass 38 = .ok (.getfield 53, 3) := by decide +kernel
theorem dX7_pass_41 : decode cX7_pass 41 = .ok (.aload_n 0, 1) := by decide +kernel
theorem dX7_pass_42 : decode cX7_pass 42 = .ok (.getfield 14, 3) := by decide +kernel
theorem dX7_pass_45 : decode cX7_pass 45 = .ok (.aload_n 0, 1) := by decide +kernel
theorem dX7_pass_46 : decode cX7_pass 46 = .ok (.invokevirtual 114, 3) := by decide +kernel
theorem dX7_pass_49 : decode cX7_pass 49 = .ok (.ldc 191, 2) := by decide +kernel
theorem dX7_pass_51 : decode cX7_pass 51 = .ok (.invokevirtual 192, 3) := by decide +kernel
theorem dX7_pass_54 : decode cX7_pass 54 = .ok (.pop, 1) := by decide +kernel
theorem dX7_pass_55 : decode cX7_pass 55 = .ok (.iinc 2 1, 3) := by decide +kernel
theorem dX7_pass_58 : decode cX7_pass 58 = .ok (.goto (-26), 3) := by decide +kernel
theorem dX7_pass_61 : decode cX7_pass 61 = .ok (.aload_n 0, 1) := by decide +kernel
theorem dX7_pass_62 : decode cX7_pass 62 = .ok (.getfield 14, 3) := by decide +kernel
theorem dX7_pass_65 : decode cX7_pass 65 = .ok (.getfield 174, 3) := by decide +kernel
theorem dX7_pass_68 : decode cX7_pass 68 = .ok (.ireturn, 1) := by decide +kernel
theorem dX7_on_0 : decode cX7_on 0 = .ok (.aload_n 0, 1) := by decide +kernel
theorem dX7_on_1 : decode cX7_on 1 = .ok (.getfield 14, 3) := by decide +kernel
theorem dX7_on_4 : decode cX7_on 4 = .ok (.iload_n 2, 1) := by decide +kernel
theorem dX7_on_5 : decode cX7_on 5 = .ok (.bipush 10, 2) := by decide +kernel
theorem dX7_on_7 : decode cX7_on 7 = .ok (.isub, 1) := by decide +kernel
theorem dX7_on_8 : decode cX7_on 8 = .ok (.invokevirtual 83, 3) := by decide +kernel
theorem dX7_on_11 : decode cX7_on 11 = .ok (.istore_n 3, 1) := by decide +kernel
theorem dX7_on_12 : decode cX7_on 12 = .ok (.aload_n 0, 1) := by decide +kernel
theorem dX7_on_13 : decode cX7_on 13 = .ok (.getfield 14, 3) := by decide +kernel
theorem dX7_on_16 : decode cX7_on 16 = .ok (.iload_n 2, 1) := by decide +kernel
theorem dX7_on_17 : decode cX7_on 17 = .ok (.bipush 20, 2) := by decide +kernel
theorem dX7_on_19 : decode cX7_on 19 = .ok (.isub, 1) := by decide +kernel
theorem dX7_on_20 : decode cX7_on 20 = .ok (.invokevirtual 83, 3) := by decide +kernel
theorem dX7_on_23 : decode cX7_on 23 = .ok (.istore 4, 2) := by decide +kernel
theorem dX7_on_25 : decode cX7_on 25 = .ok (.iload_n 3, 1) := by decide +kernel
theorem dX7_on_26 : decode cX7_on 26 = .ok (.ifCond .ne 10, 3) := by decide +kernel
theorem dX7_on_29 : decode cX7_on 29 = .ok (.iload 4, 2) := by decide +kernel
theorem dX7_on_31 : decode cX7_on 31 = .ok (.ifCond .ne 5, 3) := by decide +kernel
theorem dX7_on_34 : decode cX7_on 34 = .ok (.iconst (-1), 1) := by decide +kernel
theorem dX7_on_35 : decode cX7_on 35 = .ok (.ireturn, 1) := by decide +kernel
theorem dX7_on_36 : decode cX7_on 36 = .ok (.iload_n 1, 1) := by decide +kernel
theorem dX7_on_37 : decode cX7_on 37 = .ok (.bipush 20, 2) := by decide +kernel
theorem dX7_on_39 : decode cX7_on 39 = .ok (.invokestatic 71, 3) := by decide +kernel
theorem dX7_on_42 : decode cX7_on 42 = .ok (.ifCond .ne 6, 3) := by decide +kernel
theorem dX7_on_45 : decode cX7_on 45 = .ok (.bipush (-2), 2) := by decide +kernel
theorem dX7_on_47 : decode cX7_on 47 = .ok (.ireturn, 1) := by decide +kernel
theorem dX7_on_48 : decode cX7_on 48 = .ok (.aload_n 0, 1) := by decide +kernel
theorem dX7_on_49 : decode cX7_on 49 = .ok (.getfield 20, 3) := by decide +kernel
theorem dX7_on_52 : decode cX7_on 52 = .ok (.aload_n 0, 1) := by decide +kernel
theorem dX7_on_53 : decode cX7_on 53 = .ok (.getfield 14, 3) := by decide +kernel
theorem dX7_on_56 : decode cX7_on 56 = .ok (.invokevirtual 196, 3) := by decide +kernel
theorem dX7_on_59 : decode cX7_on 59 = .ok (.iconst 0, 1) := by decide +kernel
theorem dX7_on_60 : decode cX7_on 60 = .ok (.istore 5, 2) := by decide +kernel
theorem dX7_on_62 : decode cX7_on 62 = .ok (.iload 5, 2) := by decide +kernel
theorem dX7_on_64 : decode cX7_on 64 = .ok (.iload_n 1, 1) := by decide +kernel
theorem dX7_on_65 : decode cX7_on 65 = .ok (.if_icmp .ge 27, 3) := by decide +kernel
theorem dX7_on_68 : decode cX7_on 68 = .ok (.aload_n 0, 1) := by decide +kernel
theorem dX7_on_69 : decode cX7_on 69 = .ok (.getfield 53, 3) := by decide +kernel
theorem dX7_on_72 : decode cX7_on 72 = .ok (.aload_n 0, 1) := by decide +kernel
theorem dX7_on_73 : decode cX7_on 73 = .ok (.getfield 20, 3) := by decide +kernel
theorem dX7_on_76 : decode cX7_on 76 = .ok (.aload_n 0, 1) := by decide +kernel
theorem dX7_on_77 : decode cX7_on 77 = .ok (.invokevirtual 114, 3) := by decide +kernel
theorem dX7_on_80 : decode cX7_on 80 = .ok (.ldc 200, 2) := by decide +kernel
theorem dX7_on_82 : decode cX7_on 82 = .ok (.invokevirtual 192, 3) := by decide +kernel
theorem dX7_on_85 : decode cX7_on 85 = .ok (.pop, 1) := by decide +kernel
theorem dX7_on_86 : decode cX7_on 86 = .ok (.iinc 5 1, 3) := by decide +kernel
theorem dX7_on_89 : decode cX7_on 89 = .ok (.goto (-27), 3) := by decide +kernel
theorem dX7_on_92 : decode cX7_on 92 = .ok (.iload_n 3, 1) := by decide +kernel
theorem dX7_on_93 : decode cX7_on 93 = .ok (.ifCond .eq 20, 3) := by decide +kernel
theorem dX7_on_96 : decode cX7_on 96 = .ok (.aload_n 0, 1) := by decide +kernel
theorem dX7_on_97 : decode cX7_on 97 = .ok (.getfield 20, 3) := by decide +kernel
theorem dX7_on_100 : decode cX7_on 100 = .ok (.getfield 101, 3) := by decide +kernel
theorem dX7_on_103 : decode cX7_on 103 = .ok (.iload_n 2, 1) := by decide +kernel
theorem dX7_on_104 : decode cX7_on 104 = .ok (.bipush 10, 2) := by decide +kernel
theorem dX7_on_106 : decode cX7_on 106 = .ok (.isub, 1) := by decide +kernel
theorem dX7_on_107 : decode cX7_on 107 = .ok (.invokestatic 91, 3) := by decide +kernel
theorem dX7_on_110 : decode cX7_on 110 = .ok (.goto 17, 3) := by decide +kernel
theorem dX7_on_113 : decode cX7_on 113 = .ok (.aload_n 0, 1) := by decide +kernel
theorem dX7_on_114 : decode cX7_on 114 = .ok (.getfield 20, 3) := by decide +kernel
theorem dX7_on_117 : decode cX7_on 117 = .ok (.getfield 107, 3) := by decide +kernel
theorem dX7_on_120 : decode cX7_on 120 = .ok (.iload_n 2, 1) := by decide +kernel
theorem dX7_on_121 : decode cX7_on 121 = .ok (.bipush 20, 2) := by decide +kernel
theorem dX7_on_123 : decode cX7_on 123 = .ok (.isub, 1) := by decide +kernel
theorem dX7_on_124 : decode cX7_on 124 = .ok (.invokestatic 91, 3) := by decide +kernel
theorem dX7_on_127 : decode cX7_on 127 = .ok (.ireturn, 1) := by decide +kernel
theorem dX7_kept_0 : decode cX7_kept 0 = .ok (.aload_n 0, 1) := by decide +kernel
theorem dX7_kept_1 : decode cX7_kept 1 = .ok (.getfield 14, 3) := by decide +kernel
theorem dX7_kept_4 : decode cX7_kept 4 = .ok (.iload_n 1, 1) := by decide +kernel
theorem dX7_kept_5 : decode cX7_kept 5 = .ok (.invokevirtual 83, 3) := by decide +kernel
theorem dX7_kept_8 : decode cX7_kept 8 = .ok (.ifCond .ne 5, 3) := by decide +kernel
theorem dX7_kept_11 : decode cX7_kept 11 = .ok (.iconst (-1), 1) := by decide +kernel
theorem dX7_kept_12 : decode cX7_kept 12 = .ok (.ireturn, 1) := by decide +kernel
theorem dX7_kept_13 : decode cX7_kept 13 = .ok (.iload_n 2, 1) := by decide +kernel
theorem dX7_kept_14 : decode cX7_kept 14 = .ok (.sipush 999, 3) := by decide +kernel
theorem dX7_kept_17 : decode cX7_kept 17 = .ok (.invokestatic 71, 3) := by decide +kernel
theorem dX7_kept_20 : decode cX7_kept 20 = .ok (.ifCond .ne 6, 3) := by decide +kernel
theorem dX7_kept_23 : decode cX7_kept 23 = .ok (.bipush (-2), 2) := by decide +kernel
theorem dX7_kept_25 : decode cX7_kept 25 = .ok (.ireturn, 1) := by decide +kernel
theorem dX7_kept_26 : decode cX7_kept 26 = .ok (.aload_n 0, 1) := by decide +kernel
theorem dX7_kept_27 : decode cX7_kept 27 = .ok (.getfield 14, 3) := by decide +kernel
theorem dX7_kept_30 : decode cX7_kept 30 = .ok (.iload_n 1, 1) := by decide +kernel
theorem dX7_kept_31 : decode cX7_kept 31 = .ok (.invokevirtual 104, 3) := by decide +kernel
theorem dX7_kept_34 : decode cX7_kept 34 = .ok (.ifCond .eq 6, 3) := by decide +kernel
theorem dX7_kept_37 : decode cX7_kept 37 = .ok (.bipush (-5), 2) := by decide +kernel
theorem dX7_kept_39 : decode cX7_kept 39 = .ok (.ireturn, 1) := by decide +kernel
theorem dX7_kept_40 : decode cX7_kept 40 = .ok (.aload_n 0, 1) := by decide +kernel
theorem dX7_kept_41 : decode cX7_kept 41 = .ok (.getfield 53, 3) := by decide +kernel
theorem dX7_kept_44 : decode cX7_kept 44 = .ok (.aload_n 0, 1) := by decide +kernel
theorem dX7_kept_45 : decode cX7_kept 45 = .ok (.getfield 14, 3) := by decide +kernel
theorem dX7_kept_48 : decode cX7_kept 48 = .ok (.aload_n 0, 1) := by decide +kernel
theorem dX7_kept_49 : decode cX7_kept 49 = .ok (.invokevirtual 114, 3) := by decide +kernel
theorem dX7_kept_52 : decode cX7_kept 52 = .ok (.invokevirtual 118, 3) := by decide +kernel
theorem dX7_kept_55 : decode cX7_kept 55 = .ok (.bipush (-5), 2) := by decide +kernel
theorem dX7_kept_57 : decode cX7_kept 57 = .ok (.istore_n 3, 1) := by decide +kernel
theorem dX7_kept_58 : decode cX7_kept 58 = .ok (.bipush 7, 2) := by decide +kernel
theorem dX7_kept_60 : decode cX7_kept 60 = .ok (.istore 4, 2) := by decide +kernel
theorem dX7_kept_62 : decode cX7_kept 62 = .ok (.iconst 0, 1) := by decide +kernel
theorem dX7_kept_63 : decode cX7_kept 63 = .ok (.istore 5, 2) := by decide +kernel
theorem dX7_kept_65 : decode cX7_kept 65 = .ok (.iload 5, 2) := by decide +kernel
theorem dX7_kept_67 : decode cX7_kept 67 = .ok (.bipush 64, 2) := by decide +kernel
theorem dX7_kept_69 : decode cX7_kept 69 = .ok (.if_icmp .ge 96, 3) := by decide +kernel
theorem dX7_kept_72 : decode cX7_kept 72 = .ok (.iload 5, 2) := by decide +kernel
theorem dX7_kept_74 : decode cX7_kept 74 = .ok (.aload_n 0, 1) := by decide +kernel
theorem dX7_kept_75 : decode cX7_kept 75 = .ok (.getfield 14, 3) := by decide +kernel
theorem dX7_kept_78 : decode cX7_kept 78 = .ok (.getfield 75, 3) := by decide +kernel
theorem dX7_kept_81 : decode cX7_kept 81 = .ok (.ishr, 1) := by decide +kernel
theorem dX7_kept_82 : decode cX7_kept 82 = .ok (.ifCond .ne 16, 3) := by decide +kernel
theorem dX7_kept_85 : decode cX7_kept 85 = .ok (.iload 5, 2) := by decide +kernel
theorem dX7_kept_87 : decode cX7_kept 87 = .ok (.iload_n 1, 1) := by decide +kernel
theorem dX7_kept_88 : decode cX7_kept 88 = .ok (.ishr, 1) := by decide +kernel
theorem dX7_kept_89 : decode cX7_kept 89 = .ok (.iconst 1, 1) := by decide +kernel
theorem dX7_kept_90 : decode cX7_kept 90 = .ok (.iand, 1) := by decide +kernel
theorem dX7_kept_91 : decode cX7_kept 91 = .ok (.ifCond .ne 7, 3) := by decide +kernel
theorem dX7_kept_94 : decode cX7_kept 94 = .ok (.iconst 1, 1) := by decide +kernel
theorem dX7_kept_95 : decode cX7_kept 95 = .ok (.goto 4, 3) := by decide +kernel
theorem dX7_kept_98 : decode cX7_kept 98 = .ok (.iconst 0, 1) := by decide +kernel
theorem dX7_kept_99 : decode cX7_kept 99 = .ok (.istore 6, 2) := by decide +kernel
theorem dX7_kept_101 : decode cX7_kept 101 = .ok (.iload 6, 2) := by decide +kernel
theorem dX7_kept_103 : decode cX7_kept 103 = .ok (.ifCond .eq 56, 3) := by decide +kernel
theorem dX7_kept_106 : decode cX7_kept 106 = .ok (.iload 5, 2) := by decide +kernel
theorem dX7_kept_108 : decode cX7_kept 108 = .ok (.invokestatic 201, 3) := by decide +kernel
theorem dX7_kept_111 : decode cX7_kept 111 = .ok (.iload 4, 2) := by decide +kernel
theorem dX7_kept_113 : decode cX7_kept 113 = .ok (.if_icmp .ge 46, 3) := by decide +kernel
theorem dX7_kept_116 : decode cX7_kept 116 = .ok (.aload_n 0, 1) := by decide +kernel
theorem dX7_kept_117 : decode cX7_kept 117 = .ok (.getfield 53, 3) := by decide +kernel
theorem dX7_kept_120 : decode cX7_kept 120 = .ok (.aload_n 0, 1) := by decide +kernel
theorem dX7_kept_121 : decode cX7_kept 121 = .ok (.getfield 14, 3) := by decide +kernel
theorem dX7_kept_124 : decode cX7_kept 124 = .ok (.iload_n 1, 1) := by decide +kernel
theorem dX7_kept_125 : decode cX7_kept 125 = .ok (.aload_n 0, 1) := by decide +kernel
theorem dX7_kept_126 : decode cX7_kept 126 = .ok (.getfield 14, 3) := by decide +kernel
theorem dX7_kept_129 : decode cX7_kept 129 = .ok (.getfield 122, 3) := by decide +kernel
theorem dX7_kept_132 : decode cX7_kept 132 = .ok (.aload_n 0, 1) := by decide +kernel
theorem dX7_kept_133 : decode cX7_kept 133 = .ok (.getfield 14, 3) := by decide +kernel
theorem dX7_kept_136 : decode cX7_kept 136 = .ok (.getfield 125, 3) := by decide +kernel
theorem dX7_kept_139 : decode cX7_kept 139 = .ok (.iload 5, 2) := by decide +kernel
theorem dX7_kept_141 : decode cX7_kept 141 = .ok (.ior, 1) := by decide +kernel
theorem dX7_kept_142 : decode cX7_kept 142 = .ok (.invokevirtual 128, 3) := by decide +kernel
theorem dX7_kept_145 : decode cX7_kept 145 = .ok (.iload_n 2, 1) := by decide +kernel
theorem dX7_kept_146 : decode cX7_kept 146 = .ok (.if_icmp .lt 13, 3) := by decide +kernel
theorem dX7_kept_149 : decode cX7_kept 149 = .ok (.iload 5, 2) := by decide +kernel
theorem dX7_kept_151 : decode cX7_kept 151 = .ok (.istore_n 3, 1) := by decide +kernel
theorem dX7_kept_152 : decode cX7_kept 152 = .ok (.iload 5, 2) := by decide +kernel
theorem dX7_kept_154 : decode cX7_kept 154 = .ok (.invokestatic 201, 3) := by decide +kernel
theorem dX7_kept_157 : decode cX7_kept 157 = .ok (.istore 4, 2) := by decide +kernel
theorem dX7_kept_159 : decode cX7_kept 159 = .ok (.iinc 5 1, 3) := by decide +kernel
theorem dX7_kept_162 : decode cX7_kept 162 = .ok (.goto (-97), 3) := by decide +kernel
theorem dX7_kept_165 : decode cX7_kept 165 = .ok (.iload_n 3, 1) := by decide +kernel
theorem dX7_kept_166 : decode cX7_kept 166 = .ok (.ireturn, 1) := by decide +kernel
theorem dX7_still_0 : decode cX7_still 0 = .ok (.aload_n 0, 1) := by decide +kernel
theorem dX7_still_1 : decode cX7_still 1 = .ok (.getfield 20, 3) := by decide +kernel
theorem dX7_still_4 : decode cX7_still 4 = .ok (.aload_n 0, 1) := by decide +kernel
theorem dX7_still_5 : decode cX7_still 5 = .ok (.getfield 14, 3) := by decide +kernel
theorem dX7_still_8 : decode cX7_still 8 = .ok (.invokevirtual 196, 3) := by decide +kernel
theorem dX7_still_11 : decode cX7_still 11 = .ok (.iconst 0, 1) := by decide +kernel
theorem dX7_still_12 : decode cX7_still 12 = .ok (.istore_n 1, 1) := by decide +kernel
theorem dX7_still_13 : decode cX7_still 13 = .ok (.iload_n 1, 1) := by decide +kernel
theorem dX7_still_14 : decode cX7_still 14 = .ok (.bipush 20, 2) := by decide +kernel
theorem dX7_still_16 : decode cX7_still 16 = .ok (.if_icmp .gt 31, 3) := by decide +kernel
theorem dX7_still_19 : decode cX7_still 19 = .ok (.aload_n 0, 1) := by decide +kernel
theorem dX7_still_20 : decode cX7_still 20 = .ok (.getfield 53, 3) := by decide +kernel
theorem dX7_still_23 : decode cX7_still 23 = .ok (.aload_n 0, 1) := by decide +kernel
theorem dX7_still_24 : decode cX7_still 24 = .ok (.getfield 20, 3) := by decide +kernel
theorem dX7_still_27 : decode cX7_still 27 = .ok (.aload_n 0, 1) := by decide +kernel
theorem dX7_still_28 : decode cX7_still 28 = .ok (.invokevirtual 114, 3) := by decide +kernel
theorem dX7_still_31 : decode cX7_still 31 = .ok (.ldc 200, 2) := by decide +kernel
theorem dX7_still_33 : decode cX7_still 33 = .ok (.invokevirtual 192, 3) := by decide +kernel
theorem dX7_still_36 : decode cX7_still 36 = .ok (.ifCond .ne 5, 3) := by decide +kernel
theorem dX7_still_39 : decode cX7_still 39 = .ok (.iload_n 1, 1) := by decide +kernel
theorem dX7_still_40 : decode cX7_still 40 = .ok (.ireturn, 1) := by decide +kernel
theorem dX7_still_41 : decode cX7_still 41 = .ok (.iinc 1 1, 3) := by decide +kernel
theorem dX7_still_44 : decode cX7_still 44 = .ok (.goto (-31), 3) := by decide +kernel
theorem dX7_still_47 : decode cX7_still 47 = .ok (.bipush (-5), 2) := by decide +kernel
theorem dX7_still_49 : decode cX7_still 49 = .ok (.ireturn, 1) := by decide +kernel
theorem dX7_gains_0 : decode cX7_gains 0 = .ok (.aload_n 0, 1) := by decide +kernel
theorem dX7_gains_1 : decode cX7_gains 1 = .ok (.getfield 20, 3) := by decide +kernel
theorem dX7_gains_4 : decode cX7_gains 4 = .ok (.aload_n 0, 1) := by decide +kernel
theorem dX7_gains_5 : decode cX7_gains 5 = .ok (.getfield 14, 3) := by decide +kernel
theorem dX7_gains_8 : decode cX7_gains 8 = .ok (.invokevirtual 196, 3) := by decide +kernel
theorem dX7_gains_11 : decode cX7_gains 11 = .ok (.aload_n 0, 1) := by decide +kernel
theorem dX7_gains_12 : decode cX7_gains 12 = .ok (.getfield 53, 3) := by decide +kernel
theorem dX7_gains_15 : decode cX7_gains 15 = .ok (.aload_n 0, 1) := by decide +kernel
theorem dX7_gains_16 : decode cX7_gains 16 = .ok (.getfield 20, 3) := by decide +kernel
theorem dX7_gains_19 : decode cX7_gains 19 = .ok (.aload_n 0, 1) := by decide +kernel
theorem dX7_gains_20 : decode cX7_gains 20 = .ok (.invokevirtual 114, 3) := by decide +kernel
theorem dX7_gains_23 : decode cX7_gains 23 = .ok (.ldc 200, 2) := by decide +kernel
theorem dX7_gains_25 : decode cX7_gains 25 = .ok (.invokevirtual 192, 3) := by decide +kernel
theorem dX7_gains_28 : decode cX7_gains 28 = .ok (.pop, 1) := by decide +kernel
theorem dX7_gains_29 : decode cX7_gains 29 = .ok (.aload_n 0, 1) := by decide +kernel
theorem dX7_gains_30 : decode cX7_gains 30 = .ok (.getfield 53, 3) := by decide +kernel
theorem dX7_gains_33 : decode cX7_gains 33 = .ok (.aload_n 0, 1) := by decide +kernel
theorem dX7_gains_34 : decode cX7_gains 34 = .ok (.getfield 14, 3) := by decide +kernel
theorem dX7_gains_37 : decode cX7_gains 37 = .ok (.aload_n 0, 1) := by decide +kernel
theorem dX7_gains_38 : decode cX7_gains 38 = .ok (.invokevirtual 114, 3) := by decide +kernel
theorem dX7_gains_41 : decode cX7_gains 41 = .ok (.invokevirtual 118, 3) := by decide +kernel
theorem dX7_gains_44 : decode cX7_gains 44 = .ok (.iconst 0, 1) := by decide +kernel
theorem dX7_gains_45 : decode cX7_gains 45 = .ok (.istore_n 1, 1) := by decide +kernel
theorem dX7_gains_46 : decode cX7_gains 46 = .ok (.iconst 0, 1) := by decide +kernel
theorem dX7_gains_47 : decode cX7_gains 47 = .ok (.istore_n 2, 1) := by decide +kernel
theorem dX7_gains_48 : decode cX7_gains 48 = .ok (.iload_n 2, 1) := by decide +kernel
theorem dX7_gains_49 : decode cX7_gains 49 = .ok (.aload_n 0, 1) := by decide +kernel
theorem dX7_gains_50 : decode cX7_gains 50 = .ok (.getfield 14, 3) := by decide +kernel
theorem dX7_gains_53 : decode cX7_gains 53 = .ok (.getfield 75, 3) := by decide +kernel
theorem dX7_gains_56 : decode cX7_gains 56 = .ok (.if_icmp .ge 75, 3) := by decide +kernel
theorem dX7_gains_59 : decode cX7_gains 59 = .ok (.aload_n 0, 1) := by decide +kernel
theorem dX7_gains_60 : decode cX7_gains 60 = .ok (.getfield 14, 3) := by decide +kernel
theorem dX7_gains_63 : decode cX7_gains 63 = .ok (.iload_n 2, 1) := by decide +kernel
theorem dX7_gains_64 : decode cX7_gains 64 = .ok (.invokevirtual 104, 3) := by decide +kernel
theorem dX7_gains_67 : decode cX7_gains 67 = .ok (.ifCond .ne 58, 3) := by decide +kernel
theorem dX7_gains_70 : decode cX7_gains 70 = .ok (.aload_n 0, 1) := by decide +kernel
theorem dX7_gains_71 : decode cX7_gains 71 = .ok (.getfield 53, 3) := by decide +kernel
theorem dX7_gains_74 : decode cX7_gains 74 = .ok (.aload_n 0, 1) := by decide +kernel
theorem dX7_gains_75 : decode cX7_gains 75 = .ok (.getfield 20, 3) := by decide +kernel
theorem dX7_gains_78 : decode cX7_gains 78 = .ok (.iload_n 2, 1) := by decide +kernel
theorem dX7_gains_79 : decode cX7_gains 79 = .ok (.aload_n 0, 1) := by decide +kernel
theorem dX7_gains_80 : decode cX7_gains 80 = .ok (.getfield 20, 3) := by decide +kernel
theorem dX7_gains_83 : decode cX7_gains 83 = .ok (.getfield 101, 3) := by decide +kernel
theorem dX7_gains_86 : decode cX7_gains 86 = .ok (.iload_n 2, 1) := by decide +kernel
theorem dX7_gains_87 : decode cX7_gains 87 = .ok (.invokestatic 91, 3) := by decide +kernel
theorem dX7_gains_90 : decode cX7_gains 90 = .ok (.invokevirtual 139, 3) := by decide +kernel
theorem dX7_gains_93 : decode cX7_gains 93 = .ok (.aload_n 0, 1) := by decide +kernel
theorem dX7_gains_94 : decode cX7_gains 94 = .ok (.getfield 53, 3) := by decide +kernel
theorem dX7_gains_97 : decode cX7_gains 97 = .ok (.aload_n 0, 1) := by decide +kernel
theorem dX7_gains_98 : decode cX7_gains 98 = .ok (.getfield 14, 3) := by decide +kernel
theorem dX7_gains_101 : decode cX7_gains 101 = .ok (.iload_n 2, 1) := by decide +kernel
theorem dX7_gains_102 : decode cX7_gains 102 = .ok (.aload_n 0, 1) := by decide +kernel
theorem dX7_gains_103 : decode cX7_gains 103 = .ok (.getfield 14, 3) := by decide +kernel
theorem dX7_gains_106 : decode cX7_gains 106 = .ok (.getfield 101, 3) := by decide +kernel
theorem dX7_gains_109 : decode cX7_gains 109 = .ok (.iload_n 2, 1) := by decide +kernel
theorem dX7_gains_110 : decode cX7_gains 110 = .ok (.invokestatic 91, 3) := by decide +kernel
theorem dX7_gains_113 : decode cX7_gains 113 = .ok (.invokevirtual 139, 3) := by decide +kernel
theorem dX7_gains_116 : decode cX7_gains 116 = .ok (.if_icmp .le 9, 3) := by decide +kernel
theorem dX7_gains_119 : decode cX7_gains 119 = .ok (.iload_n 1, 1) := by decide +kernel
theorem dX7_gains_120 : decode cX7_gains 120 = .ok (.iconst 1, 1) := by decide +kernel
theorem dX7_gains_121 : decode cX7_gains 121 = .ok (.iload_n 2, 1) := by decide +kernel
theorem dX7_gains_122 : decode cX7_gains 122 = .ok (.ishl, 1) := by decide +kernel
theorem dX7_gains_123 : decode cX7_gains 123 = .ok (.ior, 1) := by decide +kernel
theorem dX7_gains_124 : decode cX7_gains 124 = .ok (.istore_n 1, 1) := by decide +kernel
theorem dX7_gains_125 : decode cX7_gains 125 = .ok (.iinc 2 1, 3) := by decide +kernel
theorem dX7_gains_128 : decode cX7_gains 128 = .ok (.goto (-80), 3) := by decide +kernel
theorem dX7_gains_131 : decode cX7_gains 131 = .ok (.iload_n 1, 1) := by decide +kernel
theorem dX7_gains_132 : decode cX7_gains 132 = .ok (.ireturn, 1) := by decide +kernel
theorem dX7_see_0 : decode cX7_see 0 = .ok (.iload_n 1, 1) := by decide +kernel
theorem dX7_see_1 : decode cX7_see 1 = .ok (.iconst (-1), 1) := by decide +kernel
theorem dX7_see_2 : decode cX7_see 2 = .ok (.if_icmp .ne 14, 3) := by decide +kernel
theorem dX7_see_5 : decode cX7_see 5 = .ok (.aload_n 0, 1) := by decide +kernel
theorem dX7_see_6 : decode cX7_see 6 = .ok (.getfield 14, 3) := by decide +kernel
theorem dX7_see_9 : decode cX7_see 9 = .ok (.getfield 205, 3) := by decide +kernel
theorem dX7_see_12 : decode cX7_see 12 = .ok (.invokevirtual 209, 3) := by decide +kernel
theorem dX7_see_15 : decode cX7_see 15 = .ok (.ireturn, 1) := by decide +kernel
theorem dX7_see_16 : decode cX7_see 16 = .ok (.aload_n 0, 1) := by decide +kernel
theorem dX7_see_17 : decode cX7_see 17 = .ok (.getfield 14, 3) := by decide +kernel
theorem dX7_see_20 : decode cX7_see 20 = .ok (.iload_n 1, 1) := by decide +kernel
theorem dX7_see_21 : decode cX7_see 21 = .ok (.invokevirtual 83, 3) := by decide +kernel
theorem dX7_see_24 : decode cX7_see 24 = .ok (.ifCond .ne 5, 3) := by decide +kernel
theorem dX7_see_27 : decode cX7_see 27 = .ok (.iconst (-1), 1) := by decide +kernel
theorem dX7_see_28 : decode cX7_see 28 = .ok (.ireturn, 1) := by decide +kernel
theorem dX7_see_29 : decode cX7_see 29 = .ok (.iload_n 2, 1) := by decide +kernel
theorem dX7_see_30 : decode cX7_see 30 = .ok (.sipush 999, 3) := by decide +kernel
theorem dX7_see_33 : decode cX7_see 33 = .ok (.invokestatic 71, 3) := by decide +kernel
theorem dX7_see_36 : decode cX7_see 36 = .ok (.ifCond .ne 6, 3) := by decide +kernel
theorem dX7_see_39 : decode cX7_see 39 = .ok (.bipush (-2), 2) := by decide +kernel
theorem dX7_see_41 : decode cX7_see 41 = .ok (.ireturn, 1) := by decide +kernel
theorem dX7_see_42 : decode cX7_see 42 = .ok (.aload_n 0, 1) := by decide +kernel
theorem dX7_see_43 : decode cX7_see 43 = .ok (.getfield 14, 3) := by decide +kernel
theorem dX7_see_46 : decode cX7_see 46 = .ok (.getfield 205, 3) := by decide +kernel
theorem dX7_see_49 : decode cX7_see 49 = .ok (.iload_n 1, 1) := by decide +kernel
theorem dX7_see_50 : decode cX7_see 50 = .ok (.iload_n 2, 1) := by decide +kernel
theorem dX7_see_51 : decode cX7_see 51 = .ok (.invokevirtual 214, 3) := by decide +kernel
theorem dX7_see_54 : decode cX7_see 54 = .ok (.ireturn, 1) := by decide +kernel
theorem dX7_can_0 : decode cX7_can 0 = .ok (.aload_n 0, 1) := by decide +kernel
theorem dX7_can_1 : decode cX7_can 1 = .ok (.getfield 14, 3) := by decide +kernel
theorem dX7_can_4 : decode cX7_can 4 = .ok (.iload_n 1, 1) := by decide +kernel
theorem dX7_can_5 : decode cX7_can 5 = .ok (.invokevirtual 83, 3) := by decide +kernel
theorem dX7_can_8 : decode cX7_can 8 = .ok (.ifCond .eq 11, 3) := by decide +kernel
theorem dX7_can_11 : decode cX7_can 11 = .ok (.iload_n 2, 1) := by decide +kernel
theorem dX7_can_12 : decode cX7_can 12 = .ok (.iconst 1, 1) := by decide +kernel
theorem dX7_can_13 : decode cX7_can 13 = .ok (.invokestatic 71, 3) := by decide +kernel
theorem dX7_can_16 : decode cX7_can 16 = .ok (.ifCond .ne 5, 3) := by decide +kernel
theorem dX7_can_19 : decode cX7_can 19 = .ok (.iconst (-1), 1) := by decide +kernel
theorem dX7_can_20 : decode cX7_can 20 = .ok (.ireturn, 1) := by decide +kernel
theorem dX7_can_21 : decode cX7_can 21 = .ok (.aload_n 0, 1) := by decide +kernel
theorem dX7_can_22 : decode cX7_can 22 = .ok (.getfield 20, 3) := by decide +kernel
theorem dX7_can_25 : decode cX7_can 25 = .ok (.aload_n 0, 1) := by decide +kernel
theorem dX7_can_26 : decode cX7_can 26 = .ok (.getfield 14, 3) := by decide +kernel
theorem dX7_can_29 : decode cX7_can 29 = .ok (.invokevirtual 196, 3) := by decide +kernel
theorem dX7_can_32 : decode cX7_can 32 = .ok (.iconst 0, 1) := by decide +kernel
theorem dX7_can_33 : decode cX7_can 33 = .ok (.istore_n 3, 1) := by decide +kernel
theorem dX7_can_34 : decode cX7_can 34 = .ok (.bipush (-5), 2) := by decide +kernel
theorem dX7_can_36 : decode cX7_can 36 = .ok (.istore 4, 2) := by decide +kernel
theorem dX7_can_38 : decode cX7_can 38 = .ok (.bipush 9, 2) := by decide +kernel
theorem dX7_can_40 : decode cX7_can 40 = .ok (.istore 5, 2) := by decide +kernel
theorem dX7_can_42 : decode cX7_can 42 = .ok (.iload 5, 2) := by decide +kernel
theorem dX7_can_44 : decode cX7_can 44 = .ok (.ifCond .lt 65, 3) := by decide +kernel
theorem dX7_can_47 : decode cX7_can 47 = .ok (.aload_n 0, 1) := by decide +kernel
theorem dX7_can_48 : decode cX7_can 48 = .ok (.getfield 20, 3) := by decide +kernel
theorem dX7_can_51 : decode cX7_can 51 = .ok (.getfield 95, 3) := by decide +kernel
theorem dX7_can_54 : decode cX7_can 54 = .ok (.iload_n 1, 1) := by decide +kernel
theorem dX7_can_55 : decode cX7_can 55 = .ok (.iload 5, 2) := by decide +kernel
theorem dX7_can_57 : decode cX7_can 57 = .ok (.invokestatic 143, 3) := by decide +kernel
theorem dX7_can_60 : decode cX7_can 60 = .ok (.aload_n 0, 1) := by decide +kernel
theorem dX7_can_61 : decode cX7_can 61 = .ok (.getfield 53, 3) := by decide +kernel
theorem dX7_can_64 : decode cX7_can 64 = .ok (.aload_n 0, 1) := by decide +kernel
theorem dX7_can_65 : decode cX7_can 65 = .ok (.getfield 20, 3) := by decide +kernel
theorem dX7_can_68 : decode cX7_can 68 = .ok (.aload_n 0, 1) := by decide +kernel
theorem dX7_can_69 : decode cX7_can 69 = .ok (.invokevirtual 114, 3) := by decide +kernel
theorem dX7_can_72 : decode cX7_can 72 = .ok (.invokevirtual 118, 3) := by decide +kernel
theorem dX7_can_75 : decode cX7_can 75 = .ok (.aload_n 0, 1) := by decide +kernel
theorem dX7_can_76 : decode cX7_can 76 = .ok (.getfield 53, 3) := by decide +kernel
theorem dX7_can_79 : decode cX7_can 79 = .ok (.aload_n 0, 1) := by decide +kernel
theorem dX7_can_80 : decode cX7_can 80 = .ok (.getfield 20, 3) := by decide +kernel
theorem dX7_can_83 : decode cX7_can 83 = .ok (.aload_n 0, 1) := by decide +kernel
theorem dX7_can_84 : decode cX7_can 84 = .ok (.getfield 20, 3) := by decide +kernel
theorem dX7_can_87 : decode cX7_can 87 = .ok (.getfield 122, 3) := by decide +kernel
theorem dX7_can_90 : decode cX7_can 90 = .ok (.invokevirtual 216, 3) := by decide +kernel
theorem dX7_can_93 : decode cX7_can 93 = .ok (.ifCond .eq 10, 3) := by decide +kernel
theorem dX7_can_96 : decode cX7_can 96 = .ok (.iinc 3 1, 3) := by decide +kernel
theorem dX7_can_99 : decode cX7_can 99 = .ok (.iload 5, 2) := by decide +kernel
theorem dX7_can_101 : decode cX7_can 101 = .ok (.istore 4, 2) := by decide +kernel
theorem dX7_can_103 : decode cX7_can 103 = .ok (.iinc 5 (-1), 3) := by decide +kernel
theorem dX7_can_106 : decode cX7_can 106 = .ok (.goto (-64), 3) := by decide +kernel
theorem dX7_can_109 : decode cX7_can 109 = .ok (.iload_n 2, 1) := by decide +kernel
theorem dX7_can_110 : decode cX7_can 110 = .ok (.ifCond .ne 7, 3) := by decide +kernel
theorem dX7_can_113 : decode cX7_can 113 = .ok (.iload_n 3, 1) := by decide +kernel
theorem dX7_can_114 : decode cX7_can 114 = .ok (.goto 5, 3) := by decide +kernel
theorem dX7_can_117 : decode cX7_can 117 = .ok (.iload 4, 2) := by decide +kernel
theorem dX7_can_119 : decode cX7_can 119 = .ok (.ireturn, 1) := by decide +kernel
theorem dX7_owed_0 : decode cX7_owed 0 = .ok (.aload_n 0, 1) := by decide +kernel
theorem dX7_owed_1 : decode cX7_owed 1 = .ok (.getfield 53, 3) := by decide +kernel
theorem dX7_owed_4 : decode cX7_owed 4 = .ok (.aload_n 0, 1) := by decide +kernel
theorem dX7_owed_5 : decode cX7_owed 5 = .ok (.getfield 14, 3) := by decide +kernel
theorem dX7_owed_8 : decode cX7_owed 8 = .ok (.aload_n 0, 1) := by decide +kernel
theorem dX7_owed_9 : decode cX7_owed 9 = .ok (.invokevirtual 114, 3) := by decide +kernel
theorem dX7_owed_12 : decode cX7_owed 12 = .ok (.invokevirtual 118, 3) := by decide +kernel
end
section
theorem dX7_owed_15 : decode cX7_owed 15 = .ok (.iconst 0, 1) := by decide +kernel
theorem dX7_owed_16 : decode cX7_owed 16 = .ok (.istore_n 2, 1) := by decide +kernel
theorem dX7_owed_17 : decode cX7_owed 17 = .ok (.bipush (-5), 2) := by decide +kernel
theorem dX7_owed_19 : decode cX7_owed 19 = .ok (.istore_n 3, 1) := by decide +kernel
theorem dX7_owed_20 : decode cX7_owed 20 = .ok (.sipush 999, 3) := by decide +kernel
theorem dX7_owed_23 : decode cX7_owed 23 = .ok (.istore 4, 2) := by decide +kernel
theorem dX7_owed_25 : decode cX7_owed 25 = .ok (.iload 4, 2) := by decide +kernel
theorem dX7_owed_27 : decode cX7_owed 27 = .ok (.ifCond .lt 31, 3) := by decide +kernel
theorem dX7_owed_30 : decode cX7_owed 30 = .ok (.aload_n 0, 1) := by decide +kernel
theorem dX7_owed_31 : decode cX7_owed 31 = .ok (.getfield 53, 3) := by decide +kernel
theorem dX7_owed_34 : decode cX7_owed 34 = .ok (.aload_n 0, 1) := by decide +kernel
theorem dX7_owed_35 : decode cX7_owed 35 = .ok (.getfield 14, 3) := by decide +kernel
theorem dX7_owed_38 : decode cX7_owed 38 = .ok (.iload 4, 2) := by decide +kernel
theorem dX7_owed_40 : decode cX7_owed 40 = .ok (.invokevirtual 216, 3) := by decide +kernel
theorem dX7_owed_43 : decode cX7_owed 43 = .ok (.ifCond .eq 9, 3) := by decide +kernel
theorem dX7_owed_46 : decode cX7_owed 46 = .ok (.iinc 2 1, 3) := by decide +kernel
theorem dX7_owed_49 : decode cX7_owed 49 = .ok (.iload 4, 2) := by decide +kernel
theorem dX7_owed_51 : decode cX7_owed 51 = .ok (.istore_n 3, 1) := by decide +kernel
theorem dX7_owed_52 : decode cX7_owed 52 = .ok (.iinc 4 (-1), 3) := by decide +kernel
theorem dX7_owed_55 : decode cX7_owed 55 = .ok (.goto (-30), 3) := by decide +kernel
theorem dX7_owed_58 : decode cX7_owed 58 = .ok (.iload_n 1, 1) := by decide +kernel
theorem dX7_owed_59 : decode cX7_owed 59 = .ok (.ifCond .eq 7, 3) := by decide +kernel
theorem dX7_owed_62 : decode cX7_owed 62 = .ok (.iload_n 3, 1) := by decide +kernel
theorem dX7_owed_63 : decode cX7_owed 63 = .ok (.goto 4, 3) := by decide +kernel
theorem dX7_owed_66 : decode cX7_owed 66 = .ok (.iload_n 2, 1) := by decide +kernel
theorem dX7_owed_67 : decode cX7_owed 67 = .ok (.ireturn, 1) := by decide +kernel
theorem dX7_odds_0 : decode cX7_odds 0 = .ok (.aload_n 0, 1) := by decide +kernel
theorem dX7_odds_1 : decode cX7_odds 1 = .ok (.getfield 14, 3) := by decide +kernel
theorem dX7_odds_4 : decode cX7_odds 4 = .ok (.iload_n 1, 1) := by decide +kernel
theorem dX7_odds_5 : decode cX7_odds 5 = .ok (.invokevirtual 83, 3) := by decide +kernel
theorem dX7_odds_8 : decode cX7_odds 8 = .ok (.ifCond .eq 22, 3) := by decide +kernel
theorem dX7_odds_11 : decode cX7_odds 11 = .ok (.iload_n 2, 1) := by decide +kernel
theorem dX7_odds_12 : decode cX7_odds 12 = .ok (.iconst 1, 1) := by decide +kernel
theorem dX7_odds_13 : decode cX7_odds 13 = .ok (.invokestatic 71, 3) := by decide +kernel
theorem dX7_odds_16 : decode cX7_odds 16 = .ok (.ifCond .eq 14, 3) := by decide +kernel
theorem dX7_odds_19 : decode cX7_odds 19 = .ok (.aload_n 0, 1) := by decide +kernel
theorem dX7_odds_20 : decode cX7_odds 20 = .ok (.getfield 14, 3) := by decide +kernel
theorem dX7_odds_23 : decode cX7_odds 23 = .ok (.iload_n 1, 1) := by decide +kernel
theorem dX7_odds_24 : decode cX7_odds 24 = .ok (.invokevirtual 104, 3) := by decide +kernel
theorem dX7_odds_27 : decode cX7_odds 27 = .ok (.ifCond .eq 7, 3) := by decide +kernel
theorem dX7_odds_30 : decode cX7_odds 30 = .ok (.ldc2_w 220, 3) := by decide +kernel
theorem dX7_odds_33 : decode cX7_odds 33 = .ok (.lreturn, 1) := by decide +kernel
theorem dX7_odds_34 : decode cX7_odds 34 = .ok (.aload_n 0, 1) := by decide +kernel
theorem dX7_odds_35 : decode cX7_odds 35 = .ok (.getfield 53, 3) := by decide +kernel
theorem dX7_odds_38 : decode cX7_odds 38 = .ok (.aload_n 0, 1) := by decide +kernel
theorem dX7_odds_39 : decode cX7_odds 39 = .ok (.getfield 14, 3) := by decide +kernel
theorem dX7_odds_42 : decode cX7_odds 42 = .ok (.aload_n 0, 1) := by decide +kernel
theorem dX7_odds_43 : decode cX7_odds 43 = .ok (.invokevirtual 114, 3) := by decide +kernel
theorem dX7_odds_46 : decode cX7_odds 46 = .ok (.invokevirtual 118, 3) := by decide +kernel
theorem dX7_odds_49 : decode cX7_odds 49 = .ok (.aload_n 0, 1) := by decide +kernel
theorem dX7_odds_50 : decode cX7_odds 50 = .ok (.getfield 53, 3) := by decide +kernel
theorem dX7_odds_53 : decode cX7_odds 53 = .ok (.aload_n 0, 1) := by decide +kernel
theorem dX7_odds_54 : decode cX7_odds 54 = .ok (.getfield 14, 3) := by decide +kernel
theorem dX7_odds_57 : decode cX7_odds 57 = .ok (.iload_n 1, 1) := by decide +kernel
theorem dX7_odds_58 : decode cX7_odds 58 = .ok (.aload_n 0, 1) := by decide +kernel
theorem dX7_odds_59 : decode cX7_odds 59 = .ok (.getfield 14, 3) := by decide +kernel
theorem dX7_odds_62 : decode cX7_odds 62 = .ok (.getfield 122, 3) := by decide +kernel
theorem dX7_odds_65 : decode cX7_odds 65 = .ok (.aload_n 0, 1) := by decide +kernel
theorem dX7_odds_66 : decode cX7_odds 66 = .ok (.getfield 14, 3) := by decide +kernel
theorem dX7_odds_69 : decode cX7_odds 69 = .ok (.getfield 125, 3) := by decide +kernel
theorem dX7_odds_72 : decode cX7_odds 72 = .ok (.invokevirtual 128, 3) := by decide +kernel
theorem dX7_odds_75 : decode cX7_odds 75 = .ok (.istore_n 3, 1) := by decide +kernel
theorem dX7_odds_76 : decode cX7_odds 76 = .ok (.iconst 0, 1) := by decide +kernel
theorem dX7_odds_77 : decode cX7_odds 77 = .ok (.istore 4, 2) := by decide +kernel
theorem dX7_odds_79 : decode cX7_odds 79 = .ok (.iconst 0, 1) := by decide +kernel
theorem dX7_odds_80 : decode cX7_odds 80 = .ok (.istore 5, 2) := by decide +kernel
theorem dX7_odds_82 : decode cX7_odds 82 = .ok (.iconst 0, 1) := by decide +kernel
theorem dX7_odds_83 : decode cX7_odds 83 = .ok (.istore 6, 2) := by decide +kernel
theorem dX7_odds_85 : decode cX7_odds 85 = .ok (.iload 6, 2) := by decide +kernel
theorem dX7_odds_87 : decode cX7_odds 87 = .ok (.aload_n 0, 1) := by decide +kernel
theorem dX7_odds_88 : decode cX7_odds 88 = .ok (.getfield 14, 3) := by decide +kernel
theorem dX7_odds_91 : decode cX7_odds 91 = .ok (.getfield 75, 3) := by decide +kernel
theorem dX7_odds_94 : decode cX7_odds 94 = .ok (.if_icmp .ge 79, 3) := by decide +kernel
theorem dX7_odds_97 : decode cX7_odds 97 = .ok (.iload 6, 2) := by decide +kernel
theorem dX7_odds_99 : decode cX7_odds 99 = .ok (.iload_n 1, 1) := by decide +kernel
theorem dX7_odds_100 : decode cX7_odds 100 = .ok (.if_icmp .eq 67, 3) := by decide +kernel
theorem dX7_odds_103 : decode cX7_odds 103 = .ok (.aload_n 0, 1) := by decide +kernel
theorem dX7_odds_104 : decode cX7_odds 104 = .ok (.getfield 14, 3) := by decide +kernel
theorem dX7_odds_107 : decode cX7_odds 107 = .ok (.iload 6, 2) := by decide +kernel
theorem dX7_odds_109 : decode cX7_odds 109 = .ok (.invokevirtual 104, 3) := by decide +kernel
theorem dX7_odds_112 : decode cX7_odds 112 = .ok (.ifCond .ne 55, 3) := by decide +kernel
theorem dX7_odds_115 : decode cX7_odds 115 = .ok (.iinc 4 1, 3) := by decide +kernel
theorem dX7_odds_118 : decode cX7_odds 118 = .ok (.aload_n 0, 1) := by decide +kernel
theorem dX7_odds_119 : decode cX7_odds 119 = .ok (.getfield 53, 3) := by decide +kernel
theorem dX7_odds_122 : decode cX7_odds 122 = .ok (.aload_n 0, 1) := by decide +kernel
theorem dX7_odds_123 : decode cX7_odds 123 = .ok (.getfield 14, 3) := by decide +kernel
theorem dX7_odds_126 : decode cX7_odds 126 = .ok (.iload_n 1, 1) := by decide +kernel
theorem dX7_odds_127 : decode cX7_odds 127 = .ok (.aload_n 0, 1) := by decide +kernel
theorem dX7_odds_128 : decode cX7_odds 128 = .ok (.getfield 14, 3) := by decide +kernel
theorem dX7_odds_131 : decode cX7_odds 131 = .ok (.getfield 122, 3) := by decide +kernel
theorem dX7_odds_134 : decode cX7_odds 134 = .ok (.aload_n 0, 1) := by decide +kernel
theorem dX7_odds_135 : decode cX7_odds 135 = .ok (.getfield 14, 3) := by decide +kernel
theorem dX7_odds_138 : decode cX7_odds 138 = .ok (.getfield 125, 3) := by decide +kernel
theorem dX7_odds_141 : decode cX7_odds 141 = .ok (.iconst 1, 1) := by decide +kernel
theorem dX7_odds_142 : decode cX7_odds 142 = .ok (.iload 6, 2) := by decide +kernel
theorem dX7_odds_144 : decode cX7_odds 144 = .ok (.ishl, 1) := by decide +kernel
theorem dX7_odds_145 : decode cX7_odds 145 = .ok (.ior, 1) := by decide +kernel
theorem dX7_odds_146 : decode cX7_odds 146 = .ok (.invokevirtual 128, 3) := by decide +kernel
theorem dX7_odds_149 : decode cX7_odds 149 = .ok (.istore 7, 2) := by decide +kernel
theorem dX7_odds_151 : decode cX7_odds 151 = .ok (.iload 5, 2) := by decide +kernel
theorem dX7_odds_153 : decode cX7_odds 153 = .ok (.iload 7, 2) := by decide +kernel
theorem dX7_odds_155 : decode cX7_odds 155 = .ok (.iload_n 3, 1) := by decide +kernel
theorem dX7_odds_156 : decode cX7_odds 156 = .ok (.if_icmp .le 7, 3) := by decide +kernel
theorem dX7_odds_159 : decode cX7_odds 159 = .ok (.iconst 1, 1) := by decide +kernel
theorem dX7_odds_160 : decode cX7_odds 160 = .ok (.goto 4, 3) := by decide +kernel
theorem dX7_odds_163 : decode cX7_odds 163 = .ok (.iconst 0, 1) := by decide +kernel
theorem dX7_odds_164 : decode cX7_odds 164 = .ok (.iadd, 1) := by decide +kernel
theorem dX7_odds_165 : decode cX7_odds 165 = .ok (.istore 5, 2) := by decide +kernel
theorem dX7_odds_167 : decode cX7_odds 167 = .ok (.iinc 6 1, 3) := by decide +kernel
theorem dX7_odds_170 : decode cX7_odds 170 = .ok (.goto (-85), 3) := by decide +kernel
theorem dX7_odds_173 : decode cX7_odds 173 = .ok (.iload 5, 2) := by decide +kernel
theorem dX7_odds_175 : decode cX7_odds 175 = .ok (.iload 4, 2) := by decide +kernel
theorem dX7_odds_177 : decode cX7_odds 177 = .ok (.iload_n 2, 1) := by decide +kernel
theorem dX7_odds_178 : decode cX7_odds 178 = .ok (.invokestatic 222, 3) := by decide +kernel
theorem dX7_odds_181 : decode cX7_odds 181 = .ok (.lreturn, 1) := by decide +kernel
theorem dX7_mean_0 : decode cX7_mean 0 = .ok (.iconst 0, 1) := by decide +kernel
theorem dX7_mean_1 : decode cX7_mean 1 = .ok (.istore_n 2, 1) := by decide +kernel
theorem dX7_mean_2 : decode cX7_mean 2 = .ok (.iconst 0, 1) := by decide +kernel
theorem dX7_mean_3 : decode cX7_mean 3 = .ok (.istore_n 3, 1) := by decide +kernel
theorem dX7_mean_4 : decode cX7_mean 4 = .ok (.iload_n 3, 1) := by decide +kernel
theorem dX7_mean_5 : decode cX7_mean 5 = .ok (.aload_n 0, 1) := by decide +kernel
theorem dX7_mean_6 : decode cX7_mean 6 = .ok (.getfield 14, 3) := by decide +kernel
theorem dX7_mean_9 : decode cX7_mean 9 = .ok (.getfield 75, 3) := by decide +kernel
theorem dX7_mean_12 : decode cX7_mean 12 = .ok (.if_icmp .ge 28, 3) := by decide +kernel
theorem dX7_mean_15 : decode cX7_mean 15 = .ok (.iload_n 2, 1) := by decide +kernel
theorem dX7_mean_16 : decode cX7_mean 16 = .ok (.aload_n 0, 1) := by decide +kernel
theorem dX7_mean_17 : decode cX7_mean 17 = .ok (.getfield 14, 3) := by decide +kernel
theorem dX7_mean_20 : decode cX7_mean 20 = .ok (.iload_n 3, 1) := by decide +kernel
theorem dX7_mean_21 : decode cX7_mean 21 = .ok (.invokevirtual 104, 3) := by decide +kernel
theorem dX7_mean_24 : decode cX7_mean 24 = .ok (.ifCond .eq 7, 3) := by decide +kernel
theorem dX7_mean_27 : decode cX7_mean 27 = .ok (.iconst 0, 1) := by decide +kernel
theorem dX7_mean_28 : decode cX7_mean 28 = .ok (.goto 4, 3) := by decide +kernel
theorem dX7_mean_31 : decode cX7_mean 31 = .ok (.iconst 1, 1) := by decide +kernel
theorem dX7_mean_32 : decode cX7_mean 32 = .ok (.iadd, 1) := by decide +kernel
theorem dX7_mean_33 : decode cX7_mean 33 = .ok (.istore_n 2, 1) := by decide +kernel
theorem dX7_mean_34 : decode cX7_mean 34 = .ok (.iinc 3 1, 3) := by decide +kernel
theorem dX7_mean_37 : decode cX7_mean 37 = .ok (.goto (-33), 3) := by decide +kernel
theorem dX7_mean_40 : decode cX7_mean 40 = .ok (.iload_n 1, 1) := by decide +kernel
theorem dX7_mean_41 : decode cX7_mean 41 = .ok (.iconst 1, 1) := by decide +kernel
theorem dX7_mean_42 : decode cX7_mean 42 = .ok (.invokestatic 71, 3) := by decide +kernel
theorem dX7_mean_45 : decode cX7_mean 45 = .ok (.ifCond .eq 18, 3) := by decide +kernel
theorem dX7_mean_48 : decode cX7_mean 48 = .ok (.aload_n 0, 1) := by decide +kernel
theorem dX7_mean_49 : decode cX7_mean 49 = .ok (.getfield 14, 3) := by decide +kernel
theorem dX7_mean_52 : decode cX7_mean 52 = .ok (.getfield 122, 3) := by decide +kernel
theorem dX7_mean_55 : decode cX7_mean 55 = .ok (.iload_n 2, 1) := by decide +kernel
theorem dX7_mean_56 : decode cX7_mean 56 = .ok (.iload_n 1, 1) := by decide +kernel
theorem dX7_mean_57 : decode cX7_mean 57 = .ok (.invokestatic 222, 3) := by decide +kernel
theorem dX7_mean_60 : decode cX7_mean 60 = .ok (.goto 6, 3) := by decide +kernel
theorem dX7_mean_63 : decode cX7_mean 63 = .ok (.ldc2_w 220, 3) := by decide +kernel
theorem dX7_mean_66 : decode cX7_mean 66 = .ok (.lreturn, 1) := by decide +kernel
theorem dX7_fraction_0 : decode cX7_fraction 0 = .ok (.iload_n 1, 1) := by decide +kernel
theorem dX7_fraction_1 : decode cX7_fraction 1 = .ok (.istore_n 3, 1) := by decide +kernel
theorem dX7_fraction_2 : decode cX7_fraction 2 = .ok (.iload_n 3, 1) := by decide +kernel
theorem dX7_fraction_3 : decode cX7_fraction 3 = .ok (.ifCond .le 37, 3) := by decide +kernel
theorem dX7_fraction_6 : decode cX7_fraction 6 = .ok (.iload_n 0, 1) := by decide +kernel
theorem dX7_fraction_7 : decode cX7_fraction 7 = .ok (.iload_n 3, 1) := by decide +kernel
theorem dX7_fraction_8 : decode cX7_fraction 8 = .ok (.irem, 1) := by decide +kernel
theorem dX7_fraction_9 : decode cX7_fraction 9 = .ok (.ifCond .ne 25, 3) := by decide +kernel
theorem dX7_fraction_12 : decode cX7_fraction 12 = .ok (.iload_n 1, 1) := by decide +kernel
theorem dX7_fraction_13 : decode cX7_fraction 13 = .ok (.iload_n 3, 1) := by decide +kernel
theorem dX7_fraction_14 : decode cX7_fraction 14 = .ok (.irem, 1) := by decide +kernel
theorem dX7_fraction_15 : decode cX7_fraction 15 = .ok (.ifCond .ne 19, 3) := by decide +kernel
theorem dX7_fraction_18 : decode cX7_fraction 18 = .ok (.iload_n 2, 1) := by decide +kernel
theorem dX7_fraction_19 : decode cX7_fraction 19 = .ok (.ifCond .ne 10, 3) := by decide +kernel
theorem dX7_fraction_22 : decode cX7_fraction 22 = .ok (.iload_n 0, 1) := by decide +kernel
theorem dX7_fraction_23 : decode cX7_fraction 23 = .ok (.iload_n 3, 1) := by decide +kernel
theorem dX7_fraction_24 : decode cX7_fraction 24 = .ok (.idiv, 1) := by decide +kernel
theorem dX7_fraction_25 : decode cX7_fraction 25 = .ok (.i2l, 1) := by decide +kernel
theorem dX7_fraction_26 : decode cX7_fraction 26 = .ok (.goto 7, 3) := by decide +kernel
theorem dX7_fraction_29 : decode cX7_fraction 29 = .ok (.iload_n 1, 1) := by decide +kernel
theorem dX7_fraction_30 : decode cX7_fraction 30 = .ok (.iload_n 3, 1) := by decide +kernel
theorem dX7_fraction_31 : decode cX7_fraction 31 = .ok (.idiv, 1) := by decide +kernel
theorem dX7_fraction_32 : decode cX7_fraction 32 = .ok (.i2l, 1) := by decide +kernel
theorem dX7_fraction_33 : decode cX7_fraction 33 = .ok (.lreturn, 1) := by decide +kernel
theorem dX7_fraction_34 : decode cX7_fraction 34 = .ok (.iinc 3 (-1), 3) := by decide +kernel
theorem dX7_fraction_37 : decode cX7_fraction 37 = .ok (.goto (-35), 3) := by decide +kernel
theorem dX7_fraction_40 : decode cX7_fraction 40 = .ok (.ldc2_w 220, 3) := by decide +kernel
theorem dX7_fraction_43 : decode cX7_fraction 43 = .ok (.lreturn, 1) := by decide +kernel
theorem dX7_plan_0 : decode cX7_plan 0 = .ok (.iload_n 1, 1) := by decide +kernel
theorem dX7_plan_1 : decode cX7_plan 1 = .ok (.iconst (-1), 1) := by decide +kernel
theorem dX7_plan_2 : decode cX7_plan 2 = .ok (.if_icmp .ne 14, 3) := by decide +kernel
theorem dX7_plan_5 : decode cX7_plan 5 = .ok (.aload_n 0, 1) := by decide +kernel
theorem dX7_plan_6 : decode cX7_plan 6 = .ok (.getfield 14, 3) := by decide +kernel
theorem dX7_plan_9 : decode cX7_plan 9 = .ok (.getfield 226, 3) := by decide +kernel
theorem dX7_plan_12 : decode cX7_plan 12 = .ok (.invokevirtual 209, 3) := by decide +kernel
theorem dX7_plan_15 : decode cX7_plan 15 = .ok (.ireturn, 1) := by decide +kernel
theorem dX7_plan_16 : decode cX7_plan 16 = .ok (.iload_n 1, 1) := by decide +kernel
theorem dX7_plan_17 : decode cX7_plan 17 = .ok (.iconst 3, 1) := by decide +kernel
theorem dX7_plan_18 : decode cX7_plan 18 = .ok (.invokestatic 71, 3) := by decide +kernel
theorem dX7_plan_21 : decode cX7_plan 21 = .ok (.ifCond .eq 18, 3) := by decide +kernel
theorem dX7_plan_24 : decode cX7_plan 24 = .ok (.iload_n 1, 1) := by decide +kernel
theorem dX7_plan_25 : decode cX7_plan 25 = .ok (.ifCond .eq 16, 3) := by decide +kernel
theorem dX7_plan_28 : decode cX7_plan 28 = .ok (.aload_n 0, 1) := by decide +kernel
theorem dX7_plan_29 : decode cX7_plan 29 = .ok (.getfield 14, 3) := by decide +kernel
theorem dX7_plan_32 : decode cX7_plan 32 = .ok (.iload_n 2, 1) := by decide +kernel
theorem dX7_plan_33 : decode cX7_plan 33 = .ok (.invokevirtual 83, 3) := by decide +kernel
theorem dX7_plan_36 : decode cX7_plan 36 = .ok (.ifCond .ne 5, 3) := by decide +kernel
theorem dX7_plan_39 : decode cX7_plan 39 = .ok (.iconst (-1), 1) := by decide +kernel
theorem dX7_plan_40 : decode cX7_plan 40 = .ok (.ireturn, 1) := by decide +kernel
theorem dX7_plan_41 : decode cX7_plan 41 = .ok (.aload_n 0, 1) := by decide +kernel
theorem dX7_plan_42 : decode cX7_plan 42 = .ok (.getfield 14, 3) := by decide +kernel
theorem dX7_plan_45 : decode cX7_plan 45 = .ok (.getfield 226, 3) := by decide +kernel
theorem dX7_plan_48 : decode cX7_plan 48 = .ok (.iload_n 1, 1) := by decide +kernel
theorem dX7_plan_49 : decode cX7_plan 49 = .ok (.iload_n 2, 1) := by decide +kernel
theorem dX7_plan_50 : decode cX7_plan 50 = .ok (.invokevirtual 214, 3) := by decide +kernel
theorem dX7_plan_53 : decode cX7_plan 53 = .ok (.ireturn, 1) := by decide +kernel
theorem dX7_ends_0 : decode cX7_ends 0 = .ok (.iload_n 1, 1) := by decide +kernel
theorem dX7_ends_1 : decode cX7_ends 1 = .ok (.iconst 1, 1) := by decide +kernel
theorem dX7_ends_2 : decode cX7_ends 2 = .ok (.invokestatic 71, 3) := by decide +kernel
theorem dX7_ends_5 : decode cX7_ends 5 = .ok (.ifCond .ne 5, 3) := by decide +kernel
theorem dX7_ends_8 : decode cX7_ends 8 = .ok (.iconst (-1), 1) := by decide +kernel
theorem dX7_ends_9 : decode cX7_ends 9 = .ok (.ireturn, 1) := by decide +kernel
theorem dX7_ends_10 : decode cX7_ends 10 = .ok (.aload_n 0, 1) := by decide +kernel
theorem dX7_ends_11 : decode cX7_ends 11 = .ok (.getfield 20, 3) := by decide +kernel
theorem dX7_ends_14 : decode cX7_ends 14 = .ok (.aload_n 0, 1) := by decide +kernel
theorem dX7_ends_15 : decode cX7_ends 15 = .ok (.getfield 14, 3) := by decide +kernel
theorem dX7_ends_18 : decode cX7_ends 18 = .ok (.invokevirtual 196, 3) := by decide +kernel
theorem dX7_ends_21 : decode cX7_ends 21 = .ok (.iconst 0, 1) := by decide +kernel
theorem dX7_ends_22 : decode cX7_ends 22 = .ok (.istore_n 2, 1) := by decide +kernel
theorem dX7_ends_23 : decode cX7_ends 23 = .ok (.iload_n 2, 1) := by decide +kernel
theorem dX7_ends_24 : decode cX7_ends 24 = .ok (.aload_n 0, 1) := by decide +kernel
theorem dX7_ends_25 : decode cX7_ends 25 = .ok (.getfield 14, 3) := by decide +kernel
theorem dX7_ends_28 : decode cX7_ends 28 = .ok (.getfield 226, 3) := by decide +kernel
theorem dX7_ends_31 : decode cX7_ends 31 = .ok (.getfield 229, 3) := by decide +kernel
theorem dX7_ends_34 : decode cX7_ends 34 = .ok (.if_icmp .ge 41, 3) := by decide +kernel
theorem dX7_ends_37 : decode cX7_ends 37 = .ok (.aload_n 0, 1) := by decide +kernel
theorem dX7_ends_38 : decode cX7_ends 38 = .ok (.aload_n 0, 1) := by decide +kernel
theorem dX7_ends_39 : decode cX7_ends 39 = .ok (.getfield 14, 3) := by decide +kernel
theorem dX7_ends_42 : decode cX7_ends 42 = .ok (.getfield 226, 3) := by decide +kernel
theorem dX7_ends_45 : decode cX7_ends 45 = .ok (.getfield 230, 3) := by decide +kernel
theorem dX7_ends_48 : decode cX7_ends 48 = .ok (.iload_n 2, 1) := by decide +kernel
theorem dX7_ends_49 : decode cX7_ends 49 = .ok (.invokestatic 91, 3) := by decide +kernel
theorem dX7_ends_52 : decode cX7_ends 52 = .ok (.aload_n 0, 1) := by decide +kernel
theorem dX7_ends_53 : decode cX7_ends 53 = .ok (.getfield 14, 3) := by decide +kernel
theorem dX7_ends_56 : decode cX7_ends 56 = .ok (.getfield 226, 3) := by decide +kernel
theorem dX7_ends_59 : decode cX7_ends 59 = .ok (.getfield 233, 3) := by decide +kernel
theorem dX7_ends_62 : decode cX7_ends 62 = .ok (.iload_n 2, 1) := by decide +kernel
theorem dX7_ends_63 : decode cX7_ends 63 = .ok (.invokestatic 91, 3) := by decide +kernel
theorem dX7_ends_66 : decode cX7_ends 66 = .ok (.invokevirtual 236, 3) := by decide +kernel
theorem dX7_ends_69 : decode cX7_ends 69 = .ok (.iinc 2 1, 3) := by decide +kernel
theorem dX7_ends_72 : decode cX7_ends 72 = .ok (.goto (-49), 3) := by decide +kernel
theorem dX7_ends_75 : decode cX7_ends 75 = .ok (.iconst 0, 1) := by decide +kernel
theorem dX7_ends_76 : decode cX7_ends 76 = .ok (.istore_n 2, 1) := by decide +kernel
theorem dX7_ends_77 : decode cX7_ends 77 = .ok (.iconst 0, 1) := by decide +kernel
theorem dX7_ends_78 : decode cX7_ends 78 = .ok (.istore_n 3, 1) := by decide +kernel
theorem dX7_ends_79 : decode cX7_ends 79 = .ok (.iload_n 3, 1) := by decide +kernel
theorem dX7_ends_80 : decode cX7_ends 80 = .ok (.aload_n 0, 1) := by decide +kernel
theorem dX7_ends_81 : decode cX7_ends 81 = .ok (.getfield 20, 3) := by decide +kernel
theorem dX7_ends_84 : decode cX7_ends 84 = .ok (.getfield 75, 3) := by decide +kernel
theorem dX7_ends_87 : decode cX7_ends 87 = .ok (.if_icmp .ge 37, 3) := by decide +kernel
theorem dX7_ends_90 : decode cX7_ends 90 = .ok (.iload_n 2, 1) := by decide +kernel
theorem dX7_ends_91 : decode cX7_ends 91 = .ok (.iload_n 1, 1) := by decide +kernel
theorem dX7_ends_92 : decode cX7_ends 92 = .ok (.ifCond .ne 13, 3) := by decide +kernel
theorem dX7_ends_95 : decode cX7_ends 95 = .ok (.aload_n 0, 1) := by decide +kernel
theorem dX7_ends_96 : decode cX7_ends 96 = .ok (.getfield 20, 3) := by decide +kernel
theorem dX7_ends_99 : decode cX7_ends 99 = .ok (.getfield 107, 3) := by decide +kernel
theorem dX7_ends_102 : decode cX7_ends 102 = .ok (.goto 10, 3) := by decide +kernel
theorem dX7_ends_105 : decode cX7_ends 105 = .ok (.aload_n 0, 1) := by decide +kernel
theorem dX7_ends_106 : decode cX7_ends 106 = .ok (.getfield 20, 3) := by decide +kernel
theorem dX7_ends_109 : decode cX7_ends 109 = .ok (.getfield 101, 3) := by decide +kernel
theorem dX7_ends_112 : decode cX7_ends 112 = .ok (.iload_n 3, 1) := by decide +kernel
theorem dX7_ends_113 : decode cX7_ends 113 = .ok (.invokestatic 91, 3) := by decide +kernel
theorem dX7_ends_116 : decode cX7_ends 116 = .ok (.iadd, 1) := by decide +kernel
theorem dX7_ends_117 : decode cX7_ends 117 = .ok (.istore_n 2, 1) := by decide +kernel
theorem dX7_ends_118 : decode cX7_ends 118 = .ok (.iinc 3 1, 3) := by decide +kernel
theorem dX7_ends_121 : decode cX7_ends 121 = .ok (.goto (-42), 3) := by decide +kernel
theorem dX7_ends_124 : decode cX7_ends 124 = .ok (.iload_n 2, 1) := by decide +kernel
theorem dX7_ends_125 : decode cX7_ends 125 = .ok (.ireturn, 1) := by decide +kernel
theorem dX7_goStep_0 : decode cX7_goStep 0 = .ok (.iload_n 1, 1) := by decide +kernel
theorem dX7_goStep_1 : decode cX7_goStep 1 = .ok (.tableswitch 66 1 3 #[27, 39, 51], 27) := by decide +kernel
theorem dX7_goStep_28 : decode cX7_goStep 28 = .ok (.aload_n 0, 1) := by decide +kernel
theorem dX7_goStep_29 : decode cX7_goStep 29 = .ok (.getfield 20, 3) := by decide +kernel
theorem dX7_goStep_32 : decode cX7_goStep 32 = .ok (.iload_n 2, 1) := by decide +kernel
theorem dX7_goStep_33 : decode cX7_goStep 33 = .ok (.iconst 1, 1) := by decide +kernel
theorem dX7_goStep_34 : decode cX7_goStep 34 = .ok (.invokevirtual 147, 3) := by decide +kernel
theorem dX7_goStep_37 : decode cX7_goStep 37 = .ok (.goto 48, 3) := by decide +kernel
theorem dX7_goStep_40 : decode cX7_goStep 40 = .ok (.aload_n 0, 1) := by decide +kernel
theorem dX7_goStep_41 : decode cX7_goStep 41 = .ok (.getfield 20, 3) := by decide +kernel
theorem dX7_goStep_44 : decode cX7_goStep 44 = .ok (.iload_n 2, 1) := by decide +kernel
theorem dX7_goStep_45 : decode cX7_goStep 45 = .ok (.iconst 0, 1) := by decide +kernel
theorem dX7_goStep_46 : decode cX7_goStep 46 = .ok (.invokevirtual 147, 3) := by decide +kernel
theorem dX7_goStep_49 : decode cX7_goStep 49 = .ok (.goto 36, 3) := by decide +kernel
theorem dX7_goStep_52 : decode cX7_goStep 52 = .ok (.aload_n 0, 1) := by decide +kernel
theorem dX7_goStep_53 : decode cX7_goStep 53 = .ok (.getfield 20, 3) := by decide +kernel
theorem dX7_goStep_56 : decode cX7_goStep 56 = .ok (.getfield 101, 3) := by decide +kernel
theorem dX7_goStep_59 : decode cX7_goStep 59 = .ok (.iload_n 2, 1) := by decide +kernel
theorem dX7_goStep_60 : decode cX7_goStep 60 = .ok (.iconst 0, 1) := by decide +kernel
theorem dX7_goStep_61 : decode cX7_goStep 61 = .ok (.invokestatic 143, 3) := by decide +kernel
theorem dX7_goStep_64 : decode cX7_goStep 64 = .ok (.goto 21, 3) := by decide +kernel
theorem dX7_goStep_67 : decode cX7_goStep 67 = .ok (.aload_n 0, 1) := by decide +kernel
theorem dX7_goStep_68 : decode cX7_goStep 68 = .ok (.getfield 53, 3) := by decide +kernel
theorem dX7_goStep_71 : decode cX7_goStep 71 = .ok (.aload_n 0, 1) := by decide +kernel
theorem dX7_goStep_72 : decode cX7_goStep 72 = .ok (.getfield 20, 3) := by decide +kernel
theorem dX7_goStep_75 : decode cX7_goStep 75 = .ok (.aload_n 0, 1) := by decide +kernel
theorem dX7_goStep_76 : decode cX7_goStep 76 = .ok (.invokevirtual 114, 3) := by decide +kernel
theorem dX7_goStep_79 : decode cX7_goStep 79 = .ok (.ldc 200, 2) := by decide +kernel
theorem dX7_goStep_81 : decode cX7_goStep 81 = .ok (.invokevirtual 192, 3) := by decide +kernel
theorem dX7_goStep_84 : decode cX7_goStep 84 = .ok (.pop, 1) := by decide +kernel
theorem dX7_goStep_85 : decode cX7_goStep 85 = .ok (.return_, 1) := by decide +kernel
theorem dX7_book_0 : decode cX7_book 0 = .ok (.iload_n 1, 1) := by decide +kernel
theorem dX7_book_1 : decode cX7_book 1 = .ok (.iconst (-1), 1) := by decide +kernel
theorem dX7_book_2 : decode cX7_book 2 = .ok (.if_icmp .ne 14, 3) := by decide +kernel
theorem dX7_book_5 : decode cX7_book 5 = .ok (.aload_n 0, 1) := by decide +kernel
theorem dX7_book_6 : decode cX7_book 6 = .ok (.getfield 14, 3) := by decide +kernel
theorem dX7_book_9 : decode cX7_book 9 = .ok (.getfield 240, 3) := by decide +kernel
theorem dX7_book_12 : decode cX7_book 12 = .ok (.invokevirtual 209, 3) := by decide +kernel
theorem dX7_book_15 : decode cX7_book 15 = .ok (.ireturn, 1) := by decide +kernel
theorem dX7_book_16 : decode cX7_book 16 = .ok (.aload_n 0, 1) := by decide +kernel
theorem dX7_book_17 : decode cX7_book 17 = .ok (.getfield 14, 3) := by decide +kernel
theorem dX7_book_20 : decode cX7_book 20 = .ok (.iload_n 1, 1) := by decide +kernel
theorem dX7_book_21 : decode cX7_book 21 = .ok (.invokevirtual 83, 3) := by decide +kernel
theorem dX7_book_24 : decode cX7_book 24 = .ok (.ifCond .eq 12, 3) := by decide +kernel
theorem dX7_book_27 : decode cX7_book 27 = .ok (.iload_n 2, 1) := by decide +kernel
theorem dX7_book_28 : decode cX7_book 28 = .ok (.bipush 9, 2) := by decide +kernel
theorem dX7_book_30 : decode cX7_book 30 = .ok (.invokestatic 71, 3) := by decide +kernel
theorem dX7_book_33 : decode cX7_book 33 = .ok (.ifCond .ne 5, 3) := by decide +kernel
theorem dX7_book_36 : decode cX7_book 36 = .ok (.iconst (-1), 1) := by decide +kernel
theorem dX7_book_37 : decode cX7_book 37 = .ok (.ireturn, 1) := by decide +kernel
theorem dX7_book_38 : decode cX7_book 38 = .ok (.aload_n 0, 1) := by decide +kernel
theorem dX7_book_39 : decode cX7_book 39 = .ok (.getfield 14, 3) := by decide +kernel
theorem dX7_book_42 : decode cX7_book 42 = .ok (.getfield 240, 3) := by decide +kernel
theorem dX7_book_45 : decode cX7_book 45 = .ok (.iload_n 1, 1) := by decide +kernel
theorem dX7_book_46 : decode cX7_book 46 = .ok (.iload_n 2, 1) := by decide +kernel
theorem dX7_book_47 : decode cX7_book 47 = .ok (.invokevirtual 214, 3) := by decide +kernel
theorem dX7_book_50 : decode cX7_book 50 = .ok (.ireturn, 1) := by decide +kernel
theorem dX7_looked_0 : decode cX7_looked 0 = .ok (.iconst 0, 1) := by decide +kernel
theorem dX7_looked_1 : decode cX7_looked 1 = .ok (.istore_n 1, 1) := by decide +kernel
theorem dX7_looked_2 : decode cX7_looked 2 = .ok (.iload_n 1, 1) := by decide +kernel
theorem dX7_looked_3 : decode cX7_looked 3 = .ok (.aload_n 0, 1) := by decide +kernel
theorem dX7_looked_4 : decode cX7_looked 4 = .ok (.getfield 14, 3) := by decide +kernel
theorem dX7_looked_7 : decode cX7_looked 7 = .ok (.getfield 240, 3) := by decide +kernel
theorem dX7_looked_10 : decode cX7_looked 10 = .ok (.getfield 229, 3) := by decide +kernel
theorem dX7_looked_13 : decode cX7_looked 13 = .ok (.if_icmp .ge 52, 3) := by decide +kernel
theorem dX7_looked_16 : decode cX7_looked 16 = .ok (.aload_n 0, 1) := by decide +kernel
theorem dX7_looked_17 : decode cX7_looked 17 = .ok (.getfield 14, 3) := by decide +kernel
theorem dX7_looked_20 : decode cX7_looked 20 = .ok (.getfield 101, 3) := by decide +kernel
theorem dX7_looked_23 : decode cX7_looked 23 = .ok (.aload_n 0, 1) := by decide +kernel
theorem dX7_looked_24 : decode cX7_looked 24 = .ok (.getfield 14, 3) := by decide +kernel
theorem dX7_looked_27 : decode cX7_looked 27 = .ok (.getfield 240, 3) := by decide +kernel
theorem dX7_looked_30 : decode cX7_looked 30 = .ok (.getfield 230, 3) := by decide +kernel
theorem dX7_looked_33 : decode cX7_looked 33 = .ok (.iload_n 1, 1) := by decide +kernel
theorem dX7_looked_34 : decode cX7_looked 34 = .ok (.invokestatic 91, 3) := by decide +kernel
theorem dX7_looked_37 : decode cX7_looked 37 = .ok (.invokestatic 91, 3) := by decide +kernel
theorem dX7_looked_40 : decode cX7_looked 40 = .ok (.aload_n 0, 1) := by decide +kernel
theorem dX7_looked_41 : decode cX7_looked 41 = .ok (.getfield 14, 3) := by decide +kernel
theorem dX7_looked_44 : decode cX7_looked 44 = .ok (.getfield 240, 3) := by decide +kernel
theorem dX7_looked_47 : decode cX7_looked 47 = .ok (.getfield 233, 3) := by decide +kernel
theorem dX7_looked_50 : decode cX7_looked 50 = .ok (.iload_n 1, 1) := by decide +kernel
theorem dX7_looked_51 : decode cX7_looked 51 = .ok (.invokestatic 91, 3) := by decide +kernel
theorem dX7_looked_54 : decode cX7_looked 54 = .ok (.if_icmp .eq 5, 3) := by decide +kernel
theorem dX7_looked_57 : decode cX7_looked 57 = .ok (.iload_n 1, 1) := by decide +kernel
theorem dX7_looked_58 : decode cX7_looked 58 = .ok (.ireturn, 1) := by decide +kernel
theorem dX7_looked_59 : decode cX7_looked 59 = .ok (.iinc 1 1, 3) := by decide +kernel
theorem dX7_looked_62 : decode cX7_looked 62 = .ok (.goto (-60), 3) := by decide +kernel
theorem dX7_looked_65 : decode cX7_looked 65 = .ok (.bipush (-5), 2) := by decide +kernel
theorem dX7_looked_67 : decode cX7_looked 67 = .ok (.ireturn, 1) := by decide +kernel
theorem dX7_judge_0 : decode cX7_judge 0 = .ok (.aload_n 0, 1) := by decide +kernel
theorem dX7_judge_1 : decode cX7_judge 1 = .ok (.iload_n 1, 1) := by decide +kernel
theorem dX7_judge_2 : decode cX7_judge 2 = .ok (.invokevirtual 243, 3) := by decide +kernel
theorem dX7_judge_5 : decode cX7_judge 5 = .ok (.astore_n 3, 1) := by decide +kernel
theorem dX7_judge_6 : decode cX7_judge 6 = .ok (.aload_n 3, 1) := by decide +kernel
theorem dX7_judge_7 : decode cX7_judge 7 = .ok (.ifnonnull 5, 3) := by decide +kernel
theorem dX7_judge_10 : decode cX7_judge 10 = .ok (.iconst (-1), 1) := by decide +kernel
theorem dX7_judge_11 : decode cX7_judge 11 = .ok (.ireturn, 1) := by decide +kernel
theorem dX7_judge_12 : decode cX7_judge 12 = .ok (.aload_n 3, 1) := by decide +kernel
theorem dX7_judge_13 : decode cX7_judge 13 = .ok (.invokevirtual 247, 3) := by decide +kernel
theorem dX7_judge_16 : decode cX7_judge 16 = .ok (.ifCond .eq 14, 3) := by decide +kernel
theorem dX7_judge_19 : decode cX7_judge 19 = .ok (.aload_n 3, 1) := by decide +kernel
theorem dX7_judge_20 : decode cX7_judge 20 = .ok (.getfield 251, 3) := by decide +kernel
theorem dX7_judge_23 : decode cX7_judge 23 = .ok (.iconst 1, 1) := by decide +kernel
theorem dX7_judge_24 : decode cX7_judge 24 = .ok (.if_icmp .eq 6, 3) := by decide +kernel
theorem dX7_judge_27 : decode cX7_judge 27 = .ok (.bipush (-12), 2) := by decide +kernel
theorem dX7_judge_29 : decode cX7_judge 29 = .ok (.ireturn, 1) := by decide +kernel
theorem dX7_judge_30 : decode cX7_judge 30 = .ok (.aload_n 0, 1) := by decide +kernel
theorem dX7_judge_31 : decode cX7_judge 31 = .ok (.getfield 14, 3) := by decide +kernel
theorem dX7_judge_34 : decode cX7_judge 34 = .ok (.getfield 75, 3) := by decide +kernel
theorem dX7_judge_37 : decode cX7_judge 37 = .ok (.ifCond .ne 6, 3) := by decide +kernel
theorem dX7_judge_40 : decode cX7_judge 40 = .ok (.bipush (-5), 2) := by decide +kernel
theorem dX7_judge_42 : decode cX7_judge 42 = .ok (.ireturn, 1) := by decide +kernel
theorem dX7_judge_43 : decode cX7_judge 43 = .ok (.aload_n 0, 1) := by decide +kernel
theorem dX7_judge_44 : decode cX7_judge 44 = .ok (.getfield 53, 3) := by decide +kernel
theorem dX7_judge_47 : decode cX7_judge 47 = .ok (.aload_n 0, 1) := by decide +kernel
theorem dX7_judge_48 : decode cX7_judge 48 = .ok (.getfield 14, 3) := by decide +kernel
theorem dX7_judge_51 : decode cX7_judge 51 = .ok (.aload_n 0, 1) := by decide +kernel
theorem dX7_judge_52 : decode cX7_judge 52 = .ok (.invokevirtual 114, 3) := by decide +kernel
theorem dX7_judge_55 : decode cX7_judge 55 = .ok (.invokevirtual 118, 3) := by decide +kernel
theorem dX7_judge_58 : decode cX7_judge 58 = .ok (.iconst 0, 1) := by decide +kernel
theorem dX7_judge_59 : decode cX7_judge 59 = .ok (.istore 4, 2) := by decide +kernel
theorem dX7_judge_61 : decode cX7_judge 61 = .ok (.iload 4, 2) := by decide +kernel
theorem dX7_judge_63 : decode cX7_judge 63 = .ok (.aload_n 0, 1) := by decide +kernel
theorem dX7_judge_64 : decode cX7_judge 64 = .ok (.getfield 14, 3) := by decide +kernel
theorem dX7_judge_67 : decode cX7_judge 67 = .ok (.getfield 75, 3) := by decide +kernel
theorem dX7_judge_70 : decode cX7_judge 70 = .ok (.if_icmp .ge 73, 3) := by decide +kernel
theorem dX7_judge_73 : decode cX7_judge 73 = .ok (.iload_n 2, 1) := by decide +kernel
theorem dX7_judge_74 : decode cX7_judge 74 = .ok (.ifCond .lt 14, 3) := by decide +kernel
theorem dX7_judge_77 : decode cX7_judge 77 = .ok (.iload_n 2, 1) := by decide +kernel
theorem dX7_judge_78 : decode cX7_judge 78 = .ok (.aload_n 3, 1) := by decide +kernel
theorem dX7_judge_79 : decode cX7_judge 79 = .ok (.getfield 254, 3) := by decide +kernel
theorem dX7_judge_82 : decode cX7_judge 82 = .ok (.iload 4, 2) := by decide +kernel
theorem dX7_judge_84 : decode cX7_judge 84 = .ok (.isub, 1) := by decide +kernel
theorem dX7_judge_85 : decode cX7_judge 85 = .ok (.if_icmp .lt 9, 3) := by decide +kernel
theorem dX7_judge_88 : decode cX7_judge 88 = .ok (.bipush 100, 2) := by decide +kernel
theorem dX7_judge_90 : decode cX7_judge 90 = .ok (.iload 4, 2) := by decide +kernel
theorem dX7_judge_92 : decode cX7_judge 92 = .ok (.iadd, 1) := by decide +kernel
theorem dX7_judge_93 : decode cX7_judge 93 = .ok (.ireturn, 1) := by decide +kernel
theorem dX7_judge_94 : decode cX7_judge 94 = .ok (.aload_n 3, 1) := by decide +kernel
theorem dX7_judge_95 : decode cX7_judge 95 = .ok (.iload_n 2, 1) := by decide +kernel
theorem dX7_judge_96 : decode cX7_judge 96 = .ok (.iload 4, 2) := by decide +kernel
theorem dX7_judge_98 : decode cX7_judge 98 = .ok (.iadd, 1) := by decide +kernel
theorem dX7_judge_99 : decode cX7_judge 99 = .ok (.invokevirtual 257, 3) := by decide +kernel
theorem dX7_judge_102 : decode cX7_judge 102 = .ok (.aload_n 0, 1) := by decide +kernel
theorem dX7_judge_103 : decode cX7_judge 103 = .ok (.getfield 53, 3) := by decide +kernel
theorem dX7_judge_106 : decode cX7_judge 106 = .ok (.aload_n 0, 1) := by decide +kernel
theorem dX7_judge_107 : decode cX7_judge 107 = .ok (.getfield 14, 3) := by decide +kernel
theorem dX7_judge_110 : decode cX7_judge 110 = .ok (.iload 4, 2) := by decide +kernel
theorem dX7_judge_112 : decode cX7_judge 112 = .ok (.aload_n 0, 1) := by decide +kernel
theorem dX7_judge_113 : decode cX7_judge 113 = .ok (.getfield 14, 3) := by decide +kernel
theorem dX7_judge_116 : decode cX7_judge 116 = .ok (.getfield 122, 3) := by decide +kernel
theorem dX7_judge_119 : decode cX7_judge 119 = .ok (.aload_n 0, 1) := by decide +kernel
theorem dX7_judge_120 : decode cX7_judge 120 = .ok (.getfield 14, 3) := by decide +kernel
theorem dX7_judge_123 : decode cX7_judge 123 = .ok (.getfield 125, 3) := by decide +kernel
theorem dX7_judge_126 : decode cX7_judge 126 = .ok (.invokevirtual 128, 3) := by decide +kernel
theorem dX7_judge_129 : decode cX7_judge 129 = .ok (.i2l, 1) := by decide +kernel
theorem dX7_judge_130 : decode cX7_judge 130 = .ok (.lcmp, 1) := by decide +kernel
theorem dX7_judge_131 : decode cX7_judge 131 = .ok (.ifCond .eq 6, 3) := by decide +kernel
theorem dX7_judge_134 : decode cX7_judge 134 = .ok (.iload 4, 2) := by decide +kernel
theorem dX7_judge_136 : decode cX7_judge 136 = .ok (.ireturn, 1) := by decide +kernel
theorem dX7_judge_137 : decode cX7_judge 137 = .ok (.iinc 4 1, 3) := by decide +kernel
theorem dX7_judge_140 : decode cX7_judge 140 = .ok (.goto (-79), 3) := by decide +kernel
theorem dX7_judge_143 : decode cX7_judge 143 = .ok (.bipush (-5), 2) := by decide +kernel
theorem dX7_judge_145 : decode cX7_judge 145 = .ok (.ireturn, 1) := by decide +kernel
theorem dX7_image_0 : decode cX7_image 0 = .ok (.aload_n 0, 1) := by decide +kernel
theorem dX7_image_1 : decode cX7_image 1 = .ok (.getfield 23, 3) := by decide +kernel
theorem dX7_image_4 : decode cX7_image 4 = .ok (.aload_n 0, 1) := by decide +kernel
theorem dX7_image_5 : decode cX7_image 5 = .ok (.getfield 14, 3) := by decide +kernel
theorem dX7_image_8 : decode cX7_image 8 = .ok (.invokevirtual 196, 3) := by decide +kernel
theorem dX7_image_11 : decode cX7_image 11 = .ok (.aload_n 0, 1) := by decide +kernel
theorem dX7_image_12 : decode cX7_image 12 = .ok (.iconst 1, 1) := by decide +kernel
theorem dX7_image_13 : decode cX7_image 13 = .ok (.putfield 261, 3) := by decide +kernel
theorem dX7_image_16 : decode cX7_image 16 = .ok (.aload_n 0, 1) := by decide +kernel
theorem dX7_image_17 : decode cX7_image 17 = .ok (.getfield 14, 3) := by decide +kernel
theorem dX7_image_20 : decode cX7_image 20 = .ok (.getfield 75, 3) := by decide +kernel
theorem dX7_image_23 : decode cX7_image 23 = .ok (.ireturn, 1) := by decide +kernel
theorem dX7_undo_0 : decode cX7_undo 0 = .ok (.aload_n 0, 1) := by decide +kernel
theorem dX7_undo_1 : decode cX7_undo 1 = .ok (.getfield 261, 3) := by decide +kernel
theorem dX7_undo_4 : decode cX7_undo 4 = .ok (.ifCond .ne 6, 3) := by decide +kernel
theorem dX7_undo_7 : decode cX7_undo 7 = .ok (.bipush (-3), 2) := by decide +kernel
theorem dX7_undo_9 : decode cX7_undo 9 = .ok (.ireturn, 1) := by decide +kernel
theorem dX7_undo_10 : decode cX7_undo 10 = .ok (.aload_n 0, 1) := by decide +kernel
theorem dX7_undo_11 : decode cX7_undo 11 = .ok (.getfield 14, 3) := by decide +kernel
theorem dX7_undo_14 : decode cX7_undo 14 = .ok (.aload_n 0, 1) := by decide +kernel
theorem dX7_undo_15 : decode cX7_undo 15 = .ok (.getfield 23, 3) := by decide +kernel
theorem dX7_undo_18 : decode cX7_undo 18 = .ok (.invokevirtual 196, 3) := by decide +kernel
theorem dX7_undo_21 : decode cX7_undo 21 = .ok (.aload_n 0, 1) := by decide +kernel
theorem dX7_undo_22 : decode cX7_undo 22 = .ok (.getfield 14, 3) := by decide +kernel
theorem dX7_undo_25 : decode cX7_undo 25 = .ok (.getfield 75, 3) := by decide +kernel
theorem dX7_undo_28 : decode cX7_undo 28 = .ok (.ireturn, 1) := by decide +kernel
theorem dX7_act_0 : decode cX7_act 0 = .ok (.aload_n 0, 1) := by decide +kernel
theorem dX7_act_1 : decode cX7_act 1 = .ok (.getfield 60, 3) := by decide +kernel
theorem dX7_act_4 : decode cX7_act 4 = .ok (.invokevirtual 265, 3) := by decide +kernel
theorem dX7_act_7 : decode cX7_act 7 = .ok (.aload_n 0, 1) := by decide +kernel
theorem dX7_act_8 : decode cX7_act 8 = .ok (.getfield 14, 3) := by decide +kernel
theorem dX7_act_11 : decode cX7_act 11 = .ok (.iload_n 1, 1) := by decide +kernel
theorem dX7_act_12 : decode cX7_act 12 = .ok (.invokevirtual 83, 3) := by decide +kernel
theorem dX7_act_15 : decode cX7_act 15 = .ok (.ifCond .eq 11, 3) := by decide +kernel
theorem dX7_act_18 : decode cX7_act 18 = .ok (.iload_n 2, 1) := by decide +kernel
theorem dX7_act_19 : decode cX7_act 19 = .ok (.iconst 2, 1) := by decide +kernel
theorem dX7_act_20 : decode cX7_act 20 = .ok (.invokestatic 71, 3) := by decide +kernel
theorem dX7_act_23 : decode cX7_act 23 = .ok (.ifCond .ne 5, 3) := by decide +kernel
theorem dX7_act_26 : decode cX7_act 26 = .ok (.iconst 0, 1) := by decide +kernel
theorem dX7_act_27 : decode cX7_act 27 = .ok (.ireturn, 1) := by decide +kernel
theorem dX7_act_28 : decode cX7_act 28 = .ok (.aload_n 0, 1) := by decide +kernel
theorem dX7_act_29 : decode cX7_act 29 = .ok (.getfield 60, 3) := by decide +kernel
theorem dX7_act_32 : decode cX7_act 32 = .ok (.aload_n 0, 1) := by decide +kernel
theorem dX7_act_33 : decode cX7_act 33 = .ok (.getfield 14, 3) := by decide +kernel
theorem dX7_act_36 : decode cX7_act 36 = .ok (.iload_n 1, 1) := by decide +kernel
theorem dX7_act_37 : decode cX7_act 37 = .ok (.iload_n 2, 1) := by decide +kernel
theorem dX7_act_38 : decode cX7_act 38 = .ok (.iload_n 3, 1) := by decide +kernel
theorem dX7_act_39 : decode cX7_act 39 = .ok (.invokevirtual 268, 3) := by decide +kernel
theorem dX7_act_42 : decode cX7_act 42 = .ok (.ireturn, 1) := by decide +kernel
theorem dX7_trace_0 : decode cX7_trace 0 = .ok (.iload_n 1, 1) := by decide +kernel
theorem dX7_trace_1 : decode cX7_trace 1 = .ok (.ifCond .lt 39, 3) := by decide +kernel
theorem dX7_trace_4 : decode cX7_trace 4 = .ok (.iload_n 1, 1) := by decide +kernel
theorem dX7_trace_5 : decode cX7_trace 5 = .ok (.aload_n 0, 1) := by decide +kernel
theorem dX7_trace_6 : decode cX7_trace 6 = .ok (.getfield 60, 3) := by decide +kernel
theorem dX7_trace_9 : decode cX7_trace 9 = .ok (.getfield 271, 3) := by decide +kernel
theorem dX7_trace_12 : decode cX7_trace 12 = .ok (.aload_n 0, 1) := by decide +kernel
theorem dX7_trace_13 : decode cX7_trace 13 = .ok (.getfield 60, 3) := by decide +kernel
theorem dX7_trace_16 : decode cX7_trace 16 = .ok (.getfield 274, 3) := by decide +kernel
theorem dX7_trace_19 : decode cX7_trace 19 = .ok (.arraylength, 1) := by decide +kernel
theorem dX7_trace_20 : decode cX7_trace 20 = .ok (.invokestatic 277, 3) := by decide +kernel
theorem dX7_trace_23 : decode cX7_trace 23 = .ok (.if_icmp .ge 17, 3) := by decide +kernel
theorem dX7_trace_26 : decode cX7_trace 26 = .ok (.aload_n 0, 1) := by decide +kernel
theorem dX7_trace_27 : decode cX7_trace 27 = .ok (.getfield 60, 3) := by decide +kernel
theorem dX7_trace_30 : decode cX7_trace 30 = .ok (.getfield 274, 3) := by decide +kernel
theorem dX7_trace_33 : decode cX7_trace 33 = .ok (.iload_n 1, 1) := by decide +kernel
theorem dX7_trace_34 : decode cX7_trace 34 = .ok (.invokestatic 91, 3) := by decide +kernel
theorem dX7_trace_37 : decode cX7_trace 37 = .ok (.goto 4, 3) := by decide +kernel
theorem dX7_trace_40 : decode cX7_trace 40 = .ok (.iconst (-1), 1) := by decide +kernel
theorem dX7_trace_41 : decode cX7_trace 41 = .ok (.ireturn, 1) := by decide +kernel
theorem dX7_taken_0 : decode cX7_taken 0 = .ok (.iload_n 2, 1) := by decide +kernel
theorem dX7_taken_1 : decode cX7_taken 1 = .ok (.bipush 6, 2) := by decide +kernel
theorem dX7_taken_3 : decode cX7_taken 3 = .ok (.invokestatic 71, 3) := by decide +kernel
theorem dX7_taken_6 : decode cX7_taken 6 = .ok (.ifCond .ne 6, 3) := by decide +kernel
theorem dX7_taken_9 : decode cX7_taken 9 = .ok (.bipush (-2), 2) := by decide +kernel
theorem dX7_taken_11 : decode cX7_taken 11 = .ok (.ireturn, 1) := by decide +kernel
theorem dX7_taken_12 : decode cX7_taken 12 = .ok (.aload_n 0, 1) := by decide +kernel
theorem dX7_taken_13 : decode cX7_taken 13 = .ok (.getfield 14, 3) := by decide +kernel
theorem dX7_taken_16 : decode cX7_taken 16 = .ok (.iload_n 1, 1) := by decide +kernel
theorem dX7_taken_17 : decode cX7_taken 17 = .ok (.invokevirtual 83, 3) := by decide +kernel
theorem dX7_taken_20 : decode cX7_taken 20 = .ok (.ifCond .ne 6, 3) := by decide +kernel
theorem dX7_taken_23 : decode cX7_taken 23 = .ok (.bipush (-11), 2) := by decide +kernel
theorem dX7_taken_25 : decode cX7_taken 25 = .ok (.ireturn, 1) := by decide +kernel
theorem dX7_taken_26 : decode cX7_taken 26 = .ok (.aload_n 0, 1) := by decide +kernel
theorem dX7_taken_27 : decode cX7_taken 27 = .ok (.getfield 14, 3) := by decide +kernel
theorem dX7_taken_30 : decode cX7_taken 30 = .ok (.getfield 87, 3) := by decide +kernel
theorem dX7_taken_33 : decode cX7_taken 33 = .ok (.iload_n 1, 1) := by decide +kernel
theorem dX7_taken_34 : decode cX7_taken 34 = .ok (.invokestatic 91, 3) := by decide +kernel
theorem dX7_taken_37 : decode cX7_taken 37 = .ok (.istore_n 3, 1) := by decide +kernel
theorem dX7_taken_38 : decode cX7_taken 38 = .ok (.iload_n 3, 1) := by decide +kernel
theorem dX7_taken_39 : decode cX7_taken 39 = .ok (.istore 4, 2) := by decide +kernel
theorem dX7_taken_41 : decode cX7_taken 41 = .ok (.iconst 0, 1) := by decide +kernel
theorem dX7_taken_42 : decode cX7_taken 42 = .ok (.istore 5, 2) := by decide +kernel
theorem dX7_taken_44 : decode cX7_taken 44 = .ok (.iload 5, 2) := by decide +kernel
theorem dX7_taken_46 : decode cX7_taken 46 = .ok (.getstatic 282, 3) := by decide +kernel
theorem dX7_taken_49 : decode cX7_taken 49 = .ok (.arraylength, 1) := by decide +kernel
theorem dX7_taken_50 : decode cX7_taken 50 = .ok (.if_icmp .ge 32, 3) := by decide +kernel
theorem dX7_taken_53 : decode cX7_taken 53 = .ok (.iload 4, 2) := by decide +kernel
theorem dX7_taken_55 : decode cX7_taken 55 = .ok (.ifCond .lt 27, 3) := by decide +kernel
theorem dX7_taken_58 : decode cX7_taken 58 = .ok (.iload 4, 2) := by decide +kernel
theorem dX7_taken_60 : decode cX7_taken 60 = .ok (.iload_n 2, 1) := by decide +kernel
theorem dX7_taken_61 : decode cX7_taken 61 = .ok (.if_icmp .ne 5, 3) := by decide +kernel
theorem dX7_taken_64 : decode cX7_taken 64 = .ok (.iload_n 3, 1) := by decide +kernel
theorem dX7_taken_65 : decode cX7_taken 65 = .ok (.ireturn, 1) := by decide +kernel
theorem dX7_taken_66 : decode cX7_taken 66 = .ok (.getstatic 282, 3) := by decide +kernel
theorem dX7_taken_69 : decode cX7_taken 69 = .ok (.iload 4, 2) := by decide +kernel
theorem dX7_taken_71 : decode cX7_taken 71 = .ok (.invokestatic 91, 3) := by decide +kernel
theorem dX7_taken_74 : decode cX7_taken 74 = .ok (.istore 4, 2) := by decide +kernel
theorem dX7_taken_76 : decode cX7_taken 76 = .ok (.iinc 5 1, 3) := by decide +kernel
theorem dX7_taken_79 : decode cX7_taken 79 = .ok (.goto (-35), 3) := by decide +kernel
theorem dX7_taken_82 : decode cX7_taken 82 = .ok (.bipush (-12), 2) := by decide +kernel
theorem dX7_taken_84 : decode cX7_taken 84 = .ok (.ireturn, 1) := by decide +kernel
theorem dX7_count_0 : decode cX7_count 0 = .ok (.iload_n 1, 1) := by decide +kernel
theorem dX7_count_1 : decode cX7_count 1 = .ok (.tableswitch 102 0 6 #[43, 51, 56, 67, 78, 89, 94], 43) := by decide +kernel
theorem dX7_count_44 : decode cX7_count 44 = .ok (.aload_n 0, 1) := by decide +kernel
theorem dX7_count_45 : decode cX7_count 45 = .ok (.getfield 14, 3) := by decide +kernel
theorem dX7_count_48 : decode cX7_count 48 = .ok (.getfield 75, 3) := by decide +kernel
theorem dX7_count_51 : decode cX7_count 51 = .ok (.ireturn, 1) := by decide +kernel
theorem dX7_count_52 : decode cX7_count 52 = .ok (.aload_n 0, 1) := by decide +kernel
theorem dX7_count_53 : decode cX7_count 53 = .ok (.getfield 157, 3) := by decide +kernel
theorem dX7_count_56 : decode cX7_count 56 = .ok (.ireturn, 1) := by decide +kernel
theorem dX7_count_57 : decode cX7_count 57 = .ok (.aload_n 0, 1) := by decide +kernel
theorem dX7_count_58 : decode cX7_count 58 = .ok (.getfield 14, 3) := by decide +kernel
theorem dX7_count_61 : decode cX7_count 61 = .ok (.getfield 205, 3) := by decide +kernel
theorem dX7_count_64 : decode cX7_count 64 = .ok (.getfield 229, 3) := by decide +kernel
theorem dX7_count_67 : decode cX7_count 67 = .ok (.ireturn, 1) := by decide +kernel
theorem dX7_count_68 : decode cX7_count 68 = .ok (.aload_n 0, 1) := by decide +kernel
theorem dX7_count_69 : decode cX7_count 69 = .ok (.getfield 14, 3) := by decide +kernel
theorem dX7_count_72 : decode cX7_count 72 = .ok (.getfield 226, 3) := by decide +kernel
theorem dX7_count_75 : decode cX7_count 75 = .ok (.getfield 229, 3) := by decide +kernel
theorem dX7_count_78 : decode cX7_count 78 = .ok (.ireturn, 1) := by decide +kernel
theorem dX7_count_79 : decode cX7_count 79 = .ok (.aload_n 0, 1) := by decide +kernel
theorem dX7_count_80 : decode cX7_count 80 = .ok (.getfield 14, 3) := by decide +kernel
theorem dX7_count_83 : decode cX7_count 83 = .ok (.getfield 240, 3) := by decide +kernel
theorem dX7_count_86 : decode cX7_count 86 = .ok (.getfield 229, 3) := by decide +kernel
theorem dX7_count_89 : decode cX7_count 89 = .ok (.ireturn, 1) := by decide +kernel
theorem dX7_count_90 : decode cX7_count 90 = .ok (.aload_n 0, 1) := by decide +kernel
theorem dX7_count_91 : decode cX7_count 91 = .ok (.getfield 154, 3) := by decide +kernel
theorem dX7_count_94 : decode cX7_count 94 = .ok (.ireturn, 1) := by decide +kernel
theorem dX7_count_95 : decode cX7_count 95 = .ok (.aload_n 0, 1) := by decide +kernel
theorem dX7_count_96 : decode cX7_count 96 = .ok (.getfield 60, 3) := by decide +kernel
theorem dX7_count_99 : decode cX7_count 99 = .ok (.getfield 271, 3) := by decide +kernel
theorem dX7_count_102 : decode cX7_count 102 = .ok (.ireturn, 1) := by decide +kernel
theorem dX7_count_103 : decode cX7_count 103 = .ok (.bipush (-2), 2) := by decide +kernel
theorem dX7_count_105 : decode cX7_count 105 = .ok (.ireturn, 1) := by decide +kernel
theorem dX7_tape_0 : decode cX7_tape 0 = .ok (.aload_n 0, 1) := by decide +kernel
theorem dX7_tape_1 : decode cX7_tape 1 = .ok (.iload_n 1, 1) := by decide +kernel
theorem dX7_tape_2 : decode cX7_tape 2 = .ok (.invokevirtual 243, 3) := by decide +kernel
theorem dX7_tape_5 : decode cX7_tape 5 = .ok (.astore 4, 2) := by decide +kernel
theorem dX7_tape_7 : decode cX7_tape 7 = .ok (.aload 4, 2) := by decide +kernel
theorem dX7_tape_9 : decode cX7_tape 9 = .ok (.ifnonnull 5, 3) := by decide +kernel
theorem dX7_tape_12 : decode cX7_tape 12 = .ok (.iconst (-1), 1) := by decide +kernel
theorem dX7_tape_13 : decode cX7_tape 13 = .ok (.ireturn, 1) := by decide +kernel
theorem dX7_tape_14 : decode cX7_tape 14 = .ok (.iload_n 2, 1) := by decide +kernel
theorem dX7_tape_15 : decode cX7_tape 15 = .ok (.iconst (-1), 1) := by decide +kernel
theorem dX7_tape_16 : decode cX7_tape 16 = .ok (.if_icmp .ne 12, 3) := by decide +kernel
theorem dX7_tape_19 : decode cX7_tape 19 = .ok (.aload 4, 2) := by decide +kernel
theorem dX7_tape_21 : decode cX7_tape 21 = .ok (.iconst (-1), 1) := by decide +kernel
theorem dX7_tape_22 : decode cX7_tape 22 = .ok (.iconst 0, 1) := by decide +kernel
theorem dX7_tape_23 : decode cX7_tape 23 = .ok (.invokevirtual 285, 3) := by decide +kernel
theorem dX7_tape_26 : decode cX7_tape 26 = .ok (.iconst 1, 1) := by decide +kernel
theorem dX7_tape_27 : decode cX7_tape 27 = .ok (.ireturn, 1) := by decide +kernel
theorem dX7_tape_28 : decode cX7_tape 28 = .ok (.iload_n 2, 1) := by decide +kernel
theorem dX7_tape_29 : decode cX7_tape 29 = .ok (.iconst 4, 1) := by decide +kernel
theorem dX7_tape_30 : decode cX7_tape 30 = .ok (.invokestatic 71, 3) := by decide +kernel
theorem dX7_tape_33 : decode cX7_tape 33 = .ok (.ifCond .eq 9, 3) := by decide +kernel
theorem dX7_tape_36 : decode cX7_tape 36 = .ok (.iload_n 3, 1) := by decide +kernel
theorem dX7_tape_37 : decode cX7_tape 37 = .ok (.bipush 60, 2) := by decide +kernel
theorem dX7_tape_39 : decode cX7_tape 39 = .ok (.if_icmp .le 6, 3) := by decide +kernel
theorem dX7_tape_42 : decode cX7_tape 42 = .ok (.bipush (-2), 2) := by decide +kernel
theorem dX7_tape_44 : decode cX7_tape 44 = .ok (.ireturn, 1) := by decide +kernel
theorem dX7_tape_45 : decode cX7_tape 45 = .ok (.iload_n 3, 1) := by decide +kernel
theorem dX7_tape_46 : decode cX7_tape 46 = .ok (.ifCond .ge 6, 3) := by decide +kernel
theorem dX7_tape_49 : decode cX7_tape 49 = .ok (.bipush (-14), 2) := by decide +kernel
theorem dX7_tape_51 : decode cX7_tape 51 = .ok (.ireturn, 1) := by decide +kernel
theorem dX7_tape_52 : decode cX7_tape 52 = .ok (.aload 4, 2) := by decide +kernel
theorem dX7_tape_54 : decode cX7_tape 54 = .ok (.iload_n 2, 1) := by decide +kernel
theorem dX7_tape_55 : decode cX7_tape 55 = .ok (.iload_n 3, 1) := by decide +kernel
theorem dX7_tape_56 : decode cX7_tape 56 = .ok (.invokevirtual 285, 3) := by decide +kernel
theorem dX7_tape_59 : decode cX7_tape 59 = .ok (.iconst 1, 1) := by decide +kernel
theorem dX7_tape_60 : decode cX7_tape 60 = .ok (.ireturn, 1) := by decide +kernel
theorem dX7_item_0 : decode cX7_item 0 = .ok (.aload_n 0, 1) := by decide +kernel
theorem dX7_item_1 : decode cX7_item 1 = .ok (.iload_n 1, 1) := by decide +kernel
theorem dX7_item_2 : decode cX7_item 2 = .ok (.invokevirtual 243, 3) := by decide +kernel
theorem dX7_item_5 : decode cX7_item 5 = .ok (.astore 5, 2) := by decide +kernel
theorem dX7_item_7 : decode cX7_item 7 = .ok (.aload 5, 2) := by decide +kernel
theorem dX7_item_9 : decode cX7_item 9 = .ok (.ifnonnull 5, 3) := by decide +kernel
theorem dX7_item_12 : decode cX7_item 12 = .ok (.iconst (-1), 1) := by decide +kernel
theorem dX7_item_13 : decode cX7_item 13 = .ok (.ireturn, 1) := by decide +kernel
theorem dX7_item_14 : decode cX7_item 14 = .ok (.aload 5, 2) := by decide +kernel
theorem dX7_item_16 : decode cX7_item 16 = .ok (.invokevirtual 247, 3) := by decide +kernel
theorem dX7_item_19 : decode cX7_item 19 = .ok (.ifCond .ne 6, 3) := by decide +kernel
theorem dX7_item_22 : decode cX7_item 22 = .ok (.bipush (-11), 2) := by decide +kernel
theorem dX7_item_24 : decode cX7_item 24 = .ok (.ireturn, 1) := by decide +kernel
theorem dX7_item_25 : decode cX7_item 25 = .ok (.aload 5, 2) := by decide +kernel
theorem dX7_item_27 : decode cX7_item 27 = .ok (.iload_n 2, 1) := by decide +kernel
theorem dX7_item_28 : decode cX7_item 28 = .ok (.lload_n 3, 1) := by decide +kernel
theorem dX7_item_29 : decode cX7_item 29 = .ok (.invokevirtual 288, 3) := by decide +kernel
theorem dX7_item_32 : decode cX7_item 32 = .ok (.ifCond .eq 7, 3) := by decide +kernel
theorem dX7_item_35 : decode cX7_item 35 = .ok (.iconst 1, 1) := by decide +kernel
theorem dX7_item_36 : decode cX7_item 36 = .ok (.goto 5, 3) := by decide +kernel
theorem dX7_item_39 : decode cX7_item 39 = .ok (.bipush (-13), 2) := by decide +kernel
theorem dX7_item_41 : decode cX7_item 41 = .ok (.ireturn, 1) := by decide +kernel
theorem dX7_read_0 : decode cX7_read 0 = .ok (.aload_n 0, 1) := by decide +kernel
theorem dX7_read_1 : decode cX7_read 1 = .ok (.iload_n 1, 1) := by decide +kernel
theorem dX7_read_2 : decode cX7_read 2 = .ok (.invokevirtual 243, 3) := by decide +kernel
theorem dX7_read_5 : decode cX7_read 5 = .ok (.astore_n 3, 1) := by decide +kernel
theorem dX7_read_6 : decode cX7_read 6 = .ok (.aload_n 3, 1) := by decide +kernel
theorem dX7_read_7 : decode cX7_read 7 = .ok (.ifnonnull 9, 3) := by decide +kernel
theorem dX7_read_10 : decode cX7_read 10 = .ok (.ldc2_w 220, 3) := by decide +kernel
theorem dX7_read_13 : decode cX7_read 13 = .ok (.goto 8, 3) := by decide +kernel
theorem dX7_read_16 : decode cX7_read 16 = .ok (.aload_n 3, 1) := by decide +kernel
theorem dX7_read_17 : decode cX7_read 17 = .ok (.iload_n 2, 1) := by decide +kernel
theorem dX7_read_18 : decode cX7_read 18 = .ok (.invokevirtual 257, 3) := by decide +kernel
theorem dX7_read_21 : decode cX7_read 21 = .ok (.lreturn, 1) := by decide +kernel
theorem dX7_shift_0 : decode cX7_shift 0 = .ok (.aload_n 0, 1) := by decide +kernel
theorem dX7_shift_1 : decode cX7_shift 1 = .ok (.iload_n 1, 1) := by decide +kernel
theorem dX7_shift_2 : decode cX7_shift 2 = .ok (.invokevirtual 243, 3) := by decide +kernel
theorem dX7_shift_5 : decode cX7_shift 5 = .ok (.astore 6, 2) := by decide +kernel
theorem dX7_shift_7 : decode cX7_shift 7 = .ok (.aload_n 0, 1) := by decide +kernel
theorem dX7_shift_8 : decode cX7_shift 8 = .ok (.iload_n 3, 1) := by decide +kernel
theorem dX7_shift_9 : decode cX7_shift 9 = .ok (.invokevirtual 243, 3) := by decide +kernel
theorem dX7_shift_12 : decode cX7_shift 12 = .ok (.astore 7, 2) := by decide +kernel
theorem dX7_shift_14 : decode cX7_shift 14 = .ok (.aload 6, 2) := by decide +kernel
theorem dX7_shift_16 : decode cX7_shift 16 = .ok (.ifnull 8, 3) := by decide +kernel
theorem dX7_shift_19 : decode cX7_shift 19 = .ok (.aload 7, 2) := by decide +kernel
theorem dX7_shift_21 : decode cX7_shift 21 = .ok (.ifnonnull 5, 3) := by decide +kernel
theorem dX7_shift_24 : decode cX7_shift 24 = .ok (.iconst (-1), 1) := by decide +kernel
theorem dX7_shift_25 : decode cX7_shift 25 = .ok (.ireturn, 1) := by decide +kernel
theorem dX7_shift_26 : decode cX7_shift 26 = .ok (.aload 6, 2) := by decide +kernel
theorem dX7_shift_28 : decode cX7_shift 28 = .ok (.invokevirtual 247, 3) := by decide +kernel
theorem dX7_shift_31 : decode cX7_shift 31 = .ok (.ifCond .eq 11, 3) := by decide +kernel
theorem dX7_shift_34 : decode cX7_shift 34 = .ok (.aload 7, 2) := by decide +kernel
theorem dX7_shift_36 : decode cX7_shift 36 = .ok (.invokevirtual 247, 3) := by decide +kernel
theorem dX7_shift_39 : decode cX7_shift 39 = .ok (.ifCond .ne 6, 3) := by decide +kernel
theorem dX7_shift_42 : decode cX7_shift 42 = .ok (.bipush (-11), 2) := by decide +kernel
theorem dX7_shift_44 : decode cX7_shift 44 = .ok (.ireturn, 1) := by decide +kernel
theorem dX7_shift_45 : decode cX7_shift 45 = .ok (.aload 6, 2) := by decide +kernel
theorem dX7_shift_47 : decode cX7_shift 47 = .ok (.getfield 251, 3) := by decide +kernel
theorem dX7_shift_50 : decode cX7_shift 50 = .ok (.aload 7, 2) := by decide +kernel
theorem dX7_shift_52 : decode cX7_shift 52 = .ok (.getfield 251, 3) := by decide +kernel
theorem dX7_shift_55 : decode cX7_shift 55 = .ok (.if_icmp .eq 6, 3) := by decide +kernel
theorem dX7_shift_58 : decode cX7_shift 58 = .ok (.bipush (-12), 2) := by decide +kernel
theorem dX7_shift_60 : decode cX7_shift 60 = .ok (.ireturn, 1) := by decide +kernel
theorem dX7_shift_61 : decode cX7_shift 61 = .ok (.aload 6, 2) := by decide +kernel
theorem dX7_shift_63 : decode cX7_shift 63 = .ok (.iload_n 2, 1) := by decide +kernel
theorem dX7_shift_64 : decode cX7_shift 64 = .ok (.iload 5, 2) := by decide +kernel
theorem dX7_shift_66 : decode cX7_shift 66 = .ok (.invokevirtual 292, 3) := by decide +kernel
theorem dX7_shift_69 : decode cX7_shift 69 = .ok (.ifCond .eq 15, 3) := by decide +kernel
theorem dX7_shift_72 : decode cX7_shift 72 = .ok (.aload 7, 2) := by decide +kernel
theorem dX7_shift_74 : decode cX7_shift 74 = .ok (.iload 4, 2) := by decide +kernel
theorem dX7_shift_76 : decode cX7_shift 76 = .ok (.iload 5, 2) := by decide +kernel
theorem dX7_shift_78 : decode cX7_shift 78 = .ok (.invokevirtual 292, 3) := by decide +kernel
theorem dX7_shift_81 : decode cX7_shift 81 = .ok (.ifCond .ne 6, 3) := by decide +kernel
theorem dX7_shift_84 : decode cX7_shift 84 = .ok (.bipush (-13), 2) := by decide +kernel
theorem dX7_shift_86 : decode cX7_shift 86 = .ok (.ireturn, 1) := by decide +kernel
theorem dX7_shift_87 : decode cX7_shift 87 = .ok (.aload 6, 2) := by decide +kernel
theorem dX7_shift_89 : decode cX7_shift 89 = .ok (.getfield 295, 3) := by decide +kernel
theorem dX7_shift_92 : decode cX7_shift 92 = .ok (.iload_n 2, 1) := by decide +kernel
theorem dX7_shift_93 : decode cX7_shift 93 = .ok (.aload 7, 2) := by decide +kernel
theorem dX7_shift_95 : decode cX7_shift 95 = .ok (.getfield 295, 3) := by decide +kernel
theorem dX7_shift_98 : decode cX7_shift 98 = .ok (.iload 4, 2) := by decide +kernel
theorem dX7_shift_100 : decode cX7_shift 100 = .ok (.iload 5, 2) := by decide +kernel
theorem dX7_shift_102 : decode cX7_shift 102 = .ok (.invokestatic 299, 3) := by decide +kernel
theorem dX7_shift_105 : decode cX7_shift 105 = .ok (.iload 5, 2) := by decide +kernel
theorem dX7_shift_107 : decode cX7_shift 107 = .ok (.ireturn, 1) := by decide +kernel
theorem dX7_tapeAt_0 : decode cX7_tapeAt 0 = .ok (.iload_n 1, 1) := by decide +kernel
theorem dX7_tapeAt_1 : decode cX7_tapeAt 1 = .ok (.ifCond .lt 21, 3) := by decide +kernel
theorem dX7_tapeAt_4 : decode cX7_tapeAt 4 = .ok (.iload_n 1, 1) := by decide +kernel
theorem dX7_tapeAt_5 : decode cX7_tapeAt 5 = .ok (.aload_n 0, 1) := by decide +kernel
theorem dX7_tapeAt_6 : decode cX7_tapeAt 6 = .ok (.getfield 66, 3) := by decide +kernel
theorem dX7_tapeAt_9 : decode cX7_tapeAt 9 = .ok (.arraylength, 1) := by decide +kernel
theorem dX7_tapeAt_10 : decode cX7_tapeAt 10 = .ok (.if_icmp .ge 12, 3) := by decide +kernel
theorem dX7_tapeAt_13 : decode cX7_tapeAt 13 = .ok (.aload_n 0, 1) := by decide +kernel
theorem dX7_tapeAt_14 : decode cX7_tapeAt 14 = .ok (.getfield 66, 3) := by decide +kernel
theorem dX7_tapeAt_17 : decode cX7_tapeAt 17 = .ok (.iload_n 1, 1) := by decide +kernel
theorem dX7_tapeAt_18 : decode cX7_tapeAt 18 = .ok (.aaload, 1) := by decide +kernel
theorem dX7_tapeAt_19 : decode cX7_tapeAt 19 = .ok (.goto 4, 3) := by decide +kernel
theorem dX7_tapeAt_22 : decode cX7_tapeAt 22 = .ok (.aconst_null, 1) := by decide +kernel
theorem dX7_tapeAt_23 : decode cX7_tapeAt 23 = .ok (.areturn, 1) := by decide +kernel
theorem dX7_within_0 : decode cX7_within 0 = .ok (.iload_n 0, 1) := by decide +kernel
theorem dX7_within_1 : decode cX7_within 1 = .ok (.ifCond .lt 12, 3) := by decide +kernel
theorem dX7_within_4 : decode cX7_within 4 = .ok (.iload_n 0, 1) := by decide +kernel
theorem dX7_within_5 : decode cX7_within 5 = .ok (.iload_n 1, 1) := by decide +kernel
theorem dX7_within_6 : decode cX7_within 6 = .ok (.if_icmp .gt 7, 3) := by decide +kernel
theorem dX7_within_9 : decode cX7_within 9 = .ok (.iconst 1, 1) := by decide +kernel
theorem dX7_within_10 : decode cX7_within 10 = .ok (.goto 4, 3) := by decide +kernel
theorem dX7_within_13 : decode cX7_within 13 = .ok (.iconst 0, 1) := by decide +kernel
theorem dX7_within_14 : decode cX7_within 14 = .ok (.ireturn, 1) := by decide +kernel
theorem dX7_at_0 : decode cX7_at 0 = .ok (.iload_n 1, 1) := by decide +kernel
theorem dX7_at_1 : decode cX7_at 1 = .ok (.ifCond .lt 15, 3) := by decide +kernel
theorem dX7_at_4 : decode cX7_at 4 = .ok (.iload_n 1, 1) := by decide +kernel
theorem dX7_at_5 : decode cX7_at 5 = .ok (.aload_n 0, 1) := by decide +kernel
theorem dX7_at_6 : decode cX7_at 6 = .ok (.arraylength, 1) := by decide +kernel
theorem dX7_at_7 : decode cX7_at 7 = .ok (.if_icmp .ge 9, 3) := by decide +kernel
theorem dX7_at_10 : decode cX7_at 10 = .ok (.aload_n 0, 1) := by decide +kernel
theorem dX7_at_11 : decode cX7_at 11 = .ok (.iload_n 1, 1) := by decide +kernel
theorem dX7_at_12 : decode cX7_at 12 = .ok (.iaload, 1) := by decide +kernel
theorem dX7_at_13 : decode cX7_at 13 = .ok (.goto 4, 3) := by decide +kernel
theorem dX7_at_16 : decode cX7_at 16 = .ok (.iconst 0, 1) := by decide +kernel
theorem dX7_at_17 : decode cX7_at 17 = .ok (.ireturn, 1) := by decide +kernel
theorem dX7_put_0 : decode cX7_put 0 = .ok (.iload_n 1, 1) := by decide +kernel
theorem dX7_put_1 : decode cX7_put 1 = .ok (.ifCond .lt 13, 3) := by decide +kernel
theorem dX7_put_4 : decode cX7_put 4 = .ok (.iload_n 1, 1) := by decide +kernel
theorem dX7_put_5 : decode cX7_put 5 = .ok (.aload_n 0, 1) := by decide +kernel
theorem dX7_put_6 : decode cX7_put 6 = .ok (.arraylength, 1) := by decide +kernel
theorem dX7_put_7 : decode cX7_put 7 = .ok (.if_icmp .ge 7, 3) := by decide +kernel
theorem dX7_put_10 : decode cX7_put 10 = .ok (.aload_n 0, 1) := by decide +kernel
theorem dX7_put_11 : decode cX7_put 11 = .ok (.iload_n 1, 1) := by decide +kernel
theorem dX7_put_12 : decode cX7_put 12 = .ok (.iload_n 2, 1) := by decide +kernel
theorem dX7_put_13 : decode cX7_put 13 = .ok (.iastore, 1) := by decide +kernel
theorem dX7_put_14 : decode cX7_put 14 = .ok (.return_, 1) := by decide +kernel
theorem dX7_copyRow_0 : decode cX7_copyRow 0 = .ok (.aload_n 0, 1) := by decide +kernel
theorem dX7_copyRow_1 : decode cX7_copyRow 1 = .ok (.iconst 0, 1) := by decide +kernel
theorem dX7_copyRow_2 : decode cX7_copyRow 2 = .ok (.aload_n 1, 1) := by decide +kernel
theorem dX7_copyRow_3 : decode cX7_copyRow 3 = .ok (.iconst 0, 1) := by decide +kernel
theorem dX7_copyRow_4 : decode cX7_copyRow 4 = .ok (.aload_n 0, 1) := by decide +kernel
theorem dX7_copyRow_5 : decode cX7_copyRow 5 = .ok (.arraylength, 1) := by decide +kernel
theorem dX7_copyRow_6 : decode cX7_copyRow 6 = .ok (.aload_n 1, 1) := by decide +kernel
theorem dX7_copyRow_7 : decode cX7_copyRow 7 = .ok (.arraylength, 1) := by decide +kernel
theorem dX7_copyRow_8 : decode cX7_copyRow 8 = .ok (.invokestatic 277, 3) := by decide +kernel
theorem dX7_copyRow_11 : decode cX7_copyRow 11 = .ok (.invokestatic 299, 3) := by decide +kernel
theorem dX7_copyRow_14 : decode cX7_copyRow 14 = .ok (.return_, 1) := by decide +kernel
theorem dX8_init_0 : decode cX8_init 0 = .ok (.aload_n 0, 1) := by decide +kernel
theorem dX8_init_1 : decode cX8_init 1 = .ok (.invokespecial 3, 3) := by decide +kernel
theorem dX8_init_4 : decode cX8_init 4 = .ok (.aload_n 0, 1) := by decide +kernel
theorem dX8_init_5 : decode cX8_init 5 = .ok (.invokestatic 9, 3) := by decide +kernel
theorem dX8_init_8 : decode cX8_init 8 = .ok (.putfield 15, 3) := by decide +kernel
theorem dX8_init_11 : decode cX8_init 11 = .ok (.aload_n 0, 1) := by decide +kernel
theorem dX8_init_12 : decode cX8_init 12 = .ok (.sipush 218, 3) := by decide +kernel
theorem dX8_init_15 : decode cX8_init 15 = .ok (.newarray .int, 2) := by decide +kernel
theorem dX8_init_17 : decode cX8_init 17 = .ok (.putfield 19, 3) := by decide +kernel
theorem dX8_init_20 : decode cX8_init 20 = .ok (.aload_n 0, 1) := by decide +kernel
theorem dX8_init_21 : decode cX8_init 21 = .ok (.bipush 109, 2) := by decide +kernel
theorem dX8_init_23 : decode cX8_init 23 = .ok (.newarray .int, 2) := by decide +kernel
theorem dX8_init_25 : decode cX8_init 25 = .ok (.putfield 22, 3) := by decide +kernel
theorem dX8_init_28 : decode cX8_init 28 = .ok (.aload_n 0, 1) := by decide +kernel
theorem dX8_init_29 : decode cX8_init 29 = .ok (.bipush 100, 2) := by decide +kernel
theorem dX8_init_31 : decode cX8_init 31 = .ok (.newarray .int, 2) := by decide +kernel
theorem dX8_init_33 : decode cX8_init 33 = .ok (.putfield 25, 3) := by decide +kernel
theorem dX8_init_36 : decode cX8_init 36 = .ok (.aload_n 0, 1) := by decide +kernel
theorem dX8_init_37 : decode cX8_init 37 = .ok (.sipush 600, 3) := by decide +kernel
theorem dX8_init_40 : decode cX8_init 40 = .ok (.newarray .int, 2) := by decide +kernel
theorem dX8_init_42 : decode cX8_init 42 = .ok (.putfield 28, 3) := by decide +kernel
theorem dX8_init_45 : decode cX8_init 45 = .ok (.aload_n 0, 1) := by decide +kernel
theorem dX8_init_46 : decode cX8_init 46 = .ok (.bipush 6, 2) := by decide +kernel
theorem dX8_init_48 : decode cX8_init 48 = .ok (.newarray .int, 2) := by decide +kernel
theorem dX8_init_50 : decode cX8_init 50 = .ok (.putfield 31, 3) := by decide +kernel
theorem dX8_init_53 : decode cX8_init 53 = .ok (.aload_n 0, 1) := by decide +kernel
theorem dX8_init_54 : decode cX8_init 54 = .ok (.bipush 100, 2) := by decide +kernel
theorem dX8_init_56 : decode cX8_init 56 = .ok (.newarray .int, 2) := by decide +kernel
theorem dX8_init_58 : decode cX8_init 58 = .ok (.putfield 34, 3) := by decide +kernel
theorem dX8_init_61 : decode cX8_init 61 = .ok (.aload_n 0, 1) := by decide +kernel
theorem dX8_init_62 : decode cX8_init 62 = .ok (.bipush 6, 2) := by decide +kernel
theorem dX8_init_64 : decode cX8_init 64 = .ok (.newarray .int, 2) := by decide +kernel
theorem dX8_init_66 : decode cX8_init 66 = .ok (.putfield 37, 3) := by decide +kernel
theorem dX8_init_69 : decode cX8_init 69 = .ok (.aload_n 0, 1) := by decide +kernel
theorem dX8_init_70 : decode cX8_init 70 = .ok (.bipush 6, 2) := by decide +kernel
theorem dX8_init_72 : decode cX8_init 72 = .ok (.newarray .char, 2) := by decide +kernel
theorem dX8_init_74 : decode cX8_init 74 = .ok (.dup, 1) := by decide +kernel
theorem dX8_init_75 : decode cX8_init 75 = .ok (.iconst 0, 1) := by decide +kernel
theorem dX8_init_76 : decode cX8_init 76 = .ok (.bipush 112, 2) := by decide +kernel
theorem dX8_init_78 : decode cX8_init 78 = .ok (.castore, 1) := by decide +kernel
theorem dX8_init_79 : decode cX8_init 79 = .ok (.dup, 1) := by decide +kernel
theorem dX8_init_80 : decode cX8_init 80 = .ok (.iconst 1, 1) := by decide +kernel
theorem dX8_init_81 : decode cX8_init 81 = .ok (.bipush 107, 2) := by decide +kernel
theorem dX8_init_83 : decode cX8_init 83 = .ok (.castore, 1) := by decide +kernel
theorem dX8_init_84 : decode cX8_init 84 = .ok (.dup, 1) := by decide +kernel
theorem dX8_init_85 : decode cX8_init 85 = .ok (.iconst 2, 1) := by decide +kernel
theorem dX8_init_86 : decode cX8_init 86 = .ok (.bipush 118, 2) := by decide +kernel
theorem dX8_init_88 : decode cX8_init 88 = .ok (.castore, 1) := by decide +kernel
theorem dX8_init_89 : decode cX8_init 89 = .ok (.dup, 1) := by decide +kernel
theorem dX8_init_90 : decode cX8_init 90 = .ok (.iconst 3, 1) := by decide +kernel
theorem dX8_init_91 : decode cX8_init 91 = .ok (.bipush 108, 2) := by decide +kernel
theorem dX8_init_93 : decode cX8_init 93 = .ok (.castore, 1) := by decide +kernel
theorem dX8_init_94 : decode cX8_init 94 = .ok (.dup, 1) := by decide +kernel
theorem dX8_init_95 : decode cX8_init 95 = .ok (.iconst 4, 1) := by decide +kernel
theorem dX8_init_96 : decode cX8_init 96 = .ok (.bipush 121, 2) := by decide +kernel
theorem dX8_init_98 : decode cX8_init 98 = .ok (.castore, 1) := by decide +kernel
theorem dX8_init_99 : decode cX8_init 99 = .ok (.dup, 1) := by decide +kernel
theorem dX8_init_100 : decode cX8_init 100 = .ok (.iconst 5, 1) := by decide +kernel
theorem dX8_init_101 : decode cX8_init 101 = .ok (.bipush 100, 2) := by decide +kernel
theorem dX8_init_103 : decode cX8_init 103 = .ok (.castore, 1) := by decide +kernel
theorem dX8_init_104 : decode cX8_init 104 = .ok (.putfield 40, 3) := by decide +kernel
theorem dX8_init_107 : decode cX8_init 107 = .ok (.aload_n 0, 1) := by decide +kernel
theorem dX8_init_108 : decode cX8_init 108 = .ok (.iconst 3, 1) := by decide +kernel
theorem dX8_init_109 : decode cX8_init 109 = .ok (.newarray .char, 2) := by decide +kernel
theorem dX8_init_111 : decode cX8_init 111 = .ok (.dup, 1) := by decide +kernel
theorem dX8_init_112 : decode cX8_init 112 = .ok (.iconst 0, 1) := by decide +kernel
theorem dX8_init_113 : decode cX8_init 113 = .ok (.bipush 109, 2) := by decide +kernel
theorem dX8_init_115 : decode cX8_init 115 = .ok (.castore, 1) := by decide +kernel
theorem dX8_init_116 : decode cX8_init 116 = .ok (.dup, 1) := by decide +kernel
theorem dX8_init_117 : decode cX8_init 117 = .ok (.iconst 1, 1) := by decide +kernel
theorem dX8_init_118 : decode cX8_init 118 = .ok (.bipush 108, 2) := by decide +kernel
theorem dX8_init_120 : decode cX8_init 120 = .ok (.castore, 1) := by decide +kernel
theorem dX8_init_121 : decode cX8_init 121 = .ok (.dup, 1) := by decide +kernel
theorem dX8_init_122 : decode cX8_init 122 = .ok (.iconst 2, 1) := by decide +kernel
theorem dX8_init_123 : decode cX8_init 123 = .ok (.bipush 121, 2) := by decide +kernel
theorem dX8_init_125 : decode cX8_init 125 = .ok (.castore, 1) := by decide +kernel
theorem dX8_init_126 : decode cX8_init 126 = .ok (.putfield 44, 3) := by decide +kernel
theorem dX8_init_129 : decode cX8_init 129 = .ok (.aload_n 0, 1) := by decide +kernel
theorem dX8_init_130 : decode cX8_init 130 = .ok (.bipush 15, 2) := by decide +kernel
theorem dX8_init_132 : decode cX8_init 132 = .ok (.newarray .char, 2) := by decide +kernel
theorem dX8_init_134 : decode cX8_init 134 = .ok (.dup, 1) := by decide +kernel
theorem dX8_init_135 : decode cX8_init 135 = .ok (.iconst 0, 1) := by decide +kernel
theorem dX8_init_136 : decode cX8_init 136 = .ok (.bipush 109, 2) := by decide +kernel
theorem dX8_init_138 : decode cX8_init 138 = .ok (.castore, 1) := by decide +kernel
theorem dX8_init_139 : decode cX8_init 139 = .ok (.dup, 1) := by decide +kernel
theorem dX8_init_140 : decode cX8_init 140 = .ok (.iconst 1, 1) := by decide +kernel
theorem dX8_init_141 : decode cX8_init 141 = .ok (.bipush 111, 2) := by decide +kernel
theorem dX8_init_143 : decode cX8_init 143 = .ok (.castore, 1) := by decide +kernel
theorem dX8_init_144 : decode cX8_init 144 = .ok (.dup, 1) := by decide +kernel
theorem dX8_init_145 : decode cX8_init 145 = .ok (.iconst 2, 1) := by decide +kernel
theorem dX8_init_146 : decode cX8_init 146 = .ok (.bipush 114, 2) := by decide +kernel
theorem dX8_init_148 : decode cX8_init 148 = .ok (.castore, 1) := by decide +kernel
theorem dX8_init_149 : decode cX8_init 149 = .ok (.dup, 1) := by decide +kernel
theorem dX8_init_150 : decode cX8_init 150 = .ok (.iconst 3, 1) := by decide +kernel
theorem dX8_init_151 : decode cX8_init 151 = .ok (.bipush 101, 2) := by decide +kernel
theorem dX8_init_153 : decode cX8_init 153 = .ok (.castore, 1) := by decide +kernel
theorem dX8_init_154 : decode cX8_init 154 = .ok (.dup, 1) := by decide +kernel
theorem dX8_init_155 : decode cX8_init 155 = .ok (.iconst 4, 1) := by decide +kernel
theorem dX8_init_156 : decode cX8_init 156 = .ok (.iconst 0, 1) := by decide +kernel
theorem dX8_init_157 : decode cX8_init 157 = .ok (.castore, 1) := by decide +kernel
theorem dX8_init_158 : decode cX8_init 158 = .ok (.dup, 1) := by decide +kernel
theorem dX8_init_159 : decode cX8_init 159 = .ok (.iconst 5, 1) := by decide +kernel
theorem dX8_init_160 : decode cX8_init 160 = .ok (.bipush 108, 2) := by decide +kernel
theorem dX8_init_162 : decode cX8_init 162 = .ok (.castore, 1) := by decide +kernel
theorem dX8_init_163 : decode cX8_init 163 = .ok (.dup, 1) := by decide +kernel
theorem dX8_init_164 : decode cX8_init 164 = .ok (.bipush 6, 2) := by decide +kernel
theorem dX8_init_166 : decode cX8_init 166 = .ok (.bipush 101, 2) := by decide +kernel
theorem dX8_init_168 : decode cX8_init 168 = .ok (.castore, 1) := by decide +kernel
theorem dX8_init_169 : decode cX8_init 169 = .ok (.dup, 1) := by decide +kernel
theorem dX8_init_170 : decode cX8_init 170 = .ok (.bipush 7, 2) := by decide +kernel
theorem dX8_init_172 : decode cX8_init 172 = .ok (.bipush 115, 2) := by decide +kernel
theorem dX8_init_174 : decode cX8_init 174 = .ok (.castore, 1) := by decide +kernel
theorem dX8_init_175 : decode cX8_init 175 = .ok (.dup, 1) := by decide +kernel
theorem dX8_init_176 : decode cX8_init 176 = .ok (.bipush 8, 2) := by decide +kernel
theorem dX8_init_178 : decode cX8_init 178 = .ok (.bipush 115, 2) := by decide +kernel
theorem dX8_init_180 : decode cX8_init 180 = .ok (.castore, 1) := by decide +kernel
theorem dX8_init_181 : decode cX8_init 181 = .ok (.dup, 1) := by decide +kernel
theorem dX8_init_182 : decode cX8_init 182 = .ok (.bipush 9, 2) := by decide +kernel
theorem dX8_init_184 : decode cX8_init 184 = .ok (.iconst 0, 1) := by decide +kernel
theorem dX8_init_185 : decode cX8_init 185 = .ok (.castore, 1) := by decide +kernel
theorem dX8_init_186 : decode cX8_init 186 = .ok (.dup, 1) := by decide +kernel
theorem dX8_init_187 : decode cX8_init 187 = .ok (.bipush 10, 2) := by decide +kernel
theorem dX8_init_189 : decode cX8_init 189 = .ok (.bipush 121, 2) := by decide +kernel
theorem dX8_init_191 : decode cX8_init 191 = .ok (.castore, 1) := by decide +kernel
theorem dX8_init_192 : decode cX8_init 192 = .ok (.dup, 1) := by decide +kernel
theorem dX8_init_193 : decode cX8_init 193 = .ok (.bipush 11, 2) := by decide +kernel
theorem dX8_init_195 : decode cX8_init 195 = .ok (.bipush 97, 2) := by decide +kernel
theorem dX8_init_197 : decode cX8_init 197 = .ok (.castore, 1) := by decide +kernel
theorem dX8_init_198 : decode cX8_init 198 = .ok (.dup, 1) := by decide +kernel
theorem dX8_init_199 : decode cX8_init 199 = .ok (.bipush 12, 2) := by decide +kernel
theorem dX8_init_201 : decode cX8_init 201 = .ok (.bipush 114, 2) := by decide +kernel
theorem dX8_init_203 : decode cX8_init 203 = .ok (.castore, 1) := by decide +kernel
theorem dX8_init_204 : decode cX8_init 204 = .ok (.dup, 1) := by decide +kernel
theorem dX8_init_205 : decode cX8_init 205 = .ok (.bipush 13, 2) := by decide +kernel
theorem dX8_init_207 : decode cX8_init 207 = .ok (.bipush 100, 2) := by decide +kernel
theorem dX8_init_209 : decode cX8_init 209 = .ok (.castore, 1) := by decide +kernel
theorem dX8_init_210 : decode cX8_init 210 = .ok (.dup, 1) := by decide +kernel
theorem dX8_init_211 : decode cX8_init 211 = .ok (.bipush 14, 2) := by decide +kernel
theorem dX8_init_213 : decode cX8_init 213 = .ok (.iconst 0, 1) := by decide +kernel
theorem dX8_init_214 : decode cX8_init 214 = .ok (.castore, 1) := by decide +kernel
theorem dX8_init_215 : decode cX8_init 215 = .ok (.putfield 47, 3) := by decide +kernel
theorem dX8_init_218 : decode cX8_init 218 = .ok (.aload_n 0, 1) := by decide +kernel
theorem dX8_init_219 : decode cX8_init 219 = .ok (.bipush 6, 2) := by decide +kernel
theorem dX8_init_221 : decode cX8_init 221 = .ok (.newarray .int, 2) := by decide +kernel
theorem dX8_init_223 : decode cX8_init 223 = .ok (.putfield 50, 3) := by decide +kernel
theorem dX8_init_226 : decode cX8_init 226 = .ok (.aload_n 0, 1) := by decide +kernel
theorem dX8_init_227 : decode cX8_init 227 = .ok (.bipush 6, 2) := by decide +kernel
theorem dX8_init_229 : decode cX8_init 229 = .ok (.newarray .int, 2) := by decide +kernel
theorem dX8_init_231 : decode cX8_init 231 = .ok (.putfield 53, 3) := by decide +kernel
theorem dX8_init_234 : decode cX8_init 234 = .ok (.aload_n 0, 1) := by decide +kernel
theorem dX8_init_235 : decode cX8_init 235 = .ok (.bipush 6, 2) := by decide +kernel
theorem dX8_init_237 : decode cX8_init 237 = .ok (.newarray .int, 2) := by decide +kernel
theorem dX8_init_239 : decode cX8_init 239 = .ok (.putfield 56, 3) := by decide +kernel
theorem dX8_init_242 : decode cX8_init 242 = .ok (.aload_n 0, 1) := by decide +kernel
theorem dX8_init_243 : decode cX8_init 243 = .ok (.bipush 7, 2) := by decide +kernel
theorem dX8_init_245 : decode cX8_init 245 = .ok (.newarray .int, 2) := by decide +kernel
theorem dX8_init_247 : decode cX8_init 247 = .ok (.dup, 1) := by decide +kernel
theorem dX8_init_248 : decode cX8_init 248 = .ok (.iconst 0, 1) := by decide +kernel
theorem dX8_init_249 : decode cX8_init 249 = .ok (.iconst (-1), 1) := by decide +kernel
theorem dX8_init_250 : decode cX8_init 250 = .ok (.iastore, 1) := by decide +kernel
theorem dX8_init_251 : decode cX8_init 251 = .ok (.dup, 1) := by decide +kernel
theorem dX8_init_252 : decode cX8_init 252 = .ok (.iconst 1, 1) := by decide +kernel
theorem dX8_init_253 : decode cX8_init 253 = .ok (.iconst 0, 1) := by decide +kernel
theorem dX8_init_254 : decode cX8_init 254 = .ok (.iastore, 1) := by decide +kernel
theorem dX8_init_255 : decode cX8_init 255 = .ok (.dup, 1) := by decide +kernel
theorem dX8_init_256 : decode cX8_init 256 = .ok (.iconst 2, 1) := by decide +kernel
theorem dX8_init_257 : decode cX8_init 257 = .ok (.iconst 0, 1) := by decide +kernel
theorem dX8_init_258 : decode cX8_init 258 = .ok (.iastore, 1) := by decide +kernel
theorem dX8_init_259 : decode cX8_init 259 = .ok (.dup, 1) := by decide +kernel
theorem dX8_init_260 : decode cX8_init 260 = .ok (.iconst 3, 1) := by decide +kernel
theorem dX8_init_261 : decode cX8_init 261 = .ok (.iconst 0, 1) := by decide +kernel
theorem dX8_init_262 : decode cX8_init 262 = .ok (.iastore, 1) := by decide +kernel
theorem dX8_init_263 : decode cX8_init 263 = .ok (.dup, 1) := by decide +kernel
theorem dX8_init_264 : decode cX8_init 264 = .ok (.iconst 4, 1) := by decide +kernel
theorem dX8_init_265 : decode cX8_init 265 = .ok (.iconst 1, 1) := by decide +kernel
theorem dX8_init_266 : decode cX8_init 266 = .ok (.iastore, 1) := by decide +kernel
theorem dX8_init_267 : decode cX8_init 267 = .ok (.dup, 1) := by decide +kernel
theorem dX8_init_268 : decode cX8_init 268 = .ok (.iconst 5, 1) := by decide +kernel
theorem dX8_init_269 : decode cX8_init 269 = .ok (.iconst 2, 1) := by decide +kernel
theorem dX8_init_270 : decode cX8_init 270 = .ok (.iastore, 1) := by decide +kernel
theorem dX8_init_271 : decode cX8_init 271 = .ok (.dup, 1) := by decide +kernel
theorem dX8_init_272 : decode cX8_init 272 = .ok (.bipush 6, 2) := by decide +kernel
theorem dX8_init_274 : decode cX8_init 274 = .ok (.iconst 3, 1) := by decide +kernel
theorem dX8_init_275 : decode cX8_init 275 = .ok (.iastore, 1) := by decide +kernel
theorem dX8_init_276 : decode cX8_init 276 = .ok (.putfield 59, 3) := by decide +kernel
theorem dX8_init_279 : decode cX8_init 279 = .ok (.aload_n 0, 1) := by decide +kernel
theorem dX8_init_280 : decode cX8_init 280 = .ok (.bipush 21, 2) := by decide +kernel
theorem dX8_init_282 : decode cX8_init 282 = .ok (.newarray .int, 2) := by decide +kernel
theorem dX8_init_284 : decode cX8_init 284 = .ok (.dup, 1) := by decide +kernel
theorem dX8_init_285 : decode cX8_init 285 = .ok (.iconst 0, 1) := by decide +kernel
theorem dX8_init_286 : decode cX8_init 286 = .ok (.bipush 10, 2) := by decide +kernel
theorem dX8_init_288 : decode cX8_init 288 = .ok (.iastore, 1) := by decide +kernel
theorem dX8_init_289 : decode cX8_init 289 = .ok (.dup, 1) := by decide +kernel
theorem dX8_init_290 : decode cX8_init 290 = .ok (.iconst 1, 1) := by decide +kernel
theorem dX8_init_291 : decode cX8_init 291 = .ok (.bipush 11, 2) := by decide +kernel
theorem dX8_init_293 : decode cX8_init 293 = .ok (.iastore, 1) := by decide +kernel
theorem dX8_init_294 : decode cX8_init 294 = .ok (.dup, 1) := by decide +kernel
theorem dX8_init_295 : decode cX8_init 295 = .ok (.iconst 2, 1) := by decide +kernel
theorem dX8_init_296 : decode cX8_init 296 = .ok (.bipush 12, 2) := by decide +kernel
theorem dX8_init_298 : decode cX8_init 298 = .ok (.iastore, 1) := by decide +kernel
theorem dX8_init_299 : decode cX8_init 299 = .ok (.dup, 1) := by decide +kernel
theorem dX8_init_300 : decode cX8_init 300 = .ok (.iconst 3, 1) := by decide +kernel
theorem dX8_init_301 : decode cX8_init 301 = .ok (.iconst 0, 1) := by decide +kernel
theorem dX8_init_302 : decode cX8_init 302 = .ok (.iastore, 1) := by decide +kernel
theorem dX8_init_303 : decode cX8_init 303 = .ok (.dup, 1) := by decide +kernel
theorem dX8_init_304 : decode cX8_init 304 = .ok (.iconst 4, 1) := by decide +kernel
theorem dX8_init_305 : decode cX8_init 305 = .ok (.bipush 20, 2) := by decide +kernel
theorem dX8_init_307 : decode cX8_init 307 = .ok (.iastore, 1) := by decide +kernel
theorem dX8_init_308 : decode cX8_init 308 = .ok (.dup, 1) := by decide +kernel
theorem dX8_init_309 : decode cX8_init 309 = .ok (.iconst 5, 1) := by decide +kernel
theorem dX8_init_310 : decode cX8_init 310 = .ok (.iconst 0, 1) := by decide +kernel
theorem dX8_init_311 : decode cX8_init 311 = .ok (.iastore, 1) := by decide +kernel
theorem dX8_init_312 : decode cX8_init 312 = .ok (.dup, 1) := by decide +kernel
theorem dX8_init_313 : decode cX8_init 313 = .ok (.bipush 6, 2) := by decide +kernel
theorem dX8_init_315 : decode cX8_init 315 = .ok (.bipush 30, 2) := by decide +kernel
theorem dX8_init_317 : decode cX8_init 317 = .ok (.iastore, 1) := by decide +kernel
theorem dX8_init_318 : decode cX8_init 318 = .ok (.dup, 1) := by decide +kernel
theorem dX8_init_319 : decode cX8_init 319 = .ok (.bipush 7, 2) := by decide +kernel
theorem dX8_init_321 : decode cX8_init 321 = .ok (.iconst 0, 1) := by decide +kernel
theorem dX8_init_322 : decode cX8_init 322 = .ok (.iastore, 1) := by decide +kernel
theorem dX8_init_323 : decode cX8_init 323 = .ok (.dup, 1) := by decide +kernel
theorem dX8_init_324 : decode cX8_init 324 = .ok (.bipush 8, 2) := by decide +kernel
theorem dX8_init_326 : decode cX8_init 326 = .ok (.iconst 0, 1) := by decide +kernel
theorem dX8_init_327 : decode cX8_init 327 = .ok (.iastore, 1) := by decide +kernel
theorem dX8_init_328 : decode cX8_init 328 = .ok (.dup, 1) := by decide +kernel
theorem dX8_init_329 : decode cX8_init 329 = .ok (.bipush 9, 2) := by decide +kernel
theorem dX8_init_331 : decode cX8_init 331 = .ok (.iconst 0, 1) := by decide +kernel
theorem dX8_init_332 : decode cX8_init 332 = .ok (.iastore, 1) := by decide +kernel
theorem dX8_init_333 : decode cX8_init 333 = .ok (.dup, 1) := by decide +kernel
theorem dX8_init_334 : decode cX8_init 334 = .ok (.bipush 10, 2) := by decide +kernel
theorem dX8_init_336 : decode cX8_init 336 = .ok (.iconst 0, 1) := by decide +kernel
theorem dX8_init_337 : decode cX8_init 337 = .ok (.iastore, 1) := by decide +kernel
theorem dX8_init_338 : decode cX8_init 338 = .ok (.dup, 1) := by decide +kernel
theorem dX8_init_339 : decode cX8_init 339 = .ok (.bipush 11, 2) := by decide +kernel
theorem dX8_init_341 : decode cX8_init 341 = .ok (.bipush 40, 2) := by decide +kernel
theorem dX8_init_343 : decode cX8_init 343 = .ok (.iastore, 1) := by decide +kernel
theorem dX8_init_344 : decode cX8_init 344 = .ok (.dup, 1) := by decide +kernel
theorem dX8_init_345 : decode cX8_init 345 = .ok (.bipush 12, 2) := by decide +kernel
theorem dX8_init_347 : decode cX8_init 347 = .ok (.bipush 50, 2) := by decide +kernel
theorem dX8_init_349 : decode cX8_init 349 = .ok (.iastore, 1) := by decide +kernel
theorem dX8_init_350 : decode cX8_init 350 = .ok (.dup, 1) := by decide +kernel
theorem dX8_init_351 : decode cX8_init 351 = .ok (.bipush 13, 2) := by decide +kernel
theorem dX8_init_353 : decode cX8_init 353 = .ok (.bipush 51, 2) := by decide +kernel
theorem dX8_init_355 : decode cX8_init 355 = .ok (.iastore, 1) := by decide +kernel
theorem dX8_init_356 : decode cX8_init 356 = .ok (.dup, 1) := by decide +kernel
theorem dX8_init_357 : decode cX8_init 357 = .ok (.bipush 14, 2) := by decide +kernel
theorem dX8_init_359 : decode cX8_init 359 = .ok (.iconst 0, 1) := by decide +kernel
theorem dX8_init_360 : decode cX8_init 360 = .ok (.iastore, 1) := by decide +kernel
theorem dX8_init_361 : decode cX8_init 361 = .ok (.dup, 1) := by decide +kernel
theorem dX8_init_362 : decode cX8_init 362 = .ok (.bipush 15, 2) := by decide +kernel
theorem dX8_init_364 : decode cX8_init 364 = .ok (.iconst 0, 1) := by decide +kernel
theorem dX8_init_365 : decode cX8_init 365 = .ok (.iastore, 1) := by decide +kernel
theorem dX8_init_366 : decode cX8_init 366 = .ok (.dup, 1) := by decide +kernel
theorem dX8_init_367 : decode cX8_init 367 = .ok (.bipush 16, 2) := by decide +kernel
theorem dX8_init_369 : decode cX8_init 369 = .ok (.iconst 0, 1) := by decide +kernel
theorem dX8_init_370 : decode cX8_init 370 = .ok (.iastore, 1) := by decide +kernel
theorem dX8_init_371 : decode cX8_init 371 = .ok (.dup, 1) := by decide +kernel
theorem dX8_init_372 : decode cX8_init 372 = .ok (.bipush 17, 2) := by decide +kernel
theorem dX8_init_374 : decode cX8_init 374 = .ok (.bipush 60, 2) := by decide +kernel
theorem dX8_init_376 : decode cX8_init 376 = .ok (.iastore, 1) := by decide +kernel
theorem dX8_init_377 : decode cX8_init 377 = .ok (.dup, 1) := by decide +kernel
theorem dX8_init_378 : decode cX8_init 378 = .ok (.bipush 18, 2) := by decide +kernel
theorem dX8_init_380 : decode cX8_init 380 = .ok (.bipush 71, 2) := by decide +kernel
theorem dX8_init_382 : decode cX8_init 382 = .ok (.iastore, 1) := by decide +kernel
theorem dX8_init_383 : decode cX8_init 383 = .ok (.dup, 1) := by decide +kernel
theorem dX8_init_384 : decode cX8_init 384 = .ok (.bipush 19, 2) := by decide +kernel
theorem dX8_init_386 : decode cX8_init 386 = .ok (.bipush 70, 2) := by decide +kernel
theorem dX8_init_388 : decode cX8_init 388 = .ok (.iastore, 1) := by decide +kernel
theorem dX8_init_389 : decode cX8_init 389 = .ok (.dup, 1) := by decide +kernel
theorem dX8_init_390 : decode cX8_init 390 = .ok (.bipush 20, 2) := by decide +kernel
theorem dX8_init_392 : decode cX8_init 392 = .ok (.iconst 0, 1) := by decide +kernel
theorem dX8_init_393 : decode cX8_init 393 = .ok (.iastore, 1) := by decide +kernel
theorem dX8_init_394 : decode cX8_init 394 = .ok (.putfield 62, 3) := by decide +kernel
theorem dX8_init_397 : decode cX8_init 397 = .ok (.aload_n 0, 1) := by decide +kernel
theorem dX8_init_398 : decode cX8_init 398 = .ok (.bipush 20, 2) := by decide +kernel
theorem dX8_init_400 : decode cX8_init 400 = .ok (.newarray .int, 2) := by decide +kernel
theorem dX8_init_402 : decode cX8_init 402 = .ok (.putfield 65, 3) := by decide +kernel
theorem dX8_init_405 : decode cX8_init 405 = .ok (.aload_n 0, 1) := by decide +kernel
theorem dX8_init_406 : decode cX8_init 406 = .ok (.bipush 6, 2) := by decide +kernel
theorem dX8_init_408 : decode cX8_init 408 = .ok (.newarray .int, 2) := by decide +kernel
theorem dX8_init_410 : decode cX8_init 410 = .ok (.dup, 1) := by decide +kernel
theorem dX8_init_411 : decode cX8_init 411 = .ok (.iconst 0, 1) := by decide +kernel
theorem dX8_init_412 : decode cX8_init 412 = .ok (.iconst (-1), 1) := by decide +kernel
theorem dX8_init_413 : decode cX8_init 413 = .ok (.iastore, 1) := by decide +kernel
theorem dX8_init_414 : decode cX8_init 414 = .ok (.dup, 1) := by decide +kernel
theorem dX8_init_415 : decode cX8_init 415 = .ok (.iconst 1, 1) := by decide +kernel
theorem dX8_init_416 : decode cX8_init 416 = .ok (.iconst (-1), 1) := by decide +kernel
theorem dX8_init_417 : decode cX8_init 417 = .ok (.iastore, 1) := by decide +kernel
theorem dX8_init_418 : decode cX8_init 418 = .ok (.dup, 1) := by decide +kernel
theorem dX8_init_419 : decode cX8_init 419 = .ok (.iconst 2, 1) := by decide +kernel
theorem dX8_init_420 : decode cX8_init 420 = .ok (.iconst (-1), 1) := by decide +kernel
theorem dX8_init_421 : decode cX8_init 421 = .ok (.iastore, 1) := by decide +kernel
theorem dX8_init_422 : decode cX8_init 422 = .ok (.dup, 1) := by decide +kernel
theorem dX8_init_423 : decode cX8_init 423 = .ok (.iconst 3, 1) := by decide +kernel
theorem dX8_init_424 : decode cX8_init 424 = .ok (.iconst (-1), 1) := by decide +kernel
theorem dX8_init_425 : decode cX8_init 425 = .ok (.iastore, 1) := by decide +kernel
theorem dX8_init_426 : decode cX8_init 426 = .ok (.dup, 1) := by decide +kernel
theorem dX8_init_427 : decode cX8_init 427 = .ok (.iconst 4, 1) := by decide +kernel
theorem dX8_init_428 : decode cX8_init 428 = .ok (.iconst (-1), 1) := by decide +kernel
theorem dX8_init_429 : decode cX8_init 429 = .ok (.iastore, 1) := by decide +kernel
theorem dX8_init_430 : decode cX8_init 430 = .ok (.dup, 1) := by decide +kernel
theorem dX8_init_431 : decode cX8_init 431 = .ok (.iconst 5, 1) := by decide +kernel
theorem dX8_init_432 : decode cX8_init 432 = .ok (.iconst (-1), 1) := by decide +kernel
theorem dX8_init_433 : decode cX8_init 433 = .ok (.iastore, 1) := by decide +kernel
theorem dX8_init_434 : decode cX8_init 434 = .ok (.putfield 68, 3) := by decide +kernel
theorem dX8_init_437 : decode cX8_init 437 = .ok (.aload_n 0, 1) := by decide +kernel
theorem dX8_init_438 : decode cX8_init 438 = .ok (.bipush 6, 2) := by decide +kernel
theorem dX8_init_440 : decode cX8_init 440 = .ok (.newarray .int, 2) := by decide +kernel
theorem dX8_init_442 : decode cX8_init 442 = .ok (.putfield 71, 3) := by decide +kernel
theorem dX8_init_445 : decode cX8_init 445 = .ok (.aload_n 0, 1) := by decide +kernel
theorem dX8_init_446 : decode cX8_init 446 = .ok (.sipush 360, 3) := by decide +kernel
theorem dX8_init_449 : decode cX8_init 449 = .ok (.newarray .long, 2) := by decide +kernel
theorem dX8_init_451 : decode cX8_init 451 = .ok (.putfield 74, 3) := by decide +kernel
theorem dX8_init_454 : decode cX8_init 454 = .ok (.aload_n 0, 1) := by decide +kernel
theorem dX8_init_455 : decode cX8_init 455 = .ok (.bipush 60, 2) := by decide +kernel
theorem dX8_init_457 : decode cX8_init 457 = .ok (.newarray .long, 2) := by decide +kernel
theorem dX8_init_459 : decode cX8_init 459 = .ok (.putfield 78, 3) := by decide +kernel
theorem dX8_init_462 : decode cX8_init 462 = .ok (.return_, 1) := by decide +kernel
theorem dX8_isIn_0 : decode cX8_isIn 0 = .ok (.iload_n 0, 1) := by decide +kernel
theorem dX8_isIn_1 : decode cX8_isIn 1 = .ok (.iload_n 1, 1) := by decide +kernel
theorem dX8_isIn_2 : decode cX8_isIn 2 = .ok (.if_icmp .lt 12, 3) := by decide +kernel
theorem dX8_isIn_5 : decode cX8_isIn 5 = .ok (.iload_n 0, 1) := by decide +kernel
theorem dX8_isIn_6 : decode cX8_isIn 6 = .ok (.iload_n 2, 1) := by decide +kernel
theorem dX8_isIn_7 : decode cX8_isIn 7 = .ok (.if_icmp .gt 7, 3) := by decide +kernel
theorem dX8_isIn_10 : decode cX8_isIn 10 = .ok (.iconst 1, 1) := by decide +kernel
theorem dX8_isIn_11 : decode cX8_isIn 11 = .ok (.goto 4, 3) := by decide +kernel
theorem dX8_isIn_14 : decode cX8_isIn 14 = .ok (.iconst 0, 1) := by decide +kernel
theorem dX8_isIn_15 : decode cX8_isIn 15 = .ok (.ireturn, 1) := by decide +kernel
theorem dX8_fresh_0 : decode cX8_fresh 0 = .ok (.bipush 109, 2) := by decide +kernel
theorem dX8_fresh_2 : decode cX8_fresh 2 = .ok (.newarray .int, 2) := by decide +kernel
theorem dX8_fresh_4 : decode cX8_fresh 4 = .ok (.astore_n 0, 1) := by decide +kernel
theorem dX8_fresh_5 : decode cX8_fresh 5 = .ok (.aload_n 0, 1) := by decide +kernel
theorem dX8_fresh_6 : decode cX8_fresh 6 = .ok (.bipush 61, 2) := by decide +kernel
theorem dX8_fresh_8 : decode cX8_fresh 8 = .ok (.bipush 100, 2) := by decide +kernel
theorem dX8_fresh_10 : decode cX8_fresh 10 = .ok (.iastore, 1) := by decide +kernel
theorem dX8_fresh_11 : decode cX8_fresh 11 = .ok (.aload_n 0, 1) := by decide +kernel
theorem dX8_fresh_12 : decode cX8_fresh 12 = .ok (.areturn, 1) := by decide +kernel
theorem dX8_keep_0 : decode cX8_keep 0 = .ok (.iconst 0, 1) := by decide +kernel
theorem dX8_keep_1 : decode cX8_keep 1 = .ok (.istore_n 2, 1) := by decide +kernel
theorem dX8_keep_2 : decode cX8_keep 2 = .ok (.iload_n 2, 1) := by decide +kernel
theorem dX8_keep_3 : decode cX8_keep 3 = .ok (.bipush 109, 2) := by decide +kernel
theorem dX8_keep_5 : decode cX8_keep 5 = .ok (.if_icmp .ge 26, 3) := by decide +kernel
theorem dX8_keep_8 : decode cX8_keep 8 = .ok (.aload_n 0, 1) := by decide +kernel
theorem dX8_keep_9 : decode cX8_keep 9 = .ok (.getfield 19, 3) := by decide +kernel
theorem dX8_keep_12 : decode cX8_keep 12 = .ok (.bipush 109, 2) := by decide +kernel
theorem dX8_keep_14 : decode cX8_keep 14 = .ok (.iload_n 1, 1) := by decide +kernel
theorem dX8_keep_15 : decode cX8_keep 15 = .ok (.imul, 1) := by decide +kernel
theorem dX8_keep_16 : decode cX8_keep 16 = .ok (.iload_n 2, 1) := by decide +kernel
theorem dX8_keep_17 : decode cX8_keep 17 = .ok (.iadd, 1) := by decide +kernel
theorem dX8_keep_18 : decode cX8_keep 18 = .ok (.aload_n 0, 1) := by decide +kernel
theorem dX8_keep_19 : decode cX8_keep 19 = .ok (.getfield 15, 3) := by decide +kernel
theorem dX8_keep_22 : decode cX8_keep 22 = .ok (.iload_n 2, 1) := by decide +kernel
theorem dX8_keep_23 : decode cX8_keep 23 = .ok (.iaload, 1) := by decide +kernel
theorem dX8_keep_24 : decode cX8_keep 24 = .ok (.iastore, 1) := by decide +kernel
theorem dX8_keep_25 : decode cX8_keep 25 = .ok (.iinc 2 1, 3) := by decide +kernel
theorem dX8_keep_28 : decode cX8_keep 28 = .ok (.goto (-26), 3) := by decide +kernel
theorem dX8_keep_31 : decode cX8_keep 31 = .ok (.return_, 1) := by decide +kernel
theorem dX8_lay_0 : decode cX8_lay 0 = .ok (.iconst 0, 1) := by decide +kernel
theorem dX8_lay_1 : decode cX8_lay 1 = .ok (.istore_n 2, 1) := by decide +kernel
theorem dX8_lay_2 : decode cX8_lay 2 = .ok (.iload_n 2, 1) := by decide +kernel
theorem dX8_lay_3 : decode cX8_lay 3 = .ok (.bipush 109, 2) := by decide +kernel
theorem dX8_lay_5 : decode cX8_lay 5 = .ok (.if_icmp .ge 26, 3) := by decide +kernel
theorem dX8_lay_8 : decode cX8_lay 8 = .ok (.aload_n 0, 1) := by decide +kernel
theorem dX8_lay_9 : decode cX8_lay 9 = .ok (.getfield 15, 3) := by decide +kernel
theorem dX8_lay_12 : decode cX8_lay 12 = .ok (.iload_n 2, 1) := by decide +kernel
theorem dX8_lay_13 : decode cX8_lay 13 = .ok (.aload_n 0, 1) := by decide +kernel
theorem dX8_lay_14 : decode cX8_lay 14 = .ok (.getfield 19, 3) := by decide +kernel
theorem dX8_lay_17 : decode cX8_lay 17 = .ok (.bipush 109, 2) := by decide +kernel
theorem dX8_lay_19 : decode cX8_lay 19 = .ok (.iload_n 1, 1) := by decide +kernel
theorem dX8_lay_20 : decode cX8_lay 20 = .ok (.imul, 1) := by decide +kernel
theorem dX8_lay_21 : decode cX8_lay 21 = .ok (.iload_n 2, 1) := by decide +kernel
theorem dX8_lay_22 : decode cX8_lay 22 = .ok (.iadd, 1) := by decide +kernel
theorem dX8_lay_23 : decode cX8_lay 23 = .ok (.iaload, 1) := by decide +kernel
theorem dX8_lay_24 : decode cX8_lay 24 = .ok (.iastore, 1) := by decide +kernel
theorem dX8_lay_25 : decode cX8_lay 25 = .ok (.iinc 2 1, 3) := by decide +kernel
theorem dX8_lay_28 : decode cX8_lay 28 = .ok (.goto (-26), 3) := by decide +kernel
theorem dX8_lay_31 : decode cX8_lay 31 = .ok (.return_, 1) := by decide +kernel
theorem dX8_image_0 : decode cX8_image 0 = .ok (.aload_n 0, 1) := by decide +kernel
theorem dX8_image_1 : decode cX8_image 1 = .ok (.iconst 1, 1) := by decide +kernel
theorem dX8_image_2 : decode cX8_image 2 = .ok (.putfield 81, 3) := by decide +kernel
theorem dX8_image_5 : decode cX8_image 5 = .ok (.iconst 0, 1) := by decide +kernel
theorem dX8_image_6 : decode cX8_image 6 = .ok (.istore_n 1, 1) := by decide +kernel
theorem dX8_image_7 : decode cX8_image 7 = .ok (.iload_n 1, 1) := by decide +kernel
theorem dX8_image_8 : decode cX8_image 8 = .ok (.bipush 109, 2) := by decide +kernel
theorem dX8_image_10 : decode cX8_image 10 = .ok (.if_icmp .ge 21, 3) := by decide +kernel
theorem dX8_image_13 : decode cX8_image 13 = .ok (.aload_n 0, 1) := by decide +kernel
theorem dX8_image_14 : decode cX8_image 14 = .ok (.getfield 22, 3) := by decide +kernel
theorem dX8_image_17 : decode cX8_image 17 = .ok (.iload_n 1, 1) := by decide +kernel
theorem dX8_image_18 : decode cX8_image 18 = .ok (.aload_n 0, 1) := by decide +kernel
theorem dX8_image_19 : decode cX8_image 19 = .ok (.getfield 15, 3) := by decide +kernel
theorem dX8_image_22 : decode cX8_image 22 = .ok (.iload_n 1, 1) := by decide +kernel
theorem dX8_image_23 : decode cX8_image 23 = .ok (.iaload, 1) := by decide +kernel
theorem dX8_image_24 : decode cX8_image 24 = .ok (.iastore, 1) := by decide +kernel
theorem dX8_image_25 : decode cX8_image 25 = .ok (.iinc 1 1, 3) := by decide +kernel
theorem dX8_image_28 : decode cX8_image 28 = .ok (.goto (-21), 3) := by decide +kernel
theorem dX8_image_31 : decode cX8_image 31 = .ok (.aload_n 0, 1) := by decide +kernel
theorem dX8_image_32 : decode cX8_image 32 = .ok (.getfield 15, 3) := by decide +kernel
theorem dX8_image_35 : decode cX8_image 35 = .ok (.bipush 60, 2) := by decide +kernel
theorem dX8_image_37 : decode cX8_image 37 = .ok (.iaload, 1) := by decide +kernel
theorem dX8_image_38 : decode cX8_image 38 = .ok (.ireturn, 1) := by decide +kernel
theorem dX8_undo_0 : decode cX8_undo 0 = .ok (.aload_n 0, 1) := by decide +kernel
theorem dX8_undo_1 : decode cX8_undo 1 = .ok (.getfield 81, 3) := by decide +kernel
theorem dX8_undo_4 : decode cX8_undo 4 = .ok (.ifCond .ne 6, 3) := by decide +kernel
theorem dX8_undo_7 : decode cX8_undo 7 = .ok (.bipush (-3), 2) := by decide +kernel
theorem dX8_undo_9 : decode cX8_undo 9 = .ok (.ireturn, 1) := by decide +kernel
theorem dX8_undo_10 : decode cX8_undo 10 = .ok (.iconst 0, 1) := by decide +kernel
theorem dX8_undo_11 : decode cX8_undo 11 = .ok (.istore_n 1, 1) := by decide +kernel
theorem dX8_undo_12 : decode cX8_undo 12 = .ok (.iload_n 1, 1) := by decide +kernel
theorem dX8_undo_13 : decode cX8_undo 13 = .ok (.bipush 109, 2) := by decide +kernel
theorem dX8_undo_15 : decode cX8_undo 15 = .ok (.if_icmp .ge 21, 3) := by decide +kernel
theorem dX8_undo_18 : decode cX8_undo 18 = .ok (.aload_n 0, 1) := by decide +kernel
theorem dX8_undo_19 : decode cX8_undo 19 = .ok (.getfield 15, 3) := by decide +kernel
theorem dX8_undo_22 : decode cX8_undo 22 = .ok (.iload_n 1, 1) := by decide +kernel
theorem dX8_undo_23 : decode cX8_undo 23 = .ok (.aload_n 0, 1) := by decide +kernel
theorem dX8_undo_24 : decode cX8_undo 24 = .ok (.getfield 22, 3) := by decide +kernel
theorem dX8_undo_27 : decode cX8_undo 27 = .ok (.iload_n 1, 1) := by decide +kernel
theorem dX8_undo_28 : decode cX8_undo 28 = .ok (.iaload, 1) := by decide +kernel
theorem dX8_undo_29 : decode cX8_undo 29 = .ok (.iastore, 1) := by decide +kernel
theorem dX8_undo_30 : decode cX8_undo 30 = .ok (.iinc 1 1, 3) := by decide +kernel
theorem dX8_undo_33 : decode cX8_undo 33 = .ok (.goto (-21), 3) := by decide +kernel
theorem dX8_undo_36 : decode cX8_undo 36 = .ok (.aload_n 0, 1) := by decide +kernel
theorem dX8_undo_37 : decode cX8_undo 37 = .ok (.getfield 15, 3) := by decide +kernel
theorem dX8_undo_40 : decode cX8_undo 40 = .ok (.bipush 60, 2) := by decide +kernel
theorem dX8_undo_42 : decode cX8_undo 42 = .ok (.iaload, 1) := by decide +kernel
theorem dX8_undo_43 : decode cX8_undo 43 = .ok (.ireturn, 1) := by decide +kernel
theorem dX8_isOne_0 : decode cX8_isOne 0 = .ok (.iload_n 1, 1) := by decide +kernel
theorem dX8_isOne_1 : decode cX8_isOne 1 = .ok (.iconst 0, 1) := by decide +kernel
theorem dX8_isOne_2 : decode cX8_isOne 2 = .ok (.aload_n 0, 1) := by decide +kernel
theorem dX8_isOne_3 : decode cX8_isOne 3 = .ok (.getfield 15, 3) := by decide +kernel
theorem dX8_isOne_6 : decode cX8_isOne 6 = .ok (.bipush 60, 2) := by decide +kernel
theorem dX8_isOne_8 : decode cX8_isOne 8 = .ok (.iaload, 1) := by decide +kernel
theorem dX8_isOne_9 : decode cX8_isOne 9 = .ok (.iconst 1, 1) := by decide +kernel
theorem dX8_isOne_10 : decode cX8_isOne 10 = .ok (.isub, 1) := by decide +kernel
theorem dX8_isOne_11 : decode cX8_isOne 11 = .ok (.invokestatic 85, 3) := by decide +kernel
theorem dX8_isOne_14 : decode cX8_isOne 14 = .ok (.ireturn, 1) := by decide +kernel
theorem dX8_isYard_0 : decode cX8_isYard 0 = .ok (.iload_n 0, 1) := by decide +kernel
theorem dX8_isYard_1 : decode cX8_isYard 1 = .ok (.iconst 0, 1) := by decide +kernel
theorem dX8_isYard_2 : decode cX8_isYard 2 = .ok (.bipush 9, 2) := by decide +kernel
theorem dX8_isYard_4 : decode cX8_isYard 4 = .ok (.invokestatic 85, 3) := by decide +kernel
theorem dX8_isYard_7 : decode cX8_isYard 7 = .ok (.ireturn, 1) := by decide +kernel
theorem dX8_one_0 : decode cX8_one 0 = .ok (.aload_n 0, 1) := by decide +kernel
theorem dX8_one_1 : decode cX8_one 1 = .ok (.getfield 15, 3) := by decide +kernel
theorem dX8_one_4 : decode cX8_one 4 = .ok (.bipush 10, 2) := by decide +kernel
theorem dX8_one_6 : decode cX8_one 6 = .ok (.iload_n 1, 1) := by decide +kernel
theorem dX8_one_7 : decode cX8_one 7 = .ok (.imul, 1) := by decide +kernel
theorem dX8_one_8 : decode cX8_one 8 = .ok (.iload_n 2, 1) := by decide +kernel
theorem dX8_one_9 : decode cX8_one 9 = .ok (.iadd, 1) := by decide +kernel
theorem dX8_one_10 : decode cX8_one 10 = .ok (.iaload, 1) := by decide +kernel
theorem dX8_one_11 : decode cX8_one 11 = .ok (.ireturn, 1) := by decide +kernel
theorem dX8_change_0 : decode cX8_change 0 = .ok (.aload_n 0, 1) := by decide +kernel
theorem dX8_change_1 : decode cX8_change 1 = .ok (.iload_n 1, 1) := by decide +kernel
theorem dX8_change_2 : decode cX8_change 2 = .ok (.iload_n 2, 1) := by decide +kernel
theorem dX8_change_3 : decode cX8_change 3 = .ok (.invokevirtual 89, 3) := by decide +kernel
theorem dX8_change_6 : decode cX8_change 6 = .ok (.istore 4, 2) := by decide +kernel
theorem dX8_change_8 : decode cX8_change 8 = .ok (.aload_n 0, 1) := by decide +kernel
theorem dX8_change_9 : decode cX8_change 9 = .ok (.getfield 15, 3) := by decide +kernel
theorem dX8_change_12 : decode cX8_change 12 = .ok (.bipush 10, 2) := by decide +kernel
theorem dX8_change_14 : decode cX8_change 14 = .ok (.iload_n 1, 1) := by decide +kernel
theorem dX8_change_15 : decode cX8_change 15 = .ok (.imul, 1) := by decide +kernel
theorem dX8_change_16 : decode cX8_change 16 = .ok (.iload_n 2, 1) := by decide +kernel
theorem dX8_change_17 : decode cX8_change 17 = .ok (.iadd, 1) := by decide +kernel
theorem dX8_change_18 : decode cX8_change 18 = .ok (.iload_n 3, 1) := by decide +kernel
theorem dX8_change_19 : decode cX8_change 19 = .ok (.iastore, 1) := by decide +kernel
theorem dX8_change_20 : decode cX8_change 20 = .ok (.iload 4, 2) := by decide +kernel
theorem dX8_change_22 : decode cX8_change 22 = .ok (.ireturn, 1) := by decide +kernel
theorem dX8_isHere_0 : decode cX8_isHere 0 = .ok (.aload_n 0, 1) := by decide +kernel
theorem dX8_isHere_1 : decode cX8_isHere 1 = .ok (.iload_n 1, 1) := by decide +kernel
theorem dX8_isHere_2 : decode cX8_isHere 2 = .ok (.iconst 4, 1) := by decide +kernel
theorem dX8_isHere_3 : decode cX8_isHere 3 = .ok (.invokevirtual 89, 3) := by decide +kernel
theorem dX8_isHere_6 : decode cX8_isHere 6 = .ok (.ifCond .ne 7, 3) := by decide +kernel
theorem dX8_isHere_9 : decode cX8_isHere 9 = .ok (.iconst 1, 1) := by decide +kernel
theorem dX8_isHere_10 : decode cX8_isHere 10 = .ok (.goto 4, 3) := by decide +kernel
theorem dX8_isHere_13 : decode cX8_isHere 13 = .ok (.iconst 0, 1) := by decide +kernel
theorem dX8_isHere_14 : decode cX8_isHere 14 = .ok (.ireturn, 1) := by decide +kernel
theorem dX8_mourner_0 : decode cX8_mourner 0 = .ok (.iload_n 1, 1) := by decide +kernel
theorem dX8_mourner_1 : decode cX8_mourner 1 = .ok (.iconst 0, 1) := by decide +kernel
theorem dX8_mourner_2 : decode cX8_mourner 2 = .ok (.bipush 6, 2) := by decide +kernel
theorem dX8_mourner_4 : decode cX8_mourner 4 = .ok (.invokestatic 85, 3) := by decide +kernel
theorem dX8_mourner_7 : decode cX8_mourner 7 = .ok (.ifCond .eq 11, 3) := by decide +kernel
theorem dX8_mourner_10 : decode cX8_mourner 10 = .ok (.iload 4, 2) := by decide +kernel
theorem dX8_mourner_12 : decode cX8_mourner 12 = .ok (.invokestatic 93, 3) := by decide +kernel
theorem dX8_mourner_15 : decode cX8_mourner 15 = .ok (.ifCond .ne 5, 3) := by decide +kernel
theorem dX8_mourner_18 : decode cX8_mourner 18 = .ok (.iconst (-1), 1) := by decide +kernel
theorem dX8_mourner_19 : decode cX8_mourner 19 = .ok (.ireturn, 1) := by decide +kernel
theorem dX8_mourner_20 : decode cX8_mourner 20 = .ok (.iload_n 2, 1) := by decide +kernel
theorem dX8_mourner_21 : decode cX8_mourner 21 = .ok (.iconst 0, 1) := by decide +kernel
theorem dX8_mourner_22 : decode cX8_mourner 22 = .ok (.bipush 9, 2) := by decide +kernel
theorem dX8_mourner_24 : decode cX8_mourner 24 = .ok (.invokestatic 85, 3) := by decide +kernel
theorem dX8_mourner_27 : decode cX8_mourner 27 = .ok (.ifCond .eq 13, 3) := by decide +kernel
theorem dX8_mourner_30 : decode cX8_mourner 30 = .ok (.iload_n 3, 1) := by decide +kernel
theorem dX8_mourner_31 : decode cX8_mourner 31 = .ok (.iconst 0, 1) := by decide +kernel
theorem dX8_mourner_32 : decode cX8_mourner 32 = .ok (.bipush 20, 2) := by decide +kernel
theorem dX8_mourner_34 : decode cX8_mourner 34 = .ok (.invokestatic 85, 3) := by decide +kernel
theorem dX8_mourner_37 : decode cX8_mourner 37 = .ok (.ifCond .ne 6, 3) := by decide +kernel
theorem dX8_mourner_40 : decode cX8_mourner 40 = .ok (.bipush (-2), 2) := by decide +kernel
theorem dX8_mourner_42 : decode cX8_mourner 42 = .ok (.ireturn, 1) := by decide +kernel
theorem dX8_mourner_43 : decode cX8_mourner 43 = .ok (.aload_n 0, 1) := by decide +kernel
theorem dX8_mourner_44 : decode cX8_mourner 44 = .ok (.getfield 15, 3) := by decide +kernel
theorem dX8_mourner_47 : decode cX8_mourner 47 = .ok (.bipush 60, 2) := by decide +kernel
theorem dX8_mourner_49 : decode cX8_mourner 49 = .ok (.iaload, 1) := by decide +kernel
theorem dX8_mourner_50 : decode cX8_mourner 50 = .ok (.istore 5, 2) := by decide +kernel
theorem dX8_mourner_52 : decode cX8_mourner 52 = .ok (.iload 5, 2) := by decide +kernel
theorem dX8_mourner_54 : decode cX8_mourner 54 = .ok (.bipush 6, 2) := by decide +kernel
theorem dX8_mourner_56 : decode cX8_mourner 56 = .ok (.if_icmp .ne 6, 3) := by decide +kernel
theorem dX8_mourner_59 : decode cX8_mourner 59 = .ok (.bipush (-4), 2) := by decide +kernel
theorem dX8_mourner_61 : decode cX8_mourner 61 = .ok (.ireturn, 1) := by decide +kernel
theorem dX8_mourner_62 : decode cX8_mourner 62 = .ok (.iconst 0, 1) := by decide +kernel
theorem dX8_mourner_63 : decode cX8_mourner 63 = .ok (.istore 6, 2) := by decide +kernel
theorem dX8_mourner_65 : decode cX8_mourner 65 = .ok (.iload 6, 2) := by decide +kernel
theorem dX8_mourner_67 : decode cX8_mourner 67 = .ok (.bipush 10, 2) := by decide +kernel
theorem dX8_mourner_69 : decode cX8_mourner 69 = .ok (.if_icmp .ge 19, 3) := by decide +kernel
theorem dX8_mourner_72 : decode cX8_mourner 72 = .ok (.aload_n 0, 1) := by decide +kernel
theorem dX8_mourner_73 : decode cX8_mourner 73 = .ok (.iload 5, 2) := by decide +kernel
theorem dX8_mourner_75 : decode cX8_mourner 75 = .ok (.iload 6, 2) := by decide +kernel
theorem dX8_mourner_77 : decode cX8_mourner 77 = .ok (.iconst 0, 1) := by decide +kernel
theorem dX8_mourner_78 : decode cX8_mourner 78 = .ok (.invokevirtual 97, 3) := by decide +kernel
theorem dX8_mourner_81 : decode cX8_mourner 81 = .ok (.pop, 1) := by decide +kernel
theorem dX8_mourner_82 : decode cX8_mourner 82 = .ok (.iinc 6 1, 3) := by decide +kernel
theorem dX8_mourner_85 : decode cX8_mourner 85 = .ok (.goto (-20), 3) := by decide +kernel
theorem dX8_mourner_88 : decode cX8_mourner 88 = .ok (.aload_n 0, 1) := by decide +kernel
theorem dX8_mourner_89 : decode cX8_mourner 89 = .ok (.iload 5, 2) := by decide +kernel
theorem dX8_mourner_91 : decode cX8_mourner 91 = .ok (.iconst 0, 1) := by decide +kernel
theorem dX8_mourner_92 : decode cX8_mourner 92 = .ok (.iload_n 1, 1) := by decide +kernel
theorem dX8_mourner_93 : decode cX8_mourner 93 = .ok (.invokevirtual 97, 3) := by decide +kernel
theorem dX8_mourner_96 : decode cX8_mourner 96 = .ok (.pop, 1) := by decide +kernel
theorem dX8_mourner_97 : decode cX8_mourner 97 = .ok (.aload_n 0, 1) := by decide +kernel
theorem dX8_mourner_98 : decode cX8_mourner 98 = .ok (.iload 5, 2) := by decide +kernel
theorem dX8_mourner_100 : decode cX8_mourner 100 = .ok (.iconst 1, 1) := by decide +kernel
theorem dX8_mourner_101 : decode cX8_mourner 101 = .ok (.iload_n 2, 1) := by decide +kernel
theorem dX8_mourner_102 : decode cX8_mourner 102 = .ok (.invokevirtual 97, 3) := by decide +kernel
theorem dX8_mourner_105 : decode cX8_mourner 105 = .ok (.pop, 1) := by decide +kernel
theorem dX8_mourner_106 : decode cX8_mourner 106 = .ok (.aload_n 0, 1) := by decide +kernel
theorem dX8_mourner_107 : decode cX8_mourner 107 = .ok (.iload 5, 2) := by decide +kernel
theorem dX8_mourner_109 : decode cX8_mourner 109 = .ok (.iconst 2, 1) := by decide +kernel
theorem dX8_mourner_110 : decode cX8_mourner 110 = .ok (.iload_n 3, 1) := by decide +kernel
theorem dX8_mourner_111 : decode cX8_mourner 111 = .ok (.invokevirtual 97, 3) := by decide +kernel
theorem dX8_mourner_114 : decode cX8_mourner 114 = .ok (.pop, 1) := by decide +kernel
theorem dX8_mourner_115 : decode cX8_mourner 115 = .ok (.aload_n 0, 1) := by decide +kernel
theorem dX8_mourner_116 : decode cX8_mourner 116 = .ok (.iload 5, 2) := by decide +kernel
theorem dX8_mourner_118 : decode cX8_mourner 118 = .ok (.iconst 3, 1) := by decide +kernel
theorem dX8_mourner_119 : decode cX8_mourner 119 = .ok (.iload 4, 2) := by decide +kernel
theorem dX8_mourner_121 : decode cX8_mourner 121 = .ok (.invokevirtual 97, 3) := by decide +kernel
theorem dX8_mourner_124 : decode cX8_mourner 124 = .ok (.pop, 1) := by decide +kernel
theorem dX8_mourner_125 : decode cX8_mourner 125 = .ok (.aload_n 0, 1) := by decide +kernel
theorem dX8_mourner_126 : decode cX8_mourner 126 = .ok (.getfield 15, 3) := by decide +kernel
theorem dX8_mourner_129 : decode cX8_mourner 129 = .ok (.bipush 60, 2) := by decide +kernel
theorem dX8_mourner_131 : decode cX8_mourner 131 = .ok (.dup2, 1) := by decide +kernel
theorem dX8_mourner_132 : decode cX8_mourner 132 = .ok (.iaload, 1) := by decide +kernel
theorem dX8_mourner_133 : decode cX8_mourner 133 = .ok (.iconst 1, 1) := by decide +kernel
theorem dX8_mourner_134 : decode cX8_mourner 134 = .ok (.iadd, 1) := by decide +kernel
theorem dX8_mourner_135 : decode cX8_mourner 135 = .ok (.iastore, 1) := by decide +kernel
theorem dX8_mourner_136 : decode cX8_mourner 136 = .ok (.iload 5, 2) := by decide +kernel
theorem dX8_mourner_138 : decode cX8_mourner 138 = .ok (.ireturn, 1) := by decide +kernel
theorem dX8_of_0 : decode cX8_of 0 = .ok (.aload_n 0, 1) := by decide +kernel
theorem dX8_of_1 : decode cX8_of 1 = .ok (.iload_n 1, 1) := by decide +kernel
theorem dX8_of_2 : decode cX8_of 2 = .ok (.invokevirtual 101, 3) := by decide +kernel
theorem dX8_of_5 : decode cX8_of 5 = .ok (.ifCond .ne 7, 3) := by decide +kernel
theorem dX8_of_8 : decode cX8_of 8 = .ok (.sipush (-10001), 3) := by decide +kernel
theorem dX8_of_11 : decode cX8_of 11 = .ok (.ireturn, 1) := by decide +kernel
theorem dX8_of_12 : decode cX8_of 12 = .ok (.iload_n 2, 1) := by decide +kernel
theorem dX8_of_13 : decode cX8_of 13 = .ok (.iconst 0, 1) := by decide +kernel
theorem dX8_of_14 : decode cX8_of 14 = .ok (.iconst 5, 1) := by decide +kernel
theorem dX8_of_15 : decode cX8_of 15 = .ok (.invokestatic 85, 3) := by decide +kernel
theorem dX8_of_18 : decode cX8_of 18 = .ok (.ifCond .eq 10, 3) := by decide +kernel
theorem dX8_of_21 : decode cX8_of 21 = .ok (.aload_n 0, 1) := by decide +kernel
theorem dX8_of_22 : decode cX8_of 22 = .ok (.iload_n 1, 1) := by decide +kernel
theorem dX8_of_23 : decode cX8_of 23 = .ok (.iload_n 2, 1) := by decide +kernel
theorem dX8_of_24 : decode cX8_of 24 = .ok (.invokevirtual 89, 3) := by decide +kernel
theorem dX8_of_27 : decode cX8_of 27 = .ok (.ireturn, 1) := by decide +kernel
theorem dX8_of_28 : decode cX8_of 28 = .ok (.iload_n 2, 1) := by decide +kernel
theorem dX8_of_29 : decode cX8_of 29 = .ok (.bipush 6, 2) := by decide +kernel
theorem dX8_of_31 : decode cX8_of 31 = .ok (.if_icmp .ne 14, 3) := by decide +kernel
theorem dX8_of_34 : decode cX8_of 34 = .ok (.aload_n 0, 1) := by decide +kernel
theorem dX8_of_35 : decode cX8_of 35 = .ok (.invokevirtual 104, 3) := by decide +kernel
theorem dX8_of_38 : decode cX8_of 38 = .ok (.aload_n 0, 1) := by decide +kernel
theorem dX8_of_39 : decode cX8_of 39 = .ok (.getfield 53, 3) := by decide +kernel
theorem dX8_of_42 : decode cX8_of 42 = .ok (.iload_n 1, 1) := by decide +kernel
theorem dX8_of_43 : decode cX8_of 43 = .ok (.iaload, 1) := by decide +kernel
theorem dX8_of_44 : decode cX8_of 44 = .ok (.ireturn, 1) := by decide +kernel
theorem dX8_of_45 : decode cX8_of 45 = .ok (.iload_n 2, 1) := by decide +kernel
theorem dX8_of_46 : decode cX8_of 46 = .ok (.bipush 7, 2) := by decide +kernel
theorem dX8_of_48 : decode cX8_of 48 = .ok (.if_icmp .ne 11, 3) := by decide +kernel
theorem dX8_of_51 : decode cX8_of 51 = .ok (.aload_n 0, 1) := by decide +kernel
theorem dX8_of_52 : decode cX8_of 52 = .ok (.iload_n 1, 1) := by decide +kernel
theorem dX8_of_53 : decode cX8_of 53 = .ok (.invokevirtual 107, 3) := by decide +kernel
theorem dX8_of_56 : decode cX8_of 56 = .ok (.goto 50, 3) := by decide +kernel
theorem dX8_of_59 : decode cX8_of 59 = .ok (.iload_n 2, 1) := by decide +kernel
theorem dX8_of_60 : decode cX8_of 60 = .ok (.bipush 10, 2) := by decide +kernel
theorem dX8_of_62 : decode cX8_of 62 = .ok (.isub, 1) := by decide +kernel
theorem dX8_of_63 : decode cX8_of 63 = .ok (.invokestatic 93, 3) := by decide +kernel
theorem dX8_of_66 : decode cX8_of 66 = .ok (.ifCond .eq 15, 3) := by decide +kernel
theorem dX8_of_69 : decode cX8_of 69 = .ok (.aload_n 0, 1) := by decide +kernel
theorem dX8_of_70 : decode cX8_of 70 = .ok (.iload_n 1, 1) := by decide +kernel
theorem dX8_of_71 : decode cX8_of 71 = .ok (.iload_n 2, 1) := by decide +kernel
theorem dX8_of_72 : decode cX8_of 72 = .ok (.bipush 10, 2) := by decide +kernel
theorem dX8_of_74 : decode cX8_of 74 = .ok (.isub, 1) := by decide +kernel
theorem dX8_of_75 : decode cX8_of 75 = .ok (.invokevirtual 111, 3) := by decide +kernel
theorem dX8_of_78 : decode cX8_of 78 = .ok (.goto 28, 3) := by decide +kernel
theorem dX8_of_81 : decode cX8_of 81 = .ok (.iload_n 2, 1) := by decide +kernel
theorem dX8_of_82 : decode cX8_of 82 = .ok (.bipush 20, 2) := by decide +kernel
theorem dX8_of_84 : decode cX8_of 84 = .ok (.isub, 1) := by decide +kernel
theorem dX8_of_85 : decode cX8_of 85 = .ok (.invokestatic 93, 3) := by decide +kernel
theorem dX8_of_88 : decode cX8_of 88 = .ok (.ifCond .eq 15, 3) := by decide +kernel
theorem dX8_of_91 : decode cX8_of 91 = .ok (.aload_n 0, 1) := by decide +kernel
theorem dX8_of_92 : decode cX8_of 92 = .ok (.iload_n 1, 1) := by decide +kernel
theorem dX8_of_93 : decode cX8_of 93 = .ok (.iload_n 2, 1) := by decide +kernel
theorem dX8_of_94 : decode cX8_of 94 = .ok (.bipush 20, 2) := by decide +kernel
theorem dX8_of_96 : decode cX8_of 96 = .ok (.isub, 1) := by decide +kernel
theorem dX8_of_97 : decode cX8_of 97 = .ok (.invokevirtual 114, 3) := by decide +kernel
theorem dX8_of_100 : decode cX8_of 100 = .ok (.goto 6, 3) := by decide +kernel
theorem dX8_of_103 : decode cX8_of 103 = .ok (.sipush (-10001), 3) := by decide +kernel
theorem dX8_of_106 : decode cX8_of 106 = .ok (.ireturn, 1) := by decide +kernel
theorem dX8_set_0 : decode cX8_set 0 = .ok (.aload_n 0, 1) := by decide +kernel
theorem dX8_set_1 : decode cX8_set 1 = .ok (.iload_n 1, 1) := by decide +kernel
theorem dX8_set_2 : decode cX8_set 2 = .ok (.invokevirtual 101, 3) := by decide +kernel
theorem dX8_set_5 : decode cX8_set 5 = .ok (.ifCond .eq 12, 3) := by decide +kernel
theorem dX8_set_8 : decode cX8_set 8 = .ok (.iload_n 2, 1) := by decide +kernel
theorem dX8_set_9 : decode cX8_set 9 = .ok (.iconst 0, 1) := by decide +kernel
theorem dX8_set_10 : decode cX8_set 10 = .ok (.iconst 1, 1) := by decide +kernel
theorem dX8_set_11 : decode cX8_set 11 = .ok (.invokestatic 85, 3) := by decide +kernel
theorem dX8_set_14 : decode cX8_set 14 = .ok (.ifCond .ne 5, 3) := by decide +kernel
theorem dX8_set_17 : decode cX8_set 17 = .ok (.iconst (-1), 1) := by decide +kernel
theorem dX8_set_18 : decode cX8_set 18 = .ok (.ireturn, 1) := by decide +kernel
theorem dX8_set_19 : decode cX8_set 19 = .ok (.iload_n 3, 1) := by decide +kernel
theorem dX8_set_20 : decode cX8_set 20 = .ok (.iconst 0, 1) := by decide +kernel
theorem dX8_set_21 : decode cX8_set 21 = .ok (.iload_n 2, 1) := by decide +kernel
theorem dX8_set_22 : decode cX8_set 22 = .ok (.ifCond .ne 8, 3) := by decide +kernel
theorem dX8_set_25 : decode cX8_set 25 = .ok (.bipush 20, 2) := by decide +kernel
theorem dX8_set_27 : decode cX8_set 27 = .ok (.goto 5, 3) := by decide +kernel
theorem dX8_set_30 : decode cX8_set 30 = .ok (.bipush 9, 2) := by decide +kernel
theorem dX8_set_32 : decode cX8_set 32 = .ok (.invokestatic 85, 3) := by decide +kernel
theorem dX8_set_35 : decode cX8_set 35 = .ok (.ifCond .eq 15, 3) := by decide +kernel
theorem dX8_set_38 : decode cX8_set 38 = .ok (.aload_n 0, 1) := by decide +kernel
theorem dX8_set_39 : decode cX8_set 39 = .ok (.iload_n 1, 1) := by decide +kernel
theorem dX8_set_40 : decode cX8_set 40 = .ok (.iconst 2, 1) := by decide +kernel
theorem dX8_set_41 : decode cX8_set 41 = .ok (.iload_n 2, 1) := by decide +kernel
theorem dX8_set_42 : decode cX8_set 42 = .ok (.iadd, 1) := by decide +kernel
theorem dX8_set_43 : decode cX8_set 43 = .ok (.iload_n 3, 1) := by decide +kernel
theorem dX8_set_44 : decode cX8_set 44 = .ok (.invokevirtual 97, 3) := by decide +kernel
theorem dX8_set_47 : decode cX8_set 47 = .ok (.goto 5, 3) := by decide +kernel
theorem dX8_set_50 : decode cX8_set 50 = .ok (.bipush (-2), 2) := by decide +kernel
theorem dX8_set_52 : decode cX8_set 52 = .ok (.ireturn, 1) := by decide +kernel
theorem dX8_away_0 : decode cX8_away 0 = .ok (.aload_n 0, 1) := by decide +kernel
theorem dX8_away_1 : decode cX8_away 1 = .ok (.iload_n 1, 1) := by decide +kernel
theorem dX8_away_2 : decode cX8_away 2 = .ok (.invokevirtual 101, 3) := by decide +kernel
theorem dX8_away_5 : decode cX8_away 5 = .ok (.ifCond .eq 21, 3) := by decide +kernel
theorem dX8_away_8 : decode cX8_away 8 = .ok (.aload_n 0, 1) := by decide +kernel
theorem dX8_away_9 : decode cX8_away 9 = .ok (.iload_n 1, 1) := by decide +kernel
theorem dX8_away_10 : decode cX8_away 10 = .ok (.iconst 4, 1) := by decide +kernel
theorem dX8_away_11 : decode cX8_away 11 = .ok (.iload_n 2, 1) := by decide +kernel
theorem dX8_away_12 : decode cX8_away 12 = .ok (.ifCond .eq 7, 3) := by decide +kernel
theorem dX8_away_15 : decode cX8_away 15 = .ok (.iconst 1, 1) := by decide +kernel
theorem dX8_away_16 : decode cX8_away 16 = .ok (.goto 4, 3) := by decide +kernel
theorem dX8_away_19 : decode cX8_away 19 = .ok (.iconst 0, 1) := by decide +kernel
theorem dX8_away_20 : decode cX8_away 20 = .ok (.invokevirtual 97, 3) := by decide +kernel
theorem dX8_away_23 : decode cX8_away 23 = .ok (.goto 4, 3) := by decide +kernel
theorem dX8_away_26 : decode cX8_away 26 = .ok (.iconst (-1), 1) := by decide +kernel
theorem dX8_away_27 : decode cX8_away 27 = .ok (.ireturn, 1) := by decide +kernel
theorem dX8_debt_0 : decode cX8_debt 0 = .ok (.iload_n 1, 1) := by decide +kernel
theorem dX8_debt_1 : decode cX8_debt 1 = .ok (.iconst 0, 1) := by decide +kernel
theorem dX8_debt_2 : decode cX8_debt 2 = .ok (.sipush 999, 3) := by decide +kernel
theorem dX8_debt_5 : decode cX8_debt 5 = .ok (.invokestatic 85, 3) := by decide +kernel
theorem dX8_debt_8 : decode cX8_debt 8 = .ok (.ifCond .ne 6, 3) := by decide +kernel
theorem dX8_debt_11 : decode cX8_debt 11 = .ok (.bipush (-2), 2) := by decide +kernel
theorem dX8_debt_13 : decode cX8_debt 13 = .ok (.ireturn, 1) := by decide +kernel
theorem dX8_debt_14 : decode cX8_debt 14 = .ok (.aload_n 0, 1) := by decide +kernel
theorem dX8_debt_15 : decode cX8_debt 15 = .ok (.getfield 15, 3) := by decide +kernel
theorem dX8_debt_18 : decode cX8_debt 18 = .ok (.bipush 61, 2) := by decide +kernel
theorem dX8_debt_20 : decode cX8_debt 20 = .ok (.iaload, 1) := by decide +kernel
theorem dX8_debt_21 : decode cX8_debt 21 = .ok (.istore_n 2, 1) := by decide +kernel
theorem dX8_debt_22 : decode cX8_debt 22 = .ok (.aload_n 0, 1) := by decide +kernel
theorem dX8_debt_23 : decode cX8_debt 23 = .ok (.getfield 15, 3) := by decide +kernel
theorem dX8_debt_26 : decode cX8_debt 26 = .ok (.bipush 61, 2) := by decide +kernel
theorem dX8_debt_28 : decode cX8_debt 28 = .ok (.iload_n 1, 1) := by decide +kernel
theorem dX8_debt_29 : decode cX8_debt 29 = .ok (.iastore, 1) := by decide +kernel
theorem dX8_debt_30 : decode cX8_debt 30 = .ok (.iload_n 2, 1) := by decide +kernel
theorem dX8_debt_31 : decode cX8_debt 31 = .ok (.ireturn, 1) := by decide +kernel
theorem dX8_row_0 : decode cX8_row 0 = .ok (.aload_n 0, 1) := by decide +kernel
theorem dX8_row_1 : decode cX8_row 1 = .ok (.iload_n 1, 1) := by decide +kernel
theorem dX8_row_2 : decode cX8_row 2 = .ok (.invokevirtual 101, 3) := by decide +kernel
theorem dX8_row_5 : decode cX8_row 5 = .ok (.ifCond .eq 12, 3) := by decide +kernel
theorem dX8_row_8 : decode cX8_row 8 = .ok (.iload_n 2, 1) := by decide +kernel
theorem dX8_row_9 : decode cX8_row 9 = .ok (.iconst 0, 1) := by decide +kernel
theorem dX8_row_10 : decode cX8_row 10 = .ok (.iconst 3, 1) := by decide +kernel
theorem dX8_row_11 : decode cX8_row 11 = .ok (.invokestatic 85, 3) := by decide +kernel
theorem dX8_row_14 : decode cX8_row 14 = .ok (.ifCond .ne 5, 3) := by decide +kernel
theorem dX8_row_17 : decode cX8_row 17 = .ok (.iconst (-1), 1) := by decide +kernel
theorem dX8_row_18 : decode cX8_row 18 = .ok (.ireturn, 1) := by decide +kernel
theorem dX8_row_19 : decode cX8_row 19 = .ok (.iload_n 3, 1) := by decide +kernel
theorem dX8_row_20 : decode cX8_row 20 = .ok (.iconst 0, 1) := by decide +kernel
theorem dX8_row_21 : decode cX8_row 21 = .ok (.bipush 9, 2) := by decide +kernel
theorem dX8_row_23 : decode cX8_row 23 = .ok (.invokestatic 85, 3) := by decide +kernel
theorem dX8_row_26 : decode cX8_row 26 = .ok (.ifCond .ne 6, 3) := by decide +kernel
theorem dX8_row_29 : decode cX8_row 29 = .ok (.bipush (-2), 2) := by decide +kernel
theorem dX8_row_31 : decode cX8_row 31 = .ok (.ireturn, 1) := by decide +kernel
theorem dX8_row_32 : decode cX8_row 32 = .ok (.aload_n 0, 1) := by decide +kernel
theorem dX8_row_33 : decode cX8_row 33 = .ok (.iload_n 1, 1) := by decide +kernel
theorem dX8_row_34 : decode cX8_row 34 = .ok (.iconst 0, 1) := by decide +kernel
theorem dX8_row_35 : decode cX8_row 35 = .ok (.invokevirtual 89, 3) := by decide +kernel
theorem dX8_row_38 : decode cX8_row 38 = .ok (.bipush 6, 2) := by decide +kernel
theorem dX8_row_40 : decode cX8_row 40 = .ok (.if_icmp .ne 16, 3) := by decide +kernel
theorem dX8_row_43 : decode cX8_row 43 = .ok (.aload_n 0, 1) := by decide +kernel
theorem dX8_row_44 : decode cX8_row 44 = .ok (.iload_n 1, 1) := by decide +kernel
theorem dX8_row_45 : decode cX8_row 45 = .ok (.bipush 6, 2) := by decide +kernel
theorem dX8_row_47 : decode cX8_row 47 = .ok (.iload_n 2, 1) := by decide +kernel
theorem dX8_row_48 : decode cX8_row 48 = .ok (.iadd, 1) := by decide +kernel
theorem dX8_row_49 : decode cX8_row 49 = .ok (.iload_n 3, 1) := by decide +kernel
theorem dX8_row_50 : decode cX8_row 50 = .ok (.invokevirtual 97, 3) := by decide +kernel
theorem dX8_row_53 : decode cX8_row 53 = .ok (.goto 5, 3) := by decide +kernel
theorem dX8_row_56 : decode cX8_row 56 = .ok (.bipush (-3), 2) := by decide +kernel
theorem dX8_row_58 : decode cX8_row 58 = .ok (.ireturn, 1) := by decide +kernel
theorem dX8_feed_0 : decode cX8_feed 0 = .ok (.iload_n 1, 1) := by decide +kernel
theorem dX8_feed_1 : decode cX8_feed 1 = .ok (.iconst 0, 1) := by decide +kernel
theorem dX8_feed_2 : decode cX8_feed 2 = .ok (.bipush 127, 2) := by decide +kernel
theorem dX8_feed_4 : decode cX8_feed 4 = .ok (.invokestatic 85, 3) := by decide +kernel
theorem dX8_feed_7 : decode cX8_feed 7 = .ok (.ifCond .ne 6, 3) := by decide +kernel
theorem dX8_feed_10 : decode cX8_feed 10 = .ok (.bipush (-2), 2) := by decide +kernel
theorem dX8_feed_12 : decode cX8_feed 12 = .ok (.ireturn, 1) := by decide +kernel
theorem dX8_feed_13 : decode cX8_feed 13 = .ok (.aload_n 0, 1) := by decide +kernel
theorem dX8_feed_14 : decode cX8_feed 14 = .ok (.getfield 117, 3) := by decide +kernel
theorem dX8_feed_17 : decode cX8_feed 17 = .ok (.bipush 100, 2) := by decide +kernel
theorem dX8_feed_19 : decode cX8_feed 19 = .ok (.if_icmp .ne 6, 3) := by decide +kernel
theorem dX8_feed_22 : decode cX8_feed 22 = .ok (.bipush (-4), 2) := by decide +kernel
theorem dX8_feed_24 : decode cX8_feed 24 = .ok (.ireturn, 1) := by decide +kernel
theorem dX8_feed_25 : decode cX8_feed 25 = .ok (.aload_n 0, 1) := by decide +kernel
theorem dX8_feed_26 : decode cX8_feed 26 = .ok (.getfield 25, 3) := by decide +kernel
theorem dX8_feed_29 : decode cX8_feed 29 = .ok (.aload_n 0, 1) := by decide +kernel
theorem dX8_feed_30 : decode cX8_feed 30 = .ok (.getfield 117, 3) := by decide +kernel
theorem dX8_feed_33 : decode cX8_feed 33 = .ok (.iload_n 1, 1) := by decide +kernel
theorem dX8_feed_34 : decode cX8_feed 34 = .ok (.iastore, 1) := by decide +kernel
theorem dX8_feed_35 : decode cX8_feed 35 = .ok (.aload_n 0, 1) := by decide +kernel
theorem dX8_feed_36 : decode cX8_feed 36 = .ok (.dup, 1) := by decide +kernel
theorem dX8_feed_37 : decode cX8_feed 37 = .ok (.getfield 117, 3) := by decide +kernel
theorem dX8_feed_40 : decode cX8_feed 40 = .ok (.iconst 1, 1) := by decide +kernel
theorem dX8_feed_41 : decode cX8_feed 41 = .ok (.iadd, 1) := by decide +kernel
theorem dX8_feed_42 : decode cX8_feed 42 = .ok (.putfield 117, 3) := by decide +kernel
theorem dX8_feed_45 : decode cX8_feed 45 = .ok (.aload_n 0, 1) := by decide +kernel
theorem dX8_feed_46 : decode cX8_feed 46 = .ok (.getfield 117, 3) := by decide +kernel
theorem dX8_feed_49 : decode cX8_feed 49 = .ok (.ireturn, 1) := by decide +kernel
theorem dX8_isAt_0 : decode cX8_isAt 0 = .ok (.aload_n 0, 1) := by decide +kernel
theorem dX8_isAt_1 : decode cX8_isAt 1 = .ok (.getfield 121, 3) := by decide +kernel
theorem dX8_isAt_4 : decode cX8_isAt 4 = .ok (.ifCond .eq 31, 3) := by decide +kernel
theorem dX8_isAt_7 : decode cX8_isAt 7 = .ok (.aload_n 0, 1) := by decide +kernel
theorem dX8_isAt_8 : decode cX8_isAt 8 = .ok (.getfield 124, 3) := by decide +kernel
theorem dX8_isAt_11 : decode cX8_isAt 11 = .ok (.aload_n 0, 1) := by decide +kernel
theorem dX8_isAt_12 : decode cX8_isAt 12 = .ok (.getfield 127, 3) := by decide +kernel
theorem dX8_isAt_15 : decode cX8_isAt 15 = .ok (.if_icmp .ge 20, 3) := by decide +kernel
theorem dX8_isAt_18 : decode cX8_isAt 18 = .ok (.aload_n 0, 1) := by decide +kernel
theorem dX8_isAt_19 : decode cX8_isAt 19 = .ok (.getfield 34, 3) := by decide +kernel
theorem dX8_isAt_22 : decode cX8_isAt 22 = .ok (.aload_n 0, 1) := by decide +kernel
theorem dX8_isAt_23 : decode cX8_isAt 23 = .ok (.getfield 124, 3) := by decide +kernel
theorem dX8_isAt_26 : decode cX8_isAt 26 = .ok (.iaload, 1) := by decide +kernel
theorem dX8_isAt_27 : decode cX8_isAt 27 = .ok (.iload_n 1, 1) := by decide +kernel
theorem dX8_isAt_28 : decode cX8_isAt 28 = .ok (.if_icmp .ne 7, 3) := by decide +kernel
theorem dX8_isAt_31 : decode cX8_isAt 31 = .ok (.iconst 1, 1) := by decide +kernel
theorem dX8_isAt_32 : decode cX8_isAt 32 = .ok (.goto 4, 3) := by decide +kernel
theorem dX8_isAt_35 : decode cX8_isAt 35 = .ok (.iconst 0, 1) := by decide +kernel
theorem dX8_isAt_36 : decode cX8_isAt 36 = .ok (.ireturn, 1) := by decide +kernel
theorem dX8_takes_0 : decode cX8_takes 0 = .ok (.aload_n 0, 1) := by decide +kernel
theorem dX8_takes_1 : decode cX8_takes 1 = .ok (.iload_n 1, 1) := by decide +kernel
theorem dX8_takes_2 : decode cX8_takes 2 = .ok (.invokevirtual 130, 3) := by decide +kernel
theorem dX8_takes_5 : decode cX8_takes 5 = .ok (.ifCond .eq 16, 3) := by decide +kernel
theorem dX8_takes_8 : decode cX8_takes 8 = .ok (.aload_n 0, 1) := by decide +kernel
theorem dX8_takes_9 : decode cX8_takes 9 = .ok (.dup, 1) := by decide +kernel
theorem dX8_takes_10 : decode cX8_takes 10 = .ok (.getfield 124, 3) := by decide +kernel
theorem dX8_takes_13 : decode cX8_takes 13 = .ok (.iconst 1, 1) := by decide +kernel
theorem dX8_takes_14 : decode cX8_takes 14 = .ok (.iadd, 1) := by decide +kernel
theorem dX8_takes_15 : decode cX8_takes 15 = .ok (.putfield 124, 3) := by decide +kernel
theorem dX8_takes_18 : decode cX8_takes 18 = .ok (.goto 8, 3) := by decide +kernel
theorem dX8_takes_21 : decode cX8_takes 21 = .ok (.aload_n 0, 1) := by decide +kernel
theorem dX8_takes_22 : decode cX8_takes 22 = .ok (.iconst 0, 1) := by decide +kernel
theorem dX8_takes_23 : decode cX8_takes 23 = .ok (.putfield 121, 3) := by decide +kernel
theorem dX8_takes_26 : decode cX8_takes 26 = .ok (.return_, 1) := by decide +kernel
theorem dX8_isDigit_0 : decode cX8_isDigit 0 = .ok (.aload_n 0, 1) := by decide +kernel
theorem dX8_isDigit_1 : decode cX8_isDigit 1 = .ok (.getfield 121, 3) := by decide +kernel
theorem dX8_isDigit_4 : decode cX8_isDigit 4 = .ok (.ifCond .eq 46, 3) := by decide +kernel
theorem dX8_isDigit_7 : decode cX8_isDigit 7 = .ok (.aload_n 0, 1) := by decide +kernel
theorem dX8_isDigit_8 : decode cX8_isDigit 8 = .ok (.getfield 124, 3) := by decide +kernel
theorem dX8_isDigit_11 : decode cX8_isDigit 11 = .ok (.aload_n 0, 1) := by decide +kernel
theorem dX8_isDigit_12 : decode cX8_isDigit 12 = .ok (.getfield 127, 3) := by decide +kernel
theorem dX8_isDigit_15 : decode cX8_isDigit 15 = .ok (.if_icmp .ge 35, 3) := by decide +kernel
theorem dX8_isDigit_18 : decode cX8_isDigit 18 = .ok (.aload_n 0, 1) := by decide +kernel
theorem dX8_isDigit_19 : decode cX8_isDigit 19 = .ok (.getfield 34, 3) := by decide +kernel
theorem dX8_isDigit_22 : decode cX8_isDigit 22 = .ok (.aload_n 0, 1) := by decide +kernel
theorem dX8_isDigit_23 : decode cX8_isDigit 23 = .ok (.getfield 124, 3) := by decide +kernel
theorem dX8_isDigit_26 : decode cX8_isDigit 26 = .ok (.iaload, 1) := by decide +kernel
theorem dX8_isDigit_27 : decode cX8_isDigit 27 = .ok (.bipush 48, 2) := by decide +kernel
theorem dX8_isDigit_29 : decode cX8_isDigit 29 = .ok (.if_icmp .lt 21, 3) := by decide +kernel
theorem dX8_isDigit_32 : decode cX8_isDigit 32 = .ok (.aload_n 0, 1) := by decide +kernel
theorem dX8_isDigit_33 : decode cX8_isDigit 33 = .ok (.getfield 34, 3) := by decide +kernel
theorem dX8_isDigit_36 : decode cX8_isDigit 36 = .ok (.aload_n 0, 1) := by decide +kernel
theorem dX8_isDigit_37 : decode cX8_isDigit 37 = .ok (.getfield 124, 3) := by decide +kernel
theorem dX8_isDigit_40 : decode cX8_isDigit 40 = .ok (.iaload, 1) := by decide +kernel
theorem dX8_isDigit_41 : decode cX8_isDigit 41 = .ok (.bipush 57, 2) := by decide +kernel
theorem dX8_isDigit_43 : decode cX8_isDigit 43 = .ok (.if_icmp .gt 7, 3) := by decide +kernel
theorem dX8_isDigit_46 : decode cX8_isDigit 46 = .ok (.iconst 1, 1) := by decide +kernel
theorem dX8_isDigit_47 : decode cX8_isDigit 47 = .ok (.goto 4, 3) := by decide +kernel
theorem dX8_isDigit_50 : decode cX8_isDigit 50 = .ok (.iconst 0, 1) := by decide +kernel
theorem dX8_isDigit_51 : decode cX8_isDigit 51 = .ok (.ireturn, 1) := by decide +kernel
theorem dX8_number_0 : decode cX8_number 0 = .ok (.aload_n 0, 1) := by decide +kernel
theorem dX8_number_1 : decode cX8_number 1 = .ok (.invokevirtual 133, 3) := by decide +kernel
theorem dX8_number_4 : decode cX8_number 4 = .ok (.ifCond .ne 10, 3) := by decide +kernel
theorem dX8_number_7 : decode cX8_number 7 = .ok (.aload_n 0, 1) := by decide +kernel
theorem dX8_number_8 : decode cX8_number 8 = .ok (.iconst 0, 1) := by decide +kernel
theorem dX8_number_9 : decode cX8_number 9 = .ok (.putfield 121, 3) := by decide +kernel
theorem dX8_number_12 : decode cX8_number 12 = .ok (.iconst 0, 1) := by decide +kernel
theorem dX8_number_13 : decode cX8_number 13 = .ok (.ireturn, 1) := by decide +kernel
theorem dX8_number_14 : decode cX8_number 14 = .ok (.aload_n 0, 1) := by decide +kernel
theorem dX8_number_15 : decode cX8_number 15 = .ok (.getfield 34, 3) := by decide +kernel
theorem dX8_number_18 : decode cX8_number 18 = .ok (.aload_n 0, 1) := by decide +kernel
theorem dX8_number_19 : decode cX8_number 19 = .ok (.getfield 124, 3) := by decide +kernel
theorem dX8_number_22 : decode cX8_number 22 = .ok (.iaload, 1) := by decide +kernel
theorem dX8_number_23 : decode cX8_number 23 = .ok (.bipush 48, 2) := by decide +kernel
theorem dX8_number_25 : decode cX8_number 25 = .ok (.isub, 1) := by decide +kernel
theorem dX8_number_26 : decode cX8_number 26 = .ok (.istore_n 1, 1) := by decide +kernel
theorem dX8_number_27 : decode cX8_number 27 = .ok (.aload_n 0, 1) := by decide +kernel
theorem dX8_number_28 : decode cX8_number 28 = .ok (.dup, 1) := by decide +kernel
theorem dX8_number_29 : decode cX8_number 29 = .ok (.getfield 124, 3) := by decide +kernel
theorem dX8_number_32 : decode cX8_number 32 = .ok (.iconst 1, 1) := by decide +kernel
theorem dX8_number_33 : decode cX8_number 33 = .ok (.iadd, 1) := by decide +kernel
theorem dX8_number_34 : decode cX8_number 34 = .ok (.putfield 124, 3) := by decide +kernel
theorem dX8_number_37 : decode cX8_number 37 = .ok (.aload_n 0, 1) := by decide +kernel
theorem dX8_number_38 : decode cX8_number 38 = .ok (.invokevirtual 133, 3) := by decide +kernel
theorem dX8_number_41 : decode cX8_number 41 = .ok (.ifCond .eq 31, 3) := by decide +kernel
theorem dX8_number_44 : decode cX8_number 44 = .ok (.bipush 10, 2) := by decide +kernel
theorem dX8_number_46 : decode cX8_number 46 = .ok (.iload_n 1, 1) := by decide +kernel
theorem dX8_number_47 : decode cX8_number 47 = .ok (.imul, 1) := by decide +kernel
theorem dX8_number_48 : decode cX8_number 48 = .ok (.aload_n 0, 1) := by decide +kernel
theorem dX8_number_49 : decode cX8_number 49 = .ok (.getfield 34, 3) := by decide +kernel
theorem dX8_number_52 : decode cX8_number 52 = .ok (.aload_n 0, 1) := by decide +kernel
theorem dX8_number_53 : decode cX8_number 53 = .ok (.getfield 124, 3) := by decide +kernel
theorem dX8_number_56 : decode cX8_number 56 = .ok (.iaload, 1) := by decide +kernel
theorem dX8_number_57 : decode cX8_number 57 = .ok (.iadd, 1) := by decide +kernel
theorem dX8_number_58 : decode cX8_number 58 = .ok (.bipush 48, 2) := by decide +kernel
theorem dX8_number_60 : decode cX8_number 60 = .ok (.isub, 1) := by decide +kernel
theorem dX8_number_61 : decode cX8_number 61 = .ok (.istore_n 1, 1) := by decide +kernel
theorem dX8_number_62 : decode cX8_number 62 = .ok (.aload_n 0, 1) := by decide +kernel
theorem dX8_number_63 : decode cX8_number 63 = .ok (.dup, 1) := by decide +kernel
theorem dX8_number_64 : decode cX8_number 64 = .ok (.getfield 124, 3) := by decide +kernel
theorem dX8_number_67 : decode cX8_number 67 = .ok (.iconst 1, 1) := by decide +kernel
theorem dX8_number_68 : decode cX8_number 68 = .ok (.iadd, 1) := by decide +kernel
theorem dX8_number_69 : decode cX8_number 69 = .ok (.putfield 124, 3) := by decide +kernel
theorem dX8_number_72 : decode cX8_number 72 = .ok (.iload_n 1, 1) := by decide +kernel
theorem dX8_number_73 : decode cX8_number 73 = .ok (.ireturn, 1) := by decide +kernel
theorem dX8_test_0 : decode cX8_test 0 = .ok (.iconst (-1), 1) := by decide +kernel
theorem dX8_test_1 : decode cX8_test 1 = .ok (.istore_n 1, 1) := by decide +kernel
theorem dX8_test_2 : decode cX8_test 2 = .ok (.iconst 0, 1) := by decide +kernel
theorem dX8_test_3 : decode cX8_test 3 = .ok (.istore_n 2, 1) := by decide +kernel
theorem dX8_test_4 : decode cX8_test 4 = .ok (.iload_n 2, 1) := by decide +kernel
theorem dX8_test_5 : decode cX8_test 5 = .ok (.bipush 6, 2) := by decide +kernel
theorem dX8_test_7 : decode cX8_test 7 = .ok (.if_icmp .ge 28, 3) := by decide +kernel
theorem dX8_test_10 : decode cX8_test 10 = .ok (.aload_n 0, 1) := by decide +kernel
theorem dX8_test_11 : decode cX8_test 11 = .ok (.aload_n 0, 1) := by decide +kernel
theorem dX8_test_12 : decode cX8_test 12 = .ok (.getfield 40, 3) := by decide +kernel
theorem dX8_test_15 : decode cX8_test 15 = .ok (.iload_n 2, 1) := by decide +kernel
theorem dX8_test_16 : decode cX8_test 16 = .ok (.caload, 1) := by decide +kernel
theorem dX8_test_17 : decode cX8_test 17 = .ok (.invokevirtual 130, 3) := by decide +kernel
theorem dX8_test_20 : decode cX8_test 20 = .ok (.ifCond .eq 7, 3) := by decide +kernel
theorem dX8_test_23 : decode cX8_test 23 = .ok (.iload_n 2, 1) := by decide +kernel
theorem dX8_test_24 : decode cX8_test 24 = .ok (.goto 4, 3) := by decide +kernel
theorem dX8_test_27 : decode cX8_test 27 = .ok (.iload_n 1, 1) := by decide +kernel
theorem dX8_test_28 : decode cX8_test 28 = .ok (.istore_n 1, 1) := by decide +kernel
theorem dX8_test_29 : decode cX8_test 29 = .ok (.iinc 2 1, 3) := by decide +kernel
theorem dX8_test_32 : decode cX8_test 32 = .ok (.goto (-28), 3) := by decide +kernel
theorem dX8_test_35 : decode cX8_test 35 = .ok (.iload_n 1, 1) := by decide +kernel
theorem dX8_test_36 : decode cX8_test 36 = .ok (.iconst (-1), 1) := by decide +kernel
theorem dX8_test_37 : decode cX8_test 37 = .ok (.if_icmp .ne 10, 3) := by decide +kernel
theorem dX8_test_40 : decode cX8_test 40 = .ok (.aload_n 0, 1) := by decide +kernel
theorem dX8_test_41 : decode cX8_test 41 = .ok (.iconst 0, 1) := by decide +kernel
theorem dX8_test_42 : decode cX8_test 42 = .ok (.putfield 121, 3) := by decide +kernel
theorem dX8_test_45 : decode cX8_test 45 = .ok (.iconst 0, 1) := by decide +kernel
theorem dX8_test_46 : decode cX8_test 46 = .ok (.ireturn, 1) := by decide +kernel
theorem dX8_test_47 : decode cX8_test 47 = .ok (.aload_n 0, 1) := by decide +kernel
theorem dX8_test_48 : decode cX8_test 48 = .ok (.dup, 1) := by decide +kernel
theorem dX8_test_49 : decode cX8_test 49 = .ok (.getfield 124, 3) := by decide +kernel
theorem dX8_test_52 : decode cX8_test 52 = .ok (.iconst 1, 1) := by decide +kernel
theorem dX8_test_53 : decode cX8_test 53 = .ok (.iadd, 1) := by decide +kernel
theorem dX8_test_54 : decode cX8_test 54 = .ok (.putfield 124, 3) := by decide +kernel
theorem dX8_test_57 : decode cX8_test 57 = .ok (.aload_n 0, 1) := by decide +kernel
theorem dX8_test_58 : decode cX8_test 58 = .ok (.bipush 60, 2) := by decide +kernel
theorem dX8_test_60 : decode cX8_test 60 = .ok (.invokevirtual 130, 3) := by decide +kernel
theorem dX8_test_63 : decode cX8_test 63 = .ok (.ifCond .eq 7, 3) := by decide +kernel
theorem dX8_test_66 : decode cX8_test 66 = .ok (.iconst (-1), 1) := by decide +kernel
theorem dX8_test_67 : decode cX8_test 67 = .ok (.goto 17, 3) := by decide +kernel
theorem dX8_test_70 : decode cX8_test 70 = .ok (.aload_n 0, 1) := by decide +kernel
theorem dX8_test_71 : decode cX8_test 71 = .ok (.bipush 62, 2) := by decide +kernel
theorem dX8_test_73 : decode cX8_test 73 = .ok (.invokevirtual 130, 3) := by decide +kernel
theorem dX8_test_76 : decode cX8_test 76 = .ok (.ifCond .eq 7, 3) := by decide +kernel
theorem dX8_test_79 : decode cX8_test 79 = .ok (.iconst 1, 1) := by decide +kernel
theorem dX8_test_80 : decode cX8_test 80 = .ok (.goto 4, 3) := by decide +kernel
theorem dX8_test_83 : decode cX8_test 83 = .ok (.iconst 0, 1) := by decide +kernel
theorem dX8_test_84 : decode cX8_test 84 = .ok (.istore_n 2, 1) := by decide +kernel
theorem dX8_test_85 : decode cX8_test 85 = .ok (.aload_n 0, 1) := by decide +kernel
theorem dX8_test_86 : decode cX8_test 86 = .ok (.iload_n 2, 1) := by decide +kernel
theorem dX8_test_87 : decode cX8_test 87 = .ok (.ifCond .ge 8, 3) := by decide +kernel
theorem dX8_test_90 : decode cX8_test 90 = .ok (.bipush 60, 2) := by decide +kernel
theorem dX8_test_92 : decode cX8_test 92 = .ok (.goto 14, 3) := by decide +kernel
theorem dX8_test_95 : decode cX8_test 95 = .ok (.iload_n 2, 1) := by decide +kernel
theorem dX8_test_96 : decode cX8_test 96 = .ok (.ifCond .le 8, 3) := by decide +kernel
theorem dX8_test_99 : decode cX8_test 99 = .ok (.bipush 62, 2) := by decide +kernel
theorem dX8_test_101 : decode cX8_test 101 = .ok (.goto 5, 3) := by decide +kernel
theorem dX8_test_104 : decode cX8_test 104 = .ok (.bipush 61, 2) := by decide +kernel
theorem dX8_test_106 : decode cX8_test 106 = .ok (.invokevirtual 137, 3) := by decide +kernel
theorem dX8_test_109 : decode cX8_test 109 = .ok (.aload_n 0, 1) := by decide +kernel
theorem dX8_test_110 : decode cX8_test 110 = .ok (.invokevirtual 141, 3) := by decide +kernel
theorem dX8_test_113 : decode cX8_test 113 = .ok (.istore_n 3, 1) := by decide +kernel
theorem dX8_test_114 : decode cX8_test 114 = .ok (.iload_n 2, 1) := by decide +kernel
theorem dX8_test_115 : decode cX8_test 115 = .ok (.ifCond .ge 21, 3) := by decide +kernel
theorem dX8_test_118 : decode cX8_test 118 = .ok (.aload_n 0, 1) := by decide +kernel
theorem dX8_test_119 : decode cX8_test 119 = .ok (.getfield 37, 3) := by decide +kernel
theorem dX8_test_122 : decode cX8_test 122 = .ok (.iload_n 1, 1) := by decide +kernel
theorem dX8_test_123 : decode cX8_test 123 = .ok (.iaload, 1) := by decide +kernel
theorem dX8_test_124 : decode cX8_test 124 = .ok (.iload_n 3, 1) := by decide +kernel
theorem dX8_test_125 : decode cX8_test 125 = .ok (.if_icmp .ge 7, 3) := by decide +kernel
theorem dX8_test_128 : decode cX8_test 128 = .ok (.iconst 1, 1) := by decide +kernel
theorem dX8_test_129 : decode cX8_test 129 = .ok (.goto 44, 3) := by decide +kernel
theorem dX8_test_132 : decode cX8_test 132 = .ok (.iconst 0, 1) := by decide +kernel
theorem dX8_test_133 : decode cX8_test 133 = .ok (.goto 40, 3) := by decide +kernel
theorem dX8_test_136 : decode cX8_test 136 = .ok (.iload_n 2, 1) := by decide +kernel
theorem dX8_test_137 : decode cX8_test 137 = .ok (.ifCond .le 21, 3) := by decide +kernel
theorem dX8_test_140 : decode cX8_test 140 = .ok (.aload_n 0, 1) := by decide +kernel
theorem dX8_test_141 : decode cX8_test 141 = .ok (.getfield 37, 3) := by decide +kernel
theorem dX8_test_144 : decode cX8_test 144 = .ok (.iload_n 1, 1) := by decide +kernel
theorem dX8_test_145 : decode cX8_test 145 = .ok (.iaload, 1) := by decide +kernel
theorem dX8_test_146 : decode cX8_test 146 = .ok (.iload_n 3, 1) := by decide +kernel
theorem dX8_test_147 : decode cX8_test 147 = .ok (.if_icmp .le 7, 3) := by decide +kernel
theorem dX8_test_150 : decode cX8_test 150 = .ok (.iconst 1, 1) := by decide +kernel
theorem dX8_test_151 : decode cX8_test 151 = .ok (.goto 22, 3) := by decide +kernel
theorem dX8_test_154 : decode cX8_test 154 = .ok (.iconst 0, 1) := by decide +kernel
theorem dX8_test_155 : decode cX8_test 155 = .ok (.goto 18, 3) := by decide +kernel
theorem dX8_test_158 : decode cX8_test 158 = .ok (.aload_n 0, 1) := by decide +kernel
theorem dX8_test_159 : decode cX8_test 159 = .ok (.getfield 37, 3) := by decide +kernel
theorem dX8_test_162 : decode cX8_test 162 = .ok (.iload_n 1, 1) := by decide +kernel
theorem dX8_test_163 : decode cX8_test 163 = .ok (.iaload, 1) := by decide +kernel
theorem dX8_test_164 : decode cX8_test 164 = .ok (.iload_n 3, 1) := by decide +kernel
theorem dX8_test_165 : decode cX8_test 165 = .ok (.if_icmp .ne 7, 3) := by decide +kernel
theorem dX8_test_168 : decode cX8_test 168 = .ok (.iconst 1, 1) := by decide +kernel
theorem dX8_test_169 : decode cX8_test 169 = .ok (.goto 4, 3) := by decide +kernel
theorem dX8_test_172 : decode cX8_test 172 = .ok (.iconst 0, 1) := by decide +kernel
theorem dX8_test_173 : decode cX8_test 173 = .ok (.ireturn, 1) := by decide +kernel
theorem dX8_factor_0 : decode cX8_factor 0 = .ok (.aload_n 0, 1) := by decide +kernel
theorem dX8_factor_1 : decode cX8_factor 1 = .ok (.getfield 145, 3) := by decide +kernel
theorem dX8_factor_4 : decode cX8_factor 4 = .ok (.iconst 4, 1) := by decide +kernel
theorem dX8_factor_5 : decode cX8_factor 5 = .ok (.if_icmp .ge 58, 3) := by decide +kernel
theorem dX8_factor_8 : decode cX8_factor 8 = .ok (.aload_n 0, 1) := by decide +kernel
theorem dX8_factor_9 : decode cX8_factor 9 = .ok (.bipush 33, 2) := by decide +kernel
theorem dX8_factor_11 : decode cX8_factor 11 = .ok (.invokevirtual 130, 3) := by decide +kernel
theorem dX8_factor_14 : decode cX8_factor 14 = .ok (.ifCond .eq 49, 3) := by decide +kernel
theorem dX8_factor_17 : decode cX8_factor 17 = .ok (.aload_n 0, 1) := by decide +kernel
theorem dX8_factor_18 : decode cX8_factor 18 = .ok (.dup, 1) := by decide +kernel
theorem dX8_factor_19 : decode cX8_factor 19 = .ok (.getfield 124, 3) := by decide +kernel
theorem dX8_factor_22 : decode cX8_factor 22 = .ok (.iconst 1, 1) := by decide +kernel
theorem dX8_factor_23 : decode cX8_factor 23 = .ok (.iadd, 1) := by decide +kernel
theorem dX8_factor_24 : decode cX8_factor 24 = .ok (.putfield 124, 3) := by decide +kernel
theorem dX8_factor_27 : decode cX8_factor 27 = .ok (.aload_n 0, 1) := by decide +kernel
theorem dX8_factor_28 : decode cX8_factor 28 = .ok (.dup, 1) := by decide +kernel
theorem dX8_factor_29 : decode cX8_factor 29 = .ok (.getfield 145, 3) := by decide +kernel
theorem dX8_factor_32 : decode cX8_factor 32 = .ok (.iconst 1, 1) := by decide +kernel
theorem dX8_factor_33 : decode cX8_factor 33 = .ok (.iadd, 1) := by decide +kernel
theorem dX8_factor_34 : decode cX8_factor 34 = .ok (.putfield 145, 3) := by decide +kernel
theorem dX8_factor_37 : decode cX8_factor 37 = .ok (.aload_n 0, 1) := by decide +kernel
theorem dX8_factor_38 : decode cX8_factor 38 = .ok (.invokevirtual 148, 3) := by decide +kernel
theorem dX8_factor_41 : decode cX8_factor 41 = .ok (.ifCond .ne 7, 3) := by decide +kernel
theorem dX8_factor_44 : decode cX8_factor 44 = .ok (.iconst 1, 1) := by decide +kernel
theorem dX8_factor_45 : decode cX8_factor 45 = .ok (.goto 4, 3) := by decide +kernel
theorem dX8_factor_48 : decode cX8_factor 48 = .ok (.iconst 0, 1) := by decide +kernel
theorem dX8_factor_49 : decode cX8_factor 49 = .ok (.istore_n 1, 1) := by decide +kernel
theorem dX8_factor_50 : decode cX8_factor 50 = .ok (.aload_n 0, 1) := by decide +kernel
theorem dX8_factor_51 : decode cX8_factor 51 = .ok (.dup, 1) := by decide +kernel
theorem dX8_factor_52 : decode cX8_factor 52 = .ok (.getfield 145, 3) := by decide +kernel
theorem dX8_factor_55 : decode cX8_factor 55 = .ok (.iconst 1, 1) := by decide +kernel
theorem dX8_factor_56 : decode cX8_factor 56 = .ok (.isub, 1) := by decide +kernel
theorem dX8_factor_57 : decode cX8_factor 57 = .ok (.putfield 145, 3) := by decide +kernel
theorem dX8_factor_60 : decode cX8_factor 60 = .ok (.goto 69, 3) := by decide +kernel
theorem dX8_factor_63 : decode cX8_factor 63 = .ok (.aload_n 0, 1) := by decide +kernel
theorem dX8_factor_64 : decode cX8_factor 64 = .ok (.getfield 145, 3) := by decide +kernel
theorem dX8_factor_67 : decode cX8_factor 67 = .ok (.iconst 4, 1) := by decide +kernel
theorem dX8_factor_68 : decode cX8_factor 68 = .ok (.if_icmp .ge 56, 3) := by decide +kernel
theorem dX8_factor_71 : decode cX8_factor 71 = .ok (.aload_n 0, 1) := by decide +kernel
theorem dX8_factor_72 : decode cX8_factor 72 = .ok (.bipush 40, 2) := by decide +kernel
theorem dX8_factor_74 : decode cX8_factor 74 = .ok (.invokevirtual 130, 3) := by decide +kernel
theorem dX8_factor_77 : decode cX8_factor 77 = .ok (.ifCond .eq 47, 3) := by decide +kernel
theorem dX8_factor_80 : decode cX8_factor 80 = .ok (.aload_n 0, 1) := by decide +kernel
theorem dX8_factor_81 : decode cX8_factor 81 = .ok (.dup, 1) := by decide +kernel
theorem dX8_factor_82 : decode cX8_factor 82 = .ok (.getfield 124, 3) := by decide +kernel
theorem dX8_factor_85 : decode cX8_factor 85 = .ok (.iconst 1, 1) := by decide +kernel
theorem dX8_factor_86 : decode cX8_factor 86 = .ok (.iadd, 1) := by decide +kernel
theorem dX8_factor_87 : decode cX8_factor 87 = .ok (.putfield 124, 3) := by decide +kernel
theorem dX8_factor_90 : decode cX8_factor 90 = .ok (.aload_n 0, 1) := by decide +kernel
theorem dX8_factor_91 : decode cX8_factor 91 = .ok (.dup, 1) := by decide +kernel
theorem dX8_factor_92 : decode cX8_factor 92 = .ok (.getfield 145, 3) := by decide +kernel
theorem dX8_factor_95 : decode cX8_factor 95 = .ok (.iconst 1, 1) := by decide +kernel
theorem dX8_factor_96 : decode cX8_factor 96 = .ok (.iadd, 1) := by decide +kernel
theorem dX8_factor_97 : decode cX8_factor 97 = .ok (.putfield 145, 3) := by decide +kernel
theorem dX8_factor_100 : decode cX8_factor 100 = .ok (.aload_n 0, 1) := by decide +kernel
theorem dX8_factor_101 : decode cX8_factor 101 = .ok (.invokevirtual 151, 3) := by decide +kernel
theorem dX8_factor_104 : decode cX8_factor 104 = .ok (.istore_n 1, 1) := by decide +kernel
theorem dX8_factor_105 : decode cX8_factor 105 = .ok (.aload_n 0, 1) := by decide +kernel
theorem dX8_factor_106 : decode cX8_factor 106 = .ok (.dup, 1) := by decide +kernel
theorem dX8_factor_107 : decode cX8_factor 107 = .ok (.getfield 145, 3) := by decide +kernel
theorem dX8_factor_110 : decode cX8_factor 110 = .ok (.iconst 1, 1) := by decide +kernel
theorem dX8_factor_111 : decode cX8_factor 111 = .ok (.isub, 1) := by decide +kernel
theorem dX8_factor_112 : decode cX8_factor 112 = .ok (.putfield 145, 3) := by decide +kernel
theorem dX8_factor_115 : decode cX8_factor 115 = .ok (.aload_n 0, 1) := by decide +kernel
theorem dX8_factor_116 : decode cX8_factor 116 = .ok (.bipush 41, 2) := by decide +kernel
theorem dX8_factor_118 : decode cX8_factor 118 = .ok (.invokevirtual 137, 3) := by decide +kernel
theorem dX8_factor_121 : decode cX8_factor 121 = .ok (.goto 8, 3) := by decide +kernel
theorem dX8_factor_124 : decode cX8_factor 124 = .ok (.aload_n 0, 1) := by decide +kernel
theorem dX8_factor_125 : decode cX8_factor 125 = .ok (.invokevirtual 154, 3) := by decide +kernel
theorem dX8_factor_128 : decode cX8_factor 128 = .ok (.istore_n 1, 1) := by decide +kernel
theorem dX8_factor_129 : decode cX8_factor 129 = .ok (.iload_n 1, 1) := by decide +kernel
theorem dX8_factor_130 : decode cX8_factor 130 = .ok (.ireturn, 1) := by decide +kernel
theorem dX8_both_0 : decode cX8_both 0 = .ok (.aload_n 0, 1) := by decide +kernel
theorem dX8_both_1 : decode cX8_both 1 = .ok (.invokevirtual 148, 3) := by decide +kernel
theorem dX8_both_4 : decode cX8_both 4 = .ok (.istore_n 1, 1) := by decide +kernel
theorem dX8_both_5 : decode cX8_both 5 = .ok (.aload_n 0, 1) := by decide +kernel
theorem dX8_both_6 : decode cX8_both 6 = .ok (.bipush 38, 2) := by decide +kernel
theorem dX8_both_8 : decode cX8_both 8 = .ok (.invokevirtual 130, 3) := by decide +kernel
theorem dX8_both_11 : decode cX8_both 11 = .ok (.ifCond .eq 35, 3) := by decide +kernel
theorem dX8_both_14 : decode cX8_both 14 = .ok (.aload_n 0, 1) := by decide +kernel
theorem dX8_both_15 : decode cX8_both 15 = .ok (.dup, 1) := by decide +kernel
theorem dX8_both_16 : decode cX8_both 16 = .ok (.getfield 124, 3) := by decide +kernel
theorem dX8_both_19 : decode cX8_both 19 = .ok (.iconst 1, 1) := by decide +kernel
theorem dX8_both_20 : decode cX8_both 20 = .ok (.iadd, 1) := by decide +kernel
theorem dX8_both_21 : decode cX8_both 21 = .ok (.putfield 124, 3) := by decide +kernel
theorem dX8_both_24 : decode cX8_both 24 = .ok (.aload_n 0, 1) := by decide +kernel
theorem dX8_both_25 : decode cX8_both 25 = .ok (.invokevirtual 148, 3) := by decide +kernel
theorem dX8_both_28 : decode cX8_both 28 = .ok (.istore_n 2, 1) := by decide +kernel
theorem dX8_both_29 : decode cX8_both 29 = .ok (.iload_n 1, 1) := by decide +kernel
theorem dX8_both_30 : decode cX8_both 30 = .ok (.ifCond .eq 11, 3) := by decide +kernel
theorem dX8_both_33 : decode cX8_both 33 = .ok (.iload_n 2, 1) := by decide +kernel
theorem dX8_both_34 : decode cX8_both 34 = .ok (.ifCond .eq 7, 3) := by decide +kernel
theorem dX8_both_37 : decode cX8_both 37 = .ok (.iconst 1, 1) := by decide +kernel
theorem dX8_both_38 : decode cX8_both 38 = .ok (.goto 4, 3) := by decide +kernel
theorem dX8_both_41 : decode cX8_both 41 = .ok (.iconst 0, 1) := by decide +kernel
theorem dX8_both_42 : decode cX8_both 42 = .ok (.istore_n 1, 1) := by decide +kernel
theorem dX8_both_43 : decode cX8_both 43 = .ok (.goto (-38), 3) := by decide +kernel
theorem dX8_both_46 : decode cX8_both 46 = .ok (.iload_n 1, 1) := by decide +kernel
theorem dX8_both_47 : decode cX8_both 47 = .ok (.ireturn, 1) := by decide +kernel
theorem dX8_any_0 : decode cX8_any 0 = .ok (.aload_n 0, 1) := by decide +kernel
theorem dX8_any_1 : decode cX8_any 1 = .ok (.invokevirtual 157, 3) := by decide +kernel
theorem dX8_any_4 : decode cX8_any 4 = .ok (.istore_n 1, 1) := by decide +kernel
theorem dX8_any_5 : decode cX8_any 5 = .ok (.aload_n 0, 1) := by decide +kernel
theorem dX8_any_6 : decode cX8_any 6 = .ok (.bipush 124, 2) := by decide +kernel
theorem dX8_any_8 : decode cX8_any 8 = .ok (.invokevirtual 130, 3) := by decide +kernel
theorem dX8_any_11 : decode cX8_any 11 = .ok (.ifCond .eq 35, 3) := by decide +kernel
theorem dX8_any_14 : decode cX8_any 14 = .ok (.aload_n 0, 1) := by decide +kernel
theorem dX8_any_15 : decode cX8_any 15 = .ok (.dup, 1) := by decide +kernel
theorem dX8_any_16 : decode cX8_any 16 = .ok (.getfield 124, 3) := by decide +kernel
theorem dX8_any_19 : decode cX8_any 19 = .ok (.iconst 1, 1) := by decide +kernel
theorem dX8_any_20 : decode cX8_any 20 = .ok (.iadd, 1) := by decide +kernel
theorem dX8_any_21 : decode cX8_any 21 = .ok (.putfield 124, 3) := by decide +kernel
theorem dX8_any_24 : decode cX8_any 24 = .ok (.aload_n 0, 1) := by decide +kernel
theorem dX8_any_25 : decode cX8_any 25 = .ok (.invokevirtual 157, 3) := by decide +kernel
theorem dX8_any_28 : decode cX8_any 28 = .ok (.istore_n 2, 1) := by decide +kernel
theorem dX8_any_29 : decode cX8_any 29 = .ok (.iload_n 1, 1) := by decide +kernel
theorem dX8_any_30 : decode cX8_any 30 = .ok (.ifCond .ne 7, 3) := by decide +kernel
theorem dX8_any_33 : decode cX8_any 33 = .ok (.iload_n 2, 1) := by decide +kernel
theorem dX8_any_34 : decode cX8_any 34 = .ok (.ifCond .eq 7, 3) := by decide +kernel
theorem dX8_any_37 : decode cX8_any 37 = .ok (.iconst 1, 1) := by decide +kernel
theorem dX8_any_38 : decode cX8_any 38 = .ok (.goto 4, 3) := by decide +kernel
theorem dX8_any_41 : decode cX8_any 41 = .ok (.iconst 0, 1) := by decide +kernel
theorem dX8_any_42 : decode cX8_any 42 = .ok (.istore_n 1, 1) := by decide +kernel
theorem dX8_any_43 : decode cX8_any 43 = .ok (.goto (-38), 3) := by decide +kernel
theorem dX8_any_46 : decode cX8_any 46 = .ok (.iload_n 1, 1) := by decide +kernel
theorem dX8_any_47 : decode cX8_any 47 = .ok (.ireturn, 1) := by decide +kernel
theorem dX8_clause_0 : decode cX8_clause 0 = .ok (.iconst (-1), 1) := by decide +kernel
theorem dX8_clause_1 : decode cX8_clause 1 = .ok (.istore_n 1, 1) := by decide +kernel
theorem dX8_clause_2 : decode cX8_clause 2 = .ok (.iconst 0, 1) := by decide +kernel
theorem dX8_clause_3 : decode cX8_clause 3 = .ok (.istore_n 2, 1) := by decide +kernel
theorem dX8_clause_4 : decode cX8_clause 4 = .ok (.iload_n 2, 1) := by decide +kernel
theorem dX8_clause_5 : decode cX8_clause 5 = .ok (.iconst 3, 1) := by decide +kernel
theorem dX8_clause_6 : decode cX8_clause 6 = .ok (.if_icmp .ge 28, 3) := by decide +kernel
theorem dX8_clause_9 : decode cX8_clause 9 = .ok (.aload_n 0, 1) := by decide +kernel
theorem dX8_clause_10 : decode cX8_clause 10 = .ok (.aload_n 0, 1) := by decide +kernel
theorem dX8_clause_11 : decode cX8_clause 11 = .ok (.getfield 44, 3) := by decide +kernel
theorem dX8_clause_14 : decode cX8_clause 14 = .ok (.iload_n 2, 1) := by decide +kernel
theorem dX8_clause_15 : decode cX8_clause 15 = .ok (.caload, 1) := by decide +kernel
theorem dX8_clause_16 : decode cX8_clause 16 = .ok (.invokevirtual 130, 3) := by decide +kernel
theorem dX8_clause_19 : decode cX8_clause 19 = .ok (.ifCond .eq 7, 3) := by decide +kernel
theorem dX8_clause_22 : decode cX8_clause 22 = .ok (.iload_n 2, 1) := by decide +kernel
theorem dX8_clause_23 : decode cX8_clause 23 = .ok (.goto 4, 3) := by decide +kernel
theorem dX8_clause_26 : decode cX8_clause 26 = .ok (.iload_n 1, 1) := by decide +kernel
theorem dX8_clause_27 : decode cX8_clause 27 = .ok (.istore_n 1, 1) := by decide +kernel
theorem dX8_clause_28 : decode cX8_clause 28 = .ok (.iinc 2 1, 3) := by decide +kernel
theorem dX8_clause_31 : decode cX8_clause 31 = .ok (.goto (-27), 3) := by decide +kernel
theorem dX8_clause_34 : decode cX8_clause 34 = .ok (.iload_n 1, 1) := by decide +kernel
theorem dX8_clause_35 : decode cX8_clause 35 = .ok (.iconst (-1), 1) := by decide +kernel
theorem dX8_clause_36 : decode cX8_clause 36 = .ok (.if_icmp .ne 9, 3) := by decide +kernel
theorem dX8_clause_39 : decode cX8_clause 39 = .ok (.aload_n 0, 1) := by decide +kernel
theorem dX8_clause_40 : decode cX8_clause 40 = .ok (.iconst 0, 1) := by decide +kernel
theorem dX8_clause_41 : decode cX8_clause 41 = .ok (.putfield 121, 3) := by decide +kernel
theorem dX8_clause_44 : decode cX8_clause 44 = .ok (.return_, 1) := by decide +kernel
theorem dX8_clause_45 : decode cX8_clause 45 = .ok (.iconst 0, 1) := by decide +kernel
theorem dX8_clause_46 : decode cX8_clause 46 = .ok (.istore_n 2, 1) := by decide +kernel
theorem dX8_clause_47 : decode cX8_clause 47 = .ok (.iload_n 2, 1) := by decide +kernel
theorem dX8_clause_48 : decode cX8_clause 48 = .ok (.iconst 5, 1) := by decide +kernel
theorem dX8_clause_49 : decode cX8_clause 49 = .ok (.if_icmp .ge 36, 3) := by decide +kernel
theorem dX8_clause_52 : decode cX8_clause 52 = .ok (.aload_n 0, 1) := by decide +kernel
theorem dX8_clause_53 : decode cX8_clause 53 = .ok (.getfield 47, 3) := by decide +kernel
theorem dX8_clause_56 : decode cX8_clause 56 = .ok (.iconst 5, 1) := by decide +kernel
theorem dX8_clause_57 : decode cX8_clause 57 = .ok (.iload_n 1, 1) := by decide +kernel
theorem dX8_clause_58 : decode cX8_clause 58 = .ok (.imul, 1) := by decide +kernel
theorem dX8_clause_59 : decode cX8_clause 59 = .ok (.iload_n 2, 1) := by decide +kernel
theorem dX8_clause_60 : decode cX8_clause 60 = .ok (.iadd, 1) := by decide +kernel
theorem dX8_clause_61 : decode cX8_clause 61 = .ok (.caload, 1) := by decide +kernel
theorem dX8_clause_62 : decode cX8_clause 62 = .ok (.ifCond .eq 23, 3) := by decide +kernel
theorem dX8_clause_65 : decode cX8_clause 65 = .ok (.aload_n 0, 1) := by decide +kernel
theorem dX8_clause_66 : decode cX8_clause 66 = .ok (.aload_n 0, 1) := by decide +kernel
theorem dX8_clause_67 : decode cX8_clause 67 = .ok (.getfield 47, 3) := by decide +kernel
theorem dX8_clause_70 : decode cX8_clause 70 = .ok (.iconst 5, 1) := by decide +kernel
theorem dX8_clause_71 : decode cX8_clause 71 = .ok (.iload_n 1, 1) := by decide +kernel
theorem dX8_clause_72 : decode cX8_clause 72 = .ok (.imul, 1) := by decide +kernel
theorem dX8_clause_73 : decode cX8_clause 73 = .ok (.iload_n 2, 1) := by decide +kernel
theorem dX8_clause_74 : decode cX8_clause 74 = .ok (.iadd, 1) := by decide +kernel
theorem dX8_clause_75 : decode cX8_clause 75 = .ok (.caload, 1) := by decide +kernel
theorem dX8_clause_76 : decode cX8_clause 76 = .ok (.invokevirtual 137, 3) := by decide +kernel
theorem dX8_clause_79 : decode cX8_clause 79 = .ok (.iinc 2 1, 3) := by decide +kernel
theorem dX8_clause_82 : decode cX8_clause 82 = .ok (.goto (-35), 3) := by decide +kernel
theorem dX8_clause_85 : decode cX8_clause 85 = .ok (.aload_n 0, 1) := by decide +kernel
theorem dX8_clause_86 : decode cX8_clause 86 = .ok (.bipush 32, 2) := by decide +kernel
theorem dX8_clause_88 : decode cX8_clause 88 = .ok (.invokevirtual 137, 3) := by decide +kernel
theorem dX8_clause_91 : decode cX8_clause 91 = .ok (.aload_n 0, 1) := by decide +kernel
theorem dX8_clause_92 : decode cX8_clause 92 = .ok (.invokevirtual 141, 3) := by decide +kernel
theorem dX8_clause_95 : decode cX8_clause 95 = .ok (.istore_n 2, 1) := by decide +kernel
theorem dX8_clause_96 : decode cX8_clause 96 = .ok (.iload_n 1, 1) := by decide +kernel
theorem dX8_clause_97 : decode cX8_clause 97 = .ok (.iconst 2, 1) := by decide +kernel
theorem dX8_clause_98 : decode cX8_clause 98 = .ok (.if_icmp .ne 9, 3) := by decide +kernel
theorem dX8_clause_101 : decode cX8_clause 101 = .ok (.aload_n 0, 1) := by decide +kernel
theorem dX8_clause_102 : decode cX8_clause 102 = .ok (.iload_n 2, 1) := by decide +kernel
theorem dX8_clause_103 : decode cX8_clause 103 = .ok (.putfield 160, 3) := by decide +kernel
theorem dX8_clause_106 : decode cX8_clause 106 = .ok (.return_, 1) := by decide +kernel
theorem dX8_clause_107 : decode cX8_clause 107 = .ok (.aload_n 0, 1) := by decide +kernel
theorem dX8_clause_108 : decode cX8_clause 108 = .ok (.bipush 32, 2) := by decide +kernel
theorem dX8_clause_110 : decode cX8_clause 110 = .ok (.invokevirtual 137, 3) := by decide +kernel
theorem dX8_clause_113 : decode cX8_clause 113 = .ok (.aload_n 0, 1) := by decide +kernel
theorem dX8_clause_114 : decode cX8_clause 114 = .ok (.iconst 0, 1) := by decide +kernel
theorem dX8_clause_115 : decode cX8_clause 115 = .ok (.putfield 145, 3) := by decide +kernel
theorem dX8_clause_118 : decode cX8_clause 118 = .ok (.aload_n 0, 1) := by decide +kernel
theorem dX8_clause_119 : decode cX8_clause 119 = .ok (.invokevirtual 151, 3) := by decide +kernel
theorem dX8_clause_122 : decode cX8_clause 122 = .ok (.istore_n 3, 1) := by decide +kernel
theorem dX8_clause_123 : decode cX8_clause 123 = .ok (.aload_n 0, 1) := by decide +kernel
theorem dX8_clause_124 : decode cX8_clause 124 = .ok (.dup, 1) := by decide +kernel
theorem dX8_clause_125 : decode cX8_clause 125 = .ok (.getfield 163, 3) := by decide +kernel
theorem dX8_clause_128 : decode cX8_clause 128 = .ok (.iload_n 3, 1) := by decide +kernel
theorem dX8_clause_129 : decode cX8_clause 129 = .ok (.ifCond .ne 7, 3) := by decide +kernel
theorem dX8_clause_132 : decode cX8_clause 132 = .ok (.iconst 0, 1) := by decide +kernel
theorem dX8_clause_133 : decode cX8_clause 133 = .ok (.goto 13, 3) := by decide +kernel
theorem dX8_clause_136 : decode cX8_clause 136 = .ok (.iload_n 1, 1) := by decide +kernel
theorem dX8_clause_137 : decode cX8_clause 137 = .ok (.ifCond .ne 7, 3) := by decide +kernel
theorem dX8_clause_140 : decode cX8_clause 140 = .ok (.iload_n 2, 1) := by decide +kernel
theorem dX8_clause_141 : decode cX8_clause 141 = .ok (.goto 5, 3) := by decide +kernel
theorem dX8_clause_144 : decode cX8_clause 144 = .ok (.iload_n 2, 1) := by decide +kernel
theorem dX8_clause_145 : decode cX8_clause 145 = .ok (.ineg, 1) := by decide +kernel
theorem dX8_clause_146 : decode cX8_clause 146 = .ok (.iadd, 1) := by decide +kernel
theorem dX8_clause_147 : decode cX8_clause 147 = .ok (.putfield 163, 3) := by decide +kernel
theorem dX8_clause_150 : decode cX8_clause 150 = .ok (.return_, 1) := by decide +kernel
theorem dX8_readAll_0 : decode cX8_readAll 0 = .ok (.aload_n 0, 1) := by decide +kernel
theorem dX8_readAll_1 : decode cX8_readAll 1 = .ok (.iconst 0, 1) := by decide +kernel
theorem dX8_readAll_2 : decode cX8_readAll 2 = .ok (.putfield 124, 3) := by decide +kernel
theorem dX8_readAll_5 : decode cX8_readAll 5 = .ok (.aload_n 0, 1) := by decide +kernel
theorem dX8_readAll_6 : decode cX8_readAll 6 = .ok (.iconst 1, 1) := by decide +kernel
theorem dX8_readAll_7 : decode cX8_readAll 7 = .ok (.putfield 121, 3) := by decide +kernel
theorem dX8_readAll_10 : decode cX8_readAll 10 = .ok (.aload_n 0, 1) := by decide +kernel
theorem dX8_readAll_11 : decode cX8_readAll 11 = .ok (.bipush 20, 2) := by decide +kernel
theorem dX8_readAll_13 : decode cX8_readAll 13 = .ok (.putfield 163, 3) := by decide +kernel
theorem dX8_readAll_16 : decode cX8_readAll 16 = .ok (.aload_n 0, 1) := by decide +kernel
theorem dX8_readAll_17 : decode cX8_readAll 17 = .ok (.iconst 2, 1) := by decide +kernel
theorem dX8_readAll_18 : decode cX8_readAll 18 = .ok (.putfield 160, 3) := by decide +kernel
theorem dX8_readAll_21 : decode cX8_readAll 21 = .ok (.iconst 1, 1) := by decide +kernel
theorem dX8_readAll_22 : decode cX8_readAll 22 = .ok (.istore_n 1, 1) := by decide +kernel
theorem dX8_readAll_23 : decode cX8_readAll 23 = .ok (.aload_n 0, 1) := by decide +kernel
theorem dX8_readAll_24 : decode cX8_readAll 24 = .ok (.invokevirtual 166, 3) := by decide +kernel
theorem dX8_readAll_27 : decode cX8_readAll 27 = .ok (.iload_n 1, 1) := by decide +kernel
theorem dX8_readAll_28 : decode cX8_readAll 28 = .ok (.bipush 10, 2) := by decide +kernel
theorem dX8_readAll_30 : decode cX8_readAll 30 = .ok (.if_icmp .ge 32, 3) := by decide +kernel
theorem dX8_readAll_33 : decode cX8_readAll 33 = .ok (.aload_n 0, 1) := by decide +kernel
theorem dX8_readAll_34 : decode cX8_readAll 34 = .ok (.bipush 59, 2) := by decide +kernel
theorem dX8_readAll_36 : decode cX8_readAll 36 = .ok (.invokevirtual 130, 3) := by decide +kernel
theorem dX8_readAll_39 : decode cX8_readAll 39 = .ok (.ifCond .eq 23, 3) := by decide +kernel
theorem dX8_readAll_42 : decode cX8_readAll 42 = .ok (.aload_n 0, 1) := by decide +kernel
theorem dX8_readAll_43 : decode cX8_readAll 43 = .ok (.dup, 1) := by decide +kernel
theorem dX8_readAll_44 : decode cX8_readAll 44 = .ok (.getfield 124, 3) := by decide +kernel
theorem dX8_readAll_47 : decode cX8_readAll 47 = .ok (.iconst 1, 1) := by decide +kernel
theorem dX8_readAll_48 : decode cX8_readAll 48 = .ok (.iadd, 1) := by decide +kernel
theorem dX8_readAll_49 : decode cX8_readAll 49 = .ok (.putfield 124, 3) := by decide +kernel
theorem dX8_readAll_52 : decode cX8_readAll 52 = .ok (.aload_n 0, 1) := by decide +kernel
theorem dX8_readAll_53 : decode cX8_readAll 53 = .ok (.invokevirtual 166, 3) := by decide +kernel
theorem dX8_readAll_56 : decode cX8_readAll 56 = .ok (.iinc 1 1, 3) := by decide +kernel
theorem dX8_readAll_59 : decode cX8_readAll 59 = .ok (.goto (-32), 3) := by decide +kernel
theorem dX8_readAll_62 : decode cX8_readAll 62 = .ok (.aload_n 0, 1) := by decide +kernel
theorem dX8_readAll_63 : decode cX8_readAll 63 = .ok (.getfield 121, 3) := by decide +kernel
theorem dX8_readAll_66 : decode cX8_readAll 66 = .ok (.ifCond .eq 18, 3) := by decide +kernel
theorem dX8_readAll_69 : decode cX8_readAll 69 = .ok (.aload_n 0, 1) := by decide +kernel
theorem dX8_readAll_70 : decode cX8_readAll 70 = .ok (.getfield 124, 3) := by decide +kernel
theorem dX8_readAll_73 : decode cX8_readAll 73 = .ok (.aload_n 0, 1) := by decide +kernel
theorem dX8_readAll_74 : decode cX8_readAll 74 = .ok (.getfield 127, 3) := by decide +kernel
theorem dX8_readAll_77 : decode cX8_readAll 77 = .ok (.if_icmp .ne 7, 3) := by decide +kernel
theorem dX8_readAll_80 : decode cX8_readAll 80 = .ok (.iconst 1, 1) := by decide +kernel
theorem dX8_readAll_81 : decode cX8_readAll 81 = .ok (.goto 4, 3) := by decide +kernel
theorem dX8_readAll_84 : decode cX8_readAll 84 = .ok (.iconst 0, 1) := by decide +kernel
theorem dX8_readAll_85 : decode cX8_readAll 85 = .ok (.ireturn, 1) := by decide +kernel
theorem dX8_readFor_0 : decode cX8_readFor 0 = .ok (.aload_n 0, 1) := by decide +kernel
theorem dX8_readFor_1 : decode cX8_readFor 1 = .ok (.getfield 37, 3) := by decide +kernel
theorem dX8_readFor_4 : decode cX8_readFor 4 = .ok (.iconst 0, 1) := by decide +kernel
theorem dX8_readFor_5 : decode cX8_readFor 5 = .ok (.iload_n 1, 1) := by decide +kernel
theorem dX8_readFor_6 : decode cX8_readFor 6 = .ok (.iastore, 1) := by decide +kernel
theorem dX8_readFor_7 : decode cX8_readFor 7 = .ok (.aload_n 0, 1) := by decide +kernel
theorem dX8_readFor_8 : decode cX8_readFor 8 = .ok (.getfield 37, 3) := by decide +kernel
theorem dX8_readFor_11 : decode cX8_readFor 11 = .ok (.iconst 1, 1) := by decide +kernel
theorem dX8_readFor_12 : decode cX8_readFor 12 = .ok (.aload_n 0, 1) := by decide +kernel
theorem dX8_readFor_13 : decode cX8_readFor 13 = .ok (.iload_n 1, 1) := by decide +kernel
theorem dX8_readFor_14 : decode cX8_readFor 14 = .ok (.iconst 0, 1) := by decide +kernel
theorem dX8_readFor_15 : decode cX8_readFor 15 = .ok (.invokevirtual 89, 3) := by decide +kernel
theorem dX8_readFor_18 : decode cX8_readFor 18 = .ok (.iastore, 1) := by decide +kernel
theorem dX8_readFor_19 : decode cX8_readFor 19 = .ok (.aload_n 0, 1) := by decide +kernel
theorem dX8_readFor_20 : decode cX8_readFor 20 = .ok (.getfield 37, 3) := by decide +kernel
theorem dX8_readFor_23 : decode cX8_readFor 23 = .ok (.iconst 2, 1) := by decide +kernel
theorem dX8_readFor_24 : decode cX8_readFor 24 = .ok (.aload_n 0, 1) := by decide +kernel
theorem dX8_readFor_25 : decode cX8_readFor 25 = .ok (.iload_n 1, 1) := by decide +kernel
theorem dX8_readFor_26 : decode cX8_readFor 26 = .ok (.iconst 1, 1) := by decide +kernel
theorem dX8_readFor_27 : decode cX8_readFor 27 = .ok (.invokevirtual 89, 3) := by decide +kernel
theorem dX8_readFor_30 : decode cX8_readFor 30 = .ok (.iastore, 1) := by decide +kernel
theorem dX8_readFor_31 : decode cX8_readFor 31 = .ok (.aload_n 0, 1) := by decide +kernel
theorem dX8_readFor_32 : decode cX8_readFor 32 = .ok (.getfield 37, 3) := by decide +kernel
theorem dX8_readFor_35 : decode cX8_readFor 35 = .ok (.iconst 3, 1) := by decide +kernel
theorem dX8_readFor_36 : decode cX8_readFor 36 = .ok (.aload_n 0, 1) := by decide +kernel
theorem dX8_readFor_37 : decode cX8_readFor 37 = .ok (.iload_n 1, 1) := by decide +kernel
theorem dX8_readFor_38 : decode cX8_readFor 38 = .ok (.iconst 2, 1) := by decide +kernel
theorem dX8_readFor_39 : decode cX8_readFor 39 = .ok (.invokevirtual 89, 3) := by decide +kernel
theorem dX8_readFor_42 : decode cX8_readFor 42 = .ok (.iastore, 1) := by decide +kernel
theorem dX8_readFor_43 : decode cX8_readFor 43 = .ok (.aload_n 0, 1) := by decide +kernel
theorem dX8_readFor_44 : decode cX8_readFor 44 = .ok (.getfield 37, 3) := by decide +kernel
theorem dX8_readFor_47 : decode cX8_readFor 47 = .ok (.iconst 4, 1) := by decide +kernel
theorem dX8_readFor_48 : decode cX8_readFor 48 = .ok (.iload_n 2, 1) := by decide +kernel
theorem dX8_readFor_49 : decode cX8_readFor 49 = .ok (.iastore, 1) := by decide +kernel
theorem dX8_readFor_50 : decode cX8_readFor 50 = .ok (.aload_n 0, 1) := by decide +kernel
theorem dX8_readFor_51 : decode cX8_readFor 51 = .ok (.getfield 37, 3) := by decide +kernel
theorem dX8_readFor_54 : decode cX8_readFor 54 = .ok (.iconst 5, 1) := by decide +kernel
theorem dX8_readFor_55 : decode cX8_readFor 55 = .ok (.aload_n 0, 1) := by decide +kernel
theorem dX8_readFor_56 : decode cX8_readFor 56 = .ok (.getfield 15, 3) := by decide +kernel
theorem dX8_readFor_59 : decode cX8_readFor 59 = .ok (.bipush 62, 2) := by decide +kernel
theorem dX8_readFor_61 : decode cX8_readFor 61 = .ok (.iaload, 1) := by decide +kernel
theorem dX8_readFor_62 : decode cX8_readFor 62 = .ok (.bipush 10, 2) := by decide +kernel
theorem dX8_readFor_64 : decode cX8_readFor 64 = .ok (.irem, 1) := by decide +kernel
theorem dX8_readFor_65 : decode cX8_readFor 65 = .ok (.iastore, 1) := by decide +kernel
theorem dX8_readFor_66 : decode cX8_readFor 66 = .ok (.aload_n 0, 1) := by decide +kernel
theorem dX8_readFor_67 : decode cX8_readFor 67 = .ok (.getfield 15, 3) := by decide +kernel
theorem dX8_readFor_70 : decode cX8_readFor 70 = .ok (.bipush 63, 2) := by decide +kernel
theorem dX8_readFor_72 : decode cX8_readFor 72 = .ok (.iaload, 1) := by decide +kernel
theorem dX8_readFor_73 : decode cX8_readFor 73 = .ok (.ifCond .ne 17, 3) := by decide +kernel
theorem dX8_readFor_76 : decode cX8_readFor 76 = .ok (.aload_n 0, 1) := by decide +kernel
theorem dX8_readFor_77 : decode cX8_readFor 77 = .ok (.bipush 20, 2) := by decide +kernel
theorem dX8_readFor_79 : decode cX8_readFor 79 = .ok (.putfield 163, 3) := by decide +kernel
theorem dX8_readFor_82 : decode cX8_readFor 82 = .ok (.aload_n 0, 1) := by decide +kernel
theorem dX8_readFor_83 : decode cX8_readFor 83 = .ok (.iconst 2, 1) := by decide +kernel
theorem dX8_readFor_84 : decode cX8_readFor 84 = .ok (.putfield 160, 3) := by decide +kernel
theorem dX8_readFor_87 : decode cX8_readFor 87 = .ok (.goto 65, 3) := by decide +kernel
theorem dX8_readFor_90 : decode cX8_readFor 90 = .ok (.aload_n 0, 1) := by decide +kernel
theorem dX8_readFor_91 : decode cX8_readFor 91 = .ok (.getfield 15, 3) := by decide +kernel
theorem dX8_readFor_94 : decode cX8_readFor 94 = .ok (.bipush 63, 2) := by decide +kernel
theorem dX8_readFor_96 : decode cX8_readFor 96 = .ok (.iaload, 1) := by decide +kernel
theorem dX8_readFor_97 : decode cX8_readFor 97 = .ok (.iconst 1, 1) := by decide +kernel
theorem dX8_readFor_98 : decode cX8_readFor 98 = .ok (.isub, 1) := by decide +kernel
theorem dX8_readFor_99 : decode cX8_readFor 99 = .ok (.istore_n 3, 1) := by decide +kernel
theorem dX8_readFor_100 : decode cX8_readFor 100 = .ok (.aload_n 0, 1) := by decide +kernel
theorem dX8_readFor_101 : decode cX8_readFor 101 = .ok (.aload_n 0, 1) := by decide +kernel
theorem dX8_readFor_102 : decode cX8_readFor 102 = .ok (.getfield 31, 3) := by decide +kernel
theorem dX8_readFor_105 : decode cX8_readFor 105 = .ok (.iload_n 3, 1) := by decide +kernel
theorem dX8_readFor_106 : decode cX8_readFor 106 = .ok (.iaload, 1) := by decide +kernel
theorem dX8_readFor_107 : decode cX8_readFor 107 = .ok (.putfield 127, 3) := by decide +kernel
theorem dX8_readFor_110 : decode cX8_readFor 110 = .ok (.iconst 0, 1) := by decide +kernel
theorem dX8_readFor_111 : decode cX8_readFor 111 = .ok (.istore 4, 2) := by decide +kernel
theorem dX8_readFor_113 : decode cX8_readFor 113 = .ok (.iload 4, 2) := by decide +kernel
theorem dX8_readFor_115 : decode cX8_readFor 115 = .ok (.aload_n 0, 1) := by decide +kernel
theorem dX8_readFor_116 : decode cX8_readFor 116 = .ok (.getfield 127, 3) := by decide +kernel
theorem dX8_readFor_119 : decode cX8_readFor 119 = .ok (.if_icmp .ge 28, 3) := by decide +kernel
theorem dX8_readFor_122 : decode cX8_readFor 122 = .ok (.aload_n 0, 1) := by decide +kernel
theorem dX8_readFor_123 : decode cX8_readFor 123 = .ok (.getfield 34, 3) := by decide +kernel
theorem dX8_readFor_126 : decode cX8_readFor 126 = .ok (.iload 4, 2) := by decide +kernel
theorem dX8_readFor_128 : decode cX8_readFor 128 = .ok (.aload_n 0, 1) := by decide +kernel
theorem dX8_readFor_129 : decode cX8_readFor 129 = .ok (.getfield 28, 3) := by decide +kernel
theorem dX8_readFor_132 : decode cX8_readFor 132 = .ok (.bipush 100, 2) := by decide +kernel
theorem dX8_readFor_134 : decode cX8_readFor 134 = .ok (.iload_n 3, 1) := by decide +kernel
theorem dX8_readFor_135 : decode cX8_readFor 135 = .ok (.imul, 1) := by decide +kernel
theorem dX8_readFor_136 : decode cX8_readFor 136 = .ok (.iload 4, 2) := by decide +kernel
theorem dX8_readFor_138 : decode cX8_readFor 138 = .ok (.iadd, 1) := by decide +kernel
theorem dX8_readFor_139 : decode cX8_readFor 139 = .ok (.iaload, 1) := by decide +kernel
theorem dX8_readFor_140 : decode cX8_readFor 140 = .ok (.iastore, 1) := by decide +kernel
theorem dX8_readFor_141 : decode cX8_readFor 141 = .ok (.iinc 4 1, 3) := by decide +kernel
theorem dX8_readFor_144 : decode cX8_readFor 144 = .ok (.goto (-31), 3) := by decide +kernel
theorem dX8_readFor_147 : decode cX8_readFor 147 = .ok (.aload_n 0, 1) := by decide +kernel
theorem dX8_readFor_148 : decode cX8_readFor 148 = .ok (.invokevirtual 169, 3) := by decide +kernel
theorem dX8_readFor_151 : decode cX8_readFor 151 = .ok (.pop, 1) := by decide +kernel
theorem dX8_readFor_152 : decode cX8_readFor 152 = .ok (.aload_n 0, 1) := by decide +kernel
theorem dX8_readFor_153 : decode cX8_readFor 153 = .ok (.dup, 1) := by decide +kernel
theorem dX8_readFor_154 : decode cX8_readFor 154 = .ok (.getfield 163, 3) := by decide +kernel
theorem dX8_readFor_157 : decode cX8_readFor 157 = .ok (.aload_n 0, 1) := by decide +kernel
theorem dX8_readFor_158 : decode cX8_readFor 158 = .ok (.getfield 160, 3) := by decide +kernel
theorem dX8_readFor_161 : decode cX8_readFor 161 = .ok (.iload_n 2, 1) := by decide +kernel
theorem dX8_readFor_162 : decode cX8_readFor 162 = .ok (.imul, 1) := by decide +kernel
theorem dX8_readFor_163 : decode cX8_readFor 163 = .ok (.isub, 1) := by decide +kernel
theorem dX8_readFor_164 : decode cX8_readFor 164 = .ok (.putfield 163, 3) := by decide +kernel
theorem dX8_readFor_167 : decode cX8_readFor 167 = .ok (.return_, 1) := by decide +kernel
theorem dX8_parish_0 : decode cX8_parish 0 = .ok (.aload_n 0, 1) := by decide +kernel
theorem dX8_parish_1 : decode cX8_parish 1 = .ok (.getfield 172, 3) := by decide +kernel
theorem dX8_parish_4 : decode cX8_parish 4 = .ok (.bipush 6, 2) := by decide +kernel
theorem dX8_parish_6 : decode cX8_parish 6 = .ok (.if_icmp .ne 6, 3) := by decide +kernel
theorem dX8_parish_9 : decode cX8_parish 9 = .ok (.bipush (-4), 2) := by decide +kernel
theorem dX8_parish_11 : decode cX8_parish 11 = .ok (.ireturn, 1) := by decide +kernel
theorem dX8_parish_12 : decode cX8_parish 12 = .ok (.aload_n 0, 1) := by decide +kernel
theorem dX8_parish_13 : decode cX8_parish 13 = .ok (.aload_n 0, 1) := by decide +kernel
theorem dX8_parish_14 : decode cX8_parish 14 = .ok (.getfield 117, 3) := by decide +kernel
theorem dX8_parish_17 : decode cX8_parish 17 = .ok (.putfield 127, 3) := by decide +kernel
theorem dX8_parish_20 : decode cX8_parish 20 = .ok (.iconst 0, 1) := by decide +kernel
theorem dX8_parish_21 : decode cX8_parish 21 = .ok (.istore_n 1, 1) := by decide +kernel
theorem dX8_parish_22 : decode cX8_parish 22 = .ok (.iload_n 1, 1) := by decide +kernel
theorem dX8_parish_23 : decode cX8_parish 23 = .ok (.aload_n 0, 1) := by decide +kernel
theorem dX8_parish_24 : decode cX8_parish 24 = .ok (.getfield 127, 3) := by decide +kernel
theorem dX8_parish_27 : decode cX8_parish 27 = .ok (.if_icmp .ge 21, 3) := by decide +kernel
theorem dX8_parish_30 : decode cX8_parish 30 = .ok (.aload_n 0, 1) := by decide +kernel
theorem dX8_parish_31 : decode cX8_parish 31 = .ok (.getfield 34, 3) := by decide +kernel
theorem dX8_parish_34 : decode cX8_parish 34 = .ok (.iload_n 1, 1) := by decide +kernel
theorem dX8_parish_35 : decode cX8_parish 35 = .ok (.aload_n 0, 1) := by decide +kernel
theorem dX8_parish_36 : decode cX8_parish 36 = .ok (.getfield 25, 3) := by decide +kernel
theorem dX8_parish_39 : decode cX8_parish 39 = .ok (.iload_n 1, 1) := by decide +kernel
theorem dX8_parish_40 : decode cX8_parish 40 = .ok (.iaload, 1) := by decide +kernel
theorem dX8_parish_41 : decode cX8_parish 41 = .ok (.iastore, 1) := by decide +kernel
theorem dX8_parish_42 : decode cX8_parish 42 = .ok (.iinc 1 1, 3) := by decide +kernel
theorem dX8_parish_45 : decode cX8_parish 45 = .ok (.goto (-23), 3) := by decide +kernel
theorem dX8_parish_48 : decode cX8_parish 48 = .ok (.aload_n 0, 1) := by decide +kernel
theorem dX8_parish_49 : decode cX8_parish 49 = .ok (.iconst 0, 1) := by decide +kernel
theorem dX8_parish_50 : decode cX8_parish 50 = .ok (.putfield 117, 3) := by decide +kernel
theorem dX8_parish_53 : decode cX8_parish 53 = .ok (.aload_n 0, 1) := by decide +kernel
theorem dX8_parish_54 : decode cX8_parish 54 = .ok (.invokevirtual 169, 3) := by decide +kernel
theorem dX8_parish_57 : decode cX8_parish 57 = .ok (.ifCond .ne 11, 3) := by decide +kernel
theorem dX8_parish_60 : decode cX8_parish 60 = .ok (.bipush (-10), 2) := by decide +kernel
theorem dX8_parish_62 : decode cX8_parish 62 = .ok (.aload_n 0, 1) := by decide +kernel
theorem dX8_parish_63 : decode cX8_parish 63 = .ok (.getfield 124, 3) := by decide +kernel
theorem dX8_parish_66 : decode cX8_parish 66 = .ok (.isub, 1) := by decide +kernel
theorem dX8_parish_67 : decode cX8_parish 67 = .ok (.ireturn, 1) := by decide +kernel
theorem dX8_parish_68 : decode cX8_parish 68 = .ok (.iconst 0, 1) := by decide +kernel
theorem dX8_parish_69 : decode cX8_parish 69 = .ok (.istore_n 1, 1) := by decide +kernel
theorem dX8_parish_70 : decode cX8_parish 70 = .ok (.iload_n 1, 1) := by decide +kernel
theorem dX8_parish_71 : decode cX8_parish 71 = .ok (.aload_n 0, 1) := by decide +kernel
theorem dX8_parish_72 : decode cX8_parish 72 = .ok (.getfield 127, 3) := by decide +kernel
theorem dX8_parish_75 : decode cX8_parish 75 = .ok (.if_icmp .ge 29, 3) := by decide +kernel
theorem dX8_parish_78 : decode cX8_parish 78 = .ok (.aload_n 0, 1) := by decide +kernel
theorem dX8_parish_79 : decode cX8_parish 79 = .ok (.getfield 28, 3) := by decide +kernel
theorem dX8_parish_82 : decode cX8_parish 82 = .ok (.bipush 100, 2) := by decide +kernel
theorem dX8_parish_84 : decode cX8_parish 84 = .ok (.aload_n 0, 1) := by decide +kernel
theorem dX8_parish_85 : decode cX8_parish 85 = .ok (.getfield 172, 3) := by decide +kernel
theorem dX8_parish_88 : decode cX8_parish 88 = .ok (.imul, 1) := by decide +kernel
theorem dX8_parish_89 : decode cX8_parish 89 = .ok (.iload_n 1, 1) := by decide +kernel
theorem dX8_parish_90 : decode cX8_parish 90 = .ok (.iadd, 1) := by decide +kernel
theorem dX8_parish_91 : decode cX8_parish 91 = .ok (.aload_n 0, 1) := by decide +kernel
theorem dX8_parish_92 : decode cX8_parish 92 = .ok (.getfield 34, 3) := by decide +kernel
theorem dX8_parish_95 : decode cX8_parish 95 = .ok (.iload_n 1, 1) := by decide +kernel
theorem dX8_parish_96 : decode cX8_parish 96 = .ok (.iaload, 1) := by decide +kernel
theorem dX8_parish_97 : decode cX8_parish 97 = .ok (.iastore, 1) := by decide +kernel
theorem dX8_parish_98 : decode cX8_parish 98 = .ok (.iinc 1 1, 3) := by decide +kernel
theorem dX8_parish_101 : decode cX8_parish 101 = .ok (.goto (-31), 3) := by decide +kernel
theorem dX8_parish_104 : decode cX8_parish 104 = .ok (.aload_n 0, 1) := by decide +kernel
theorem dX8_parish_105 : decode cX8_parish 105 = .ok (.getfield 31, 3) := by decide +kernel
theorem dX8_parish_108 : decode cX8_parish 108 = .ok (.aload_n 0, 1) := by decide +kernel
theorem dX8_parish_109 : decode cX8_parish 109 = .ok (.getfield 172, 3) := by decide +kernel
theorem dX8_parish_112 : decode cX8_parish 112 = .ok (.aload_n 0, 1) := by decide +kernel
theorem dX8_parish_113 : decode cX8_parish 113 = .ok (.getfield 127, 3) := by decide +kernel
theorem dX8_parish_116 : decode cX8_parish 116 = .ok (.iastore, 1) := by decide +kernel
theorem dX8_parish_117 : decode cX8_parish 117 = .ok (.aload_n 0, 1) := by decide +kernel
theorem dX8_parish_118 : decode cX8_parish 118 = .ok (.dup, 1) := by decide +kernel
theorem dX8_parish_119 : decode cX8_parish 119 = .ok (.getfield 172, 3) := by decide +kernel
theorem dX8_parish_122 : decode cX8_parish 122 = .ok (.iconst 1, 1) := by decide +kernel
theorem dX8_parish_123 : decode cX8_parish 123 = .ok (.iadd, 1) := by decide +kernel
theorem dX8_parish_124 : decode cX8_parish 124 = .ok (.putfield 172, 3) := by decide +kernel
theorem dX8_parish_127 : decode cX8_parish 127 = .ok (.aload_n 0, 1) := by decide +kernel
theorem dX8_parish_128 : decode cX8_parish 128 = .ok (.getfield 15, 3) := by decide +kernel
theorem dX8_parish_131 : decode cX8_parish 131 = .ok (.bipush 63, 2) := by decide +kernel
theorem dX8_parish_133 : decode cX8_parish 133 = .ok (.aload_n 0, 1) := by decide +kernel
theorem dX8_parish_134 : decode cX8_parish 134 = .ok (.getfield 172, 3) := by decide +kernel
theorem dX8_parish_137 : decode cX8_parish 137 = .ok (.iastore, 1) := by decide +kernel
theorem dX8_parish_138 : decode cX8_parish 138 = .ok (.aload_n 0, 1) := by decide +kernel
theorem dX8_parish_139 : decode cX8_parish 139 = .ok (.getfield 172, 3) := by decide +kernel
theorem dX8_parish_142 : decode cX8_parish 142 = .ok (.iconst 1, 1) := by decide +kernel
theorem dX8_parish_143 : decode cX8_parish 143 = .ok (.isub, 1) := by decide +kernel
theorem dX8_parish_144 : decode cX8_parish 144 = .ok (.ireturn, 1) := by decide +kernel
theorem dX8_rate_0 : decode cX8_rate 0 = .ok (.aload_n 0, 1) := by decide +kernel
theorem dX8_rate_1 : decode cX8_rate 1 = .ok (.iload_n 1, 1) := by decide +kernel
theorem dX8_rate_2 : decode cX8_rate 2 = .ok (.iload_n 2, 1) := by decide +kernel
theorem dX8_rate_3 : decode cX8_rate 3 = .ok (.invokevirtual 175, 3) := by decide +kernel
theorem dX8_rate_6 : decode cX8_rate 6 = .ok (.iload_n 2, 1) := by decide +kernel
theorem dX8_rate_7 : decode cX8_rate 7 = .ok (.iconst 5, 1) := by decide +kernel
theorem dX8_rate_8 : decode cX8_rate 8 = .ok (.if_icmp .lt 7, 3) := by decide +kernel
theorem dX8_rate_11 : decode cX8_rate 11 = .ok (.iconst 1, 1) := by decide +kernel
theorem dX8_rate_12 : decode cX8_rate 12 = .ok (.goto 7, 3) := by decide +kernel
theorem dX8_rate_15 : decode cX8_rate 15 = .ok (.aload_n 0, 1) := by decide +kernel
theorem dX8_rate_16 : decode cX8_rate 16 = .ok (.getfield 163, 3) := by decide +kernel
theorem dX8_rate_19 : decode cX8_rate 19 = .ok (.istore_n 3, 1) := by decide +kernel
theorem dX8_rate_20 : decode cX8_rate 20 = .ok (.aload_n 0, 1) := by decide +kernel
theorem dX8_rate_21 : decode cX8_rate 21 = .ok (.iload_n 1, 1) := by decide +kernel
theorem dX8_rate_22 : decode cX8_rate 22 = .ok (.iconst 0, 1) := by decide +kernel
theorem dX8_rate_23 : decode cX8_rate 23 = .ok (.invokevirtual 89, 3) := by decide +kernel
theorem dX8_rate_26 : decode cX8_rate 26 = .ok (.tableswitch 111 1 6 #[38, 50, 57, 59, 88, 97], 38) := by decide +kernel
theorem dX8_rate_64 : decode cX8_rate 64 = .ok (.aload_n 0, 1) := by decide +kernel
theorem dX8_rate_65 : decode cX8_rate 65 = .ok (.getfield 163, 3) := by decide +kernel
theorem dX8_rate_68 : decode cX8_rate 68 = .ok (.aload_n 0, 1) := by decide +kernel
theorem dX8_rate_69 : decode cX8_rate 69 = .ok (.iload_n 1, 1) := by decide +kernel
theorem dX8_rate_70 : decode cX8_rate 70 = .ok (.iconst 1, 1) := by decide +kernel
theorem dX8_rate_71 : decode cX8_rate 71 = .ok (.invokevirtual 89, 3) := by decide +kernel
theorem dX8_rate_74 : decode cX8_rate 74 = .ok (.iadd, 1) := by decide +kernel
theorem dX8_rate_75 : decode cX8_rate 75 = .ok (.ireturn, 1) := by decide +kernel
theorem dX8_rate_76 : decode cX8_rate 76 = .ok (.aload_n 0, 1) := by decide +kernel
theorem dX8_rate_77 : decode cX8_rate 77 = .ok (.getfield 163, 3) := by decide +kernel
theorem dX8_rate_80 : decode cX8_rate 80 = .ok (.iconst 2, 1) := by decide +kernel
theorem dX8_rate_81 : decode cX8_rate 81 = .ok (.idiv, 1) := by decide +kernel
theorem dX8_rate_82 : decode cX8_rate 82 = .ok (.ireturn, 1) := by decide +kernel
theorem dX8_rate_83 : decode cX8_rate 83 = .ok (.iload_n 3, 1) := by decide +kernel
theorem dX8_rate_84 : decode cX8_rate 84 = .ok (.ireturn, 1) := by decide +kernel
theorem dX8_rate_85 : decode cX8_rate 85 = .ok (.aload_n 0, 1) := by decide +kernel
theorem dX8_rate_86 : decode cX8_rate 86 = .ok (.getfield 15, 3) := by decide +kernel
theorem dX8_rate_89 : decode cX8_rate 89 = .ok (.bipush 62, 2) := by decide +kernel
theorem dX8_rate_91 : decode cX8_rate 91 = .ok (.iaload, 1) := by decide +kernel
theorem dX8_rate_92 : decode cX8_rate 92 = .ok (.bipush 7, 2) := by decide +kernel
theorem dX8_rate_94 : decode cX8_rate 94 = .ok (.irem, 1) := by decide +kernel
theorem dX8_rate_95 : decode cX8_rate 95 = .ok (.ifCond .ne 7, 3) := by decide +kernel
theorem dX8_rate_98 : decode cX8_rate 98 = .ok (.iconst 0, 1) := by decide +kernel
theorem dX8_rate_99 : decode cX8_rate 99 = .ok (.goto 14, 3) := by decide +kernel
theorem dX8_rate_102 : decode cX8_rate 102 = .ok (.aload_n 0, 1) := by decide +kernel
theorem dX8_rate_103 : decode cX8_rate 103 = .ok (.getfield 163, 3) := by decide +kernel
theorem dX8_rate_106 : decode cX8_rate 106 = .ok (.aload_n 0, 1) := by decide +kernel
theorem dX8_rate_107 : decode cX8_rate 107 = .ok (.iload_n 1, 1) := by decide +kernel
theorem dX8_rate_108 : decode cX8_rate 108 = .ok (.iconst 1, 1) := by decide +kernel
theorem dX8_rate_109 : decode cX8_rate 109 = .ok (.invokevirtual 89, 3) := by decide +kernel
theorem dX8_rate_112 : decode cX8_rate 112 = .ok (.iadd, 1) := by decide +kernel
theorem dX8_rate_113 : decode cX8_rate 113 = .ok (.ireturn, 1) := by decide +kernel
theorem dX8_rate_114 : decode cX8_rate 114 = .ok (.aload_n 0, 1) := by decide +kernel
theorem dX8_rate_115 : decode cX8_rate 115 = .ok (.getfield 163, 3) := by decide +kernel
theorem dX8_rate_118 : decode cX8_rate 118 = .ok (.iconst 2, 1) := by decide +kernel
theorem dX8_rate_119 : decode cX8_rate 119 = .ok (.idiv, 1) := by decide +kernel
theorem dX8_rate_120 : decode cX8_rate 120 = .ok (.iconst 5, 1) := by decide +kernel
theorem dX8_rate_121 : decode cX8_rate 121 = .ok (.iadd, 1) := by decide +kernel
theorem dX8_rate_122 : decode cX8_rate 122 = .ok (.ireturn, 1) := by decide +kernel
theorem dX8_rate_123 : decode cX8_rate 123 = .ok (.iload_n 3, 1) := by decide +kernel
theorem dX8_rate_124 : decode cX8_rate 124 = .ok (.aload_n 0, 1) := by decide +kernel
theorem dX8_rate_125 : decode cX8_rate 125 = .ok (.iload_n 1, 1) := by decide +kernel
theorem dX8_rate_126 : decode cX8_rate 126 = .ok (.bipush 6, 2) := by decide +kernel
theorem dX8_rate_128 : decode cX8_rate 128 = .ok (.iload_n 2, 1) := by decide +kernel
theorem dX8_rate_129 : decode cX8_rate 129 = .ok (.iconst 4, 1) := by decide +kernel
theorem dX8_rate_130 : decode cX8_rate 130 = .ok (.irem, 1) := by decide +kernel
theorem dX8_rate_131 : decode cX8_rate 131 = .ok (.iadd, 1) := by decide +kernel
theorem dX8_rate_132 : decode cX8_rate 132 = .ok (.invokevirtual 89, 3) := by decide +kernel
theorem dX8_rate_135 : decode cX8_rate 135 = .ok (.iadd, 1) := by decide +kernel
theorem dX8_rate_136 : decode cX8_rate 136 = .ok (.ireturn, 1) := by decide +kernel
theorem dX8_rate_137 : decode cX8_rate 137 = .ok (.aload_n 0, 1) := by decide +kernel
theorem dX8_rate_138 : decode cX8_rate 138 = .ok (.getfield 163, 3) := by decide +kernel
theorem dX8_rate_141 : decode cX8_rate 141 = .ok (.ireturn, 1) := by decide +kernel
theorem dX8_share_0 : decode cX8_share 0 = .ok (.iconst 0, 1) := by decide +kernel
theorem dX8_share_1 : decode cX8_share 1 = .ok (.istore_n 1, 1) := by decide +kernel
theorem dX8_share_2 : decode cX8_share 2 = .ok (.iconst (-1), 1) := by decide +kernel
theorem dX8_share_3 : decode cX8_share 3 = .ok (.istore_n 2, 1) := by decide +kernel
theorem dX8_share_4 : decode cX8_share 4 = .ok (.iconst 0, 1) := by decide +kernel
theorem dX8_share_5 : decode cX8_share 5 = .ok (.istore_n 3, 1) := by decide +kernel
theorem dX8_share_6 : decode cX8_share 6 = .ok (.iload_n 3, 1) := by decide +kernel
theorem dX8_share_7 : decode cX8_share 7 = .ok (.aload_n 0, 1) := by decide +kernel
theorem dX8_share_8 : decode cX8_share 8 = .ok (.getfield 15, 3) := by decide +kernel
theorem dX8_share_11 : decode cX8_share 11 = .ok (.bipush 60, 2) := by decide +kernel
theorem dX8_share_13 : decode cX8_share 13 = .ok (.iaload, 1) := by decide +kernel
theorem dX8_share_14 : decode cX8_share 14 = .ok (.if_icmp .ge 83, 3) := by decide +kernel
theorem dX8_share_17 : decode cX8_share 17 = .ok (.aload_n 0, 1) := by decide +kernel
theorem dX8_share_18 : decode cX8_share 18 = .ok (.getfield 53, 3) := by decide +kernel
theorem dX8_share_21 : decode cX8_share 21 = .ok (.iload_n 3, 1) := by decide +kernel
theorem dX8_share_22 : decode cX8_share 22 = .ok (.iconst 0, 1) := by decide +kernel
theorem dX8_share_23 : decode cX8_share 23 = .ok (.iastore, 1) := by decide +kernel
theorem dX8_share_24 : decode cX8_share 24 = .ok (.aload_n 0, 1) := by decide +kernel
theorem dX8_share_25 : decode cX8_share 25 = .ok (.getfield 50, 3) := by decide +kernel
theorem dX8_share_28 : decode cX8_share 28 = .ok (.iload_n 3, 1) := by decide +kernel
theorem dX8_share_29 : decode cX8_share 29 = .ok (.iconst 0, 1) := by decide +kernel
theorem dX8_share_30 : decode cX8_share 30 = .ok (.iastore, 1) := by decide +kernel
theorem dX8_share_31 : decode cX8_share 31 = .ok (.aload_n 0, 1) := by decide +kernel
theorem dX8_share_32 : decode cX8_share 32 = .ok (.iload_n 3, 1) := by decide +kernel
theorem dX8_share_33 : decode cX8_share 33 = .ok (.invokevirtual 179, 3) := by decide +kernel
theorem dX8_share_36 : decode cX8_share 36 = .ok (.ifCond .eq 55, 3) := by decide +kernel
theorem dX8_share_39 : decode cX8_share 39 = .ok (.aload_n 0, 1) := by decide +kernel
theorem dX8_share_40 : decode cX8_share 40 = .ok (.iload_n 3, 1) := by decide +kernel
theorem dX8_share_41 : decode cX8_share 41 = .ok (.aload_n 0, 1) := by decide +kernel
theorem dX8_share_42 : decode cX8_share 42 = .ok (.iload_n 3, 1) := by decide +kernel
theorem dX8_share_43 : decode cX8_share 43 = .ok (.iconst 3, 1) := by decide +kernel
theorem dX8_share_44 : decode cX8_share 44 = .ok (.invokevirtual 89, 3) := by decide +kernel
theorem dX8_share_47 : decode cX8_share 47 = .ok (.invokevirtual 111, 3) := by decide +kernel
theorem dX8_share_50 : decode cX8_share 50 = .ok (.istore 4, 2) := by decide +kernel
theorem dX8_share_52 : decode cX8_share 52 = .ok (.iload_n 2, 1) := by decide +kernel
theorem dX8_share_53 : decode cX8_share 53 = .ok (.iconst (-1), 1) := by decide +kernel
theorem dX8_share_54 : decode cX8_share 54 = .ok (.if_icmp .eq 14, 3) := by decide +kernel
theorem dX8_share_57 : decode cX8_share 57 = .ok (.iload 4, 2) := by decide +kernel
theorem dX8_share_59 : decode cX8_share 59 = .ok (.aload_n 0, 1) := by decide +kernel
theorem dX8_share_60 : decode cX8_share 60 = .ok (.getfield 50, 3) := by decide +kernel
theorem dX8_share_63 : decode cX8_share 63 = .ok (.iload_n 2, 1) := by decide +kernel
theorem dX8_share_64 : decode cX8_share 64 = .ok (.iaload, 1) := by decide +kernel
theorem dX8_share_65 : decode cX8_share 65 = .ok (.if_icmp .le 7, 3) := by decide +kernel
theorem dX8_share_68 : decode cX8_share 68 = .ok (.iload_n 3, 1) := by decide +kernel
theorem dX8_share_69 : decode cX8_share 69 = .ok (.goto 4, 3) := by decide +kernel
theorem dX8_share_72 : decode cX8_share 72 = .ok (.iload_n 2, 1) := by decide +kernel
theorem dX8_share_73 : decode cX8_share 73 = .ok (.istore_n 2, 1) := by decide +kernel
theorem dX8_share_74 : decode cX8_share 74 = .ok (.aload_n 0, 1) := by decide +kernel
theorem dX8_share_75 : decode cX8_share 75 = .ok (.getfield 50, 3) := by decide +kernel
theorem dX8_share_78 : decode cX8_share 78 = .ok (.iload_n 3, 1) := by decide +kernel
theorem dX8_share_79 : decode cX8_share 79 = .ok (.iload 4, 2) := by decide +kernel
theorem dX8_share_81 : decode cX8_share 81 = .ok (.iastore, 1) := by decide +kernel
theorem dX8_share_82 : decode cX8_share 82 = .ok (.iload_n 1, 1) := by decide +kernel
theorem dX8_share_83 : decode cX8_share 83 = .ok (.iconst 0, 1) := by decide +kernel
theorem dX8_share_84 : decode cX8_share 84 = .ok (.iload 4, 2) := by decide +kernel
theorem dX8_share_86 : decode cX8_share 86 = .ok (.invokestatic 182, 3) := by decide +kernel
theorem dX8_share_89 : decode cX8_share 89 = .ok (.iadd, 1) := by decide +kernel
theorem dX8_share_90 : decode cX8_share 90 = .ok (.istore_n 1, 1) := by decide +kernel
theorem dX8_share_91 : decode cX8_share 91 = .ok (.iinc 3 1, 3) := by decide +kernel
theorem dX8_share_94 : decode cX8_share 94 = .ok (.goto (-88), 3) := by decide +kernel
theorem dX8_share_97 : decode cX8_share 97 = .ok (.iload_n 1, 1) := by decide +kernel
theorem dX8_share_98 : decode cX8_share 98 = .ok (.ifCond .le 93, 3) := by decide +kernel
theorem dX8_share_101 : decode cX8_share 101 = .ok (.aload_n 0, 1) := by decide +kernel
theorem dX8_share_102 : decode cX8_share 102 = .ok (.getfield 15, 3) := by decide +kernel
theorem dX8_share_105 : decode cX8_share 105 = .ok (.bipush 61, 2) := by decide +kernel
theorem dX8_share_107 : decode cX8_share 107 = .ok (.iaload, 1) := by decide +kernel
theorem dX8_share_108 : decode cX8_share 108 = .ok (.istore_n 3, 1) := by decide +kernel
theorem dX8_share_109 : decode cX8_share 109 = .ok (.iconst 0, 1) := by decide +kernel
theorem dX8_share_110 : decode cX8_share 110 = .ok (.istore 4, 2) := by decide +kernel
theorem dX8_share_112 : decode cX8_share 112 = .ok (.iload 4, 2) := by decide +kernel
theorem dX8_share_114 : decode cX8_share 114 = .ok (.aload_n 0, 1) := by decide +kernel
theorem dX8_share_115 : decode cX8_share 115 = .ok (.getfield 15, 3) := by decide +kernel
theorem dX8_share_118 : decode cX8_share 118 = .ok (.bipush 60, 2) := by decide +kernel
theorem dX8_share_120 : decode cX8_share 120 = .ok (.iaload, 1) := by decide +kernel
theorem dX8_share_121 : decode cX8_share 121 = .ok (.if_icmp .ge 60, 3) := by decide +kernel
theorem dX8_share_124 : decode cX8_share 124 = .ok (.aload_n 0, 1) := by decide +kernel
theorem dX8_share_125 : decode cX8_share 125 = .ok (.getfield 53, 3) := by decide +kernel
theorem dX8_share_128 : decode cX8_share 128 = .ok (.iload 4, 2) := by decide +kernel
theorem dX8_share_130 : decode cX8_share 130 = .ok (.aload_n 0, 1) := by decide +kernel
theorem dX8_share_131 : decode cX8_share 131 = .ok (.getfield 15, 3) := by decide +kernel
theorem dX8_share_134 : decode cX8_share 134 = .ok (.bipush 61, 2) := by decide +kernel
theorem dX8_share_136 : decode cX8_share 136 = .ok (.iaload, 1) := by decide +kernel
theorem dX8_share_137 : decode cX8_share 137 = .ok (.iconst 0, 1) := by decide +kernel
theorem dX8_share_138 : decode cX8_share 138 = .ok (.aload_n 0, 1) := by decide +kernel
theorem dX8_share_139 : decode cX8_share 139 = .ok (.iload 4, 2) := by decide +kernel
theorem dX8_share_141 : decode cX8_share 141 = .ok (.invokevirtual 179, 3) := by decide +kernel
theorem dX8_share_144 : decode cX8_share 144 = .ok (.ifCond .eq 13, 3) := by decide +kernel
theorem dX8_share_147 : decode cX8_share 147 = .ok (.aload_n 0, 1) := by decide +kernel
theorem dX8_share_148 : decode cX8_share 148 = .ok (.getfield 50, 3) := by decide +kernel
theorem dX8_share_151 : decode cX8_share 151 = .ok (.iload 4, 2) := by decide +kernel
theorem dX8_share_153 : decode cX8_share 153 = .ok (.iaload, 1) := by decide +kernel
theorem dX8_share_154 : decode cX8_share 154 = .ok (.goto 4, 3) := by decide +kernel
theorem dX8_share_157 : decode cX8_share 157 = .ok (.iconst 0, 1) := by decide +kernel
theorem dX8_share_158 : decode cX8_share 158 = .ok (.invokestatic 182, 3) := by decide +kernel
theorem dX8_share_161 : decode cX8_share 161 = .ok (.imul, 1) := by decide +kernel
theorem dX8_share_162 : decode cX8_share 162 = .ok (.iload_n 1, 1) := by decide +kernel
theorem dX8_share_163 : decode cX8_share 163 = .ok (.idiv, 1) := by decide +kernel
theorem dX8_share_164 : decode cX8_share 164 = .ok (.iastore, 1) := by decide +kernel
theorem dX8_share_165 : decode cX8_share 165 = .ok (.iload_n 3, 1) := by decide +kernel
theorem dX8_share_166 : decode cX8_share 166 = .ok (.aload_n 0, 1) := by decide +kernel
theorem dX8_share_167 : decode cX8_share 167 = .ok (.getfield 53, 3) := by decide +kernel
theorem dX8_share_170 : decode cX8_share 170 = .ok (.iload 4, 2) := by decide +kernel
theorem dX8_share_172 : decode cX8_share 172 = .ok (.iaload, 1) := by decide +kernel
theorem dX8_share_173 : decode cX8_share 173 = .ok (.isub, 1) := by decide +kernel
theorem dX8_share_174 : decode cX8_share 174 = .ok (.istore_n 3, 1) := by decide +kernel
theorem dX8_share_175 : decode cX8_share 175 = .ok (.iinc 4 1, 3) := by decide +kernel
theorem dX8_share_178 : decode cX8_share 178 = .ok (.goto (-66), 3) := by decide +kernel
theorem dX8_share_181 : decode cX8_share 181 = .ok (.aload_n 0, 1) := by decide +kernel
theorem dX8_share_182 : decode cX8_share 182 = .ok (.getfield 53, 3) := by decide +kernel
theorem dX8_share_185 : decode cX8_share 185 = .ok (.iload_n 2, 1) := by decide +kernel
theorem dX8_share_186 : decode cX8_share 186 = .ok (.dup2, 1) := by decide +kernel
theorem dX8_share_187 : decode cX8_share 187 = .ok (.iaload, 1) := by decide +kernel
theorem dX8_share_188 : decode cX8_share 188 = .ok (.iload_n 3, 1) := by decide +kernel
theorem dX8_share_189 : decode cX8_share 189 = .ok (.iadd, 1) := by decide +kernel
theorem dX8_share_190 : decode cX8_share 190 = .ok (.iastore, 1) := by decide +kernel
theorem dX8_share_191 : decode cX8_share 191 = .ok (.return_, 1) := by decide +kernel
theorem dX8_worth_0 : decode cX8_worth 0 = .ok (.aload_n 0, 1) := by decide +kernel
theorem dX8_worth_1 : decode cX8_worth 1 = .ok (.iload_n 1, 1) := by decide +kernel
theorem dX8_worth_2 : decode cX8_worth 2 = .ok (.iconst 3, 1) := by decide +kernel
theorem dX8_worth_3 : decode cX8_worth 3 = .ok (.iload_n 2, 1) := by decide +kernel
theorem dX8_worth_4 : decode cX8_worth 4 = .ok (.invokevirtual 97, 3) := by decide +kernel
theorem dX8_worth_7 : decode cX8_worth 7 = .ok (.istore_n 3, 1) := by decide +kernel
theorem dX8_worth_8 : decode cX8_worth 8 = .ok (.aload_n 0, 1) := by decide +kernel
theorem dX8_worth_9 : decode cX8_worth 9 = .ok (.iload_n 1, 1) := by decide +kernel
theorem dX8_worth_10 : decode cX8_worth 10 = .ok (.iconst 4, 1) := by decide +kernel
theorem dX8_worth_11 : decode cX8_worth 11 = .ok (.iconst 0, 1) := by decide +kernel
theorem dX8_worth_12 : decode cX8_worth 12 = .ok (.invokevirtual 97, 3) := by decide +kernel
theorem dX8_worth_15 : decode cX8_worth 15 = .ok (.istore 4, 2) := by decide +kernel
theorem dX8_worth_17 : decode cX8_worth 17 = .ok (.aload_n 0, 1) := by decide +kernel
theorem dX8_worth_18 : decode cX8_worth 18 = .ok (.invokevirtual 104, 3) := by decide +kernel
theorem dX8_worth_21 : decode cX8_worth 21 = .ok (.aload_n 0, 1) := by decide +kernel
theorem dX8_worth_22 : decode cX8_worth 22 = .ok (.iload_n 1, 1) := by decide +kernel
theorem dX8_worth_23 : decode cX8_worth 23 = .ok (.iconst 3, 1) := by decide +kernel
theorem dX8_worth_24 : decode cX8_worth 24 = .ok (.iload_n 3, 1) := by decide +kernel
theorem dX8_worth_25 : decode cX8_worth 25 = .ok (.invokevirtual 97, 3) := by decide +kernel
theorem dX8_worth_28 : decode cX8_worth 28 = .ok (.pop, 1) := by decide +kernel
theorem dX8_worth_29 : decode cX8_worth 29 = .ok (.aload_n 0, 1) := by decide +kernel
theorem dX8_worth_30 : decode cX8_worth 30 = .ok (.iload_n 1, 1) := by decide +kernel
theorem dX8_worth_31 : decode cX8_worth 31 = .ok (.iconst 4, 1) := by decide +kernel
theorem dX8_worth_32 : decode cX8_worth 32 = .ok (.iload 4, 2) := by decide +kernel
theorem dX8_worth_34 : decode cX8_worth 34 = .ok (.invokevirtual 97, 3) := by decide +kernel
theorem dX8_worth_37 : decode cX8_worth 37 = .ok (.pop, 1) := by decide +kernel
theorem dX8_worth_38 : decode cX8_worth 38 = .ok (.aload_n 0, 1) := by decide +kernel
theorem dX8_worth_39 : decode cX8_worth 39 = .ok (.iload_n 1, 1) := by decide +kernel
theorem dX8_worth_40 : decode cX8_worth 40 = .ok (.iconst 2, 1) := by decide +kernel
theorem dX8_worth_41 : decode cX8_worth 41 = .ok (.invokevirtual 89, 3) := by decide +kernel
theorem dX8_worth_44 : decode cX8_worth 44 = .ok (.bipush 10, 2) := by decide +kernel
theorem dX8_worth_46 : decode cX8_worth 46 = .ok (.iload_n 2, 1) := by decide +kernel
theorem dX8_worth_47 : decode cX8_worth 47 = .ok (.isub, 1) := by decide +kernel
theorem dX8_worth_48 : decode cX8_worth 48 = .ok (.imul, 1) := by decide +kernel
theorem dX8_worth_49 : decode cX8_worth 49 = .ok (.aload_n 0, 1) := by decide +kernel
theorem dX8_worth_50 : decode cX8_worth 50 = .ok (.getfield 53, 3) := by decide +kernel
theorem dX8_worth_53 : decode cX8_worth 53 = .ok (.iload_n 1, 1) := by decide +kernel
theorem dX8_worth_54 : decode cX8_worth 54 = .ok (.iaload, 1) := by decide +kernel
theorem dX8_worth_55 : decode cX8_worth 55 = .ok (.isub, 1) := by decide +kernel
theorem dX8_worth_56 : decode cX8_worth 56 = .ok (.ireturn, 1) := by decide +kernel
theorem dX8_best_0 : decode cX8_best 0 = .ok (.iconst 0, 1) := by decide +kernel
theorem dX8_best_1 : decode cX8_best 1 = .ok (.istore_n 2, 1) := by decide +kernel
theorem dX8_best_2 : decode cX8_best 2 = .ok (.aload_n 0, 1) := by decide +kernel
theorem dX8_best_3 : decode cX8_best 3 = .ok (.iload_n 1, 1) := by decide +kernel
theorem dX8_best_4 : decode cX8_best 4 = .ok (.iconst 0, 1) := by decide +kernel
theorem dX8_best_5 : decode cX8_best 5 = .ok (.invokevirtual 114, 3) := by decide +kernel
theorem dX8_best_8 : decode cX8_best 8 = .ok (.istore_n 3, 1) := by decide +kernel
theorem dX8_best_9 : decode cX8_best 9 = .ok (.iconst 1, 1) := by decide +kernel
theorem dX8_best_10 : decode cX8_best 10 = .ok (.istore 4, 2) := by decide +kernel
theorem dX8_best_12 : decode cX8_best 12 = .ok (.iload 4, 2) := by decide +kernel
theorem dX8_best_14 : decode cX8_best 14 = .ok (.bipush 10, 2) := by decide +kernel
theorem dX8_best_16 : decode cX8_best 16 = .ok (.if_icmp .ge 38, 3) := by decide +kernel
theorem dX8_best_19 : decode cX8_best 19 = .ok (.aload_n 0, 1) := by decide +kernel
theorem dX8_best_20 : decode cX8_best 20 = .ok (.iload_n 1, 1) := by decide +kernel
theorem dX8_best_21 : decode cX8_best 21 = .ok (.iload 4, 2) := by decide +kernel
theorem dX8_best_23 : decode cX8_best 23 = .ok (.invokevirtual 114, 3) := by decide +kernel
theorem dX8_best_26 : decode cX8_best 26 = .ok (.istore 5, 2) := by decide +kernel
theorem dX8_best_28 : decode cX8_best 28 = .ok (.iload 5, 2) := by decide +kernel
theorem dX8_best_30 : decode cX8_best 30 = .ok (.iload_n 3, 1) := by decide +kernel
theorem dX8_best_31 : decode cX8_best 31 = .ok (.if_icmp .le 8, 3) := by decide +kernel
theorem dX8_best_34 : decode cX8_best 34 = .ok (.iload 4, 2) := by decide +kernel
theorem dX8_best_36 : decode cX8_best 36 = .ok (.goto 4, 3) := by decide +kernel
theorem dX8_best_39 : decode cX8_best 39 = .ok (.iload_n 2, 1) := by decide +kernel
theorem dX8_best_40 : decode cX8_best 40 = .ok (.istore_n 2, 1) := by decide +kernel
theorem dX8_best_41 : decode cX8_best 41 = .ok (.iload 5, 2) := by decide +kernel
theorem dX8_best_43 : decode cX8_best 43 = .ok (.iload_n 3, 1) := by decide +kernel
theorem dX8_best_44 : decode cX8_best 44 = .ok (.invokestatic 182, 3) := by decide +kernel
theorem dX8_best_47 : decode cX8_best 47 = .ok (.istore_n 3, 1) := by decide +kernel
theorem dX8_best_48 : decode cX8_best 48 = .ok (.iinc 4 1, 3) := by decide +kernel
theorem dX8_best_51 : decode cX8_best 51 = .ok (.goto (-39), 3) := by decide +kernel
theorem dX8_best_54 : decode cX8_best 54 = .ok (.iload_n 2, 1) := by decide +kernel
theorem dX8_best_55 : decode cX8_best 55 = .ok (.ireturn, 1) := by decide +kernel
theorem dX8_moves_0 : decode cX8_moves 0 = .ok (.iconst 0, 1) := by decide +kernel
theorem dX8_moves_1 : decode cX8_moves 1 = .ok (.istore_n 1, 1) := by decide +kernel
theorem dX8_moves_2 : decode cX8_moves 2 = .ok (.iconst 0, 1) := by decide +kernel
theorem dX8_moves_3 : decode cX8_moves 3 = .ok (.istore_n 2, 1) := by decide +kernel
theorem dX8_moves_4 : decode cX8_moves 4 = .ok (.iload_n 2, 1) := by decide +kernel
theorem dX8_moves_5 : decode cX8_moves 5 = .ok (.aload_n 0, 1) := by decide +kernel
theorem dX8_moves_6 : decode cX8_moves 6 = .ok (.getfield 15, 3) := by decide +kernel
theorem dX8_moves_9 : decode cX8_moves 9 = .ok (.bipush 60, 2) := by decide +kernel
theorem dX8_moves_11 : decode cX8_moves 11 = .ok (.iaload, 1) := by decide +kernel
theorem dX8_moves_12 : decode cX8_moves 12 = .ok (.if_icmp .ge 54, 3) := by decide +kernel
theorem dX8_moves_15 : decode cX8_moves 15 = .ok (.aload_n 0, 1) := by decide +kernel
theorem dX8_moves_16 : decode cX8_moves 16 = .ok (.iload_n 2, 1) := by decide +kernel
theorem dX8_moves_17 : decode cX8_moves 17 = .ok (.invokevirtual 179, 3) := by decide +kernel
theorem dX8_moves_20 : decode cX8_moves 20 = .ok (.ifCond .eq 40, 3) := by decide +kernel
theorem dX8_moves_23 : decode cX8_moves 23 = .ok (.aload_n 0, 1) := by decide +kernel
theorem dX8_moves_24 : decode cX8_moves 24 = .ok (.iload_n 2, 1) := by decide +kernel
theorem dX8_moves_25 : decode cX8_moves 25 = .ok (.invokevirtual 107, 3) := by decide +kernel
theorem dX8_moves_28 : decode cX8_moves 28 = .ok (.istore_n 3, 1) := by decide +kernel
theorem dX8_moves_29 : decode cX8_moves 29 = .ok (.aload_n 0, 1) := by decide +kernel
theorem dX8_moves_30 : decode cX8_moves 30 = .ok (.iload_n 2, 1) := by decide +kernel
theorem dX8_moves_31 : decode cX8_moves 31 = .ok (.iload_n 3, 1) := by decide +kernel
theorem dX8_moves_32 : decode cX8_moves 32 = .ok (.invokevirtual 114, 3) := by decide +kernel
theorem dX8_moves_35 : decode cX8_moves 35 = .ok (.aload_n 0, 1) := by decide +kernel
theorem dX8_moves_36 : decode cX8_moves 36 = .ok (.iload_n 2, 1) := by decide +kernel
theorem dX8_moves_37 : decode cX8_moves 37 = .ok (.aload_n 0, 1) := by decide +kernel
theorem dX8_moves_38 : decode cX8_moves 38 = .ok (.iload_n 2, 1) := by decide +kernel
theorem dX8_moves_39 : decode cX8_moves 39 = .ok (.iconst 3, 1) := by decide +kernel
theorem dX8_moves_40 : decode cX8_moves 40 = .ok (.invokevirtual 89, 3) := by decide +kernel
theorem dX8_moves_43 : decode cX8_moves 43 = .ok (.invokevirtual 114, 3) := by decide +kernel
theorem dX8_moves_46 : decode cX8_moves 46 = .ok (.if_icmp .le 14, 3) := by decide +kernel
theorem dX8_moves_49 : decode cX8_moves 49 = .ok (.aload_n 0, 1) := by decide +kernel
theorem dX8_moves_50 : decode cX8_moves 50 = .ok (.iload_n 2, 1) := by decide +kernel
theorem dX8_moves_51 : decode cX8_moves 51 = .ok (.iconst 3, 1) := by decide +kernel
theorem dX8_moves_52 : decode cX8_moves 52 = .ok (.iload_n 3, 1) := by decide +kernel
theorem dX8_moves_53 : decode cX8_moves 53 = .ok (.invokevirtual 97, 3) := by decide +kernel
theorem dX8_moves_56 : decode cX8_moves 56 = .ok (.pop, 1) := by decide +kernel
theorem dX8_moves_57 : decode cX8_moves 57 = .ok (.iinc 1 1, 3) := by decide +kernel
theorem dX8_moves_60 : decode cX8_moves 60 = .ok (.iinc 2 1, 3) := by decide +kernel
theorem dX8_moves_63 : decode cX8_moves 63 = .ok (.goto (-59), 3) := by decide +kernel
theorem dX8_moves_66 : decode cX8_moves 66 = .ok (.iload_n 1, 1) := by decide +kernel
theorem dX8_moves_67 : decode cX8_moves 67 = .ok (.ireturn, 1) := by decide +kernel
theorem dX8_day_0 : decode cX8_day 0 = .ok (.aload_n 0, 1) := by decide +kernel
theorem dX8_day_1 : decode cX8_day 1 = .ok (.invokevirtual 187, 3) := by decide +kernel
theorem dX8_day_4 : decode cX8_day 4 = .ok (.istore_n 2, 1) := by decide +kernel
theorem dX8_day_5 : decode cX8_day 5 = .ok (.aload_n 0, 1) := by decide +kernel
theorem dX8_day_6 : decode cX8_day 6 = .ok (.invokevirtual 104, 3) := by decide +kernel
theorem dX8_day_9 : decode cX8_day 9 = .ok (.iconst 0, 1) := by decide +kernel
theorem dX8_day_10 : decode cX8_day 10 = .ok (.istore_n 3, 1) := by decide +kernel
theorem dX8_day_11 : decode cX8_day 11 = .ok (.iload_n 3, 1) := by decide +kernel
theorem dX8_day_12 : decode cX8_day 12 = .ok (.aload_n 0, 1) := by decide +kernel
theorem dX8_day_13 : decode cX8_day 13 = .ok (.getfield 15, 3) := by decide +kernel
theorem dX8_day_16 : decode cX8_day 16 = .ok (.bipush 60, 2) := by decide +kernel
theorem dX8_day_18 : decode cX8_day 18 = .ok (.iaload, 1) := by decide +kernel
theorem dX8_day_19 : decode cX8_day 19 = .ok (.if_icmp .ge 47, 3) := by decide +kernel
theorem dX8_day_22 : decode cX8_day 22 = .ok (.aload_n 0, 1) := by decide +kernel
theorem dX8_day_23 : decode cX8_day 23 = .ok (.iload_n 3, 1) := by decide +kernel
theorem dX8_day_24 : decode cX8_day 24 = .ok (.iconst 5, 1) := by decide +kernel
theorem dX8_day_25 : decode cX8_day 25 = .ok (.invokevirtual 89, 3) := by decide +kernel
theorem dX8_day_28 : decode cX8_day 28 = .ok (.aload_n 0, 1) := by decide +kernel
theorem dX8_day_29 : decode cX8_day 29 = .ok (.getfield 53, 3) := by decide +kernel
theorem dX8_day_32 : decode cX8_day 32 = .ok (.iload_n 3, 1) := by decide +kernel
theorem dX8_day_33 : decode cX8_day 33 = .ok (.iaload, 1) := by decide +kernel
theorem dX8_day_34 : decode cX8_day 34 = .ok (.iadd, 1) := by decide +kernel
theorem dX8_day_35 : decode cX8_day 35 = .ok (.istore 4, 2) := by decide +kernel
theorem dX8_day_37 : decode cX8_day 37 = .ok (.aload_n 0, 1) := by decide +kernel
theorem dX8_day_38 : decode cX8_day 38 = .ok (.iload_n 3, 1) := by decide +kernel
theorem dX8_day_39 : decode cX8_day 39 = .ok (.iconst 5, 1) := by decide +kernel
theorem dX8_day_40 : decode cX8_day 40 = .ok (.iload_n 1, 1) := by decide +kernel
theorem dX8_day_41 : decode cX8_day 41 = .ok (.ifCond .eq 13, 3) := by decide +kernel
theorem dX8_day_44 : decode cX8_day 44 = .ok (.ldc 190, 2) := by decide +kernel
theorem dX8_day_46 : decode cX8_day 46 = .ok (.iload 4, 2) := by decide +kernel
theorem dX8_day_48 : decode cX8_day 48 = .ok (.invokestatic 191, 3) := by decide +kernel
theorem dX8_day_51 : decode cX8_day 51 = .ok (.goto 5, 3) := by decide +kernel
theorem dX8_day_54 : decode cX8_day 54 = .ok (.iload 4, 2) := by decide +kernel
theorem dX8_day_56 : decode cX8_day 56 = .ok (.invokevirtual 97, 3) := by decide +kernel
theorem dX8_day_59 : decode cX8_day 59 = .ok (.pop, 1) := by decide +kernel
theorem dX8_day_60 : decode cX8_day 60 = .ok (.iinc 3 1, 3) := by decide +kernel
theorem dX8_day_63 : decode cX8_day 63 = .ok (.goto (-52), 3) := by decide +kernel
theorem dX8_day_66 : decode cX8_day 66 = .ok (.aload_n 0, 1) := by decide +kernel
theorem dX8_day_67 : decode cX8_day 67 = .ok (.getfield 15, 3) := by decide +kernel
theorem dX8_day_70 : decode cX8_day 70 = .ok (.bipush 62, 2) := by decide +kernel
theorem dX8_day_72 : decode cX8_day 72 = .ok (.dup2, 1) := by decide +kernel
theorem dX8_day_73 : decode cX8_day 73 = .ok (.iaload, 1) := by decide +kernel
theorem dX8_day_74 : decode cX8_day 74 = .ok (.iconst 1, 1) := by decide +kernel
theorem dX8_day_75 : decode cX8_day 75 = .ok (.iadd, 1) := by decide +kernel
theorem dX8_day_76 : decode cX8_day 76 = .ok (.iastore, 1) := by decide +kernel
theorem dX8_day_77 : decode cX8_day 77 = .ok (.iload_n 2, 1) := by decide +kernel
theorem dX8_day_78 : decode cX8_day 78 = .ok (.ireturn, 1) := by decide +kernel
theorem dX8_still_0 : decode cX8_still 0 = .ok (.aload_n 0, 1) := by decide +kernel
theorem dX8_still_1 : decode cX8_still 1 = .ok (.iconst 0, 1) := by decide +kernel
theorem dX8_still_2 : decode cX8_still 2 = .ok (.invokevirtual 194, 3) := by decide +kernel
theorem dX8_still_5 : decode cX8_still 5 = .ok (.bipush (-5), 2) := by decide +kernel
theorem dX8_still_7 : decode cX8_still 7 = .ok (.istore_n 1, 1) := by decide +kernel
theorem dX8_still_8 : decode cX8_still 8 = .ok (.iconst 0, 1) := by decide +kernel
theorem dX8_still_9 : decode cX8_still 9 = .ok (.istore_n 2, 1) := by decide +kernel
theorem dX8_still_10 : decode cX8_still 10 = .ok (.iload_n 2, 1) := by decide +kernel
theorem dX8_still_11 : decode cX8_still 11 = .ok (.bipush 20, 2) := by decide +kernel
theorem dX8_still_13 : decode cX8_still 13 = .ok (.if_icmp .gt 30, 3) := by decide +kernel
theorem dX8_still_16 : decode cX8_still 16 = .ok (.iload_n 1, 1) := by decide +kernel
theorem dX8_still_17 : decode cX8_still 17 = .ok (.bipush (-5), 2) := by decide +kernel
theorem dX8_still_19 : decode cX8_still 19 = .ok (.if_icmp .ne 24, 3) := by decide +kernel
theorem dX8_still_22 : decode cX8_still 22 = .ok (.aload_n 0, 1) := by decide +kernel
theorem dX8_still_23 : decode cX8_still 23 = .ok (.iconst 0, 1) := by decide +kernel
theorem dX8_still_24 : decode cX8_still 24 = .ok (.invokevirtual 197, 3) := by decide +kernel
theorem dX8_still_27 : decode cX8_still 27 = .ok (.ifCond .ne 7, 3) := by decide +kernel
theorem dX8_still_30 : decode cX8_still 30 = .ok (.iload_n 2, 1) := by decide +kernel
theorem dX8_still_31 : decode cX8_still 31 = .ok (.goto 5, 3) := by decide +kernel
theorem dX8_still_34 : decode cX8_still 34 = .ok (.bipush (-5), 2) := by decide +kernel
theorem dX8_still_36 : decode cX8_still 36 = .ok (.istore_n 1, 1) := by decide +kernel
theorem dX8_still_37 : decode cX8_still 37 = .ok (.iinc 2 1, 3) := by decide +kernel
theorem dX8_still_40 : decode cX8_still 40 = .ok (.goto (-30), 3) := by decide +kernel
theorem dX8_still_43 : decode cX8_still 43 = .ok (.aload_n 0, 1) := by decide +kernel
theorem dX8_still_44 : decode cX8_still 44 = .ok (.iconst 0, 1) := by decide +kernel
theorem dX8_still_45 : decode cX8_still 45 = .ok (.invokevirtual 201, 3) := by decide +kernel
theorem dX8_still_48 : decode cX8_still 48 = .ok (.iload_n 1, 1) := by decide +kernel
theorem dX8_still_49 : decode cX8_still 49 = .ok (.ireturn, 1) := by decide +kernel
theorem dX8_gains_0 : decode cX8_gains 0 = .ok (.aload_n 0, 1) := by decide +kernel
theorem dX8_gains_1 : decode cX8_gains 1 = .ok (.iconst 0, 1) := by decide +kernel
theorem dX8_gains_2 : decode cX8_gains 2 = .ok (.invokevirtual 194, 3) := by decide +kernel
theorem dX8_gains_5 : decode cX8_gains 5 = .ok (.aload_n 0, 1) := by decide +kernel
theorem dX8_gains_6 : decode cX8_gains 6 = .ok (.invokevirtual 187, 3) := by decide +kernel
theorem dX8_gains_9 : decode cX8_gains 9 = .ok (.pop, 1) := by decide +kernel
theorem dX8_gains_10 : decode cX8_gains 10 = .ok (.iconst 0, 1) := by decide +kernel
theorem dX8_gains_11 : decode cX8_gains 11 = .ok (.istore_n 1, 1) := by decide +kernel
theorem dX8_gains_12 : decode cX8_gains 12 = .ok (.iconst 0, 1) := by decide +kernel
theorem dX8_gains_13 : decode cX8_gains 13 = .ok (.istore_n 2, 1) := by decide +kernel
theorem dX8_gains_14 : decode cX8_gains 14 = .ok (.iload_n 2, 1) := by decide +kernel
theorem dX8_gains_15 : decode cX8_gains 15 = .ok (.aload_n 0, 1) := by decide +kernel
theorem dX8_gains_16 : decode cX8_gains 16 = .ok (.getfield 15, 3) := by decide +kernel
theorem dX8_gains_19 : decode cX8_gains 19 = .ok (.bipush 60, 2) := by decide +kernel
theorem dX8_gains_21 : decode cX8_gains 21 = .ok (.iaload, 1) := by decide +kernel
theorem dX8_gains_22 : decode cX8_gains 22 = .ok (.if_icmp .ge 26, 3) := by decide +kernel
theorem dX8_gains_25 : decode cX8_gains 25 = .ok (.aload_n 0, 1) := by decide +kernel
theorem dX8_gains_26 : decode cX8_gains 26 = .ok (.getfield 56, 3) := by decide +kernel
theorem dX8_gains_29 : decode cX8_gains 29 = .ok (.iload_n 2, 1) := by decide +kernel
theorem dX8_gains_30 : decode cX8_gains 30 = .ok (.aload_n 0, 1) := by decide +kernel
theorem dX8_gains_31 : decode cX8_gains 31 = .ok (.iload_n 2, 1) := by decide +kernel
theorem dX8_gains_32 : decode cX8_gains 32 = .ok (.aload_n 0, 1) := by decide +kernel
theorem dX8_gains_33 : decode cX8_gains 33 = .ok (.iload_n 2, 1) := by decide +kernel
end
section
theorem dX8_gains_34 : decode cX8_gains 34 = .ok (.iconst 3, 1) := by decide +kernel
theorem dX8_gains_35 : decode cX8_gains 35 = .ok (.invokevirtual 89, 3) := by decide +kernel
theorem dX8_gains_38 : decode cX8_gains 38 = .ok (.invokevirtual 114, 3) := by decide +kernel
theorem dX8_gains_41 : decode cX8_gains 41 = .ok (.iastore, 1) := by decide +kernel
theorem dX8_gains_42 : decode cX8_gains 42 = .ok (.iinc 2 1, 3) := by decide +kernel
theorem dX8_gains_45 : decode cX8_gains 45 = .ok (.goto (-31), 3) := by decide +kernel
theorem dX8_gains_48 : decode cX8_gains 48 = .ok (.aload_n 0, 1) := by decide +kernel
theorem dX8_gains_49 : decode cX8_gains 49 = .ok (.iconst 0, 1) := by decide +kernel
theorem dX8_gains_50 : decode cX8_gains 50 = .ok (.invokevirtual 201, 3) := by decide +kernel
theorem dX8_gains_53 : decode cX8_gains 53 = .ok (.iconst 0, 1) := by decide +kernel
theorem dX8_gains_54 : decode cX8_gains 54 = .ok (.istore_n 2, 1) := by decide +kernel
theorem dX8_gains_55 : decode cX8_gains 55 = .ok (.iload_n 2, 1) := by decide +kernel
theorem dX8_gains_56 : decode cX8_gains 56 = .ok (.aload_n 0, 1) := by decide +kernel
theorem dX8_gains_57 : decode cX8_gains 57 = .ok (.getfield 15, 3) := by decide +kernel
theorem dX8_gains_60 : decode cX8_gains 60 = .ok (.bipush 60, 2) := by decide +kernel
theorem dX8_gains_62 : decode cX8_gains 62 = .ok (.iaload, 1) := by decide +kernel
theorem dX8_gains_63 : decode cX8_gains 63 = .ok (.if_icmp .ge 47, 3) := by decide +kernel
theorem dX8_gains_66 : decode cX8_gains 66 = .ok (.iload_n 1, 1) := by decide +kernel
theorem dX8_gains_67 : decode cX8_gains 67 = .ok (.aload_n 0, 1) := by decide +kernel
theorem dX8_gains_68 : decode cX8_gains 68 = .ok (.iload_n 2, 1) := by decide +kernel
theorem dX8_gains_69 : decode cX8_gains 69 = .ok (.invokevirtual 179, 3) := by decide +kernel
theorem dX8_gains_72 : decode cX8_gains 72 = .ok (.ifCond .eq 29, 3) := by decide +kernel
theorem dX8_gains_75 : decode cX8_gains 75 = .ok (.aload_n 0, 1) := by decide +kernel
theorem dX8_gains_76 : decode cX8_gains 76 = .ok (.getfield 56, 3) := by decide +kernel
theorem dX8_gains_79 : decode cX8_gains 79 = .ok (.iload_n 2, 1) := by decide +kernel
theorem dX8_gains_80 : decode cX8_gains 80 = .ok (.iaload, 1) := by decide +kernel
theorem dX8_gains_81 : decode cX8_gains 81 = .ok (.aload_n 0, 1) := by decide +kernel
theorem dX8_gains_82 : decode cX8_gains 82 = .ok (.iload_n 2, 1) := by decide +kernel
theorem dX8_gains_83 : decode cX8_gains 83 = .ok (.aload_n 0, 1) := by decide +kernel
theorem dX8_gains_84 : decode cX8_gains 84 = .ok (.iload_n 2, 1) := by decide +kernel
theorem dX8_gains_85 : decode cX8_gains 85 = .ok (.iconst 3, 1) := by decide +kernel
theorem dX8_gains_86 : decode cX8_gains 86 = .ok (.invokevirtual 89, 3) := by decide +kernel
theorem dX8_gains_89 : decode cX8_gains 89 = .ok (.invokevirtual 114, 3) := by decide +kernel
theorem dX8_gains_92 : decode cX8_gains 92 = .ok (.if_icmp .le 9, 3) := by decide +kernel
theorem dX8_gains_95 : decode cX8_gains 95 = .ok (.iconst 1, 1) := by decide +kernel
theorem dX8_gains_96 : decode cX8_gains 96 = .ok (.iload_n 2, 1) := by decide +kernel
theorem dX8_gains_97 : decode cX8_gains 97 = .ok (.ishl, 1) := by decide +kernel
theorem dX8_gains_98 : decode cX8_gains 98 = .ok (.goto 4, 3) := by decide +kernel
theorem dX8_gains_101 : decode cX8_gains 101 = .ok (.iconst 0, 1) := by decide +kernel
theorem dX8_gains_102 : decode cX8_gains 102 = .ok (.ior, 1) := by decide +kernel
theorem dX8_gains_103 : decode cX8_gains 103 = .ok (.istore_n 1, 1) := by decide +kernel
theorem dX8_gains_104 : decode cX8_gains 104 = .ok (.iinc 2 1, 3) := by decide +kernel
theorem dX8_gains_107 : decode cX8_gains 107 = .ok (.goto (-52), 3) := by decide +kernel
theorem dX8_gains_110 : decode cX8_gains 110 = .ok (.iload_n 1, 1) := by decide +kernel
theorem dX8_gains_111 : decode cX8_gains 111 = .ok (.ireturn, 1) := by decide +kernel
theorem dX8_aways_0 : decode cX8_aways 0 = .ok (.iconst 0, 1) := by decide +kernel
theorem dX8_aways_1 : decode cX8_aways 1 = .ok (.istore_n 1, 1) := by decide +kernel
theorem dX8_aways_2 : decode cX8_aways 2 = .ok (.iconst 0, 1) := by decide +kernel
theorem dX8_aways_3 : decode cX8_aways 3 = .ok (.istore_n 2, 1) := by decide +kernel
theorem dX8_aways_4 : decode cX8_aways 4 = .ok (.iload_n 2, 1) := by decide +kernel
theorem dX8_aways_5 : decode cX8_aways 5 = .ok (.aload_n 0, 1) := by decide +kernel
theorem dX8_aways_6 : decode cX8_aways 6 = .ok (.getfield 15, 3) := by decide +kernel
theorem dX8_aways_9 : decode cX8_aways 9 = .ok (.bipush 60, 2) := by decide +kernel
theorem dX8_aways_11 : decode cX8_aways 11 = .ok (.iaload, 1) := by decide +kernel
theorem dX8_aways_12 : decode cX8_aways 12 = .ok (.if_icmp .ge 27, 3) := by decide +kernel
theorem dX8_aways_15 : decode cX8_aways 15 = .ok (.iload_n 1, 1) := by decide +kernel
theorem dX8_aways_16 : decode cX8_aways 16 = .ok (.aload_n 0, 1) := by decide +kernel
theorem dX8_aways_17 : decode cX8_aways 17 = .ok (.iload_n 2, 1) := by decide +kernel
theorem dX8_aways_18 : decode cX8_aways 18 = .ok (.invokevirtual 179, 3) := by decide +kernel
theorem dX8_aways_21 : decode cX8_aways 21 = .ok (.ifCond .eq 7, 3) := by decide +kernel
theorem dX8_aways_24 : decode cX8_aways 24 = .ok (.iconst 0, 1) := by decide +kernel
theorem dX8_aways_25 : decode cX8_aways 25 = .ok (.goto 6, 3) := by decide +kernel
theorem dX8_aways_28 : decode cX8_aways 28 = .ok (.iconst 1, 1) := by decide +kernel
theorem dX8_aways_29 : decode cX8_aways 29 = .ok (.iload_n 2, 1) := by decide +kernel
theorem dX8_aways_30 : decode cX8_aways 30 = .ok (.ishl, 1) := by decide +kernel
theorem dX8_aways_31 : decode cX8_aways 31 = .ok (.ior, 1) := by decide +kernel
theorem dX8_aways_32 : decode cX8_aways 32 = .ok (.istore_n 1, 1) := by decide +kernel
theorem dX8_aways_33 : decode cX8_aways 33 = .ok (.iinc 2 1, 3) := by decide +kernel
theorem dX8_aways_36 : decode cX8_aways 36 = .ok (.goto (-32), 3) := by decide +kernel
theorem dX8_aways_39 : decode cX8_aways 39 = .ok (.iload_n 1, 1) := by decide +kernel
theorem dX8_aways_40 : decode cX8_aways 40 = .ok (.ireturn, 1) := by decide +kernel
theorem dX8_told_0 : decode cX8_told 0 = .ok (.iload_n 1, 1) := by decide +kernel
theorem dX8_told_1 : decode cX8_told 1 = .ok (.tableswitch 101 0 7 #[47, 55, 66, 74, 79, 84, 89, 95], 47) := by decide +kernel
theorem dX8_told_48 : decode cX8_told 48 = .ok (.aload_n 0, 1) := by decide +kernel
theorem dX8_told_49 : decode cX8_told 49 = .ok (.getfield 15, 3) := by decide +kernel
theorem dX8_told_52 : decode cX8_told 52 = .ok (.bipush 62, 2) := by decide +kernel
theorem dX8_told_54 : decode cX8_told 54 = .ok (.iaload, 1) := by decide +kernel
theorem dX8_told_55 : decode cX8_told 55 = .ok (.ireturn, 1) := by decide +kernel
theorem dX8_told_56 : decode cX8_told 56 = .ok (.aload_n 0, 1) := by decide +kernel
theorem dX8_told_57 : decode cX8_told 57 = .ok (.iconst 0, 1) := by decide +kernel
theorem dX8_told_58 : decode cX8_told 58 = .ok (.iconst 0, 1) := by decide +kernel
theorem dX8_told_59 : decode cX8_told 59 = .ok (.invokevirtual 175, 3) := by decide +kernel
theorem dX8_told_62 : decode cX8_told 62 = .ok (.aload_n 0, 1) := by decide +kernel
theorem dX8_told_63 : decode cX8_told 63 = .ok (.getfield 160, 3) := by decide +kernel
theorem dX8_told_66 : decode cX8_told 66 = .ok (.ireturn, 1) := by decide +kernel
theorem dX8_told_67 : decode cX8_told 67 = .ok (.aload_n 0, 1) := by decide +kernel
theorem dX8_told_68 : decode cX8_told 68 = .ok (.getfield 15, 3) := by decide +kernel
theorem dX8_told_71 : decode cX8_told 71 = .ok (.bipush 61, 2) := by decide +kernel
theorem dX8_told_73 : decode cX8_told 73 = .ok (.iaload, 1) := by decide +kernel
theorem dX8_told_74 : decode cX8_told 74 = .ok (.ireturn, 1) := by decide +kernel
theorem dX8_told_75 : decode cX8_told 75 = .ok (.aload_n 0, 1) := by decide +kernel
theorem dX8_told_76 : decode cX8_told 76 = .ok (.invokevirtual 204, 3) := by decide +kernel
theorem dX8_told_79 : decode cX8_told 79 = .ok (.ireturn, 1) := by decide +kernel
theorem dX8_told_80 : decode cX8_told 80 = .ok (.aload_n 0, 1) := by decide +kernel
theorem dX8_told_81 : decode cX8_told 81 = .ok (.invokevirtual 207, 3) := by decide +kernel
theorem dX8_told_84 : decode cX8_told 84 = .ok (.ireturn, 1) := by decide +kernel
theorem dX8_told_85 : decode cX8_told 85 = .ok (.aload_n 0, 1) := by decide +kernel
theorem dX8_told_86 : decode cX8_told 86 = .ok (.invokevirtual 210, 3) := by decide +kernel
theorem dX8_told_89 : decode cX8_told 89 = .ok (.ireturn, 1) := by decide +kernel
theorem dX8_told_90 : decode cX8_told 90 = .ok (.aload_n 0, 1) := by decide +kernel
theorem dX8_told_91 : decode cX8_told 91 = .ok (.iconst 1, 1) := by decide +kernel
theorem dX8_told_92 : decode cX8_told 92 = .ok (.invokevirtual 213, 3) := by decide +kernel
theorem dX8_told_95 : decode cX8_told 95 = .ok (.ireturn, 1) := by decide +kernel
theorem dX8_told_96 : decode cX8_told 96 = .ok (.aload_n 0, 1) := by decide +kernel
theorem dX8_told_97 : decode cX8_told 97 = .ok (.iconst 0, 1) := by decide +kernel
theorem dX8_told_98 : decode cX8_told 98 = .ok (.invokevirtual 213, 3) := by decide +kernel
theorem dX8_told_101 : decode cX8_told 101 = .ok (.ireturn, 1) := by decide +kernel
theorem dX8_told_102 : decode cX8_told 102 = .ok (.iconst (-1), 1) := by decide +kernel
theorem dX8_told_103 : decode cX8_told 103 = .ok (.ireturn, 1) := by decide +kernel
theorem dX8_pass_0 : decode cX8_pass 0 = .ok (.iload_n 1, 1) := by decide +kernel
theorem dX8_pass_1 : decode cX8_pass 1 = .ok (.iconst 0, 1) := by decide +kernel
theorem dX8_pass_2 : decode cX8_pass 2 = .ok (.bipush 20, 2) := by decide +kernel
theorem dX8_pass_4 : decode cX8_pass 4 = .ok (.invokestatic 85, 3) := by decide +kernel
theorem dX8_pass_7 : decode cX8_pass 7 = .ok (.ifCond .ne 6, 3) := by decide +kernel
theorem dX8_pass_10 : decode cX8_pass 10 = .ok (.bipush (-2), 2) := by decide +kernel
theorem dX8_pass_12 : decode cX8_pass 12 = .ok (.ireturn, 1) := by decide +kernel
theorem dX8_pass_13 : decode cX8_pass 13 = .ok (.aload_n 0, 1) := by decide +kernel
theorem dX8_pass_14 : decode cX8_pass 14 = .ok (.getfield 15, 3) := by decide +kernel
theorem dX8_pass_17 : decode cX8_pass 17 = .ok (.bipush 62, 2) := by decide +kernel
theorem dX8_pass_19 : decode cX8_pass 19 = .ok (.iaload, 1) := by decide +kernel
theorem dX8_pass_20 : decode cX8_pass 20 = .ok (.iload_n 1, 1) := by decide +kernel
theorem dX8_pass_21 : decode cX8_pass 21 = .ok (.iadd, 1) := by decide +kernel
theorem dX8_pass_22 : decode cX8_pass 22 = .ok (.sipush 9999, 3) := by decide +kernel
theorem dX8_pass_25 : decode cX8_pass 25 = .ok (.if_icmp .le 6, 3) := by decide +kernel
theorem dX8_pass_28 : decode cX8_pass 28 = .ok (.bipush (-3), 2) := by decide +kernel
theorem dX8_pass_30 : decode cX8_pass 30 = .ok (.ireturn, 1) := by decide +kernel
theorem dX8_pass_31 : decode cX8_pass 31 = .ok (.iconst 0, 1) := by decide +kernel
theorem dX8_pass_32 : decode cX8_pass 32 = .ok (.istore_n 2, 1) := by decide +kernel
theorem dX8_pass_33 : decode cX8_pass 33 = .ok (.iload_n 2, 1) := by decide +kernel
theorem dX8_pass_34 : decode cX8_pass 34 = .ok (.iload_n 1, 1) := by decide +kernel
theorem dX8_pass_35 : decode cX8_pass 35 = .ok (.if_icmp .ge 15, 3) := by decide +kernel
theorem dX8_pass_38 : decode cX8_pass 38 = .ok (.aload_n 0, 1) := by decide +kernel
theorem dX8_pass_39 : decode cX8_pass 39 = .ok (.iconst 1, 1) := by decide +kernel
theorem dX8_pass_40 : decode cX8_pass 40 = .ok (.invokevirtual 197, 3) := by decide +kernel
theorem dX8_pass_43 : decode cX8_pass 43 = .ok (.pop, 1) := by decide +kernel
theorem dX8_pass_44 : decode cX8_pass 44 = .ok (.iinc 2 1, 3) := by decide +kernel
theorem dX8_pass_47 : decode cX8_pass 47 = .ok (.goto (-14), 3) := by decide +kernel
theorem dX8_pass_50 : decode cX8_pass 50 = .ok (.aload_n 0, 1) := by decide +kernel
theorem dX8_pass_51 : decode cX8_pass 51 = .ok (.getfield 15, 3) := by decide +kernel
theorem dX8_pass_54 : decode cX8_pass 54 = .ok (.bipush 62, 2) := by decide +kernel
theorem dX8_pass_56 : decode cX8_pass 56 = .ok (.iaload, 1) := by decide +kernel
theorem dX8_pass_57 : decode cX8_pass 57 = .ok (.ireturn, 1) := by decide +kernel
theorem dX8_on_0 : decode cX8_on 0 = .ok (.aload_n 0, 1) := by decide +kernel
theorem dX8_on_1 : decode cX8_on 1 = .ok (.iload_n 2, 1) := by decide +kernel
theorem dX8_on_2 : decode cX8_on 2 = .ok (.bipush 10, 2) := by decide +kernel
theorem dX8_on_4 : decode cX8_on 4 = .ok (.isub, 1) := by decide +kernel
theorem dX8_on_5 : decode cX8_on 5 = .ok (.invokevirtual 101, 3) := by decide +kernel
theorem dX8_on_8 : decode cX8_on 8 = .ok (.ifCond .ne 16, 3) := by decide +kernel
theorem dX8_on_11 : decode cX8_on 11 = .ok (.aload_n 0, 1) := by decide +kernel
theorem dX8_on_12 : decode cX8_on 12 = .ok (.iload_n 2, 1) := by decide +kernel
theorem dX8_on_13 : decode cX8_on 13 = .ok (.bipush 20, 2) := by decide +kernel
theorem dX8_on_15 : decode cX8_on 15 = .ok (.isub, 1) := by decide +kernel
theorem dX8_on_16 : decode cX8_on 16 = .ok (.invokevirtual 101, 3) := by decide +kernel
theorem dX8_on_19 : decode cX8_on 19 = .ok (.ifCond .ne 5, 3) := by decide +kernel
theorem dX8_on_22 : decode cX8_on 22 = .ok (.iconst (-1), 1) := by decide +kernel
theorem dX8_on_23 : decode cX8_on 23 = .ok (.ireturn, 1) := by decide +kernel
theorem dX8_on_24 : decode cX8_on 24 = .ok (.iload_n 1, 1) := by decide +kernel
theorem dX8_on_25 : decode cX8_on 25 = .ok (.iconst 0, 1) := by decide +kernel
theorem dX8_on_26 : decode cX8_on 26 = .ok (.bipush 20, 2) := by decide +kernel
theorem dX8_on_28 : decode cX8_on 28 = .ok (.invokestatic 85, 3) := by decide +kernel
theorem dX8_on_31 : decode cX8_on 31 = .ok (.ifCond .ne 6, 3) := by decide +kernel
theorem dX8_on_34 : decode cX8_on 34 = .ok (.bipush (-2), 2) := by decide +kernel
theorem dX8_on_36 : decode cX8_on 36 = .ok (.ireturn, 1) := by decide +kernel
theorem dX8_on_37 : decode cX8_on 37 = .ok (.aload_n 0, 1) := by decide +kernel
theorem dX8_on_38 : decode cX8_on 38 = .ok (.iconst 0, 1) := by decide +kernel
theorem dX8_on_39 : decode cX8_on 39 = .ok (.invokevirtual 194, 3) := by decide +kernel
theorem dX8_on_42 : decode cX8_on 42 = .ok (.iconst 0, 1) := by decide +kernel
theorem dX8_on_43 : decode cX8_on 43 = .ok (.istore_n 3, 1) := by decide +kernel
theorem dX8_on_44 : decode cX8_on 44 = .ok (.iload_n 3, 1) := by decide +kernel
theorem dX8_on_45 : decode cX8_on 45 = .ok (.iload_n 1, 1) := by decide +kernel
theorem dX8_on_46 : decode cX8_on 46 = .ok (.if_icmp .ge 15, 3) := by decide +kernel
theorem dX8_on_49 : decode cX8_on 49 = .ok (.aload_n 0, 1) := by decide +kernel
theorem dX8_on_50 : decode cX8_on 50 = .ok (.iconst 0, 1) := by decide +kernel
theorem dX8_on_51 : decode cX8_on 51 = .ok (.invokevirtual 197, 3) := by decide +kernel
theorem dX8_on_54 : decode cX8_on 54 = .ok (.pop, 1) := by decide +kernel
theorem dX8_on_55 : decode cX8_on 55 = .ok (.iinc 3 1, 3) := by decide +kernel
theorem dX8_on_58 : decode cX8_on 58 = .ok (.goto (-14), 3) := by decide +kernel
theorem dX8_on_61 : decode cX8_on 61 = .ok (.iload_n 2, 1) := by decide +kernel
theorem dX8_on_62 : decode cX8_on 62 = .ok (.bipush 20, 2) := by decide +kernel
theorem dX8_on_64 : decode cX8_on 64 = .ok (.if_icmp .ge 15, 3) := by decide +kernel
theorem dX8_on_67 : decode cX8_on 67 = .ok (.aload_n 0, 1) := by decide +kernel
theorem dX8_on_68 : decode cX8_on 68 = .ok (.iload_n 2, 1) := by decide +kernel
theorem dX8_on_69 : decode cX8_on 69 = .ok (.bipush 10, 2) := by decide +kernel
theorem dX8_on_71 : decode cX8_on 71 = .ok (.isub, 1) := by decide +kernel
theorem dX8_on_72 : decode cX8_on 72 = .ok (.iconst 3, 1) := by decide +kernel
theorem dX8_on_73 : decode cX8_on 73 = .ok (.invokevirtual 89, 3) := by decide +kernel
theorem dX8_on_76 : decode cX8_on 76 = .ok (.goto 12, 3) := by decide +kernel
theorem dX8_on_79 : decode cX8_on 79 = .ok (.aload_n 0, 1) := by decide +kernel
theorem dX8_on_80 : decode cX8_on 80 = .ok (.iload_n 2, 1) := by decide +kernel
theorem dX8_on_81 : decode cX8_on 81 = .ok (.bipush 20, 2) := by decide +kernel
theorem dX8_on_83 : decode cX8_on 83 = .ok (.isub, 1) := by decide +kernel
theorem dX8_on_84 : decode cX8_on 84 = .ok (.iconst 5, 1) := by decide +kernel
theorem dX8_on_85 : decode cX8_on 85 = .ok (.invokevirtual 89, 3) := by decide +kernel
theorem dX8_on_88 : decode cX8_on 88 = .ok (.istore_n 3, 1) := by decide +kernel
theorem dX8_on_89 : decode cX8_on 89 = .ok (.aload_n 0, 1) := by decide +kernel
theorem dX8_on_90 : decode cX8_on 90 = .ok (.iconst 0, 1) := by decide +kernel
theorem dX8_on_91 : decode cX8_on 91 = .ok (.invokevirtual 201, 3) := by decide +kernel
theorem dX8_on_94 : decode cX8_on 94 = .ok (.iload_n 3, 1) := by decide +kernel
theorem dX8_on_95 : decode cX8_on 95 = .ok (.ireturn, 1) := by decide +kernel
theorem dX8_many_0 : decode cX8_many 0 = .ok (.iconst 0, 1) := by decide +kernel
theorem dX8_many_1 : decode cX8_many 1 = .ok (.istore_n 1, 1) := by decide +kernel
theorem dX8_many_2 : decode cX8_many 2 = .ok (.iconst 0, 1) := by decide +kernel
theorem dX8_many_3 : decode cX8_many 3 = .ok (.istore_n 2, 1) := by decide +kernel
theorem dX8_many_4 : decode cX8_many 4 = .ok (.iload_n 2, 1) := by decide +kernel
theorem dX8_many_5 : decode cX8_many 5 = .ok (.bipush 6, 2) := by decide +kernel
theorem dX8_many_7 : decode cX8_many 7 = .ok (.if_icmp .ge 17, 3) := by decide +kernel
theorem dX8_many_10 : decode cX8_many 10 = .ok (.iload_n 1, 1) := by decide +kernel
theorem dX8_many_11 : decode cX8_many 11 = .ok (.iload_n 0, 1) := by decide +kernel
theorem dX8_many_12 : decode cX8_many 12 = .ok (.iload_n 2, 1) := by decide +kernel
theorem dX8_many_13 : decode cX8_many 13 = .ok (.ishr, 1) := by decide +kernel
theorem dX8_many_14 : decode cX8_many 14 = .ok (.iconst 1, 1) := by decide +kernel
theorem dX8_many_15 : decode cX8_many 15 = .ok (.iand, 1) := by decide +kernel
theorem dX8_many_16 : decode cX8_many 16 = .ok (.iadd, 1) := by decide +kernel
theorem dX8_many_17 : decode cX8_many 17 = .ok (.istore_n 1, 1) := by decide +kernel
theorem dX8_many_18 : decode cX8_many 18 = .ok (.iinc 2 1, 3) := by decide +kernel
theorem dX8_many_21 : decode cX8_many 21 = .ok (.goto (-17), 3) := by decide +kernel
theorem dX8_many_24 : decode cX8_many 24 = .ok (.iload_n 1, 1) := by decide +kernel
theorem dX8_many_25 : decode cX8_many 25 = .ok (.ireturn, 1) := by decide +kernel
theorem dX8_kept_0 : decode cX8_kept 0 = .ok (.aload_n 0, 1) := by decide +kernel
theorem dX8_kept_1 : decode cX8_kept 1 = .ok (.iload_n 1, 1) := by decide +kernel
theorem dX8_kept_2 : decode cX8_kept 2 = .ok (.invokevirtual 101, 3) := by decide +kernel
theorem dX8_kept_5 : decode cX8_kept 5 = .ok (.ifCond .ne 5, 3) := by decide +kernel
theorem dX8_kept_8 : decode cX8_kept 8 = .ok (.iconst (-1), 1) := by decide +kernel
theorem dX8_kept_9 : decode cX8_kept 9 = .ok (.ireturn, 1) := by decide +kernel
theorem dX8_kept_10 : decode cX8_kept 10 = .ok (.iload_n 2, 1) := by decide +kernel
theorem dX8_kept_11 : decode cX8_kept 11 = .ok (.iconst 0, 1) := by decide +kernel
theorem dX8_kept_12 : decode cX8_kept 12 = .ok (.sipush 999, 3) := by decide +kernel
theorem dX8_kept_15 : decode cX8_kept 15 = .ok (.invokestatic 85, 3) := by decide +kernel
theorem dX8_kept_18 : decode cX8_kept 18 = .ok (.ifCond .ne 6, 3) := by decide +kernel
theorem dX8_kept_21 : decode cX8_kept 21 = .ok (.bipush (-2), 2) := by decide +kernel
theorem dX8_kept_23 : decode cX8_kept 23 = .ok (.ireturn, 1) := by decide +kernel
theorem dX8_kept_24 : decode cX8_kept 24 = .ok (.bipush (-5), 2) := by decide +kernel
theorem dX8_kept_26 : decode cX8_kept 26 = .ok (.istore_n 3, 1) := by decide +kernel
theorem dX8_kept_27 : decode cX8_kept 27 = .ok (.iconst 0, 1) := by decide +kernel
theorem dX8_kept_28 : decode cX8_kept 28 = .ok (.istore 4, 2) := by decide +kernel
theorem dX8_kept_30 : decode cX8_kept 30 = .ok (.iload 4, 2) := by decide +kernel
theorem dX8_kept_32 : decode cX8_kept 32 = .ok (.iconst 1, 1) := by decide +kernel
theorem dX8_kept_33 : decode cX8_kept 33 = .ok (.aload_n 0, 1) := by decide +kernel
theorem dX8_kept_34 : decode cX8_kept 34 = .ok (.getfield 15, 3) := by decide +kernel
theorem dX8_kept_37 : decode cX8_kept 37 = .ok (.bipush 60, 2) := by decide +kernel
theorem dX8_kept_39 : decode cX8_kept 39 = .ok (.iaload, 1) := by decide +kernel
theorem dX8_kept_40 : decode cX8_kept 40 = .ok (.ishl, 1) := by decide +kernel
theorem dX8_kept_41 : decode cX8_kept 41 = .ok (.if_icmp .ge 126, 3) := by decide +kernel
theorem dX8_kept_44 : decode cX8_kept 44 = .ok (.aload_n 0, 1) := by decide +kernel
theorem dX8_kept_45 : decode cX8_kept 45 = .ok (.iload_n 1, 1) := by decide +kernel
theorem dX8_kept_46 : decode cX8_kept 46 = .ok (.invokevirtual 179, 3) := by decide +kernel
theorem dX8_kept_49 : decode cX8_kept 49 = .ok (.ifCond .eq 118, 3) := by decide +kernel
theorem dX8_kept_52 : decode cX8_kept 52 = .ok (.iload 4, 2) := by decide +kernel
theorem dX8_kept_54 : decode cX8_kept 54 = .ok (.iload_n 1, 1) := by decide +kernel
theorem dX8_kept_55 : decode cX8_kept 55 = .ok (.ishr, 1) := by decide +kernel
theorem dX8_kept_56 : decode cX8_kept 56 = .ok (.iconst 1, 1) := by decide +kernel
theorem dX8_kept_57 : decode cX8_kept 57 = .ok (.iand, 1) := by decide +kernel
theorem dX8_kept_58 : decode cX8_kept 58 = .ok (.ifCond .ne 103, 3) := by decide +kernel
theorem dX8_kept_61 : decode cX8_kept 61 = .ok (.iload_n 3, 1) := by decide +kernel
theorem dX8_kept_62 : decode cX8_kept 62 = .ok (.bipush (-5), 2) := by decide +kernel
theorem dX8_kept_64 : decode cX8_kept 64 = .ok (.if_icmp .eq 15, 3) := by decide +kernel
theorem dX8_kept_67 : decode cX8_kept 67 = .ok (.iload 4, 2) := by decide +kernel
theorem dX8_kept_69 : decode cX8_kept 69 = .ok (.invokestatic 216, 3) := by decide +kernel
theorem dX8_kept_72 : decode cX8_kept 72 = .ok (.iload_n 3, 1) := by decide +kernel
theorem dX8_kept_73 : decode cX8_kept 73 = .ok (.invokestatic 216, 3) := by decide +kernel
theorem dX8_kept_76 : decode cX8_kept 76 = .ok (.if_icmp .ge 85, 3) := by decide +kernel
theorem dX8_kept_79 : decode cX8_kept 79 = .ok (.aload_n 0, 1) := by decide +kernel
theorem dX8_kept_80 : decode cX8_kept 80 = .ok (.iconst 0, 1) := by decide +kernel
theorem dX8_kept_81 : decode cX8_kept 81 = .ok (.invokevirtual 194, 3) := by decide +kernel
theorem dX8_kept_84 : decode cX8_kept 84 = .ok (.iconst 0, 1) := by decide +kernel
theorem dX8_kept_85 : decode cX8_kept 85 = .ok (.istore 5, 2) := by decide +kernel
theorem dX8_kept_87 : decode cX8_kept 87 = .ok (.iload 5, 2) := by decide +kernel
theorem dX8_kept_89 : decode cX8_kept 89 = .ok (.aload_n 0, 1) := by decide +kernel
theorem dX8_kept_90 : decode cX8_kept 90 = .ok (.getfield 15, 3) := by decide +kernel
theorem dX8_kept_93 : decode cX8_kept 93 = .ok (.bipush 60, 2) := by decide +kernel
theorem dX8_kept_95 : decode cX8_kept 95 = .ok (.iaload, 1) := by decide +kernel
theorem dX8_kept_96 : decode cX8_kept 96 = .ok (.if_icmp .ge 39, 3) := by decide +kernel
theorem dX8_kept_99 : decode cX8_kept 99 = .ok (.aload_n 0, 1) := by decide +kernel
theorem dX8_kept_100 : decode cX8_kept 100 = .ok (.iload 5, 2) := by decide +kernel
theorem dX8_kept_102 : decode cX8_kept 102 = .ok (.iconst 4, 1) := by decide +kernel
theorem dX8_kept_103 : decode cX8_kept 103 = .ok (.iload 4, 2) := by decide +kernel
theorem dX8_kept_105 : decode cX8_kept 105 = .ok (.iload 5, 2) := by decide +kernel
theorem dX8_kept_107 : decode cX8_kept 107 = .ok (.ishr, 1) := by decide +kernel
theorem dX8_kept_108 : decode cX8_kept 108 = .ok (.iconst 1, 1) := by decide +kernel
theorem dX8_kept_109 : decode cX8_kept 109 = .ok (.iand, 1) := by decide +kernel
theorem dX8_kept_110 : decode cX8_kept 110 = .ok (.iconst 1, 1) := by decide +kernel
theorem dX8_kept_111 : decode cX8_kept 111 = .ok (.if_icmp .ne 7, 3) := by decide +kernel
theorem dX8_kept_114 : decode cX8_kept 114 = .ok (.iconst 1, 1) := by decide +kernel
theorem dX8_kept_115 : decode cX8_kept 115 = .ok (.goto 10, 3) := by decide +kernel
theorem dX8_kept_118 : decode cX8_kept 118 = .ok (.aload_n 0, 1) := by decide +kernel
theorem dX8_kept_119 : decode cX8_kept 119 = .ok (.iload 5, 2) := by decide +kernel
theorem dX8_kept_121 : decode cX8_kept 121 = .ok (.iconst 4, 1) := by decide +kernel
theorem dX8_kept_122 : decode cX8_kept 122 = .ok (.invokevirtual 89, 3) := by decide +kernel
theorem dX8_kept_125 : decode cX8_kept 125 = .ok (.invokevirtual 97, 3) := by decide +kernel
theorem dX8_kept_128 : decode cX8_kept 128 = .ok (.pop, 1) := by decide +kernel
theorem dX8_kept_129 : decode cX8_kept 129 = .ok (.iinc 5 1, 3) := by decide +kernel
theorem dX8_kept_132 : decode cX8_kept 132 = .ok (.goto (-45), 3) := by decide +kernel
theorem dX8_kept_135 : decode cX8_kept 135 = .ok (.aload_n 0, 1) := by decide +kernel
theorem dX8_kept_136 : decode cX8_kept 136 = .ok (.invokevirtual 104, 3) := by decide +kernel
theorem dX8_kept_139 : decode cX8_kept 139 = .ok (.aload_n 0, 1) := by decide +kernel
theorem dX8_kept_140 : decode cX8_kept 140 = .ok (.getfield 53, 3) := by decide +kernel
theorem dX8_kept_143 : decode cX8_kept 143 = .ok (.iload_n 1, 1) := by decide +kernel
theorem dX8_kept_144 : decode cX8_kept 144 = .ok (.iaload, 1) := by decide +kernel
theorem dX8_kept_145 : decode cX8_kept 145 = .ok (.iload_n 2, 1) := by decide +kernel
theorem dX8_kept_146 : decode cX8_kept 146 = .ok (.if_icmp .lt 8, 3) := by decide +kernel
theorem dX8_kept_149 : decode cX8_kept 149 = .ok (.iload 4, 2) := by decide +kernel
theorem dX8_kept_151 : decode cX8_kept 151 = .ok (.goto 4, 3) := by decide +kernel
theorem dX8_kept_154 : decode cX8_kept 154 = .ok (.iload_n 3, 1) := by decide +kernel
theorem dX8_kept_155 : decode cX8_kept 155 = .ok (.istore_n 3, 1) := by decide +kernel
theorem dX8_kept_156 : decode cX8_kept 156 = .ok (.aload_n 0, 1) := by decide +kernel
theorem dX8_kept_157 : decode cX8_kept 157 = .ok (.iconst 0, 1) := by decide +kernel
theorem dX8_kept_158 : decode cX8_kept 158 = .ok (.invokevirtual 201, 3) := by decide +kernel
theorem dX8_kept_161 : decode cX8_kept 161 = .ok (.iinc 4 1, 3) := by decide +kernel
theorem dX8_kept_164 : decode cX8_kept 164 = .ok (.goto (-134), 3) := by decide +kernel
theorem dX8_kept_167 : decode cX8_kept 167 = .ok (.iload_n 3, 1) := by decide +kernel
theorem dX8_kept_168 : decode cX8_kept 168 = .ok (.ireturn, 1) := by decide +kernel
theorem dX8_see_0 : decode cX8_see 0 = .ok (.iload_n 1, 1) := by decide +kernel
theorem dX8_see_1 : decode cX8_see 1 = .ok (.iconst (-1), 1) := by decide +kernel
theorem dX8_see_2 : decode cX8_see 2 = .ok (.if_icmp .ne 13, 3) := by decide +kernel
theorem dX8_see_5 : decode cX8_see 5 = .ok (.aload_n 0, 1) := by decide +kernel
theorem dX8_see_6 : decode cX8_see 6 = .ok (.getfield 15, 3) := by decide +kernel
theorem dX8_see_9 : decode cX8_see 9 = .ok (.bipush 64, 2) := by decide +kernel
theorem dX8_see_11 : decode cX8_see 11 = .ok (.iconst 0, 1) := by decide +kernel
theorem dX8_see_12 : decode cX8_see 12 = .ok (.iastore, 1) := by decide +kernel
theorem dX8_see_13 : decode cX8_see 13 = .ok (.iconst 0, 1) := by decide +kernel
theorem dX8_see_14 : decode cX8_see 14 = .ok (.ireturn, 1) := by decide +kernel
theorem dX8_see_15 : decode cX8_see 15 = .ok (.aload_n 0, 1) := by decide +kernel
theorem dX8_see_16 : decode cX8_see 16 = .ok (.iload_n 1, 1) := by decide +kernel
theorem dX8_see_17 : decode cX8_see 17 = .ok (.invokevirtual 101, 3) := by decide +kernel
theorem dX8_see_20 : decode cX8_see 20 = .ok (.ifCond .ne 5, 3) := by decide +kernel
theorem dX8_see_23 : decode cX8_see 23 = .ok (.iconst (-1), 1) := by decide +kernel
theorem dX8_see_24 : decode cX8_see 24 = .ok (.ireturn, 1) := by decide +kernel
theorem dX8_see_25 : decode cX8_see 25 = .ok (.iload_n 2, 1) := by decide +kernel
theorem dX8_see_26 : decode cX8_see 26 = .ok (.iconst 0, 1) := by decide +kernel
theorem dX8_see_27 : decode cX8_see 27 = .ok (.sipush 999, 3) := by decide +kernel
theorem dX8_see_30 : decode cX8_see 30 = .ok (.invokestatic 85, 3) := by decide +kernel
theorem dX8_see_33 : decode cX8_see 33 = .ok (.ifCond .ne 6, 3) := by decide +kernel
theorem dX8_see_36 : decode cX8_see 36 = .ok (.bipush (-2), 2) := by decide +kernel
theorem dX8_see_38 : decode cX8_see 38 = .ok (.ireturn, 1) := by decide +kernel
theorem dX8_see_39 : decode cX8_see 39 = .ok (.aload_n 0, 1) := by decide +kernel
theorem dX8_see_40 : decode cX8_see 40 = .ok (.getfield 15, 3) := by decide +kernel
theorem dX8_see_43 : decode cX8_see 43 = .ok (.bipush 64, 2) := by decide +kernel
theorem dX8_see_45 : decode cX8_see 45 = .ok (.iaload, 1) := by decide +kernel
theorem dX8_see_46 : decode cX8_see 46 = .ok (.iconst 5, 1) := by decide +kernel
theorem dX8_see_47 : decode cX8_see 47 = .ok (.if_icmp .ne 6, 3) := by decide +kernel
theorem dX8_see_50 : decode cX8_see 50 = .ok (.bipush (-4), 2) := by decide +kernel
theorem dX8_see_52 : decode cX8_see 52 = .ok (.ireturn, 1) := by decide +kernel
theorem dX8_see_53 : decode cX8_see 53 = .ok (.bipush 65, 2) := by decide +kernel
theorem dX8_see_55 : decode cX8_see 55 = .ok (.iconst 2, 1) := by decide +kernel
theorem dX8_see_56 : decode cX8_see 56 = .ok (.aload_n 0, 1) := by decide +kernel
theorem dX8_see_57 : decode cX8_see 57 = .ok (.getfield 15, 3) := by decide +kernel
theorem dX8_see_60 : decode cX8_see 60 = .ok (.bipush 64, 2) := by decide +kernel
theorem dX8_see_62 : decode cX8_see 62 = .ok (.iaload, 1) := by decide +kernel
theorem dX8_see_63 : decode cX8_see 63 = .ok (.imul, 1) := by decide +kernel
theorem dX8_see_64 : decode cX8_see 64 = .ok (.iadd, 1) := by decide +kernel
theorem dX8_see_65 : decode cX8_see 65 = .ok (.istore_n 3, 1) := by decide +kernel
theorem dX8_see_66 : decode cX8_see 66 = .ok (.aload_n 0, 1) := by decide +kernel
theorem dX8_see_67 : decode cX8_see 67 = .ok (.getfield 15, 3) := by decide +kernel
theorem dX8_see_70 : decode cX8_see 70 = .ok (.iload_n 3, 1) := by decide +kernel
theorem dX8_see_71 : decode cX8_see 71 = .ok (.iload_n 1, 1) := by decide +kernel
theorem dX8_see_72 : decode cX8_see 72 = .ok (.iastore, 1) := by decide +kernel
theorem dX8_see_73 : decode cX8_see 73 = .ok (.aload_n 0, 1) := by decide +kernel
theorem dX8_see_74 : decode cX8_see 74 = .ok (.getfield 15, 3) := by decide +kernel
theorem dX8_see_77 : decode cX8_see 77 = .ok (.iload_n 3, 1) := by decide +kernel
theorem dX8_see_78 : decode cX8_see 78 = .ok (.iconst 1, 1) := by decide +kernel
theorem dX8_see_79 : decode cX8_see 79 = .ok (.iadd, 1) := by decide +kernel
theorem dX8_see_80 : decode cX8_see 80 = .ok (.iload_n 2, 1) := by decide +kernel
theorem dX8_see_81 : decode cX8_see 81 = .ok (.iastore, 1) := by decide +kernel
theorem dX8_see_82 : decode cX8_see 82 = .ok (.aload_n 0, 1) := by decide +kernel
theorem dX8_see_83 : decode cX8_see 83 = .ok (.getfield 15, 3) := by decide +kernel
theorem dX8_see_86 : decode cX8_see 86 = .ok (.bipush 64, 2) := by decide +kernel
theorem dX8_see_88 : decode cX8_see 88 = .ok (.dup2, 1) := by decide +kernel
theorem dX8_see_89 : decode cX8_see 89 = .ok (.iaload, 1) := by decide +kernel
theorem dX8_see_90 : decode cX8_see 90 = .ok (.iconst 1, 1) := by decide +kernel
theorem dX8_see_91 : decode cX8_see 91 = .ok (.iadd, 1) := by decide +kernel
theorem dX8_see_92 : decode cX8_see 92 = .ok (.iastore, 1) := by decide +kernel
theorem dX8_see_93 : decode cX8_see 93 = .ok (.aload_n 0, 1) := by decide +kernel
theorem dX8_see_94 : decode cX8_see 94 = .ok (.getfield 15, 3) := by decide +kernel
theorem dX8_see_97 : decode cX8_see 97 = .ok (.bipush 64, 2) := by decide +kernel
theorem dX8_see_99 : decode cX8_see 99 = .ok (.iaload, 1) := by decide +kernel
theorem dX8_see_100 : decode cX8_see 100 = .ok (.ireturn, 1) := by decide +kernel
theorem dX8_isAllSeen_0 : decode cX8_isAllSeen 0 = .ok (.aload_n 0, 1) := by decide +kernel
theorem dX8_isAllSeen_1 : decode cX8_isAllSeen 1 = .ok (.invokevirtual 104, 3) := by decide +kernel
theorem dX8_isAllSeen_4 : decode cX8_isAllSeen 4 = .ok (.iconst 1, 1) := by decide +kernel
theorem dX8_isAllSeen_5 : decode cX8_isAllSeen 5 = .ok (.istore_n 1, 1) := by decide +kernel
theorem dX8_isAllSeen_6 : decode cX8_isAllSeen 6 = .ok (.iconst 0, 1) := by decide +kernel
theorem dX8_isAllSeen_7 : decode cX8_isAllSeen 7 = .ok (.istore_n 2, 1) := by decide +kernel
theorem dX8_isAllSeen_8 : decode cX8_isAllSeen 8 = .ok (.iload_n 2, 1) := by decide +kernel
theorem dX8_isAllSeen_9 : decode cX8_isAllSeen 9 = .ok (.aload_n 0, 1) := by decide +kernel
theorem dX8_isAllSeen_10 : decode cX8_isAllSeen 10 = .ok (.getfield 15, 3) := by decide +kernel
theorem dX8_isAllSeen_13 : decode cX8_isAllSeen 13 = .ok (.bipush 64, 2) := by decide +kernel
theorem dX8_isAllSeen_15 : decode cX8_isAllSeen 15 = .ok (.iaload, 1) := by decide +kernel
theorem dX8_isAllSeen_16 : decode cX8_isAllSeen 16 = .ok (.if_icmp .ge 48, 3) := by decide +kernel
theorem dX8_isAllSeen_19 : decode cX8_isAllSeen 19 = .ok (.bipush 65, 2) := by decide +kernel
theorem dX8_isAllSeen_21 : decode cX8_isAllSeen 21 = .ok (.iconst 2, 1) := by decide +kernel
theorem dX8_isAllSeen_22 : decode cX8_isAllSeen 22 = .ok (.iload_n 2, 1) := by decide +kernel
theorem dX8_isAllSeen_23 : decode cX8_isAllSeen 23 = .ok (.imul, 1) := by decide +kernel
theorem dX8_isAllSeen_24 : decode cX8_isAllSeen 24 = .ok (.iadd, 1) := by decide +kernel
theorem dX8_isAllSeen_25 : decode cX8_isAllSeen 25 = .ok (.istore_n 3, 1) := by decide +kernel
theorem dX8_isAllSeen_26 : decode cX8_isAllSeen 26 = .ok (.iload_n 1, 1) := by decide +kernel
theorem dX8_isAllSeen_27 : decode cX8_isAllSeen 27 = .ok (.ifCond .eq 29, 3) := by decide +kernel
theorem dX8_isAllSeen_30 : decode cX8_isAllSeen 30 = .ok (.aload_n 0, 1) := by decide +kernel
theorem dX8_isAllSeen_31 : decode cX8_isAllSeen 31 = .ok (.getfield 53, 3) := by decide +kernel
theorem dX8_isAllSeen_34 : decode cX8_isAllSeen 34 = .ok (.aload_n 0, 1) := by decide +kernel
theorem dX8_isAllSeen_35 : decode cX8_isAllSeen 35 = .ok (.getfield 15, 3) := by decide +kernel
theorem dX8_isAllSeen_38 : decode cX8_isAllSeen 38 = .ok (.iload_n 3, 1) := by decide +kernel
theorem dX8_isAllSeen_39 : decode cX8_isAllSeen 39 = .ok (.iaload, 1) := by decide +kernel
theorem dX8_isAllSeen_40 : decode cX8_isAllSeen 40 = .ok (.iaload, 1) := by decide +kernel
theorem dX8_isAllSeen_41 : decode cX8_isAllSeen 41 = .ok (.aload_n 0, 1) := by decide +kernel
theorem dX8_isAllSeen_42 : decode cX8_isAllSeen 42 = .ok (.getfield 15, 3) := by decide +kernel
theorem dX8_isAllSeen_45 : decode cX8_isAllSeen 45 = .ok (.iload_n 3, 1) := by decide +kernel
theorem dX8_isAllSeen_46 : decode cX8_isAllSeen 46 = .ok (.iconst 1, 1) := by decide +kernel
theorem dX8_isAllSeen_47 : decode cX8_isAllSeen 47 = .ok (.iadd, 1) := by decide +kernel
theorem dX8_isAllSeen_48 : decode cX8_isAllSeen 48 = .ok (.iaload, 1) := by decide +kernel
theorem dX8_isAllSeen_49 : decode cX8_isAllSeen 49 = .ok (.if_icmp .ne 7, 3) := by decide +kernel
theorem dX8_isAllSeen_52 : decode cX8_isAllSeen 52 = .ok (.iconst 1, 1) := by decide +kernel
theorem dX8_isAllSeen_53 : decode cX8_isAllSeen 53 = .ok (.goto 4, 3) := by decide +kernel
theorem dX8_isAllSeen_56 : decode cX8_isAllSeen 56 = .ok (.iconst 0, 1) := by decide +kernel
theorem dX8_isAllSeen_57 : decode cX8_isAllSeen 57 = .ok (.istore_n 1, 1) := by decide +kernel
theorem dX8_isAllSeen_58 : decode cX8_isAllSeen 58 = .ok (.iinc 2 1, 3) := by decide +kernel
theorem dX8_isAllSeen_61 : decode cX8_isAllSeen 61 = .ok (.goto (-53), 3) := by decide +kernel
theorem dX8_isAllSeen_64 : decode cX8_isAllSeen 64 = .ok (.iload_n 1, 1) := by decide +kernel
theorem dX8_isAllSeen_65 : decode cX8_isAllSeen 65 = .ok (.ireturn, 1) := by decide +kernel
theorem dX8_owed_0 : decode cX8_owed 0 = .ok (.aload_n 0, 1) := by decide +kernel
theorem dX8_owed_1 : decode cX8_owed 1 = .ok (.getfield 15, 3) := by decide +kernel
theorem dX8_owed_4 : decode cX8_owed 4 = .ok (.bipush 61, 2) := by decide +kernel
theorem dX8_owed_6 : decode cX8_owed 6 = .ok (.iaload, 1) := by decide +kernel
theorem dX8_owed_7 : decode cX8_owed 7 = .ok (.istore_n 2, 1) := by decide +kernel
theorem dX8_owed_8 : decode cX8_owed 8 = .ok (.iconst 0, 1) := by decide +kernel
theorem dX8_owed_9 : decode cX8_owed 9 = .ok (.istore_n 3, 1) := by decide +kernel
theorem dX8_owed_10 : decode cX8_owed 10 = .ok (.bipush (-5), 2) := by decide +kernel
theorem dX8_owed_12 : decode cX8_owed 12 = .ok (.istore 4, 2) := by decide +kernel
theorem dX8_owed_14 : decode cX8_owed 14 = .ok (.sipush 999, 3) := by decide +kernel
theorem dX8_owed_17 : decode cX8_owed 17 = .ok (.istore 5, 2) := by decide +kernel
theorem dX8_owed_19 : decode cX8_owed 19 = .ok (.iload 5, 2) := by decide +kernel
theorem dX8_owed_21 : decode cX8_owed 21 = .ok (.ifCond .lt 51, 3) := by decide +kernel
theorem dX8_owed_24 : decode cX8_owed 24 = .ok (.aload_n 0, 1) := by decide +kernel
theorem dX8_owed_25 : decode cX8_owed 25 = .ok (.getfield 15, 3) := by decide +kernel
theorem dX8_owed_28 : decode cX8_owed 28 = .ok (.bipush 61, 2) := by decide +kernel
theorem dX8_owed_30 : decode cX8_owed 30 = .ok (.iload 5, 2) := by decide +kernel
theorem dX8_owed_32 : decode cX8_owed 32 = .ok (.iastore, 1) := by decide +kernel
theorem dX8_owed_33 : decode cX8_owed 33 = .ok (.aload_n 0, 1) := by decide +kernel
theorem dX8_owed_34 : decode cX8_owed 34 = .ok (.invokevirtual 219, 3) := by decide +kernel
theorem dX8_owed_37 : decode cX8_owed 37 = .ok (.istore 6, 2) := by decide +kernel
theorem dX8_owed_39 : decode cX8_owed 39 = .ok (.iload_n 3, 1) := by decide +kernel
theorem dX8_owed_40 : decode cX8_owed 40 = .ok (.iload 6, 2) := by decide +kernel
theorem dX8_owed_42 : decode cX8_owed 42 = .ok (.ifCond .eq 7, 3) := by decide +kernel
theorem dX8_owed_45 : decode cX8_owed 45 = .ok (.iconst 1, 1) := by decide +kernel
theorem dX8_owed_46 : decode cX8_owed 46 = .ok (.goto 4, 3) := by decide +kernel
theorem dX8_owed_49 : decode cX8_owed 49 = .ok (.iconst 0, 1) := by decide +kernel
theorem dX8_owed_50 : decode cX8_owed 50 = .ok (.iadd, 1) := by decide +kernel
theorem dX8_owed_51 : decode cX8_owed 51 = .ok (.istore_n 3, 1) := by decide +kernel
theorem dX8_owed_52 : decode cX8_owed 52 = .ok (.iload 6, 2) := by decide +kernel
theorem dX8_owed_54 : decode cX8_owed 54 = .ok (.ifCond .eq 8, 3) := by decide +kernel
theorem dX8_owed_57 : decode cX8_owed 57 = .ok (.iload 5, 2) := by decide +kernel
theorem dX8_owed_59 : decode cX8_owed 59 = .ok (.goto 5, 3) := by decide +kernel
theorem dX8_owed_62 : decode cX8_owed 62 = .ok (.iload 4, 2) := by decide +kernel
theorem dX8_owed_64 : decode cX8_owed 64 = .ok (.istore 4, 2) := by decide +kernel
theorem dX8_owed_66 : decode cX8_owed 66 = .ok (.iinc 5 (-1), 3) := by decide +kernel
theorem dX8_owed_69 : decode cX8_owed 69 = .ok (.goto (-50), 3) := by decide +kernel
theorem dX8_owed_72 : decode cX8_owed 72 = .ok (.aload_n 0, 1) := by decide +kernel
theorem dX8_owed_73 : decode cX8_owed 73 = .ok (.getfield 15, 3) := by decide +kernel
theorem dX8_owed_76 : decode cX8_owed 76 = .ok (.bipush 61, 2) := by decide +kernel
theorem dX8_owed_78 : decode cX8_owed 78 = .ok (.iload_n 2, 1) := by decide +kernel
theorem dX8_owed_79 : decode cX8_owed 79 = .ok (.iastore, 1) := by decide +kernel
theorem dX8_owed_80 : decode cX8_owed 80 = .ok (.iload_n 1, 1) := by decide +kernel
theorem dX8_owed_81 : decode cX8_owed 81 = .ok (.ifCond .eq 7, 3) := by decide +kernel
theorem dX8_owed_84 : decode cX8_owed 84 = .ok (.iload_n 3, 1) := by decide +kernel
theorem dX8_owed_85 : decode cX8_owed 85 = .ok (.goto 5, 3) := by decide +kernel
theorem dX8_owed_88 : decode cX8_owed 88 = .ok (.iload 4, 2) := by decide +kernel
theorem dX8_owed_90 : decode cX8_owed 90 = .ok (.ireturn, 1) := by decide +kernel
theorem dX8_can_0 : decode cX8_can 0 = .ok (.aload_n 0, 1) := by decide +kernel
theorem dX8_can_1 : decode cX8_can 1 = .ok (.iload_n 1, 1) := by decide +kernel
theorem dX8_can_2 : decode cX8_can 2 = .ok (.invokevirtual 101, 3) := by decide +kernel
theorem dX8_can_5 : decode cX8_can 5 = .ok (.ifCond .eq 12, 3) := by decide +kernel
theorem dX8_can_8 : decode cX8_can 8 = .ok (.iload_n 2, 1) := by decide +kernel
theorem dX8_can_9 : decode cX8_can 9 = .ok (.iconst 0, 1) := by decide +kernel
theorem dX8_can_10 : decode cX8_can 10 = .ok (.iconst 1, 1) := by decide +kernel
theorem dX8_can_11 : decode cX8_can 11 = .ok (.invokestatic 85, 3) := by decide +kernel
theorem dX8_can_14 : decode cX8_can 14 = .ok (.ifCond .ne 5, 3) := by decide +kernel
theorem dX8_can_17 : decode cX8_can 17 = .ok (.iconst (-1), 1) := by decide +kernel
theorem dX8_can_18 : decode cX8_can 18 = .ok (.ireturn, 1) := by decide +kernel
theorem dX8_can_19 : decode cX8_can 19 = .ok (.aload_n 0, 1) := by decide +kernel
theorem dX8_can_20 : decode cX8_can 20 = .ok (.iload_n 1, 1) := by decide +kernel
theorem dX8_can_21 : decode cX8_can 21 = .ok (.iconst 1, 1) := by decide +kernel
theorem dX8_can_22 : decode cX8_can 22 = .ok (.invokevirtual 89, 3) := by decide +kernel
theorem dX8_can_25 : decode cX8_can 25 = .ok (.istore_n 3, 1) := by decide +kernel
theorem dX8_can_26 : decode cX8_can 26 = .ok (.iconst 0, 1) := by decide +kernel
theorem dX8_can_27 : decode cX8_can 27 = .ok (.istore 4, 2) := by decide +kernel
theorem dX8_can_29 : decode cX8_can 29 = .ok (.bipush (-5), 2) := by decide +kernel
theorem dX8_can_31 : decode cX8_can 31 = .ok (.istore 5, 2) := by decide +kernel
theorem dX8_can_33 : decode cX8_can 33 = .ok (.bipush 9, 2) := by decide +kernel
theorem dX8_can_35 : decode cX8_can 35 = .ok (.istore 6, 2) := by decide +kernel
theorem dX8_can_37 : decode cX8_can 37 = .ok (.iload 6, 2) := by decide +kernel
theorem dX8_can_39 : decode cX8_can 39 = .ok (.ifCond .lt 53, 3) := by decide +kernel
theorem dX8_can_42 : decode cX8_can 42 = .ok (.aload_n 0, 1) := by decide +kernel
theorem dX8_can_43 : decode cX8_can 43 = .ok (.iload_n 1, 1) := by decide +kernel
theorem dX8_can_44 : decode cX8_can 44 = .ok (.iconst 1, 1) := by decide +kernel
theorem dX8_can_45 : decode cX8_can 45 = .ok (.iload 6, 2) := by decide +kernel
theorem dX8_can_47 : decode cX8_can 47 = .ok (.invokevirtual 97, 3) := by decide +kernel
theorem dX8_can_50 : decode cX8_can 50 = .ok (.pop, 1) := by decide +kernel
theorem dX8_can_51 : decode cX8_can 51 = .ok (.aload_n 0, 1) := by decide +kernel
theorem dX8_can_52 : decode cX8_can 52 = .ok (.invokevirtual 219, 3) := by decide +kernel
theorem dX8_can_55 : decode cX8_can 55 = .ok (.istore 7, 2) := by decide +kernel
theorem dX8_can_57 : decode cX8_can 57 = .ok (.iload 4, 2) := by decide +kernel
theorem dX8_can_59 : decode cX8_can 59 = .ok (.iload 7, 2) := by decide +kernel
theorem dX8_can_61 : decode cX8_can 61 = .ok (.ifCond .eq 7, 3) := by decide +kernel
theorem dX8_can_64 : decode cX8_can 64 = .ok (.iconst 1, 1) := by decide +kernel
theorem dX8_can_65 : decode cX8_can 65 = .ok (.goto 4, 3) := by decide +kernel
theorem dX8_can_68 : decode cX8_can 68 = .ok (.iconst 0, 1) := by decide +kernel
theorem dX8_can_69 : decode cX8_can 69 = .ok (.iadd, 1) := by decide +kernel
theorem dX8_can_70 : decode cX8_can 70 = .ok (.istore 4, 2) := by decide +kernel
theorem dX8_can_72 : decode cX8_can 72 = .ok (.iload 7, 2) := by decide +kernel
theorem dX8_can_74 : decode cX8_can 74 = .ok (.ifCond .eq 8, 3) := by decide +kernel
theorem dX8_can_77 : decode cX8_can 77 = .ok (.iload 6, 2) := by decide +kernel
theorem dX8_can_79 : decode cX8_can 79 = .ok (.goto 5, 3) := by decide +kernel
theorem dX8_can_82 : decode cX8_can 82 = .ok (.iload 5, 2) := by decide +kernel
theorem dX8_can_84 : decode cX8_can 84 = .ok (.istore 5, 2) := by decide +kernel
theorem dX8_can_86 : decode cX8_can 86 = .ok (.iinc 6 (-1), 3) := by decide +kernel
theorem dX8_can_89 : decode cX8_can 89 = .ok (.goto (-52), 3) := by decide +kernel
theorem dX8_can_92 : decode cX8_can 92 = .ok (.aload_n 0, 1) := by decide +kernel
theorem dX8_can_93 : decode cX8_can 93 = .ok (.iload_n 1, 1) := by decide +kernel
theorem dX8_can_94 : decode cX8_can 94 = .ok (.iconst 1, 1) := by decide +kernel
theorem dX8_can_95 : decode cX8_can 95 = .ok (.iload_n 3, 1) := by decide +kernel
theorem dX8_can_96 : decode cX8_can 96 = .ok (.invokevirtual 97, 3) := by decide +kernel
theorem dX8_can_99 : decode cX8_can 99 = .ok (.pop, 1) := by decide +kernel
theorem dX8_can_100 : decode cX8_can 100 = .ok (.iload_n 2, 1) := by decide +kernel
theorem dX8_can_101 : decode cX8_can 101 = .ok (.ifCond .ne 8, 3) := by decide +kernel
theorem dX8_can_104 : decode cX8_can 104 = .ok (.iload 4, 2) := by decide +kernel
theorem dX8_can_106 : decode cX8_can 106 = .ok (.goto 5, 3) := by decide +kernel
theorem dX8_can_109 : decode cX8_can 109 = .ok (.iload 5, 2) := by decide +kernel
theorem dX8_can_111 : decode cX8_can 111 = .ok (.ireturn, 1) := by decide +kernel
theorem dX8_fraction_0 : decode cX8_fraction 0 = .ok (.lload_n 0, 1) := by decide +kernel
theorem dX8_fraction_1 : decode cX8_fraction 1 = .ok (.lstore 5, 2) := by decide +kernel
theorem dX8_fraction_3 : decode cX8_fraction 3 = .ok (.lload_n 2, 1) := by decide +kernel
theorem dX8_fraction_4 : decode cX8_fraction 4 = .ok (.lstore 7, 2) := by decide +kernel
theorem dX8_fraction_6 : decode cX8_fraction 6 = .ok (.lload 7, 2) := by decide +kernel
theorem dX8_fraction_8 : decode cX8_fraction 8 = .ok (.lconst 0, 1) := by decide +kernel
theorem dX8_fraction_9 : decode cX8_fraction 9 = .ok (.lcmp, 1) := by decide +kernel
theorem dX8_fraction_10 : decode cX8_fraction 10 = .ok (.ifCond .eq 21, 3) := by decide +kernel
theorem dX8_fraction_13 : decode cX8_fraction 13 = .ok (.lload 5, 2) := by decide +kernel
theorem dX8_fraction_15 : decode cX8_fraction 15 = .ok (.lload 7, 2) := by decide +kernel
theorem dX8_fraction_17 : decode cX8_fraction 17 = .ok (.lrem, 1) := by decide +kernel
theorem dX8_fraction_18 : decode cX8_fraction 18 = .ok (.lstore 9, 2) := by decide +kernel
theorem dX8_fraction_20 : decode cX8_fraction 20 = .ok (.lload 7, 2) := by decide +kernel
theorem dX8_fraction_22 : decode cX8_fraction 22 = .ok (.lstore 5, 2) := by decide +kernel
theorem dX8_fraction_24 : decode cX8_fraction 24 = .ok (.lload 9, 2) := by decide +kernel
theorem dX8_fraction_26 : decode cX8_fraction 26 = .ok (.lstore 7, 2) := by decide +kernel
theorem dX8_fraction_28 : decode cX8_fraction 28 = .ok (.goto (-22), 3) := by decide +kernel
theorem dX8_fraction_31 : decode cX8_fraction 31 = .ok (.iload 4, 2) := by decide +kernel
theorem dX8_fraction_33 : decode cX8_fraction 33 = .ok (.ifCond .ne 10, 3) := by decide +kernel
theorem dX8_fraction_36 : decode cX8_fraction 36 = .ok (.lload_n 0, 1) := by decide +kernel
theorem dX8_fraction_37 : decode cX8_fraction 37 = .ok (.lload 5, 2) := by decide +kernel
theorem dX8_fraction_39 : decode cX8_fraction 39 = .ok (.ldiv, 1) := by decide +kernel
theorem dX8_fraction_40 : decode cX8_fraction 40 = .ok (.goto 7, 3) := by decide +kernel
theorem dX8_fraction_43 : decode cX8_fraction 43 = .ok (.lload_n 2, 1) := by decide +kernel
theorem dX8_fraction_44 : decode cX8_fraction 44 = .ok (.lload 5, 2) := by decide +kernel
theorem dX8_fraction_46 : decode cX8_fraction 46 = .ok (.ldiv, 1) := by decide +kernel
theorem dX8_fraction_47 : decode cX8_fraction 47 = .ok (.lreturn, 1) := by decide +kernel
theorem dX8_odds_0 : decode cX8_odds 0 = .ok (.aload_n 0, 1) := by decide +kernel
theorem dX8_odds_1 : decode cX8_odds 1 = .ok (.iload_n 1, 1) := by decide +kernel
theorem dX8_odds_2 : decode cX8_odds 2 = .ok (.invokevirtual 101, 3) := by decide +kernel
theorem dX8_odds_5 : decode cX8_odds 5 = .ok (.ifCond .eq 20, 3) := by decide +kernel
theorem dX8_odds_8 : decode cX8_odds 8 = .ok (.iload_n 2, 1) := by decide +kernel
theorem dX8_odds_9 : decode cX8_odds 9 = .ok (.iconst 0, 1) := by decide +kernel
theorem dX8_odds_10 : decode cX8_odds 10 = .ok (.iconst 1, 1) := by decide +kernel
theorem dX8_odds_11 : decode cX8_odds 11 = .ok (.invokestatic 85, 3) := by decide +kernel
theorem dX8_odds_14 : decode cX8_odds 14 = .ok (.ifCond .eq 11, 3) := by decide +kernel
theorem dX8_odds_17 : decode cX8_odds 17 = .ok (.aload_n 0, 1) := by decide +kernel
theorem dX8_odds_18 : decode cX8_odds 18 = .ok (.iload_n 1, 1) := by decide +kernel
theorem dX8_odds_19 : decode cX8_odds 19 = .ok (.invokevirtual 179, 3) := by decide +kernel
theorem dX8_odds_22 : decode cX8_odds 22 = .ok (.ifCond .ne 7, 3) := by decide +kernel
theorem dX8_odds_25 : decode cX8_odds 25 = .ok (.ldc2_w 222, 3) := by decide +kernel
theorem dX8_odds_28 : decode cX8_odds 28 = .ok (.lreturn, 1) := by decide +kernel
theorem dX8_odds_29 : decode cX8_odds 29 = .ok (.aload_n 0, 1) := by decide +kernel
theorem dX8_odds_30 : decode cX8_odds 30 = .ok (.invokevirtual 104, 3) := by decide +kernel
theorem dX8_odds_33 : decode cX8_odds 33 = .ok (.aload_n 0, 1) := by decide +kernel
theorem dX8_odds_34 : decode cX8_odds 34 = .ok (.getfield 53, 3) := by decide +kernel
theorem dX8_odds_37 : decode cX8_odds 37 = .ok (.iload_n 1, 1) := by decide +kernel
theorem dX8_odds_38 : decode cX8_odds 38 = .ok (.iaload, 1) := by decide +kernel
theorem dX8_odds_39 : decode cX8_odds 39 = .ok (.istore_n 3, 1) := by decide +kernel
theorem dX8_odds_40 : decode cX8_odds 40 = .ok (.iconst 0, 1) := by decide +kernel
theorem dX8_odds_41 : decode cX8_odds 41 = .ok (.istore 4, 2) := by decide +kernel
theorem dX8_odds_43 : decode cX8_odds 43 = .ok (.iconst 0, 1) := by decide +kernel
theorem dX8_odds_44 : decode cX8_odds 44 = .ok (.istore 5, 2) := by decide +kernel
theorem dX8_odds_46 : decode cX8_odds 46 = .ok (.iconst 0, 1) := by decide +kernel
theorem dX8_odds_47 : decode cX8_odds 47 = .ok (.istore 6, 2) := by decide +kernel
theorem dX8_odds_49 : decode cX8_odds 49 = .ok (.iload 6, 2) := by decide +kernel
theorem dX8_odds_51 : decode cX8_odds 51 = .ok (.aload_n 0, 1) := by decide +kernel
theorem dX8_odds_52 : decode cX8_odds 52 = .ok (.getfield 15, 3) := by decide +kernel
theorem dX8_odds_55 : decode cX8_odds 55 = .ok (.bipush 60, 2) := by decide +kernel
theorem dX8_odds_57 : decode cX8_odds 57 = .ok (.iaload, 1) := by decide +kernel
theorem dX8_odds_58 : decode cX8_odds 58 = .ok (.if_icmp .ge 69, 3) := by decide +kernel
theorem dX8_odds_61 : decode cX8_odds 61 = .ok (.iload 6, 2) := by decide +kernel
theorem dX8_odds_63 : decode cX8_odds 63 = .ok (.iload_n 1, 1) := by decide +kernel
theorem dX8_odds_64 : decode cX8_odds 64 = .ok (.if_icmp .eq 57, 3) := by decide +kernel
theorem dX8_odds_67 : decode cX8_odds 67 = .ok (.aload_n 0, 1) := by decide +kernel
theorem dX8_odds_68 : decode cX8_odds 68 = .ok (.iload 6, 2) := by decide +kernel
theorem dX8_odds_70 : decode cX8_odds 70 = .ok (.invokevirtual 179, 3) := by decide +kernel
theorem dX8_odds_73 : decode cX8_odds 73 = .ok (.ifCond .eq 48, 3) := by decide +kernel
theorem dX8_odds_76 : decode cX8_odds 76 = .ok (.iinc 4 1, 3) := by decide +kernel
theorem dX8_odds_79 : decode cX8_odds 79 = .ok (.aload_n 0, 1) := by decide +kernel
theorem dX8_odds_80 : decode cX8_odds 80 = .ok (.iload 6, 2) := by decide +kernel
theorem dX8_odds_82 : decode cX8_odds 82 = .ok (.iconst 4, 1) := by decide +kernel
theorem dX8_odds_83 : decode cX8_odds 83 = .ok (.iconst 1, 1) := by decide +kernel
theorem dX8_odds_84 : decode cX8_odds 84 = .ok (.invokevirtual 97, 3) := by decide +kernel
theorem dX8_odds_87 : decode cX8_odds 87 = .ok (.pop, 1) := by decide +kernel
theorem dX8_odds_88 : decode cX8_odds 88 = .ok (.aload_n 0, 1) := by decide +kernel
theorem dX8_odds_89 : decode cX8_odds 89 = .ok (.invokevirtual 104, 3) := by decide +kernel
theorem dX8_odds_92 : decode cX8_odds 92 = .ok (.iload 5, 2) := by decide +kernel
theorem dX8_odds_94 : decode cX8_odds 94 = .ok (.aload_n 0, 1) := by decide +kernel
theorem dX8_odds_95 : decode cX8_odds 95 = .ok (.getfield 53, 3) := by decide +kernel
theorem dX8_odds_98 : decode cX8_odds 98 = .ok (.iload_n 1, 1) := by decide +kernel
theorem dX8_odds_99 : decode cX8_odds 99 = .ok (.iaload, 1) := by decide +kernel
theorem dX8_odds_100 : decode cX8_odds 100 = .ok (.iload_n 3, 1) := by decide +kernel
theorem dX8_odds_101 : decode cX8_odds 101 = .ok (.if_icmp .le 7, 3) := by decide +kernel
theorem dX8_odds_104 : decode cX8_odds 104 = .ok (.iconst 1, 1) := by decide +kernel
theorem dX8_odds_105 : decode cX8_odds 105 = .ok (.goto 4, 3) := by decide +kernel
theorem dX8_odds_108 : decode cX8_odds 108 = .ok (.iconst 0, 1) := by decide +kernel
theorem dX8_odds_109 : decode cX8_odds 109 = .ok (.iadd, 1) := by decide +kernel
theorem dX8_odds_110 : decode cX8_odds 110 = .ok (.istore 5, 2) := by decide +kernel
theorem dX8_odds_112 : decode cX8_odds 112 = .ok (.aload_n 0, 1) := by decide +kernel
theorem dX8_odds_113 : decode cX8_odds 113 = .ok (.iload 6, 2) := by decide +kernel
theorem dX8_odds_115 : decode cX8_odds 115 = .ok (.iconst 4, 1) := by decide +kernel
theorem dX8_odds_116 : decode cX8_odds 116 = .ok (.iconst 0, 1) := by decide +kernel
theorem dX8_odds_117 : decode cX8_odds 117 = .ok (.invokevirtual 97, 3) := by decide +kernel
theorem dX8_odds_120 : decode cX8_odds 120 = .ok (.pop, 1) := by decide +kernel
theorem dX8_odds_121 : decode cX8_odds 121 = .ok (.iinc 6 1, 3) := by decide +kernel
theorem dX8_odds_124 : decode cX8_odds 124 = .ok (.goto (-75), 3) := by decide +kernel
theorem dX8_odds_127 : decode cX8_odds 127 = .ok (.iload 4, 2) := by decide +kernel
theorem dX8_odds_129 : decode cX8_odds 129 = .ok (.ifCond .ne 9, 3) := by decide +kernel
theorem dX8_odds_132 : decode cX8_odds 132 = .ok (.ldc2_w 222, 3) := by decide +kernel
theorem dX8_odds_135 : decode cX8_odds 135 = .ok (.goto 13, 3) := by decide +kernel
theorem dX8_odds_138 : decode cX8_odds 138 = .ok (.iload 5, 2) := by decide +kernel
theorem dX8_odds_140 : decode cX8_odds 140 = .ok (.i2l, 1) := by decide +kernel
theorem dX8_odds_141 : decode cX8_odds 141 = .ok (.iload 4, 2) := by decide +kernel
theorem dX8_odds_143 : decode cX8_odds 143 = .ok (.i2l, 1) := by decide +kernel
theorem dX8_odds_144 : decode cX8_odds 144 = .ok (.iload_n 2, 1) := by decide +kernel
theorem dX8_odds_145 : decode cX8_odds 145 = .ok (.invokestatic 224, 3) := by decide +kernel
theorem dX8_odds_148 : decode cX8_odds 148 = .ok (.lreturn, 1) := by decide +kernel
theorem dX8_mean_0 : decode cX8_mean 0 = .ok (.aload_n 0, 1) := by decide +kernel
theorem dX8_mean_1 : decode cX8_mean 1 = .ok (.getfield 15, 3) := by decide +kernel
theorem dX8_mean_4 : decode cX8_mean 4 = .ok (.bipush 60, 2) := by decide +kernel
theorem dX8_mean_6 : decode cX8_mean 6 = .ok (.iaload, 1) := by decide +kernel
theorem dX8_mean_7 : decode cX8_mean 7 = .ok (.aload_n 0, 1) := by decide +kernel
theorem dX8_mean_8 : decode cX8_mean 8 = .ok (.invokevirtual 204, 3) := by decide +kernel
theorem dX8_mean_11 : decode cX8_mean 11 = .ok (.invokestatic 216, 3) := by decide +kernel
theorem dX8_mean_14 : decode cX8_mean 14 = .ok (.isub, 1) := by decide +kernel
theorem dX8_mean_15 : decode cX8_mean 15 = .ok (.istore_n 2, 1) := by decide +kernel
theorem dX8_mean_16 : decode cX8_mean 16 = .ok (.iload_n 1, 1) := by decide +kernel
theorem dX8_mean_17 : decode cX8_mean 17 = .ok (.iconst 0, 1) := by decide +kernel
theorem dX8_mean_18 : decode cX8_mean 18 = .ok (.iconst 1, 1) := by decide +kernel
theorem dX8_mean_19 : decode cX8_mean 19 = .ok (.invokestatic 85, 3) := by decide +kernel
theorem dX8_mean_22 : decode cX8_mean 22 = .ok (.ifCond .eq 24, 3) := by decide +kernel
theorem dX8_mean_25 : decode cX8_mean 25 = .ok (.iload_n 2, 1) := by decide +kernel
theorem dX8_mean_26 : decode cX8_mean 26 = .ok (.ifCond .le 20, 3) := by decide +kernel
theorem dX8_mean_29 : decode cX8_mean 29 = .ok (.aload_n 0, 1) := by decide +kernel
theorem dX8_mean_30 : decode cX8_mean 30 = .ok (.getfield 15, 3) := by decide +kernel
theorem dX8_mean_33 : decode cX8_mean 33 = .ok (.bipush 61, 2) := by decide +kernel
theorem dX8_mean_35 : decode cX8_mean 35 = .ok (.iaload, 1) := by decide +kernel
theorem dX8_mean_36 : decode cX8_mean 36 = .ok (.i2l, 1) := by decide +kernel
theorem dX8_mean_37 : decode cX8_mean 37 = .ok (.iload_n 2, 1) := by decide +kernel
theorem dX8_mean_38 : decode cX8_mean 38 = .ok (.i2l, 1) := by decide +kernel
theorem dX8_mean_39 : decode cX8_mean 39 = .ok (.iload_n 1, 1) := by decide +kernel
theorem dX8_mean_40 : decode cX8_mean 40 = .ok (.invokestatic 224, 3) := by decide +kernel
theorem dX8_mean_43 : decode cX8_mean 43 = .ok (.goto 6, 3) := by decide +kernel
theorem dX8_mean_46 : decode cX8_mean 46 = .ok (.ldc2_w 222, 3) := by decide +kernel
theorem dX8_mean_49 : decode cX8_mean 49 = .ok (.lreturn, 1) := by decide +kernel
theorem dX8_plan_0 : decode cX8_plan 0 = .ok (.iload_n 1, 1) := by decide +kernel
theorem dX8_plan_1 : decode cX8_plan 1 = .ok (.iconst (-1), 1) := by decide +kernel
theorem dX8_plan_2 : decode cX8_plan 2 = .ok (.if_icmp .ne 13, 3) := by decide +kernel
theorem dX8_plan_5 : decode cX8_plan 5 = .ok (.aload_n 0, 1) := by decide +kernel
theorem dX8_plan_6 : decode cX8_plan 6 = .ok (.getfield 15, 3) := by decide +kernel
theorem dX8_plan_9 : decode cX8_plan 9 = .ok (.bipush 75, 2) := by decide +kernel
theorem dX8_plan_11 : decode cX8_plan 11 = .ok (.iconst 0, 1) := by decide +kernel
theorem dX8_plan_12 : decode cX8_plan 12 = .ok (.iastore, 1) := by decide +kernel
theorem dX8_plan_13 : decode cX8_plan 13 = .ok (.iconst 0, 1) := by decide +kernel
theorem dX8_plan_14 : decode cX8_plan 14 = .ok (.ireturn, 1) := by decide +kernel
theorem dX8_plan_15 : decode cX8_plan 15 = .ok (.iload_n 1, 1) := by decide +kernel
theorem dX8_plan_16 : decode cX8_plan 16 = .ok (.iconst 0, 1) := by decide +kernel
theorem dX8_plan_17 : decode cX8_plan 17 = .ok (.iconst 3, 1) := by decide +kernel
theorem dX8_plan_18 : decode cX8_plan 18 = .ok (.invokestatic 85, 3) := by decide +kernel
theorem dX8_plan_21 : decode cX8_plan 21 = .ok (.ifCond .eq 15, 3) := by decide +kernel
theorem dX8_plan_24 : decode cX8_plan 24 = .ok (.iload_n 1, 1) := by decide +kernel
theorem dX8_plan_25 : decode cX8_plan 25 = .ok (.ifCond .le 13, 3) := by decide +kernel
theorem dX8_plan_28 : decode cX8_plan 28 = .ok (.aload_n 0, 1) := by decide +kernel
theorem dX8_plan_29 : decode cX8_plan 29 = .ok (.iload_n 2, 1) := by decide +kernel
theorem dX8_plan_30 : decode cX8_plan 30 = .ok (.invokevirtual 101, 3) := by decide +kernel
theorem dX8_plan_33 : decode cX8_plan 33 = .ok (.ifCond .ne 5, 3) := by decide +kernel
theorem dX8_plan_36 : decode cX8_plan 36 = .ok (.iconst (-1), 1) := by decide +kernel
theorem dX8_plan_37 : decode cX8_plan 37 = .ok (.ireturn, 1) := by decide +kernel
theorem dX8_plan_38 : decode cX8_plan 38 = .ok (.aload_n 0, 1) := by decide +kernel
theorem dX8_plan_39 : decode cX8_plan 39 = .ok (.getfield 15, 3) := by decide +kernel
theorem dX8_plan_42 : decode cX8_plan 42 = .ok (.bipush 75, 2) := by decide +kernel
theorem dX8_plan_44 : decode cX8_plan 44 = .ok (.iaload, 1) := by decide +kernel
theorem dX8_plan_45 : decode cX8_plan 45 = .ok (.bipush 8, 2) := by decide +kernel
theorem dX8_plan_47 : decode cX8_plan 47 = .ok (.if_icmp .ne 6, 3) := by decide +kernel
theorem dX8_plan_50 : decode cX8_plan 50 = .ok (.bipush (-4), 2) := by decide +kernel
theorem dX8_plan_52 : decode cX8_plan 52 = .ok (.ireturn, 1) := by decide +kernel
theorem dX8_plan_53 : decode cX8_plan 53 = .ok (.aload_n 0, 1) := by decide +kernel
theorem dX8_plan_54 : decode cX8_plan 54 = .ok (.getfield 15, 3) := by decide +kernel
theorem dX8_plan_57 : decode cX8_plan 57 = .ok (.bipush 76, 2) := by decide +kernel
theorem dX8_plan_59 : decode cX8_plan 59 = .ok (.iconst 2, 1) := by decide +kernel
theorem dX8_plan_60 : decode cX8_plan 60 = .ok (.aload_n 0, 1) := by decide +kernel
theorem dX8_plan_61 : decode cX8_plan 61 = .ok (.getfield 15, 3) := by decide +kernel
theorem dX8_plan_64 : decode cX8_plan 64 = .ok (.bipush 75, 2) := by decide +kernel
theorem dX8_plan_66 : decode cX8_plan 66 = .ok (.iaload, 1) := by decide +kernel
theorem dX8_plan_67 : decode cX8_plan 67 = .ok (.imul, 1) := by decide +kernel
theorem dX8_plan_68 : decode cX8_plan 68 = .ok (.iadd, 1) := by decide +kernel
theorem dX8_plan_69 : decode cX8_plan 69 = .ok (.iload_n 1, 1) := by decide +kernel
theorem dX8_plan_70 : decode cX8_plan 70 = .ok (.iastore, 1) := by decide +kernel
theorem dX8_plan_71 : decode cX8_plan 71 = .ok (.aload_n 0, 1) := by decide +kernel
theorem dX8_plan_72 : decode cX8_plan 72 = .ok (.getfield 15, 3) := by decide +kernel
theorem dX8_plan_75 : decode cX8_plan 75 = .ok (.bipush 77, 2) := by decide +kernel
theorem dX8_plan_77 : decode cX8_plan 77 = .ok (.iconst 2, 1) := by decide +kernel
theorem dX8_plan_78 : decode cX8_plan 78 = .ok (.aload_n 0, 1) := by decide +kernel
theorem dX8_plan_79 : decode cX8_plan 79 = .ok (.getfield 15, 3) := by decide +kernel
theorem dX8_plan_82 : decode cX8_plan 82 = .ok (.bipush 75, 2) := by decide +kernel
theorem dX8_plan_84 : decode cX8_plan 84 = .ok (.iaload, 1) := by decide +kernel
theorem dX8_plan_85 : decode cX8_plan 85 = .ok (.imul, 1) := by decide +kernel
theorem dX8_plan_86 : decode cX8_plan 86 = .ok (.iadd, 1) := by decide +kernel
theorem dX8_plan_87 : decode cX8_plan 87 = .ok (.iload_n 2, 1) := by decide +kernel
theorem dX8_plan_88 : decode cX8_plan 88 = .ok (.iastore, 1) := by decide +kernel
theorem dX8_plan_89 : decode cX8_plan 89 = .ok (.aload_n 0, 1) := by decide +kernel
theorem dX8_plan_90 : decode cX8_plan 90 = .ok (.getfield 15, 3) := by decide +kernel
theorem dX8_plan_93 : decode cX8_plan 93 = .ok (.bipush 75, 2) := by decide +kernel
theorem dX8_plan_95 : decode cX8_plan 95 = .ok (.dup2, 1) := by decide +kernel
theorem dX8_plan_96 : decode cX8_plan 96 = .ok (.iaload, 1) := by decide +kernel
theorem dX8_plan_97 : decode cX8_plan 97 = .ok (.iconst 1, 1) := by decide +kernel
theorem dX8_plan_98 : decode cX8_plan 98 = .ok (.iadd, 1) := by decide +kernel
theorem dX8_plan_99 : decode cX8_plan 99 = .ok (.iastore, 1) := by decide +kernel
theorem dX8_plan_100 : decode cX8_plan 100 = .ok (.aload_n 0, 1) := by decide +kernel
theorem dX8_plan_101 : decode cX8_plan 101 = .ok (.getfield 15, 3) := by decide +kernel
theorem dX8_plan_104 : decode cX8_plan 104 = .ok (.bipush 75, 2) := by decide +kernel
theorem dX8_plan_106 : decode cX8_plan 106 = .ok (.iaload, 1) := by decide +kernel
theorem dX8_plan_107 : decode cX8_plan 107 = .ok (.ireturn, 1) := by decide +kernel
theorem dX8_ends_0 : decode cX8_ends 0 = .ok (.iload_n 1, 1) := by decide +kernel
theorem dX8_ends_1 : decode cX8_ends 1 = .ok (.iconst 0, 1) := by decide +kernel
theorem dX8_ends_2 : decode cX8_ends 2 = .ok (.iconst 1, 1) := by decide +kernel
theorem dX8_ends_3 : decode cX8_ends 3 = .ok (.invokestatic 85, 3) := by decide +kernel
theorem dX8_ends_6 : decode cX8_ends 6 = .ok (.ifCond .ne 5, 3) := by decide +kernel
theorem dX8_ends_9 : decode cX8_ends 9 = .ok (.iconst (-1), 1) := by decide +kernel
theorem dX8_ends_10 : decode cX8_ends 10 = .ok (.ireturn, 1) := by decide +kernel
theorem dX8_ends_11 : decode cX8_ends 11 = .ok (.aload_n 0, 1) := by decide +kernel
theorem dX8_ends_12 : decode cX8_ends 12 = .ok (.iconst 0, 1) := by decide +kernel
theorem dX8_ends_13 : decode cX8_ends 13 = .ok (.invokevirtual 194, 3) := by decide +kernel
theorem dX8_ends_16 : decode cX8_ends 16 = .ok (.iconst 0, 1) := by decide +kernel
theorem dX8_ends_17 : decode cX8_ends 17 = .ok (.istore_n 2, 1) := by decide +kernel
theorem dX8_ends_18 : decode cX8_ends 18 = .ok (.iload_n 2, 1) := by decide +kernel
theorem dX8_ends_19 : decode cX8_ends 19 = .ok (.aload_n 0, 1) := by decide +kernel
theorem dX8_ends_20 : decode cX8_ends 20 = .ok (.getfield 15, 3) := by decide +kernel
theorem dX8_ends_23 : decode cX8_ends 23 = .ok (.bipush 75, 2) := by decide +kernel
theorem dX8_ends_25 : decode cX8_ends 25 = .ok (.iaload, 1) := by decide +kernel
theorem dX8_ends_26 : decode cX8_ends 26 = .ok (.if_icmp .ge 75, 3) := by decide +kernel
theorem dX8_ends_29 : decode cX8_ends 29 = .ok (.aload_n 0, 1) := by decide +kernel
theorem dX8_ends_30 : decode cX8_ends 30 = .ok (.getfield 15, 3) := by decide +kernel
theorem dX8_ends_33 : decode cX8_ends 33 = .ok (.bipush 76, 2) := by decide +kernel
theorem dX8_ends_35 : decode cX8_ends 35 = .ok (.iconst 2, 1) := by decide +kernel
theorem dX8_ends_36 : decode cX8_ends 36 = .ok (.iload_n 2, 1) := by decide +kernel
theorem dX8_ends_37 : decode cX8_ends 37 = .ok (.imul, 1) := by decide +kernel
theorem dX8_ends_38 : decode cX8_ends 38 = .ok (.iadd, 1) := by decide +kernel
theorem dX8_ends_39 : decode cX8_ends 39 = .ok (.iaload, 1) := by decide +kernel
theorem dX8_ends_40 : decode cX8_ends 40 = .ok (.istore_n 3, 1) := by decide +kernel
theorem dX8_ends_41 : decode cX8_ends 41 = .ok (.aload_n 0, 1) := by decide +kernel
theorem dX8_ends_42 : decode cX8_ends 42 = .ok (.getfield 15, 3) := by decide +kernel
theorem dX8_ends_45 : decode cX8_ends 45 = .ok (.bipush 77, 2) := by decide +kernel
theorem dX8_ends_47 : decode cX8_ends 47 = .ok (.iconst 2, 1) := by decide +kernel
theorem dX8_ends_48 : decode cX8_ends 48 = .ok (.iload_n 2, 1) := by decide +kernel
theorem dX8_ends_49 : decode cX8_ends 49 = .ok (.imul, 1) := by decide +kernel
theorem dX8_ends_50 : decode cX8_ends 50 = .ok (.iadd, 1) := by decide +kernel
theorem dX8_ends_51 : decode cX8_ends 51 = .ok (.iaload, 1) := by decide +kernel
theorem dX8_ends_52 : decode cX8_ends 52 = .ok (.istore 4, 2) := by decide +kernel
theorem dX8_ends_54 : decode cX8_ends 54 = .ok (.iload_n 3, 1) := by decide +kernel
theorem dX8_ends_55 : decode cX8_ends 55 = .ok (.ifCond .ne 12, 3) := by decide +kernel
theorem dX8_ends_58 : decode cX8_ends 58 = .ok (.aload_n 0, 1) := by decide +kernel
theorem dX8_ends_59 : decode cX8_ends 59 = .ok (.iconst 0, 1) := by decide +kernel
theorem dX8_ends_60 : decode cX8_ends 60 = .ok (.invokevirtual 197, 3) := by decide +kernel
theorem dX8_ends_63 : decode cX8_ends 63 = .ok (.pop, 1) := by decide +kernel
theorem dX8_ends_64 : decode cX8_ends 64 = .ok (.goto 31, 3) := by decide +kernel
theorem dX8_ends_67 : decode cX8_ends 67 = .ok (.iload_n 3, 1) := by decide +kernel
theorem dX8_ends_68 : decode cX8_ends 68 = .ok (.iconst 3, 1) := by decide +kernel
theorem dX8_ends_69 : decode cX8_ends 69 = .ok (.if_icmp .ne 15, 3) := by decide +kernel
theorem dX8_ends_72 : decode cX8_ends 72 = .ok (.aload_n 0, 1) := by decide +kernel
theorem dX8_ends_73 : decode cX8_ends 73 = .ok (.iload 4, 2) := by decide +kernel
theorem dX8_ends_75 : decode cX8_ends 75 = .ok (.iconst 3, 1) := by decide +kernel
theorem dX8_ends_76 : decode cX8_ends 76 = .ok (.iconst 0, 1) := by decide +kernel
theorem dX8_ends_77 : decode cX8_ends 77 = .ok (.invokevirtual 97, 3) := by decide +kernel
theorem dX8_ends_80 : decode cX8_ends 80 = .ok (.pop, 1) := by decide +kernel
theorem dX8_ends_81 : decode cX8_ends 81 = .ok (.goto 14, 3) := by decide +kernel
theorem dX8_ends_84 : decode cX8_ends 84 = .ok (.aload_n 0, 1) := by decide +kernel
theorem dX8_ends_85 : decode cX8_ends 85 = .ok (.iload 4, 2) := by decide +kernel
theorem dX8_ends_87 : decode cX8_ends 87 = .ok (.iconst 4, 1) := by decide +kernel
theorem dX8_ends_88 : decode cX8_ends 88 = .ok (.iconst 2, 1) := by decide +kernel
theorem dX8_ends_89 : decode cX8_ends 89 = .ok (.iload_n 3, 1) := by decide +kernel
theorem dX8_ends_90 : decode cX8_ends 90 = .ok (.isub, 1) := by decide +kernel
theorem dX8_ends_91 : decode cX8_ends 91 = .ok (.invokevirtual 97, 3) := by decide +kernel
theorem dX8_ends_94 : decode cX8_ends 94 = .ok (.pop, 1) := by decide +kernel
theorem dX8_ends_95 : decode cX8_ends 95 = .ok (.iinc 2 1, 3) := by decide +kernel
theorem dX8_ends_98 : decode cX8_ends 98 = .ok (.goto (-80), 3) := by decide +kernel
theorem dX8_ends_101 : decode cX8_ends 101 = .ok (.iconst 0, 1) := by decide +kernel
theorem dX8_ends_102 : decode cX8_ends 102 = .ok (.istore_n 2, 1) := by decide +kernel
theorem dX8_ends_103 : decode cX8_ends 103 = .ok (.iconst 0, 1) := by decide +kernel
theorem dX8_ends_104 : decode cX8_ends 104 = .ok (.istore_n 3, 1) := by decide +kernel
theorem dX8_ends_105 : decode cX8_ends 105 = .ok (.iload_n 3, 1) := by decide +kernel
theorem dX8_ends_106 : decode cX8_ends 106 = .ok (.aload_n 0, 1) := by decide +kernel
theorem dX8_ends_107 : decode cX8_ends 107 = .ok (.getfield 15, 3) := by decide +kernel
theorem dX8_ends_110 : decode cX8_ends 110 = .ok (.bipush 60, 2) := by decide +kernel
theorem dX8_ends_112 : decode cX8_ends 112 = .ok (.iaload, 1) := by decide +kernel
theorem dX8_ends_113 : decode cX8_ends 113 = .ok (.if_icmp .ge 26, 3) := by decide +kernel
theorem dX8_ends_116 : decode cX8_ends 116 = .ok (.iload_n 2, 1) := by decide +kernel
theorem dX8_ends_117 : decode cX8_ends 117 = .ok (.aload_n 0, 1) := by decide +kernel
theorem dX8_ends_118 : decode cX8_ends 118 = .ok (.iload_n 3, 1) := by decide +kernel
theorem dX8_ends_119 : decode cX8_ends 119 = .ok (.iload_n 1, 1) := by decide +kernel
theorem dX8_ends_120 : decode cX8_ends 120 = .ok (.ifCond .ne 7, 3) := by decide +kernel
theorem dX8_ends_123 : decode cX8_ends 123 = .ok (.iconst 5, 1) := by decide +kernel
theorem dX8_ends_124 : decode cX8_ends 124 = .ok (.goto 4, 3) := by decide +kernel
theorem dX8_ends_127 : decode cX8_ends 127 = .ok (.iconst 3, 1) := by decide +kernel
theorem dX8_ends_128 : decode cX8_ends 128 = .ok (.invokevirtual 89, 3) := by decide +kernel
theorem dX8_ends_131 : decode cX8_ends 131 = .ok (.iadd, 1) := by decide +kernel
theorem dX8_ends_132 : decode cX8_ends 132 = .ok (.istore_n 2, 1) := by decide +kernel
theorem dX8_ends_133 : decode cX8_ends 133 = .ok (.iinc 3 1, 3) := by decide +kernel
theorem dX8_ends_136 : decode cX8_ends 136 = .ok (.goto (-31), 3) := by decide +kernel
theorem dX8_ends_139 : decode cX8_ends 139 = .ok (.aload_n 0, 1) := by decide +kernel
theorem dX8_ends_140 : decode cX8_ends 140 = .ok (.iconst 0, 1) := by decide +kernel
theorem dX8_ends_141 : decode cX8_ends 141 = .ok (.invokevirtual 201, 3) := by decide +kernel
theorem dX8_ends_144 : decode cX8_ends 144 = .ok (.iload_n 2, 1) := by decide +kernel
theorem dX8_ends_145 : decode cX8_ends 145 = .ok (.ireturn, 1) := by decide +kernel
theorem dX8_book_0 : decode cX8_book 0 = .ok (.iload_n 1, 1) := by decide +kernel
theorem dX8_book_1 : decode cX8_book 1 = .ok (.iconst (-1), 1) := by decide +kernel
theorem dX8_book_2 : decode cX8_book 2 = .ok (.if_icmp .ne 13, 3) := by decide +kernel
theorem dX8_book_5 : decode cX8_book 5 = .ok (.aload_n 0, 1) := by decide +kernel
theorem dX8_book_6 : decode cX8_book 6 = .ok (.getfield 15, 3) := by decide +kernel
theorem dX8_book_9 : decode cX8_book 9 = .ok (.bipush 92, 2) := by decide +kernel
theorem dX8_book_11 : decode cX8_book 11 = .ok (.iconst 0, 1) := by decide +kernel
theorem dX8_book_12 : decode cX8_book 12 = .ok (.iastore, 1) := by decide +kernel
theorem dX8_book_13 : decode cX8_book 13 = .ok (.iconst 0, 1) := by decide +kernel
theorem dX8_book_14 : decode cX8_book 14 = .ok (.ireturn, 1) := by decide +kernel
theorem dX8_book_15 : decode cX8_book 15 = .ok (.aload_n 0, 1) := by decide +kernel
theorem dX8_book_16 : decode cX8_book 16 = .ok (.iload_n 1, 1) := by decide +kernel
theorem dX8_book_17 : decode cX8_book 17 = .ok (.invokevirtual 101, 3) := by decide +kernel
theorem dX8_book_20 : decode cX8_book 20 = .ok (.ifCond .eq 10, 3) := by decide +kernel
theorem dX8_book_23 : decode cX8_book 23 = .ok (.iload_n 2, 1) := by decide +kernel
theorem dX8_book_24 : decode cX8_book 24 = .ok (.invokestatic 93, 3) := by decide +kernel
theorem dX8_book_27 : decode cX8_book 27 = .ok (.ifCond .ne 5, 3) := by decide +kernel
theorem dX8_book_30 : decode cX8_book 30 = .ok (.iconst (-1), 1) := by decide +kernel
theorem dX8_book_31 : decode cX8_book 31 = .ok (.ireturn, 1) := by decide +kernel
theorem dX8_book_32 : decode cX8_book 32 = .ok (.aload_n 0, 1) := by decide +kernel
theorem dX8_book_33 : decode cX8_book 33 = .ok (.getfield 15, 3) := by decide +kernel
theorem dX8_book_36 : decode cX8_book 36 = .ok (.bipush 92, 2) := by decide +kernel
theorem dX8_book_38 : decode cX8_book 38 = .ok (.iaload, 1) := by decide +kernel
theorem dX8_book_39 : decode cX8_book 39 = .ok (.bipush 8, 2) := by decide +kernel
theorem dX8_book_41 : decode cX8_book 41 = .ok (.if_icmp .ne 6, 3) := by decide +kernel
theorem dX8_book_44 : decode cX8_book 44 = .ok (.bipush (-4), 2) := by decide +kernel
theorem dX8_book_46 : decode cX8_book 46 = .ok (.ireturn, 1) := by decide +kernel
theorem dX8_book_47 : decode cX8_book 47 = .ok (.aload_n 0, 1) := by decide +kernel
theorem dX8_book_48 : decode cX8_book 48 = .ok (.getfield 15, 3) := by decide +kernel
theorem dX8_book_51 : decode cX8_book 51 = .ok (.bipush 93, 2) := by decide +kernel
theorem dX8_book_53 : decode cX8_book 53 = .ok (.iconst 2, 1) := by decide +kernel
theorem dX8_book_54 : decode cX8_book 54 = .ok (.aload_n 0, 1) := by decide +kernel
theorem dX8_book_55 : decode cX8_book 55 = .ok (.getfield 15, 3) := by decide +kernel
theorem dX8_book_58 : decode cX8_book 58 = .ok (.bipush 92, 2) := by decide +kernel
theorem dX8_book_60 : decode cX8_book 60 = .ok (.iaload, 1) := by decide +kernel
theorem dX8_book_61 : decode cX8_book 61 = .ok (.imul, 1) := by decide +kernel
theorem dX8_book_62 : decode cX8_book 62 = .ok (.iadd, 1) := by decide +kernel
theorem dX8_book_63 : decode cX8_book 63 = .ok (.iload_n 1, 1) := by decide +kernel
theorem dX8_book_64 : decode cX8_book 64 = .ok (.iastore, 1) := by decide +kernel
theorem dX8_book_65 : decode cX8_book 65 = .ok (.aload_n 0, 1) := by decide +kernel
theorem dX8_book_66 : decode cX8_book 66 = .ok (.getfield 15, 3) := by decide +kernel
theorem dX8_book_69 : decode cX8_book 69 = .ok (.bipush 94, 2) := by decide +kernel
theorem dX8_book_71 : decode cX8_book 71 = .ok (.iconst 2, 1) := by decide +kernel
theorem dX8_book_72 : decode cX8_book 72 = .ok (.aload_n 0, 1) := by decide +kernel
theorem dX8_book_73 : decode cX8_book 73 = .ok (.getfield 15, 3) := by decide +kernel
theorem dX8_book_76 : decode cX8_book 76 = .ok (.bipush 92, 2) := by decide +kernel
theorem dX8_book_78 : decode cX8_book 78 = .ok (.iaload, 1) := by decide +kernel
theorem dX8_book_79 : decode cX8_book 79 = .ok (.imul, 1) := by decide +kernel
theorem dX8_book_80 : decode cX8_book 80 = .ok (.iadd, 1) := by decide +kernel
theorem dX8_book_81 : decode cX8_book 81 = .ok (.iload_n 2, 1) := by decide +kernel
theorem dX8_book_82 : decode cX8_book 82 = .ok (.iastore, 1) := by decide +kernel
theorem dX8_book_83 : decode cX8_book 83 = .ok (.aload_n 0, 1) := by decide +kernel
theorem dX8_book_84 : decode cX8_book 84 = .ok (.getfield 15, 3) := by decide +kernel
theorem dX8_book_87 : decode cX8_book 87 = .ok (.bipush 92, 2) := by decide +kernel
theorem dX8_book_89 : decode cX8_book 89 = .ok (.dup2, 1) := by decide +kernel
theorem dX8_book_90 : decode cX8_book 90 = .ok (.iaload, 1) := by decide +kernel
theorem dX8_book_91 : decode cX8_book 91 = .ok (.iconst 1, 1) := by decide +kernel
theorem dX8_book_92 : decode cX8_book 92 = .ok (.iadd, 1) := by decide +kernel
theorem dX8_book_93 : decode cX8_book 93 = .ok (.iastore, 1) := by decide +kernel
theorem dX8_book_94 : decode cX8_book 94 = .ok (.aload_n 0, 1) := by decide +kernel
theorem dX8_book_95 : decode cX8_book 95 = .ok (.getfield 15, 3) := by decide +kernel
theorem dX8_book_98 : decode cX8_book 98 = .ok (.bipush 92, 2) := by decide +kernel
theorem dX8_book_100 : decode cX8_book 100 = .ok (.iaload, 1) := by decide +kernel
theorem dX8_book_101 : decode cX8_book 101 = .ok (.ireturn, 1) := by decide +kernel
theorem dX8_looked_0 : decode cX8_looked 0 = .ok (.iconst 0, 1) := by decide +kernel
theorem dX8_looked_1 : decode cX8_looked 1 = .ok (.istore_n 1, 1) := by decide +kernel
theorem dX8_looked_2 : decode cX8_looked 2 = .ok (.iload_n 1, 1) := by decide +kernel
theorem dX8_looked_3 : decode cX8_looked 3 = .ok (.aload_n 0, 1) := by decide +kernel
theorem dX8_looked_4 : decode cX8_looked 4 = .ok (.getfield 15, 3) := by decide +kernel
theorem dX8_looked_7 : decode cX8_looked 7 = .ok (.bipush 92, 2) := by decide +kernel
theorem dX8_looked_9 : decode cX8_looked 9 = .ok (.iaload, 1) := by decide +kernel
theorem dX8_looked_10 : decode cX8_looked 10 = .ok (.if_icmp .ge 41, 3) := by decide +kernel
theorem dX8_looked_13 : decode cX8_looked 13 = .ok (.aload_n 0, 1) := by decide +kernel
theorem dX8_looked_14 : decode cX8_looked 14 = .ok (.aload_n 0, 1) := by decide +kernel
theorem dX8_looked_15 : decode cX8_looked 15 = .ok (.getfield 15, 3) := by decide +kernel
theorem dX8_looked_18 : decode cX8_looked 18 = .ok (.bipush 93, 2) := by decide +kernel
theorem dX8_looked_20 : decode cX8_looked 20 = .ok (.iconst 2, 1) := by decide +kernel
theorem dX8_looked_21 : decode cX8_looked 21 = .ok (.iload_n 1, 1) := by decide +kernel
theorem dX8_looked_22 : decode cX8_looked 22 = .ok (.imul, 1) := by decide +kernel
theorem dX8_looked_23 : decode cX8_looked 23 = .ok (.iadd, 1) := by decide +kernel
theorem dX8_looked_24 : decode cX8_looked 24 = .ok (.iaload, 1) := by decide +kernel
theorem dX8_looked_25 : decode cX8_looked 25 = .ok (.iconst 3, 1) := by decide +kernel
theorem dX8_looked_26 : decode cX8_looked 26 = .ok (.invokevirtual 89, 3) := by decide +kernel
theorem dX8_looked_29 : decode cX8_looked 29 = .ok (.aload_n 0, 1) := by decide +kernel
theorem dX8_looked_30 : decode cX8_looked 30 = .ok (.getfield 15, 3) := by decide +kernel
theorem dX8_looked_33 : decode cX8_looked 33 = .ok (.bipush 94, 2) := by decide +kernel
theorem dX8_looked_35 : decode cX8_looked 35 = .ok (.iconst 2, 1) := by decide +kernel
theorem dX8_looked_36 : decode cX8_looked 36 = .ok (.iload_n 1, 1) := by decide +kernel
theorem dX8_looked_37 : decode cX8_looked 37 = .ok (.imul, 1) := by decide +kernel
theorem dX8_looked_38 : decode cX8_looked 38 = .ok (.iadd, 1) := by decide +kernel
theorem dX8_looked_39 : decode cX8_looked 39 = .ok (.iaload, 1) := by decide +kernel
theorem dX8_looked_40 : decode cX8_looked 40 = .ok (.if_icmp .eq 5, 3) := by decide +kernel
theorem dX8_looked_43 : decode cX8_looked 43 = .ok (.iload_n 1, 1) := by decide +kernel
theorem dX8_looked_44 : decode cX8_looked 44 = .ok (.ireturn, 1) := by decide +kernel
theorem dX8_looked_45 : decode cX8_looked 45 = .ok (.iinc 1 1, 3) := by decide +kernel
theorem dX8_looked_48 : decode cX8_looked 48 = .ok (.goto (-46), 3) := by decide +kernel
theorem dX8_looked_51 : decode cX8_looked 51 = .ok (.bipush (-5), 2) := by decide +kernel
theorem dX8_looked_53 : decode cX8_looked 53 = .ok (.ireturn, 1) := by decide +kernel
theorem dX8_body_0 : decode cX8_body 0 = .ok (.aload_n 0, 1) := by decide +kernel
theorem dX8_body_1 : decode cX8_body 1 = .ok (.getfield 228, 3) := by decide +kernel
theorem dX8_body_4 : decode cX8_body 4 = .ok (.bipush 20, 2) := by decide +kernel
theorem dX8_body_6 : decode cX8_body 6 = .ok (.if_icmp .ge 13, 3) := by decide +kernel
theorem dX8_body_9 : decode cX8_body 9 = .ok (.aload_n 0, 1) := by decide +kernel
theorem dX8_body_10 : decode cX8_body 10 = .ok (.getfield 65, 3) := by decide +kernel
theorem dX8_body_13 : decode cX8_body 13 = .ok (.aload_n 0, 1) := by decide +kernel
theorem dX8_body_14 : decode cX8_body 14 = .ok (.getfield 228, 3) := by decide +kernel
theorem dX8_body_17 : decode cX8_body 17 = .ok (.iload_n 1, 1) := by decide +kernel
theorem dX8_body_18 : decode cX8_body 18 = .ok (.iastore, 1) := by decide +kernel
theorem dX8_body_19 : decode cX8_body 19 = .ok (.aload_n 0, 1) := by decide +kernel
theorem dX8_body_20 : decode cX8_body 20 = .ok (.dup, 1) := by decide +kernel
theorem dX8_body_21 : decode cX8_body 21 = .ok (.getfield 228, 3) := by decide +kernel
theorem dX8_body_24 : decode cX8_body 24 = .ok (.iconst 1, 1) := by decide +kernel
theorem dX8_body_25 : decode cX8_body 25 = .ok (.iadd, 1) := by decide +kernel
theorem dX8_body_26 : decode cX8_body 26 = .ok (.putfield 228, 3) := by decide +kernel
theorem dX8_body_29 : decode cX8_body 29 = .ok (.iload_n 1, 1) := by decide +kernel
theorem dX8_body_30 : decode cX8_body 30 = .ok (.ireturn, 1) := by decide +kernel
theorem dX8_all_0 : decode cX8_all 0 = .ok (.aload_n 0, 1) := by decide +kernel
theorem dX8_all_1 : decode cX8_all 1 = .ok (.aload_n 0, 1) := by decide +kernel
theorem dX8_all_2 : decode cX8_all 2 = .ok (.iload_n 1, 1) := by decide +kernel
theorem dX8_all_3 : decode cX8_all 3 = .ok (.iconst 0, 1) := by decide +kernel
theorem dX8_all_4 : decode cX8_all 4 = .ok (.invokevirtual 89, 3) := by decide +kernel
theorem dX8_all_7 : decode cX8_all 7 = .ok (.iload_n 1, 1) := by decide +kernel
theorem dX8_all_8 : decode cX8_all 8 = .ok (.iload_n 2, 1) := by decide +kernel
theorem dX8_all_9 : decode cX8_all 9 = .ok (.iload_n 3, 1) := by decide +kernel
theorem dX8_all_10 : decode cX8_all 10 = .ok (.invokevirtual 231, 3) := by decide +kernel
theorem dX8_all_13 : decode cX8_all 13 = .ok (.ireturn, 1) := by decide +kernel
theorem dX8_byKind_0 : decode cX8_byKind 0 = .ok (.iload_n 1, 1) := by decide +kernel
theorem dX8_byKind_1 : decode cX8_byKind 1 = .ok (.istore 5, 2) := by decide +kernel
theorem dX8_byKind_3 : decode cX8_byKind 3 = .ok (.aload_n 0, 1) := by decide +kernel
theorem dX8_byKind_4 : decode cX8_byKind 4 = .ok (.getfield 62, 3) := by decide +kernel
theorem dX8_byKind_7 : decode cX8_byKind 7 = .ok (.iconst 3, 1) := by decide +kernel
theorem dX8_byKind_8 : decode cX8_byKind 8 = .ok (.iload 5, 2) := by decide +kernel
theorem dX8_byKind_10 : decode cX8_byKind 10 = .ok (.imul, 1) := by decide +kernel
theorem dX8_byKind_11 : decode cX8_byKind 11 = .ok (.iload_n 3, 1) := by decide +kernel
theorem dX8_byKind_12 : decode cX8_byKind 12 = .ok (.iadd, 1) := by decide +kernel
theorem dX8_byKind_13 : decode cX8_byKind 13 = .ok (.iaload, 1) := by decide +kernel
theorem dX8_byKind_14 : decode cX8_byKind 14 = .ok (.ifCond .ne 15, 3) := by decide +kernel
theorem dX8_byKind_17 : decode cX8_byKind 17 = .ok (.aload_n 0, 1) := by decide +kernel
theorem dX8_byKind_18 : decode cX8_byKind 18 = .ok (.getfield 59, 3) := by decide +kernel
theorem dX8_byKind_21 : decode cX8_byKind 21 = .ok (.iload 5, 2) := by decide +kernel
theorem dX8_byKind_23 : decode cX8_byKind 23 = .ok (.iaload, 1) := by decide +kernel
theorem dX8_byKind_24 : decode cX8_byKind 24 = .ok (.istore 5, 2) := by decide +kernel
theorem dX8_byKind_26 : decode cX8_byKind 26 = .ok (.goto (-23), 3) := by decide +kernel
theorem dX8_byKind_29 : decode cX8_byKind 29 = .ok (.aload_n 0, 1) := by decide +kernel
theorem dX8_byKind_30 : decode cX8_byKind 30 = .ok (.getfield 59, 3) := by decide +kernel
theorem dX8_byKind_33 : decode cX8_byKind 33 = .ok (.iload 5, 2) := by decide +kernel
theorem dX8_byKind_35 : decode cX8_byKind 35 = .ok (.iaload, 1) := by decide +kernel
theorem dX8_byKind_36 : decode cX8_byKind 36 = .ok (.istore 6, 2) := by decide +kernel
theorem dX8_byKind_38 : decode cX8_byKind 38 = .ok (.aload_n 0, 1) := by decide +kernel
theorem dX8_byKind_39 : decode cX8_byKind 39 = .ok (.aload_n 0, 1) := by decide +kernel
theorem dX8_byKind_40 : decode cX8_byKind 40 = .ok (.getfield 62, 3) := by decide +kernel
theorem dX8_byKind_43 : decode cX8_byKind 43 = .ok (.iconst 3, 1) := by decide +kernel
theorem dX8_byKind_44 : decode cX8_byKind 44 = .ok (.iload 5, 2) := by decide +kernel
theorem dX8_byKind_46 : decode cX8_byKind 46 = .ok (.imul, 1) := by decide +kernel
theorem dX8_byKind_47 : decode cX8_byKind 47 = .ok (.iload_n 3, 1) := by decide +kernel
theorem dX8_byKind_48 : decode cX8_byKind 48 = .ok (.iadd, 1) := by decide +kernel
theorem dX8_byKind_49 : decode cX8_byKind 49 = .ok (.iaload, 1) := by decide +kernel
theorem dX8_byKind_50 : decode cX8_byKind 50 = .ok (.invokevirtual 235, 3) := by decide +kernel
theorem dX8_byKind_53 : decode cX8_byKind 53 = .ok (.lookupswitch 228 #[(10, 91), (11, 96), (12, 112), (20, 123), (30, 137), (40, 150), (50, 169), (51, 181), (60, 194), (70, 207)], 91) := by decide +kernel
theorem dX8_byKind_144 : decode cX8_byKind 144 = .ok (.iload 4, 2) := by decide +kernel
theorem dX8_byKind_146 : decode cX8_byKind 146 = .ok (.iload_n 2, 1) := by decide +kernel
theorem dX8_byKind_147 : decode cX8_byKind 147 = .ok (.iadd, 1) := by decide +kernel
theorem dX8_byKind_148 : decode cX8_byKind 148 = .ok (.ireturn, 1) := by decide +kernel
theorem dX8_byKind_149 : decode cX8_byKind 149 = .ok (.aload_n 0, 1) := by decide +kernel
theorem dX8_byKind_150 : decode cX8_byKind 150 = .ok (.iload_n 2, 1) := by decide +kernel
theorem dX8_byKind_151 : decode cX8_byKind 151 = .ok (.iconst 0, 1) := by decide +kernel
theorem dX8_byKind_152 : decode cX8_byKind 152 = .ok (.iload 4, 2) := by decide +kernel
theorem dX8_byKind_154 : decode cX8_byKind 154 = .ok (.invokevirtual 238, 3) := by decide +kernel
theorem dX8_byKind_157 : decode cX8_byKind 157 = .ok (.aload_n 0, 1) := by decide +kernel
theorem dX8_byKind_158 : decode cX8_byKind 158 = .ok (.iload_n 2, 1) := by decide +kernel
theorem dX8_byKind_159 : decode cX8_byKind 159 = .ok (.iconst 1, 1) := by decide +kernel
theorem dX8_byKind_160 : decode cX8_byKind 160 = .ok (.invokevirtual 89, 3) := by decide +kernel
theorem dX8_byKind_163 : decode cX8_byKind 163 = .ok (.isub, 1) := by decide +kernel
theorem dX8_byKind_164 : decode cX8_byKind 164 = .ok (.ireturn, 1) := by decide +kernel
theorem dX8_byKind_165 : decode cX8_byKind 165 = .ok (.aload_n 0, 1) := by decide +kernel
theorem dX8_byKind_166 : decode cX8_byKind 166 = .ok (.iload_n 2, 1) := by decide +kernel
theorem dX8_byKind_167 : decode cX8_byKind 167 = .ok (.iconst 1, 1) := by decide +kernel
theorem dX8_byKind_168 : decode cX8_byKind 168 = .ok (.iload 4, 2) := by decide +kernel
theorem dX8_byKind_170 : decode cX8_byKind 170 = .ok (.invokevirtual 238, 3) := by decide +kernel
theorem dX8_byKind_173 : decode cX8_byKind 173 = .ok (.iconst 2, 1) := by decide +kernel
theorem dX8_byKind_174 : decode cX8_byKind 174 = .ok (.imul, 1) := by decide +kernel
theorem dX8_byKind_175 : decode cX8_byKind 175 = .ok (.ireturn, 1) := by decide +kernel
theorem dX8_byKind_176 : decode cX8_byKind 176 = .ok (.aload_n 0, 1) := by decide +kernel
theorem dX8_byKind_177 : decode cX8_byKind 177 = .ok (.iload 6, 2) := by decide +kernel
theorem dX8_byKind_179 : decode cX8_byKind 179 = .ok (.iload_n 2, 1) := by decide +kernel
theorem dX8_byKind_180 : decode cX8_byKind 180 = .ok (.iconst 1, 1) := by decide +kernel
theorem dX8_byKind_181 : decode cX8_byKind 181 = .ok (.iload 4, 2) := by decide +kernel
theorem dX8_byKind_183 : decode cX8_byKind 183 = .ok (.invokevirtual 231, 3) := by decide +kernel
theorem dX8_byKind_186 : decode cX8_byKind 186 = .ok (.bipush 6, 2) := by decide +kernel
theorem dX8_byKind_188 : decode cX8_byKind 188 = .ok (.ixor, 1) := by decide +kernel
theorem dX8_byKind_189 : decode cX8_byKind 189 = .ok (.ireturn, 1) := by decide +kernel
theorem dX8_byKind_190 : decode cX8_byKind 190 = .ok (.aload_n 0, 1) := by decide +kernel
theorem dX8_byKind_191 : decode cX8_byKind 191 = .ok (.iload 6, 2) := by decide +kernel
theorem dX8_byKind_193 : decode cX8_byKind 193 = .ok (.iload_n 2, 1) := by decide +kernel
theorem dX8_byKind_194 : decode cX8_byKind 194 = .ok (.iconst 0, 1) := by decide +kernel
theorem dX8_byKind_195 : decode cX8_byKind 195 = .ok (.iload 4, 2) := by decide +kernel
theorem dX8_byKind_197 : decode cX8_byKind 197 = .ok (.iconst 3, 1) := by decide +kernel
theorem dX8_byKind_198 : decode cX8_byKind 198 = .ok (.imul, 1) := by decide +kernel
theorem dX8_byKind_199 : decode cX8_byKind 199 = .ok (.invokevirtual 231, 3) := by decide +kernel
theorem dX8_byKind_202 : decode cX8_byKind 202 = .ok (.ireturn, 1) := by decide +kernel
theorem dX8_byKind_203 : decode cX8_byKind 203 = .ok (.aload_n 0, 1) := by decide +kernel
theorem dX8_byKind_204 : decode cX8_byKind 204 = .ok (.iload 6, 2) := by decide +kernel
theorem dX8_byKind_206 : decode cX8_byKind 206 = .ok (.iload_n 2, 1) := by decide +kernel
theorem dX8_byKind_207 : decode cX8_byKind 207 = .ok (.iconst 2, 1) := by decide +kernel
theorem dX8_byKind_208 : decode cX8_byKind 208 = .ok (.iload 4, 2) := by decide +kernel
theorem dX8_byKind_210 : decode cX8_byKind 210 = .ok (.invokevirtual 231, 3) := by decide +kernel
theorem dX8_byKind_213 : decode cX8_byKind 213 = .ok (.aload_n 0, 1) := by decide +kernel
theorem dX8_byKind_214 : decode cX8_byKind 214 = .ok (.iload_n 2, 1) := by decide +kernel
theorem dX8_byKind_215 : decode cX8_byKind 215 = .ok (.iconst 1, 1) := by decide +kernel
theorem dX8_byKind_216 : decode cX8_byKind 216 = .ok (.iconst 1, 1) := by decide +kernel
theorem dX8_byKind_217 : decode cX8_byKind 217 = .ok (.invokevirtual 238, 3) := by decide +kernel
theorem dX8_byKind_220 : decode cX8_byKind 220 = .ok (.iadd, 1) := by decide +kernel
theorem dX8_byKind_221 : decode cX8_byKind 221 = .ok (.ireturn, 1) := by decide +kernel
theorem dX8_byKind_222 : decode cX8_byKind 222 = .ok (.aload_n 0, 1) := by decide +kernel
theorem dX8_byKind_223 : decode cX8_byKind 223 = .ok (.iload 6, 2) := by decide +kernel
theorem dX8_byKind_225 : decode cX8_byKind 225 = .ok (.iload_n 2, 1) := by decide +kernel
theorem dX8_byKind_226 : decode cX8_byKind 226 = .ok (.iconst 0, 1) := by decide +kernel
theorem dX8_byKind_227 : decode cX8_byKind 227 = .ok (.iload 4, 2) := by decide +kernel
theorem dX8_byKind_229 : decode cX8_byKind 229 = .ok (.invokevirtual 231, 3) := by decide +kernel
theorem dX8_byKind_232 : decode cX8_byKind 232 = .ok (.ineg, 1) := by decide +kernel
theorem dX8_byKind_233 : decode cX8_byKind 233 = .ok (.ireturn, 1) := by decide +kernel
theorem dX8_byKind_234 : decode cX8_byKind 234 = .ok (.aload_n 0, 1) := by decide +kernel
theorem dX8_byKind_235 : decode cX8_byKind 235 = .ok (.iload 6, 2) := by decide +kernel
theorem dX8_byKind_237 : decode cX8_byKind 237 = .ok (.iload_n 2, 1) := by decide +kernel
theorem dX8_byKind_238 : decode cX8_byKind 238 = .ok (.iconst 1, 1) := by decide +kernel
theorem dX8_byKind_239 : decode cX8_byKind 239 = .ok (.iload 4, 2) := by decide +kernel
theorem dX8_byKind_241 : decode cX8_byKind 241 = .ok (.iconst 1, 1) := by decide +kernel
theorem dX8_byKind_242 : decode cX8_byKind 242 = .ok (.iadd, 1) := by decide +kernel
theorem dX8_byKind_243 : decode cX8_byKind 243 = .ok (.invokevirtual 231, 3) := by decide +kernel
theorem dX8_byKind_246 : decode cX8_byKind 246 = .ok (.ireturn, 1) := by decide +kernel
theorem dX8_byKind_247 : decode cX8_byKind 247 = .ok (.aload_n 0, 1) := by decide +kernel
theorem dX8_byKind_248 : decode cX8_byKind 248 = .ok (.iload 6, 2) := by decide +kernel
theorem dX8_byKind_250 : decode cX8_byKind 250 = .ok (.iload_n 2, 1) := by decide +kernel
theorem dX8_byKind_251 : decode cX8_byKind 251 = .ok (.iconst 2, 1) := by decide +kernel
theorem dX8_byKind_252 : decode cX8_byKind 252 = .ok (.iload 4, 2) := by decide +kernel
theorem dX8_byKind_254 : decode cX8_byKind 254 = .ok (.iload_n 2, 1) := by decide +kernel
theorem dX8_byKind_255 : decode cX8_byKind 255 = .ok (.isub, 1) := by decide +kernel
theorem dX8_byKind_256 : decode cX8_byKind 256 = .ok (.invokevirtual 231, 3) := by decide +kernel
theorem dX8_byKind_259 : decode cX8_byKind 259 = .ok (.ireturn, 1) := by decide +kernel
theorem dX8_byKind_260 : decode cX8_byKind 260 = .ok (.aload_n 0, 1) := by decide +kernel
theorem dX8_byKind_261 : decode cX8_byKind 261 = .ok (.iload 6, 2) := by decide +kernel
theorem dX8_byKind_263 : decode cX8_byKind 263 = .ok (.iload_n 2, 1) := by decide +kernel
theorem dX8_byKind_264 : decode cX8_byKind 264 = .ok (.iconst 1, 1) := by decide +kernel
theorem dX8_byKind_265 : decode cX8_byKind 265 = .ok (.iload 4, 2) := by decide +kernel
theorem dX8_byKind_267 : decode cX8_byKind 267 = .ok (.invokevirtual 231, 3) := by decide +kernel
theorem dX8_byKind_270 : decode cX8_byKind 270 = .ok (.aload_n 0, 1) := by decide +kernel
theorem dX8_byKind_271 : decode cX8_byKind 271 = .ok (.iload 6, 2) := by decide +kernel
theorem dX8_byKind_273 : decode cX8_byKind 273 = .ok (.iload_n 2, 1) := by decide +kernel
theorem dX8_byKind_274 : decode cX8_byKind 274 = .ok (.iconst 0, 1) := by decide +kernel
theorem dX8_byKind_275 : decode cX8_byKind 275 = .ok (.iconst 2, 1) := by decide +kernel
theorem dX8_byKind_276 : decode cX8_byKind 276 = .ok (.invokevirtual 231, 3) := by decide +kernel
theorem dX8_byKind_279 : decode cX8_byKind 279 = .ok (.iadd, 1) := by decide +kernel
theorem dX8_byKind_280 : decode cX8_byKind 280 = .ok (.ireturn, 1) := by decide +kernel
theorem dX8_byKind_281 : decode cX8_byKind 281 = .ok (.aload_n 0, 1) := by decide +kernel
theorem dX8_byKind_282 : decode cX8_byKind 282 = .ok (.iload 6, 2) := by decide +kernel
theorem dX8_byKind_284 : decode cX8_byKind 284 = .ok (.iload_n 2, 1) := by decide +kernel
theorem dX8_byKind_285 : decode cX8_byKind 285 = .ok (.iconst 0, 1) := by decide +kernel
theorem dX8_byKind_286 : decode cX8_byKind 286 = .ok (.iload 4, 2) := by decide +kernel
theorem dX8_byKind_288 : decode cX8_byKind 288 = .ok (.invokevirtual 231, 3) := by decide +kernel
theorem dX8_byKind_291 : decode cX8_byKind 291 = .ok (.aload_n 0, 1) := by decide +kernel
theorem dX8_byKind_292 : decode cX8_byKind 292 = .ok (.iload_n 2, 1) := by decide +kernel
theorem dX8_byKind_293 : decode cX8_byKind 293 = .ok (.iconst 1, 1) := by decide +kernel
theorem dX8_byKind_294 : decode cX8_byKind 294 = .ok (.invokevirtual 89, 3) := by decide +kernel
theorem dX8_byKind_297 : decode cX8_byKind 297 = .ok (.ixor, 1) := by decide +kernel
theorem dX8_byKind_298 : decode cX8_byKind 298 = .ok (.ireturn, 1) := by decide +kernel
theorem dX8_act_0 : decode cX8_act 0 = .ok (.aload_n 0, 1) := by decide +kernel
theorem dX8_act_1 : decode cX8_act 1 = .ok (.iconst 0, 1) := by decide +kernel
theorem dX8_act_2 : decode cX8_act 2 = .ok (.putfield 228, 3) := by decide +kernel
theorem dX8_act_5 : decode cX8_act 5 = .ok (.aload_n 0, 1) := by decide +kernel
theorem dX8_act_6 : decode cX8_act 6 = .ok (.iload_n 1, 1) := by decide +kernel
theorem dX8_act_7 : decode cX8_act 7 = .ok (.invokevirtual 101, 3) := by decide +kernel
theorem dX8_act_10 : decode cX8_act 10 = .ok (.ifCond .eq 22, 3) := by decide +kernel
theorem dX8_act_13 : decode cX8_act 13 = .ok (.iload_n 2, 1) := by decide +kernel
theorem dX8_act_14 : decode cX8_act 14 = .ok (.iconst 0, 1) := by decide +kernel
theorem dX8_act_15 : decode cX8_act 15 = .ok (.iconst 2, 1) := by decide +kernel
theorem dX8_act_16 : decode cX8_act 16 = .ok (.invokestatic 85, 3) := by decide +kernel
theorem dX8_act_19 : decode cX8_act 19 = .ok (.ifCond .eq 13, 3) := by decide +kernel
theorem dX8_act_22 : decode cX8_act 22 = .ok (.aload_n 0, 1) := by decide +kernel
theorem dX8_act_23 : decode cX8_act 23 = .ok (.iload_n 1, 1) := by decide +kernel
theorem dX8_act_24 : decode cX8_act 24 = .ok (.iload_n 2, 1) := by decide +kernel
theorem dX8_act_25 : decode cX8_act 25 = .ok (.iload_n 3, 1) := by decide +kernel
theorem dX8_act_26 : decode cX8_act 26 = .ok (.invokevirtual 238, 3) := by decide +kernel
theorem dX8_act_29 : decode cX8_act 29 = .ok (.goto 4, 3) := by decide +kernel
theorem dX8_act_32 : decode cX8_act 32 = .ok (.iconst 0, 1) := by decide +kernel
theorem dX8_act_33 : decode cX8_act 33 = .ok (.ireturn, 1) := by decide +kernel
theorem dX8_trace_0 : decode cX8_trace 0 = .ok (.iload_n 1, 1) := by decide +kernel
theorem dX8_trace_1 : decode cX8_trace 1 = .ok (.iconst 0, 1) := by decide +kernel
theorem dX8_trace_2 : decode cX8_trace 2 = .ok (.bipush 20, 2) := by decide +kernel
theorem dX8_trace_4 : decode cX8_trace 4 = .ok (.aload_n 0, 1) := by decide +kernel
theorem dX8_trace_5 : decode cX8_trace 5 = .ok (.getfield 228, 3) := by decide +kernel
theorem dX8_trace_8 : decode cX8_trace 8 = .ok (.invokestatic 191, 3) := by decide +kernel
theorem dX8_trace_11 : decode cX8_trace 11 = .ok (.iconst 1, 1) := by decide +kernel
theorem dX8_trace_12 : decode cX8_trace 12 = .ok (.isub, 1) := by decide +kernel
theorem dX8_trace_13 : decode cX8_trace 13 = .ok (.invokestatic 85, 3) := by decide +kernel
theorem dX8_trace_16 : decode cX8_trace 16 = .ok (.ifCond .eq 12, 3) := by decide +kernel
theorem dX8_trace_19 : decode cX8_trace 19 = .ok (.aload_n 0, 1) := by decide +kernel
theorem dX8_trace_20 : decode cX8_trace 20 = .ok (.getfield 65, 3) := by decide +kernel
theorem dX8_trace_23 : decode cX8_trace 23 = .ok (.iload_n 1, 1) := by decide +kernel
theorem dX8_trace_24 : decode cX8_trace 24 = .ok (.iaload, 1) := by decide +kernel
theorem dX8_trace_25 : decode cX8_trace 25 = .ok (.goto 4, 3) := by decide +kernel
theorem dX8_trace_28 : decode cX8_trace 28 = .ok (.iconst (-1), 1) := by decide +kernel
theorem dX8_trace_29 : decode cX8_trace 29 = .ok (.ireturn, 1) := by decide +kernel
theorem dX8_taken_0 : decode cX8_taken 0 = .ok (.iload_n 2, 1) := by decide +kernel
theorem dX8_taken_1 : decode cX8_taken 1 = .ok (.iconst 0, 1) := by decide +kernel
theorem dX8_taken_2 : decode cX8_taken 2 = .ok (.bipush 6, 2) := by decide +kernel
theorem dX8_taken_4 : decode cX8_taken 4 = .ok (.invokestatic 85, 3) := by decide +kernel
theorem dX8_taken_7 : decode cX8_taken 7 = .ok (.ifCond .ne 6, 3) := by decide +kernel
theorem dX8_taken_10 : decode cX8_taken 10 = .ok (.bipush (-2), 2) := by decide +kernel
theorem dX8_taken_12 : decode cX8_taken 12 = .ok (.ireturn, 1) := by decide +kernel
theorem dX8_taken_13 : decode cX8_taken 13 = .ok (.aload_n 0, 1) := by decide +kernel
theorem dX8_taken_14 : decode cX8_taken 14 = .ok (.iload_n 1, 1) := by decide +kernel
theorem dX8_taken_15 : decode cX8_taken 15 = .ok (.invokevirtual 101, 3) := by decide +kernel
theorem dX8_taken_18 : decode cX8_taken 18 = .ok (.ifCond .ne 6, 3) := by decide +kernel
theorem dX8_taken_21 : decode cX8_taken 21 = .ok (.bipush (-11), 2) := by decide +kernel
theorem dX8_taken_23 : decode cX8_taken 23 = .ok (.ireturn, 1) := by decide +kernel
theorem dX8_taken_24 : decode cX8_taken 24 = .ok (.aload_n 0, 1) := by decide +kernel
theorem dX8_taken_25 : decode cX8_taken 25 = .ok (.iload_n 1, 1) := by decide +kernel
theorem dX8_taken_26 : decode cX8_taken 26 = .ok (.iconst 0, 1) := by decide +kernel
theorem dX8_taken_27 : decode cX8_taken 27 = .ok (.invokevirtual 89, 3) := by decide +kernel
theorem dX8_taken_30 : decode cX8_taken 30 = .ok (.istore_n 3, 1) := by decide +kernel
theorem dX8_taken_31 : decode cX8_taken 31 = .ok (.iload_n 3, 1) := by decide +kernel
theorem dX8_taken_32 : decode cX8_taken 32 = .ok (.iconst (-1), 1) := by decide +kernel
theorem dX8_taken_33 : decode cX8_taken 33 = .ok (.if_icmp .eq 18, 3) := by decide +kernel
theorem dX8_taken_36 : decode cX8_taken 36 = .ok (.iload_n 3, 1) := by decide +kernel
theorem dX8_taken_37 : decode cX8_taken 37 = .ok (.iload_n 2, 1) := by decide +kernel
theorem dX8_taken_38 : decode cX8_taken 38 = .ok (.if_icmp .eq 13, 3) := by decide +kernel
theorem dX8_taken_41 : decode cX8_taken 41 = .ok (.aload_n 0, 1) := by decide +kernel
theorem dX8_taken_42 : decode cX8_taken 42 = .ok (.getfield 59, 3) := by decide +kernel
theorem dX8_taken_45 : decode cX8_taken 45 = .ok (.iload_n 3, 1) := by decide +kernel
theorem dX8_taken_46 : decode cX8_taken 46 = .ok (.iaload, 1) := by decide +kernel
theorem dX8_taken_47 : decode cX8_taken 47 = .ok (.istore_n 3, 1) := by decide +kernel
theorem dX8_taken_48 : decode cX8_taken 48 = .ok (.goto (-17), 3) := by decide +kernel
theorem dX8_taken_51 : decode cX8_taken 51 = .ok (.iload_n 3, 1) := by decide +kernel
theorem dX8_taken_52 : decode cX8_taken 52 = .ok (.iload_n 2, 1) := by decide +kernel
theorem dX8_taken_53 : decode cX8_taken 53 = .ok (.if_icmp .ne 12, 3) := by decide +kernel
theorem dX8_taken_56 : decode cX8_taken 56 = .ok (.aload_n 0, 1) := by decide +kernel
theorem dX8_taken_57 : decode cX8_taken 57 = .ok (.iload_n 1, 1) := by decide +kernel
theorem dX8_taken_58 : decode cX8_taken 58 = .ok (.iconst 0, 1) := by decide +kernel
theorem dX8_taken_59 : decode cX8_taken 59 = .ok (.invokevirtual 89, 3) := by decide +kernel
theorem dX8_taken_62 : decode cX8_taken 62 = .ok (.goto 5, 3) := by decide +kernel
theorem dX8_taken_65 : decode cX8_taken 65 = .ok (.bipush (-12), 2) := by decide +kernel
theorem dX8_taken_67 : decode cX8_taken 67 = .ok (.ireturn, 1) := by decide +kernel
theorem dX8_count_0 : decode cX8_count 0 = .ok (.iload_n 1, 1) := by decide +kernel
theorem dX8_count_1 : decode cX8_count 1 = .ok (.tableswitch 90 0 6 #[43, 51, 56, 64, 72, 80, 85], 43) := by decide +kernel
theorem dX8_count_44 : decode cX8_count 44 = .ok (.aload_n 0, 1) := by decide +kernel
theorem dX8_count_45 : decode cX8_count 45 = .ok (.getfield 15, 3) := by decide +kernel
theorem dX8_count_48 : decode cX8_count 48 = .ok (.bipush 60, 2) := by decide +kernel
theorem dX8_count_50 : decode cX8_count 50 = .ok (.iaload, 1) := by decide +kernel
theorem dX8_count_51 : decode cX8_count 51 = .ok (.ireturn, 1) := by decide +kernel
theorem dX8_count_52 : decode cX8_count 52 = .ok (.aload_n 0, 1) := by decide +kernel
theorem dX8_count_53 : decode cX8_count 53 = .ok (.getfield 172, 3) := by decide +kernel
theorem dX8_count_56 : decode cX8_count 56 = .ok (.ireturn, 1) := by decide +kernel
theorem dX8_count_57 : decode cX8_count 57 = .ok (.aload_n 0, 1) := by decide +kernel
theorem dX8_count_58 : decode cX8_count 58 = .ok (.getfield 15, 3) := by decide +kernel
theorem dX8_count_61 : decode cX8_count 61 = .ok (.bipush 64, 2) := by decide +kernel
theorem dX8_count_63 : decode cX8_count 63 = .ok (.iaload, 1) := by decide +kernel
theorem dX8_count_64 : decode cX8_count 64 = .ok (.ireturn, 1) := by decide +kernel
theorem dX8_count_65 : decode cX8_count 65 = .ok (.aload_n 0, 1) := by decide +kernel
theorem dX8_count_66 : decode cX8_count 66 = .ok (.getfield 15, 3) := by decide +kernel
theorem dX8_count_69 : decode cX8_count 69 = .ok (.bipush 75, 2) := by decide +kernel
theorem dX8_count_71 : decode cX8_count 71 = .ok (.iaload, 1) := by decide +kernel
theorem dX8_count_72 : decode cX8_count 72 = .ok (.ireturn, 1) := by decide +kernel
theorem dX8_count_73 : decode cX8_count 73 = .ok (.aload_n 0, 1) := by decide +kernel
theorem dX8_count_74 : decode cX8_count 74 = .ok (.getfield 15, 3) := by decide +kernel
theorem dX8_count_77 : decode cX8_count 77 = .ok (.bipush 92, 2) := by decide +kernel
theorem dX8_count_79 : decode cX8_count 79 = .ok (.iaload, 1) := by decide +kernel
theorem dX8_count_80 : decode cX8_count 80 = .ok (.ireturn, 1) := by decide +kernel
theorem dX8_count_81 : decode cX8_count 81 = .ok (.aload_n 0, 1) := by decide +kernel
theorem dX8_count_82 : decode cX8_count 82 = .ok (.getfield 117, 3) := by decide +kernel
theorem dX8_count_85 : decode cX8_count 85 = .ok (.ireturn, 1) := by decide +kernel
theorem dX8_count_86 : decode cX8_count 86 = .ok (.aload_n 0, 1) := by decide +kernel
theorem dX8_count_87 : decode cX8_count 87 = .ok (.getfield 228, 3) := by decide +kernel
theorem dX8_count_90 : decode cX8_count 90 = .ok (.ireturn, 1) := by decide +kernel
theorem dX8_count_91 : decode cX8_count 91 = .ok (.bipush (-2), 2) := by decide +kernel
theorem dX8_count_93 : decode cX8_count 93 = .ok (.ireturn, 1) := by decide +kernel
theorem dX8_isTape_0 : decode cX8_isTape 0 = .ok (.iload_n 0, 1) := by decide +kernel
theorem dX8_isTape_1 : decode cX8_isTape 1 = .ok (.iconst 0, 1) := by decide +kernel
theorem dX8_isTape_2 : decode cX8_isTape 2 = .ok (.iconst 5, 1) := by decide +kernel
theorem dX8_isTape_3 : decode cX8_isTape 3 = .ok (.invokestatic 85, 3) := by decide +kernel
theorem dX8_isTape_6 : decode cX8_isTape 6 = .ok (.ireturn, 1) := by decide +kernel
theorem dX8_tape_0 : decode cX8_tape 0 = .ok (.iload_n 1, 1) := by decide +kernel
theorem dX8_tape_1 : decode cX8_tape 1 = .ok (.invokestatic 241, 3) := by decide +kernel
theorem dX8_tape_4 : decode cX8_tape 4 = .ok (.ifCond .ne 5, 3) := by decide +kernel
theorem dX8_tape_7 : decode cX8_tape 7 = .ok (.iconst (-1), 1) := by decide +kernel
theorem dX8_tape_8 : decode cX8_tape 8 = .ok (.ireturn, 1) := by decide +kernel
theorem dX8_tape_9 : decode cX8_tape 9 = .ok (.iload_n 2, 1) := by decide +kernel
theorem dX8_tape_10 : decode cX8_tape 10 = .ok (.iconst (-1), 1) := by decide +kernel
theorem dX8_tape_11 : decode cX8_tape 11 = .ok (.iconst 4, 1) := by decide +kernel
theorem dX8_tape_12 : decode cX8_tape 12 = .ok (.invokestatic 85, 3) := by decide +kernel
theorem dX8_tape_15 : decode cX8_tape 15 = .ok (.ifCond .eq 13, 3) := by decide +kernel
theorem dX8_tape_18 : decode cX8_tape 18 = .ok (.iload_n 2, 1) := by decide +kernel
theorem dX8_tape_19 : decode cX8_tape 19 = .ok (.ifCond .lt 12, 3) := by decide +kernel
theorem dX8_tape_22 : decode cX8_tape 22 = .ok (.iload_n 3, 1) := by decide +kernel
theorem dX8_tape_23 : decode cX8_tape 23 = .ok (.bipush 60, 2) := by decide +kernel
theorem dX8_tape_25 : decode cX8_tape 25 = .ok (.if_icmp .le 6, 3) := by decide +kernel
theorem dX8_tape_28 : decode cX8_tape 28 = .ok (.bipush (-2), 2) := by decide +kernel
theorem dX8_tape_30 : decode cX8_tape 30 = .ok (.ireturn, 1) := by decide +kernel
theorem dX8_tape_31 : decode cX8_tape 31 = .ok (.iload_n 2, 1) := by decide +kernel
theorem dX8_tape_32 : decode cX8_tape 32 = .ok (.ifCond .lt 10, 3) := by decide +kernel
theorem dX8_tape_35 : decode cX8_tape 35 = .ok (.iload_n 3, 1) := by decide +kernel
theorem dX8_tape_36 : decode cX8_tape 36 = .ok (.ifCond .ge 6, 3) := by decide +kernel
theorem dX8_tape_39 : decode cX8_tape 39 = .ok (.bipush (-14), 2) := by decide +kernel
theorem dX8_tape_41 : decode cX8_tape 41 = .ok (.ireturn, 1) := by decide +kernel
theorem dX8_tape_42 : decode cX8_tape 42 = .ok (.aload_n 0, 1) := by decide +kernel
theorem dX8_tape_43 : decode cX8_tape 43 = .ok (.getfield 68, 3) := by decide +kernel
theorem dX8_tape_46 : decode cX8_tape 46 = .ok (.iload_n 1, 1) := by decide +kernel
theorem dX8_tape_47 : decode cX8_tape 47 = .ok (.iload_n 2, 1) := by decide +kernel
theorem dX8_tape_48 : decode cX8_tape 48 = .ok (.iastore, 1) := by decide +kernel
theorem dX8_tape_49 : decode cX8_tape 49 = .ok (.aload_n 0, 1) := by decide +kernel
theorem dX8_tape_50 : decode cX8_tape 50 = .ok (.getfield 71, 3) := by decide +kernel
theorem dX8_tape_53 : decode cX8_tape 53 = .ok (.iload_n 1, 1) := by decide +kernel
theorem dX8_tape_54 : decode cX8_tape 54 = .ok (.iload_n 2, 1) := by decide +kernel
theorem dX8_tape_55 : decode cX8_tape 55 = .ok (.ifCond .ge 7, 3) := by decide +kernel
theorem dX8_tape_58 : decode cX8_tape 58 = .ok (.iconst 0, 1) := by decide +kernel
theorem dX8_tape_59 : decode cX8_tape 59 = .ok (.goto 4, 3) := by decide +kernel
theorem dX8_tape_62 : decode cX8_tape 62 = .ok (.iload_n 3, 1) := by decide +kernel
theorem dX8_tape_63 : decode cX8_tape 63 = .ok (.iastore, 1) := by decide +kernel
theorem dX8_tape_64 : decode cX8_tape 64 = .ok (.iconst 0, 1) := by decide +kernel
theorem dX8_tape_65 : decode cX8_tape 65 = .ok (.istore 4, 2) := by decide +kernel
theorem dX8_tape_67 : decode cX8_tape 67 = .ok (.iload 4, 2) := by decide +kernel
theorem dX8_tape_69 : decode cX8_tape 69 = .ok (.bipush 60, 2) := by decide +kernel
theorem dX8_tape_71 : decode cX8_tape 71 = .ok (.if_icmp .ge 22, 3) := by decide +kernel
theorem dX8_tape_74 : decode cX8_tape 74 = .ok (.aload_n 0, 1) := by decide +kernel
theorem dX8_tape_75 : decode cX8_tape 75 = .ok (.getfield 74, 3) := by decide +kernel
theorem dX8_tape_78 : decode cX8_tape 78 = .ok (.bipush 60, 2) := by decide +kernel
theorem dX8_tape_80 : decode cX8_tape 80 = .ok (.iload_n 1, 1) := by decide +kernel
theorem dX8_tape_81 : decode cX8_tape 81 = .ok (.imul, 1) := by decide +kernel
theorem dX8_tape_82 : decode cX8_tape 82 = .ok (.iload 4, 2) := by decide +kernel
theorem dX8_tape_84 : decode cX8_tape 84 = .ok (.iadd, 1) := by decide +kernel
theorem dX8_tape_85 : decode cX8_tape 85 = .ok (.lconst 0, 1) := by decide +kernel
theorem dX8_tape_86 : decode cX8_tape 86 = .ok (.lastore, 1) := by decide +kernel
theorem dX8_tape_87 : decode cX8_tape 87 = .ok (.iinc 4 1, 3) := by decide +kernel
theorem dX8_tape_90 : decode cX8_tape 90 = .ok (.goto (-23), 3) := by decide +kernel
theorem dX8_tape_93 : decode cX8_tape 93 = .ok (.iconst 1, 1) := by decide +kernel
theorem dX8_tape_94 : decode cX8_tape 94 = .ok (.ireturn, 1) := by decide +kernel
theorem dX8_item_0 : decode cX8_item 0 = .ok (.iload_n 1, 1) := by decide +kernel
theorem dX8_item_1 : decode cX8_item 1 = .ok (.invokestatic 241, 3) := by decide +kernel
theorem dX8_item_4 : decode cX8_item 4 = .ok (.ifCond .ne 5, 3) := by decide +kernel
theorem dX8_item_7 : decode cX8_item 7 = .ok (.iconst (-1), 1) := by decide +kernel
theorem dX8_item_8 : decode cX8_item 8 = .ok (.ireturn, 1) := by decide +kernel
theorem dX8_item_9 : decode cX8_item 9 = .ok (.aload_n 0, 1) := by decide +kernel
theorem dX8_item_10 : decode cX8_item 10 = .ok (.getfield 68, 3) := by decide +kernel
theorem dX8_item_13 : decode cX8_item 13 = .ok (.iload_n 1, 1) := by decide +kernel
theorem dX8_item_14 : decode cX8_item 14 = .ok (.iaload, 1) := by decide +kernel
theorem dX8_item_15 : decode cX8_item 15 = .ok (.ifCond .ge 6, 3) := by decide +kernel
theorem dX8_item_18 : decode cX8_item 18 = .ok (.bipush (-11), 2) := by decide +kernel
theorem dX8_item_20 : decode cX8_item 20 = .ok (.ireturn, 1) := by decide +kernel
theorem dX8_item_21 : decode cX8_item 21 = .ok (.iload_n 2, 1) := by decide +kernel
theorem dX8_item_22 : decode cX8_item 22 = .ok (.iconst 0, 1) := by decide +kernel
theorem dX8_item_23 : decode cX8_item 23 = .ok (.aload_n 0, 1) := by decide +kernel
theorem dX8_item_24 : decode cX8_item 24 = .ok (.getfield 71, 3) := by decide +kernel
theorem dX8_item_27 : decode cX8_item 27 = .ok (.iload_n 1, 1) := by decide +kernel
theorem dX8_item_28 : decode cX8_item 28 = .ok (.iaload, 1) := by decide +kernel
theorem dX8_item_29 : decode cX8_item 29 = .ok (.iconst 1, 1) := by decide +kernel
theorem dX8_item_30 : decode cX8_item 30 = .ok (.isub, 1) := by decide +kernel
theorem dX8_item_31 : decode cX8_item 31 = .ok (.invokestatic 85, 3) := by decide +kernel
theorem dX8_item_34 : decode cX8_item 34 = .ok (.ifCond .ne 6, 3) := by decide +kernel
theorem dX8_item_37 : decode cX8_item 37 = .ok (.bipush (-13), 2) := by decide +kernel
theorem dX8_item_39 : decode cX8_item 39 = .ok (.ireturn, 1) := by decide +kernel
theorem dX8_item_40 : decode cX8_item 40 = .ok (.aload_n 0, 1) := by decide +kernel
theorem dX8_item_41 : decode cX8_item 41 = .ok (.getfield 68, 3) := by decide +kernel
theorem dX8_item_44 : decode cX8_item 44 = .ok (.iload_n 1, 1) := by decide +kernel
theorem dX8_item_45 : decode cX8_item 45 = .ok (.iaload, 1) := by decide +kernel
theorem dX8_item_46 : decode cX8_item 46 = .ok (.istore 5, 2) := by decide +kernel
theorem dX8_item_48 : decode cX8_item 48 = .ok (.aload_n 0, 1) := by decide +kernel
theorem dX8_item_49 : decode cX8_item 49 = .ok (.getfield 74, 3) := by decide +kernel
theorem dX8_item_52 : decode cX8_item 52 = .ok (.bipush 60, 2) := by decide +kernel
theorem dX8_item_54 : decode cX8_item 54 = .ok (.iload_n 1, 1) := by decide +kernel
theorem dX8_item_55 : decode cX8_item 55 = .ok (.imul, 1) := by decide +kernel
theorem dX8_item_56 : decode cX8_item 56 = .ok (.iload_n 2, 1) := by decide +kernel
theorem dX8_item_57 : decode cX8_item 57 = .ok (.iadd, 1) := by decide +kernel
theorem dX8_item_58 : decode cX8_item 58 = .ok (.iload 5, 2) := by decide +kernel
theorem dX8_item_60 : decode cX8_item 60 = .ok (.ifCond .ne 10, 3) := by decide +kernel
theorem dX8_item_63 : decode cX8_item 63 = .ok (.lload_n 3, 1) := by decide +kernel
theorem dX8_item_64 : decode cX8_item 64 = .ok (.l2i, 1) := by decide +kernel
theorem dX8_item_65 : decode cX8_item 65 = .ok (.i2b, 1) := by decide +kernel
theorem dX8_item_66 : decode cX8_item 66 = .ok (.i2l, 1) := by decide +kernel
theorem dX8_item_67 : decode cX8_item 67 = .ok (.goto 49, 3) := by decide +kernel
theorem dX8_item_70 : decode cX8_item 70 = .ok (.iload 5, 2) := by decide +kernel
theorem dX8_item_72 : decode cX8_item 72 = .ok (.iconst 1, 1) := by decide +kernel
theorem dX8_item_73 : decode cX8_item 73 = .ok (.if_icmp .ne 10, 3) := by decide +kernel
theorem dX8_item_76 : decode cX8_item 76 = .ok (.lload_n 3, 1) := by decide +kernel
theorem dX8_item_77 : decode cX8_item 77 = .ok (.l2i, 1) := by decide +kernel
theorem dX8_item_78 : decode cX8_item 78 = .ok (.i2s, 1) := by decide +kernel
theorem dX8_item_79 : decode cX8_item 79 = .ok (.i2l, 1) := by decide +kernel
theorem dX8_item_80 : decode cX8_item 80 = .ok (.goto 36, 3) := by decide +kernel
theorem dX8_item_83 : decode cX8_item 83 = .ok (.iload 5, 2) := by decide +kernel
theorem dX8_item_85 : decode cX8_item 85 = .ok (.iconst 2, 1) := by decide +kernel
theorem dX8_item_86 : decode cX8_item 86 = .ok (.if_icmp .ne 9, 3) := by decide +kernel
theorem dX8_item_89 : decode cX8_item 89 = .ok (.lload_n 3, 1) := by decide +kernel
theorem dX8_item_90 : decode cX8_item 90 = .ok (.l2i, 1) := by decide +kernel
theorem dX8_item_91 : decode cX8_item 91 = .ok (.i2l, 1) := by decide +kernel
theorem dX8_item_92 : decode cX8_item 92 = .ok (.goto 24, 3) := by decide +kernel
theorem dX8_item_95 : decode cX8_item 95 = .ok (.iload 5, 2) := by decide +kernel
theorem dX8_item_97 : decode cX8_item 97 = .ok (.iconst 3, 1) := by decide +kernel
theorem dX8_item_98 : decode cX8_item 98 = .ok (.if_icmp .ne 7, 3) := by decide +kernel
theorem dX8_item_101 : decode cX8_item 101 = .ok (.lload_n 3, 1) := by decide +kernel
theorem dX8_item_102 : decode cX8_item 102 = .ok (.goto 14, 3) := by decide +kernel
theorem dX8_item_105 : decode cX8_item 105 = .ok (.lload_n 3, 1) := by decide +kernel
theorem dX8_item_106 : decode cX8_item 106 = .ok (.lconst 0, 1) := by decide +kernel
theorem dX8_item_107 : decode cX8_item 107 = .ok (.lcmp, 1) := by decide +kernel
theorem dX8_item_108 : decode cX8_item 108 = .ok (.ifCond .eq 7, 3) := by decide +kernel
theorem dX8_item_111 : decode cX8_item 111 = .ok (.lconst 1, 1) := by decide +kernel
theorem dX8_item_112 : decode cX8_item 112 = .ok (.goto 4, 3) := by decide +kernel
theorem dX8_item_115 : decode cX8_item 115 = .ok (.lconst 0, 1) := by decide +kernel
theorem dX8_item_116 : decode cX8_item 116 = .ok (.lastore, 1) := by decide +kernel
theorem dX8_item_117 : decode cX8_item 117 = .ok (.iconst 1, 1) := by decide +kernel
theorem dX8_item_118 : decode cX8_item 118 = .ok (.ireturn, 1) := by decide +kernel
theorem dX8_read_0 : decode cX8_read 0 = .ok (.iload_n 1, 1) := by decide +kernel
theorem dX8_read_1 : decode cX8_read 1 = .ok (.invokestatic 241, 3) := by decide +kernel
theorem dX8_read_4 : decode cX8_read 4 = .ok (.ifCond .eq 33, 3) := by decide +kernel
theorem dX8_read_7 : decode cX8_read 7 = .ok (.iload_n 2, 1) := by decide +kernel
theorem dX8_read_8 : decode cX8_read 8 = .ok (.iconst 0, 1) := by decide +kernel
theorem dX8_read_9 : decode cX8_read 9 = .ok (.aload_n 0, 1) := by decide +kernel
theorem dX8_read_10 : decode cX8_read 10 = .ok (.getfield 71, 3) := by decide +kernel
theorem dX8_read_13 : decode cX8_read 13 = .ok (.iload_n 1, 1) := by decide +kernel
theorem dX8_read_14 : decode cX8_read 14 = .ok (.iaload, 1) := by decide +kernel
theorem dX8_read_15 : decode cX8_read 15 = .ok (.iconst 1, 1) := by decide +kernel
theorem dX8_read_16 : decode cX8_read 16 = .ok (.isub, 1) := by decide +kernel
theorem dX8_read_17 : decode cX8_read 17 = .ok (.invokestatic 85, 3) := by decide +kernel
theorem dX8_read_20 : decode cX8_read 20 = .ok (.ifCond .eq 17, 3) := by decide +kernel
theorem dX8_read_23 : decode cX8_read 23 = .ok (.aload_n 0, 1) := by decide +kernel
theorem dX8_read_24 : decode cX8_read 24 = .ok (.getfield 74, 3) := by decide +kernel
theorem dX8_read_27 : decode cX8_read 27 = .ok (.bipush 60, 2) := by decide +kernel
theorem dX8_read_29 : decode cX8_read 29 = .ok (.iload_n 1, 1) := by decide +kernel
theorem dX8_read_30 : decode cX8_read 30 = .ok (.imul, 1) := by decide +kernel
theorem dX8_read_31 : decode cX8_read 31 = .ok (.iload_n 2, 1) := by decide +kernel
theorem dX8_read_32 : decode cX8_read 32 = .ok (.iadd, 1) := by decide +kernel
theorem dX8_read_33 : decode cX8_read 33 = .ok (.laload, 1) := by decide +kernel
theorem dX8_read_34 : decode cX8_read 34 = .ok (.goto 6, 3) := by decide +kernel
theorem dX8_read_37 : decode cX8_read 37 = .ok (.ldc2_w 222, 3) := by decide +kernel
theorem dX8_read_40 : decode cX8_read 40 = .ok (.lreturn, 1) := by decide +kernel
theorem dX8_shift_0 : decode cX8_shift 0 = .ok (.iload_n 1, 1) := by decide +kernel
theorem dX8_shift_1 : decode cX8_shift 1 = .ok (.invokestatic 241, 3) := by decide +kernel
theorem dX8_shift_4 : decode cX8_shift 4 = .ok (.ifCond .eq 10, 3) := by decide +kernel
theorem dX8_shift_7 : decode cX8_shift 7 = .ok (.iload_n 3, 1) := by decide +kernel
theorem dX8_shift_8 : decode cX8_shift 8 = .ok (.invokestatic 241, 3) := by decide +kernel
theorem dX8_shift_11 : decode cX8_shift 11 = .ok (.ifCond .ne 5, 3) := by decide +kernel
theorem dX8_shift_14 : decode cX8_shift 14 = .ok (.iconst (-1), 1) := by decide +kernel
theorem dX8_shift_15 : decode cX8_shift 15 = .ok (.ireturn, 1) := by decide +kernel
theorem dX8_shift_16 : decode cX8_shift 16 = .ok (.aload_n 0, 1) := by decide +kernel
theorem dX8_shift_17 : decode cX8_shift 17 = .ok (.getfield 68, 3) := by decide +kernel
theorem dX8_shift_20 : decode cX8_shift 20 = .ok (.iload_n 1, 1) := by decide +kernel
theorem dX8_shift_21 : decode cX8_shift 21 = .ok (.iaload, 1) := by decide +kernel
theorem dX8_shift_22 : decode cX8_shift 22 = .ok (.ifCond .lt 12, 3) := by decide +kernel
theorem dX8_shift_25 : decode cX8_shift 25 = .ok (.aload_n 0, 1) := by decide +kernel
theorem dX8_shift_26 : decode cX8_shift 26 = .ok (.getfield 68, 3) := by decide +kernel
theorem dX8_shift_29 : decode cX8_shift 29 = .ok (.iload_n 3, 1) := by decide +kernel
theorem dX8_shift_30 : decode cX8_shift 30 = .ok (.iaload, 1) := by decide +kernel
theorem dX8_shift_31 : decode cX8_shift 31 = .ok (.ifCond .ge 6, 3) := by decide +kernel
theorem dX8_shift_34 : decode cX8_shift 34 = .ok (.bipush (-11), 2) := by decide +kernel
theorem dX8_shift_36 : decode cX8_shift 36 = .ok (.ireturn, 1) := by decide +kernel
theorem dX8_shift_37 : decode cX8_shift 37 = .ok (.aload_n 0, 1) := by decide +kernel
theorem dX8_shift_38 : decode cX8_shift 38 = .ok (.getfield 68, 3) := by decide +kernel
theorem dX8_shift_41 : decode cX8_shift 41 = .ok (.iload_n 1, 1) := by decide +kernel
theorem dX8_shift_42 : decode cX8_shift 42 = .ok (.iaload, 1) := by decide +kernel
theorem dX8_shift_43 : decode cX8_shift 43 = .ok (.aload_n 0, 1) := by decide +kernel
theorem dX8_shift_44 : decode cX8_shift 44 = .ok (.getfield 68, 3) := by decide +kernel
theorem dX8_shift_47 : decode cX8_shift 47 = .ok (.iload_n 3, 1) := by decide +kernel
theorem dX8_shift_48 : decode cX8_shift 48 = .ok (.iaload, 1) := by decide +kernel
theorem dX8_shift_49 : decode cX8_shift 49 = .ok (.if_icmp .eq 6, 3) := by decide +kernel
theorem dX8_shift_52 : decode cX8_shift 52 = .ok (.bipush (-12), 2) := by decide +kernel
theorem dX8_shift_54 : decode cX8_shift 54 = .ok (.ireturn, 1) := by decide +kernel
theorem dX8_shift_55 : decode cX8_shift 55 = .ok (.iload 5, 2) := by decide +kernel
theorem dX8_shift_57 : decode cX8_shift 57 = .ok (.ifCond .lt 39, 3) := by decide +kernel
theorem dX8_shift_60 : decode cX8_shift 60 = .ok (.iload_n 2, 1) := by decide +kernel
theorem dX8_shift_61 : decode cX8_shift 61 = .ok (.ifCond .lt 35, 3) := by decide +kernel
theorem dX8_shift_64 : decode cX8_shift 64 = .ok (.iload 4, 2) := by decide +kernel
theorem dX8_shift_66 : decode cX8_shift 66 = .ok (.ifCond .lt 30, 3) := by decide +kernel
theorem dX8_shift_69 : decode cX8_shift 69 = .ok (.iload 5, 2) := by decide +kernel
theorem dX8_shift_71 : decode cX8_shift 71 = .ok (.aload_n 0, 1) := by decide +kernel
theorem dX8_shift_72 : decode cX8_shift 72 = .ok (.getfield 71, 3) := by decide +kernel
theorem dX8_shift_75 : decode cX8_shift 75 = .ok (.iload_n 1, 1) := by decide +kernel
theorem dX8_shift_76 : decode cX8_shift 76 = .ok (.iaload, 1) := by decide +kernel
theorem dX8_shift_77 : decode cX8_shift 77 = .ok (.iload_n 2, 1) := by decide +kernel
theorem dX8_shift_78 : decode cX8_shift 78 = .ok (.isub, 1) := by decide +kernel
theorem dX8_shift_79 : decode cX8_shift 79 = .ok (.if_icmp .gt 17, 3) := by decide +kernel
theorem dX8_shift_82 : decode cX8_shift 82 = .ok (.iload 5, 2) := by decide +kernel
theorem dX8_shift_84 : decode cX8_shift 84 = .ok (.aload_n 0, 1) := by decide +kernel
theorem dX8_shift_85 : decode cX8_shift 85 = .ok (.getfield 71, 3) := by decide +kernel
theorem dX8_shift_88 : decode cX8_shift 88 = .ok (.iload_n 3, 1) := by decide +kernel
theorem dX8_shift_89 : decode cX8_shift 89 = .ok (.iaload, 1) := by decide +kernel
theorem dX8_shift_90 : decode cX8_shift 90 = .ok (.iload 4, 2) := by decide +kernel
theorem dX8_shift_92 : decode cX8_shift 92 = .ok (.isub, 1) := by decide +kernel
theorem dX8_shift_93 : decode cX8_shift 93 = .ok (.if_icmp .le 6, 3) := by decide +kernel
theorem dX8_shift_96 : decode cX8_shift 96 = .ok (.bipush (-13), 2) := by decide +kernel
theorem dX8_shift_98 : decode cX8_shift 98 = .ok (.ireturn, 1) := by decide +kernel
theorem dX8_shift_99 : decode cX8_shift 99 = .ok (.iconst 0, 1) := by decide +kernel
theorem dX8_shift_100 : decode cX8_shift 100 = .ok (.istore 6, 2) := by decide +kernel
theorem dX8_shift_102 : decode cX8_shift 102 = .ok (.iload 6, 2) := by decide +kernel
theorem dX8_shift_104 : decode cX8_shift 104 = .ok (.iload 5, 2) := by decide +kernel
theorem dX8_shift_106 : decode cX8_shift 106 = .ok (.if_icmp .ge 30, 3) := by decide +kernel
theorem dX8_shift_109 : decode cX8_shift 109 = .ok (.aload_n 0, 1) := by decide +kernel
theorem dX8_shift_110 : decode cX8_shift 110 = .ok (.getfield 78, 3) := by decide +kernel
theorem dX8_shift_113 : decode cX8_shift 113 = .ok (.iload 6, 2) := by decide +kernel
theorem dX8_shift_115 : decode cX8_shift 115 = .ok (.aload_n 0, 1) := by decide +kernel
theorem dX8_shift_116 : decode cX8_shift 116 = .ok (.getfield 74, 3) := by decide +kernel
theorem dX8_shift_119 : decode cX8_shift 119 = .ok (.bipush 60, 2) := by decide +kernel
theorem dX8_shift_121 : decode cX8_shift 121 = .ok (.iload_n 1, 1) := by decide +kernel
theorem dX8_shift_122 : decode cX8_shift 122 = .ok (.imul, 1) := by decide +kernel
theorem dX8_shift_123 : decode cX8_shift 123 = .ok (.iload_n 2, 1) := by decide +kernel
theorem dX8_shift_124 : decode cX8_shift 124 = .ok (.iadd, 1) := by decide +kernel
theorem dX8_shift_125 : decode cX8_shift 125 = .ok (.iload 6, 2) := by decide +kernel
theorem dX8_shift_127 : decode cX8_shift 127 = .ok (.iadd, 1) := by decide +kernel
theorem dX8_shift_128 : decode cX8_shift 128 = .ok (.laload, 1) := by decide +kernel
theorem dX8_shift_129 : decode cX8_shift 129 = .ok (.lastore, 1) := by decide +kernel
theorem dX8_shift_130 : decode cX8_shift 130 = .ok (.iinc 6 1, 3) := by decide +kernel
theorem dX8_shift_133 : decode cX8_shift 133 = .ok (.goto (-31), 3) := by decide +kernel
theorem dX8_shift_136 : decode cX8_shift 136 = .ok (.iconst 0, 1) := by decide +kernel
theorem dX8_shift_137 : decode cX8_shift 137 = .ok (.istore 6, 2) := by decide +kernel
theorem dX8_shift_139 : decode cX8_shift 139 = .ok (.iload 6, 2) := by decide +kernel
theorem dX8_shift_141 : decode cX8_shift 141 = .ok (.iload 5, 2) := by decide +kernel
theorem dX8_shift_143 : decode cX8_shift 143 = .ok (.if_icmp .ge 31, 3) := by decide +kernel
theorem dX8_shift_146 : decode cX8_shift 146 = .ok (.aload_n 0, 1) := by decide +kernel
theorem dX8_shift_147 : decode cX8_shift 147 = .ok (.getfield 74, 3) := by decide +kernel
theorem dX8_shift_150 : decode cX8_shift 150 = .ok (.bipush 60, 2) := by decide +kernel
theorem dX8_shift_152 : decode cX8_shift 152 = .ok (.iload_n 3, 1) := by decide +kernel
theorem dX8_shift_153 : decode cX8_shift 153 = .ok (.imul, 1) := by decide +kernel
theorem dX8_shift_154 : decode cX8_shift 154 = .ok (.iload 4, 2) := by decide +kernel
theorem dX8_shift_156 : decode cX8_shift 156 = .ok (.iadd, 1) := by decide +kernel
theorem dX8_shift_157 : decode cX8_shift 157 = .ok (.iload 6, 2) := by decide +kernel
theorem dX8_shift_159 : decode cX8_shift 159 = .ok (.iadd, 1) := by decide +kernel
theorem dX8_shift_160 : decode cX8_shift 160 = .ok (.aload_n 0, 1) := by decide +kernel
theorem dX8_shift_161 : decode cX8_shift 161 = .ok (.getfield 78, 3) := by decide +kernel
theorem dX8_shift_164 : decode cX8_shift 164 = .ok (.iload 6, 2) := by decide +kernel
theorem dX8_shift_166 : decode cX8_shift 166 = .ok (.laload, 1) := by decide +kernel
theorem dX8_shift_167 : decode cX8_shift 167 = .ok (.lastore, 1) := by decide +kernel
theorem dX8_shift_168 : decode cX8_shift 168 = .ok (.iinc 6 1, 3) := by decide +kernel
theorem dX8_shift_171 : decode cX8_shift 171 = .ok (.goto (-32), 3) := by decide +kernel
theorem dX8_shift_174 : decode cX8_shift 174 = .ok (.iload 5, 2) := by decide +kernel
theorem dX8_shift_176 : decode cX8_shift 176 = .ok (.ireturn, 1) := by decide +kernel
theorem dX8_judge_0 : decode cX8_judge 0 = .ok (.iload_n 1, 1) := by decide +kernel
theorem dX8_judge_1 : decode cX8_judge 1 = .ok (.invokestatic 241, 3) := by decide +kernel
theorem dX8_judge_4 : decode cX8_judge 4 = .ok (.ifCond .ne 5, 3) := by decide +kernel
theorem dX8_judge_7 : decode cX8_judge 7 = .ok (.iconst (-1), 1) := by decide +kernel
theorem dX8_judge_8 : decode cX8_judge 8 = .ok (.ireturn, 1) := by decide +kernel
theorem dX8_judge_9 : decode cX8_judge 9 = .ok (.aload_n 0, 1) := by decide +kernel
theorem dX8_judge_10 : decode cX8_judge 10 = .ok (.getfield 68, 3) := by decide +kernel
theorem dX8_judge_13 : decode cX8_judge 13 = .ok (.iload_n 1, 1) := by decide +kernel
theorem dX8_judge_14 : decode cX8_judge 14 = .ok (.iaload, 1) := by decide +kernel
theorem dX8_judge_15 : decode cX8_judge 15 = .ok (.iconst (-1), 1) := by decide +kernel
theorem dX8_judge_16 : decode cX8_judge 16 = .ok (.if_icmp .eq 16, 3) := by decide +kernel
theorem dX8_judge_19 : decode cX8_judge 19 = .ok (.aload_n 0, 1) := by decide +kernel
theorem dX8_judge_20 : decode cX8_judge 20 = .ok (.getfield 68, 3) := by decide +kernel
theorem dX8_judge_23 : decode cX8_judge 23 = .ok (.iload_n 1, 1) := by decide +kernel
theorem dX8_judge_24 : decode cX8_judge 24 = .ok (.iaload, 1) := by decide +kernel
theorem dX8_judge_25 : decode cX8_judge 25 = .ok (.iconst 1, 1) := by decide +kernel
theorem dX8_judge_26 : decode cX8_judge 26 = .ok (.if_icmp .eq 6, 3) := by decide +kernel
theorem dX8_judge_29 : decode cX8_judge 29 = .ok (.bipush (-12), 2) := by decide +kernel
theorem dX8_judge_31 : decode cX8_judge 31 = .ok (.ireturn, 1) := by decide +kernel
theorem dX8_judge_32 : decode cX8_judge 32 = .ok (.aload_n 0, 1) := by decide +kernel
theorem dX8_judge_33 : decode cX8_judge 33 = .ok (.invokevirtual 104, 3) := by decide +kernel
theorem dX8_judge_36 : decode cX8_judge 36 = .ok (.iconst 0, 1) := by decide +kernel
theorem dX8_judge_37 : decode cX8_judge 37 = .ok (.istore_n 3, 1) := by decide +kernel
theorem dX8_judge_38 : decode cX8_judge 38 = .ok (.iload_n 3, 1) := by decide +kernel
theorem dX8_judge_39 : decode cX8_judge 39 = .ok (.aload_n 0, 1) := by decide +kernel
theorem dX8_judge_40 : decode cX8_judge 40 = .ok (.getfield 15, 3) := by decide +kernel
theorem dX8_judge_43 : decode cX8_judge 43 = .ok (.bipush 60, 2) := by decide +kernel
theorem dX8_judge_45 : decode cX8_judge 45 = .ok (.iaload, 1) := by decide +kernel
theorem dX8_judge_46 : decode cX8_judge 46 = .ok (.if_icmp .ge 64, 3) := by decide +kernel
theorem dX8_judge_49 : decode cX8_judge 49 = .ok (.iload_n 2, 1) := by decide +kernel
theorem dX8_judge_50 : decode cX8_judge 50 = .ok (.i2l, 1) := by decide +kernel
theorem dX8_judge_51 : decode cX8_judge 51 = .ok (.iload_n 3, 1) := by decide +kernel
theorem dX8_judge_52 : decode cX8_judge 52 = .ok (.i2l, 1) := by decide +kernel
theorem dX8_judge_53 : decode cX8_judge 53 = .ok (.ladd, 1) := by decide +kernel
theorem dX8_judge_54 : decode cX8_judge 54 = .ok (.lstore 4, 2) := by decide +kernel
theorem dX8_judge_56 : decode cX8_judge 56 = .ok (.iload_n 2, 1) := by decide +kernel
theorem dX8_judge_57 : decode cX8_judge 57 = .ok (.ifCond .lt 16, 3) := by decide +kernel
theorem dX8_judge_60 : decode cX8_judge 60 = .ok (.lload 4, 2) := by decide +kernel
theorem dX8_judge_62 : decode cX8_judge 62 = .ok (.aload_n 0, 1) := by decide +kernel
theorem dX8_judge_63 : decode cX8_judge 63 = .ok (.getfield 71, 3) := by decide +kernel
theorem dX8_judge_66 : decode cX8_judge 66 = .ok (.iload_n 1, 1) := by decide +kernel
theorem dX8_judge_67 : decode cX8_judge 67 = .ok (.iaload, 1) := by decide +kernel
theorem dX8_judge_68 : decode cX8_judge 68 = .ok (.i2l, 1) := by decide +kernel
theorem dX8_judge_69 : decode cX8_judge 69 = .ok (.lcmp, 1) := by decide +kernel
theorem dX8_judge_70 : decode cX8_judge 70 = .ok (.ifCond .lt 8, 3) := by decide +kernel
theorem dX8_judge_73 : decode cX8_judge 73 = .ok (.bipush 100, 2) := by decide +kernel
theorem dX8_judge_75 : decode cX8_judge 75 = .ok (.iload_n 3, 1) := by decide +kernel
theorem dX8_judge_76 : decode cX8_judge 76 = .ok (.iadd, 1) := by decide +kernel
theorem dX8_judge_77 : decode cX8_judge 77 = .ok (.ireturn, 1) := by decide +kernel
theorem dX8_judge_78 : decode cX8_judge 78 = .ok (.aload_n 0, 1) := by decide +kernel
theorem dX8_judge_79 : decode cX8_judge 79 = .ok (.getfield 74, 3) := by decide +kernel
theorem dX8_judge_82 : decode cX8_judge 82 = .ok (.bipush 60, 2) := by decide +kernel
theorem dX8_judge_84 : decode cX8_judge 84 = .ok (.iload_n 1, 1) := by decide +kernel
theorem dX8_judge_85 : decode cX8_judge 85 = .ok (.imul, 1) := by decide +kernel
theorem dX8_judge_86 : decode cX8_judge 86 = .ok (.lload 4, 2) := by decide +kernel
theorem dX8_judge_88 : decode cX8_judge 88 = .ok (.l2i, 1) := by decide +kernel
theorem dX8_judge_89 : decode cX8_judge 89 = .ok (.iadd, 1) := by decide +kernel
theorem dX8_judge_90 : decode cX8_judge 90 = .ok (.laload, 1) := by decide +kernel
theorem dX8_judge_91 : decode cX8_judge 91 = .ok (.aload_n 0, 1) := by decide +kernel
theorem dX8_judge_92 : decode cX8_judge 92 = .ok (.getfield 53, 3) := by decide +kernel
theorem dX8_judge_95 : decode cX8_judge 95 = .ok (.iload_n 3, 1) := by decide +kernel
theorem dX8_judge_96 : decode cX8_judge 96 = .ok (.iaload, 1) := by decide +kernel
theorem dX8_judge_97 : decode cX8_judge 97 = .ok (.i2l, 1) := by decide +kernel
theorem dX8_judge_98 : decode cX8_judge 98 = .ok (.lcmp, 1) := by decide +kernel
theorem dX8_judge_99 : decode cX8_judge 99 = .ok (.ifCond .eq 5, 3) := by decide +kernel
theorem dX8_judge_102 : decode cX8_judge 102 = .ok (.iload_n 3, 1) := by decide +kernel
theorem dX8_judge_103 : decode cX8_judge 103 = .ok (.ireturn, 1) := by decide +kernel
theorem dX8_judge_104 : decode cX8_judge 104 = .ok (.iinc 3 1, 3) := by decide +kernel
theorem dX8_judge_107 : decode cX8_judge 107 = .ok (.goto (-69), 3) := by decide +kernel
theorem dX8_judge_110 : decode cX8_judge 110 = .ok (.bipush (-5), 2) := by decide +kernel
theorem dX8_judge_112 : decode cX8_judge 112 = .ok (.ireturn, 1) := by decide +kernel
theorem dJ6_bitCount_0f7a4_0 : decode cJ6_bitCount_0f7a4 0 = .ok (.iload_n 0, 1) := by decide +kernel
theorem dJ6_bitCount_0f7a4_1 : decode cJ6_bitCount_0f7a4 1 = .ok (.iload_n 0, 1) := by decide +kernel
theorem dJ6_bitCount_0f7a4_2 : decode cJ6_bitCount_0f7a4 2 = .ok (.iconst 1, 1) := by decide +kernel
theorem dJ6_bitCount_0f7a4_3 : decode cJ6_bitCount_0f7a4 3 = .ok (.iushr, 1) := by decide +kernel
theorem dJ6_bitCount_0f7a4_4 : decode cJ6_bitCount_0f7a4 4 = .ok (.ldc_w 265, 3) := by decide +kernel
theorem dJ6_bitCount_0f7a4_7 : decode cJ6_bitCount_0f7a4 7 = .ok (.iand, 1) := by decide +kernel
theorem dJ6_bitCount_0f7a4_8 : decode cJ6_bitCount_0f7a4 8 = .ok (.isub, 1) := by decide +kernel
theorem dJ6_bitCount_0f7a4_9 : decode cJ6_bitCount_0f7a4 9 = .ok (.istore_n 0, 1) := by decide +kernel
theorem dJ6_bitCount_0f7a4_10 : decode cJ6_bitCount_0f7a4 10 = .ok (.iload_n 0, 1) := by decide +kernel
theorem dJ6_bitCount_0f7a4_11 : decode cJ6_bitCount_0f7a4 11 = .ok (.ldc_w 266, 3) := by decide +kernel
theorem dJ6_bitCount_0f7a4_14 : decode cJ6_bitCount_0f7a4 14 = .ok (.iand, 1) := by decide +kernel
theorem dJ6_bitCount_0f7a4_15 : decode cJ6_bitCount_0f7a4 15 = .ok (.iload_n 0, 1) := by decide +kernel
theorem dJ6_bitCount_0f7a4_16 : decode cJ6_bitCount_0f7a4 16 = .ok (.iconst 2, 1) := by decide +kernel
theorem dJ6_bitCount_0f7a4_17 : decode cJ6_bitCount_0f7a4 17 = .ok (.iushr, 1) := by decide +kernel
theorem dJ6_bitCount_0f7a4_18 : decode cJ6_bitCount_0f7a4 18 = .ok (.ldc_w 266, 3) := by decide +kernel
theorem dJ6_bitCount_0f7a4_21 : decode cJ6_bitCount_0f7a4 21 = .ok (.iand, 1) := by decide +kernel
theorem dJ6_bitCount_0f7a4_22 : decode cJ6_bitCount_0f7a4 22 = .ok (.iadd, 1) := by decide +kernel
theorem dJ6_bitCount_0f7a4_23 : decode cJ6_bitCount_0f7a4 23 = .ok (.istore_n 0, 1) := by decide +kernel
theorem dJ6_bitCount_0f7a4_24 : decode cJ6_bitCount_0f7a4 24 = .ok (.iload_n 0, 1) := by decide +kernel
theorem dJ6_bitCount_0f7a4_25 : decode cJ6_bitCount_0f7a4 25 = .ok (.iload_n 0, 1) := by decide +kernel
theorem dJ6_bitCount_0f7a4_26 : decode cJ6_bitCount_0f7a4 26 = .ok (.iconst 4, 1) := by decide +kernel
theorem dJ6_bitCount_0f7a4_27 : decode cJ6_bitCount_0f7a4 27 = .ok (.iushr, 1) := by decide +kernel
theorem dJ6_bitCount_0f7a4_28 : decode cJ6_bitCount_0f7a4 28 = .ok (.iadd, 1) := by decide +kernel
theorem dJ6_bitCount_0f7a4_29 : decode cJ6_bitCount_0f7a4 29 = .ok (.ldc_w 267, 3) := by decide +kernel
theorem dJ6_bitCount_0f7a4_32 : decode cJ6_bitCount_0f7a4 32 = .ok (.iand, 1) := by decide +kernel
theorem dJ6_bitCount_0f7a4_33 : decode cJ6_bitCount_0f7a4 33 = .ok (.istore_n 0, 1) := by decide +kernel
theorem dJ6_bitCount_0f7a4_34 : decode cJ6_bitCount_0f7a4 34 = .ok (.iload_n 0, 1) := by decide +kernel
theorem dJ6_bitCount_0f7a4_35 : decode cJ6_bitCount_0f7a4 35 = .ok (.iload_n 0, 1) := by decide +kernel
theorem dJ6_bitCount_0f7a4_36 : decode cJ6_bitCount_0f7a4 36 = .ok (.bipush 8, 2) := by decide +kernel
theorem dJ6_bitCount_0f7a4_38 : decode cJ6_bitCount_0f7a4 38 = .ok (.iushr, 1) := by decide +kernel
theorem dJ6_bitCount_0f7a4_39 : decode cJ6_bitCount_0f7a4 39 = .ok (.iadd, 1) := by decide +kernel
theorem dJ6_bitCount_0f7a4_40 : decode cJ6_bitCount_0f7a4 40 = .ok (.istore_n 0, 1) := by decide +kernel
theorem dJ6_bitCount_0f7a4_41 : decode cJ6_bitCount_0f7a4 41 = .ok (.iload_n 0, 1) := by decide +kernel
theorem dJ6_bitCount_0f7a4_42 : decode cJ6_bitCount_0f7a4 42 = .ok (.iload_n 0, 1) := by decide +kernel
theorem dJ6_bitCount_0f7a4_43 : decode cJ6_bitCount_0f7a4 43 = .ok (.bipush 16, 2) := by decide +kernel
theorem dJ6_bitCount_0f7a4_45 : decode cJ6_bitCount_0f7a4 45 = .ok (.iushr, 1) := by decide +kernel
theorem dJ6_bitCount_0f7a4_46 : decode cJ6_bitCount_0f7a4 46 = .ok (.iadd, 1) := by decide +kernel
theorem dJ6_bitCount_0f7a4_47 : decode cJ6_bitCount_0f7a4 47 = .ok (.istore_n 0, 1) := by decide +kernel
theorem dJ6_bitCount_0f7a4_48 : decode cJ6_bitCount_0f7a4 48 = .ok (.iload_n 0, 1) := by decide +kernel
theorem dJ6_bitCount_0f7a4_49 : decode cJ6_bitCount_0f7a4 49 = .ok (.bipush 63, 2) := by decide +kernel
theorem dJ6_bitCount_0f7a4_51 : decode cJ6_bitCount_0f7a4 51 = .ok (.iand, 1) := by decide +kernel
theorem dJ6_bitCount_0f7a4_52 : decode cJ6_bitCount_0f7a4 52 = .ok (.ireturn, 1) := by decide +kernel
theorem dJ9_max_7cf53_0 : decode cJ9_max_7cf53 0 = .ok (.iload_n 0, 1) := by decide +kernel
theorem dJ9_max_7cf53_1 : decode cJ9_max_7cf53 1 = .ok (.iload_n 1, 1) := by decide +kernel
theorem dJ9_max_7cf53_2 : decode cJ9_max_7cf53 2 = .ok (.if_icmp .lt 7, 3) := by decide +kernel
theorem dJ9_max_7cf53_5 : decode cJ9_max_7cf53 5 = .ok (.iload_n 0, 1) := by decide +kernel
theorem dJ9_max_7cf53_6 : decode cJ9_max_7cf53 6 = .ok (.goto 4, 3) := by decide +kernel
theorem dJ9_max_7cf53_9 : decode cJ9_max_7cf53 9 = .ok (.iload_n 1, 1) := by decide +kernel
theorem dJ9_max_7cf53_10 : decode cJ9_max_7cf53 10 = .ok (.ireturn, 1) := by decide +kernel
theorem dJ9_min_7cf53_0 : decode cJ9_min_7cf53 0 = .ok (.iload_n 0, 1) := by decide +kernel
theorem dJ9_min_7cf53_1 : decode cJ9_min_7cf53 1 = .ok (.iload_n 1, 1) := by decide +kernel
theorem dJ9_min_7cf53_2 : decode cJ9_min_7cf53 2 = .ok (.if_icmp .gt 7, 3) := by decide +kernel
theorem dJ9_min_7cf53_5 : decode cJ9_min_7cf53 5 = .ok (.iload_n 0, 1) := by decide +kernel
theorem dJ9_min_7cf53_6 : decode cJ9_min_7cf53 6 = .ok (.goto 4, 3) := by decide +kernel
theorem dJ9_min_7cf53_9 : decode cJ9_min_7cf53 9 = .ok (.iload_n 1, 1) := by decide +kernel
theorem dJ9_min_7cf53_10 : decode cJ9_min_7cf53 10 = .ok (.ireturn, 1) := by decide +kernel
theorem dJ0_length_8abf5_0 : decode cJ0_length_8abf5 0 = .ok (.aload_n 0, 1) := by decide +kernel
theorem dJ0_length_8abf5_1 : decode cJ0_length_8abf5 1 = .ok (.getfield 9, 3) := by decide +kernel
theorem dJ0_length_8abf5_4 : decode cJ0_length_8abf5 4 = .ok (.arraylength, 1) := by decide +kernel
theorem dJ0_length_8abf5_5 : decode cJ0_length_8abf5 5 = .ok (.aload_n 0, 1) := by decide +kernel
theorem dJ0_length_8abf5_6 : decode cJ0_length_8abf5 6 = .ok (.invokevirtual 335, 3) := by decide +kernel
theorem dJ0_length_8abf5_9 : decode cJ0_length_8abf5 9 = .ok (.ishr, 1) := by decide +kernel
theorem dJ0_length_8abf5_10 : decode cJ0_length_8abf5 10 = .ok (.ireturn, 1) := by decide +kernel
theorem dJ0_charAt_5068e_0 : decode cJ0_charAt_5068e 0 = .ok (.aload_n 0, 1) := by decide +kernel
theorem dJ0_charAt_5068e_1 : decode cJ0_charAt_5068e 1 = .ok (.invokevirtual 492, 3) := by decide +kernel
theorem dJ0_charAt_5068e_4 : decode cJ0_charAt_5068e 4 = .ok (.ifCond .eq 12, 3) := by decide +kernel
theorem dJ0_charAt_5068e_7 : decode cJ0_charAt_5068e 7 = .ok (.aload_n 0, 1) := by decide +kernel
theorem dJ0_charAt_5068e_8 : decode cJ0_charAt_5068e 8 = .ok (.getfield 9, 3) := by decide +kernel
theorem dJ0_charAt_5068e_11 : decode cJ0_charAt_5068e 11 = .ok (.iload_n 1, 1) := by decide +kernel
theorem dJ0_charAt_5068e_12 : decode cJ0_charAt_5068e 12 = .ok (.invokestatic 495, 3) := by decide +kernel
theorem dJ0_charAt_5068e_15 : decode cJ0_charAt_5068e 15 = .ok (.ireturn, 1) := by decide +kernel
theorem dJ0_charAt_5068e_16 : decode cJ0_charAt_5068e 16 = .ok (.aload_n 0, 1) := by decide +kernel
theorem dJ0_charAt_5068e_17 : decode cJ0_charAt_5068e 17 = .ok (.getfield 9, 3) := by decide +kernel
theorem dJ0_charAt_5068e_20 : decode cJ0_charAt_5068e 20 = .ok (.iload_n 1, 1) := by decide +kernel
theorem dJ0_charAt_5068e_21 : decode cJ0_charAt_5068e 21 = .ok (.invokestatic 498, 3) := by decide +kernel
theorem dJ0_charAt_5068e_24 : decode cJ0_charAt_5068e 24 = .ok (.ireturn, 1) := by decide +kernel
theorem dJ0_coder_7d493_0 : decode cJ0_coder_7d493 0 = .ok (.getstatic 38, 3) := by decide +kernel
theorem dJ0_coder_7d493_3 : decode cJ0_coder_7d493 3 = .ok (.ifCond .eq 10, 3) := by decide +kernel
theorem dJ0_coder_7d493_6 : decode cJ0_coder_7d493 6 = .ok (.aload_n 0, 1) := by decide +kernel
theorem dJ0_coder_7d493_7 : decode cJ0_coder_7d493 7 = .ok (.getfield 15, 3) := by decide +kernel
theorem dJ0_coder_7d493_10 : decode cJ0_coder_7d493 10 = .ok (.goto 4, 3) := by decide +kernel
theorem dJ0_coder_7d493_13 : decode cJ0_coder_7d493 13 = .ok (.iconst 1, 1) := by decide +kernel
theorem dJ0_coder_7d493_14 : decode cJ0_coder_7d493 14 = .ok (.ireturn, 1) := by decide +kernel
theorem dJ0_isLatin1_aae02_0 : decode cJ0_isLatin1_aae02 0 = .ok (.getstatic 38, 3) := by decide +kernel
theorem dJ0_isLatin1_aae02_3 : decode cJ0_isLatin1_aae02 3 = .ok (.ifCond .eq 14, 3) := by decide +kernel
theorem dJ0_isLatin1_aae02_6 : decode cJ0_isLatin1_aae02 6 = .ok (.aload_n 0, 1) := by decide +kernel
theorem dJ0_isLatin1_aae02_7 : decode cJ0_isLatin1_aae02 7 = .ok (.getfield 15, 3) := by decide +kernel
theorem dJ0_isLatin1_aae02_10 : decode cJ0_isLatin1_aae02 10 = .ok (.ifCond .ne 7, 3) := by decide +kernel
theorem dJ0_isLatin1_aae02_13 : decode cJ0_isLatin1_aae02 13 = .ok (.iconst 1, 1) := by decide +kernel
theorem dJ0_isLatin1_aae02_14 : decode cJ0_isLatin1_aae02 14 = .ok (.goto 4, 3) := by decide +kernel
theorem dJ0_isLatin1_aae02_17 : decode cJ0_isLatin1_aae02 17 = .ok (.iconst 0, 1) := by decide +kernel
theorem dJ0_isLatin1_aae02_18 : decode cJ0_isLatin1_aae02 18 = .ok (.ireturn, 1) := by decide +kernel
theorem dJ0_checkIndex_df160_0 : decode cJ0_checkIndex_df160 0 = .ok (.iload_n 0, 1) := by decide +kernel
theorem dJ0_checkIndex_df160_1 : decode cJ0_checkIndex_df160 1 = .ok (.iload_n 1, 1) := by decide +kernel
theorem dJ0_checkIndex_df160_2 : decode cJ0_checkIndex_df160 2 = .ok (.getstatic 1053, 3) := by decide +kernel
theorem dJ0_checkIndex_df160_5 : decode cJ0_checkIndex_df160 5 = .ok (.invokestatic 1059, 3) := by decide +kernel
theorem dJ0_checkIndex_df160_8 : decode cJ0_checkIndex_df160 8 = .ok (.pop, 1) := by decide +kernel
theorem dJ0_checkIndex_df160_9 : decode cJ0_checkIndex_df160 9 = .ok (.return_, 1) := by decide +kernel
theorem dJ1_charAt_3b067_0 : decode cJ1_charAt_3b067 0 = .ok (.iload_n 1, 1) := by decide +kernel
theorem dJ1_charAt_3b067_1 : decode cJ1_charAt_3b067 1 = .ok (.aload_n 0, 1) := by decide +kernel
theorem dJ1_charAt_3b067_2 : decode cJ1_charAt_3b067 2 = .ok (.arraylength, 1) := by decide +kernel
theorem dJ1_charAt_3b067_3 : decode cJ1_charAt_3b067 3 = .ok (.invokestatic 9, 3) := by decide +kernel
theorem dJ1_charAt_3b067_6 : decode cJ1_charAt_3b067 6 = .ok (.aload_n 0, 1) := by decide +kernel
theorem dJ1_charAt_3b067_7 : decode cJ1_charAt_3b067 7 = .ok (.iload_n 1, 1) := by decide +kernel
theorem dJ1_charAt_3b067_8 : decode cJ1_charAt_3b067 8 = .ok (.baload, 1) := by decide +kernel
theorem dJ1_charAt_3b067_9 : decode cJ1_charAt_3b067 9 = .ok (.sipush 255, 3) := by decide +kernel
theorem dJ1_charAt_3b067_12 : decode cJ1_charAt_3b067 12 = .ok (.iand, 1) := by decide +kernel
theorem dJ1_charAt_3b067_13 : decode cJ1_charAt_3b067 13 = .ok (.i2c, 1) := by decide +kernel
theorem dJ1_charAt_3b067_14 : decode cJ1_charAt_3b067 14 = .ok (.ireturn, 1) := by decide +kernel
theorem dJ2_getChar_3b067_0 : decode cJ2_getChar_3b067 0 = .ok (.getstatic 44, 3) := by decide +kernel
theorem dJ2_getChar_3b067_3 : decode cJ2_getChar_3b067 3 = .ok (.ifCond .ne 25, 3) := by decide +kernel
theorem dJ2_getChar_3b067_6 : decode cJ2_getChar_3b067 6 = .ok (.iload_n 1, 1) := by decide +kernel
theorem dJ2_getChar_3b067_7 : decode cJ2_getChar_3b067 7 = .ok (.ifCond .lt 11, 3) := by decide +kernel
theorem dJ2_getChar_3b067_10 : decode cJ2_getChar_3b067 10 = .ok (.iload_n 1, 1) := by decide +kernel
theorem dJ2_getChar_3b067_11 : decode cJ2_getChar_3b067 11 = .ok (.aload_n 0, 1) := by decide +kernel
theorem dJ2_getChar_3b067_12 : decode cJ2_getChar_3b067 12 = .ok (.invokestatic 48, 3) := by decide +kernel
theorem dJ2_getChar_3b067_15 : decode cJ2_getChar_3b067 15 = .ok (.if_icmp .lt 13, 3) := by decide +kernel
theorem dJ2_getChar_3b067_18 : decode cJ2_getChar_3b067 18 = .ok (.new 52, 3) := by decide +kernel
theorem dJ2_getChar_3b067_21 : decode cJ2_getChar_3b067 21 = .ok (.dup, 1) := by decide +kernel
theorem dJ2_getChar_3b067_22 : decode cJ2_getChar_3b067 22 = .ok (.ldc 54, 2) := by decide +kernel
theorem dJ2_getChar_3b067_24 : decode cJ2_getChar_3b067 24 = .ok (.invokespecial 56, 3) := by decide +kernel
theorem dJ2_getChar_3b067_27 : decode cJ2_getChar_3b067 27 = .ok (.athrow, 1) := by decide +kernel
theorem dJ2_getChar_3b067_28 : decode cJ2_getChar_3b067 28 = .ok (.iload_n 1, 1) := by decide +kernel
theorem dJ2_getChar_3b067_29 : decode cJ2_getChar_3b067 29 = .ok (.iconst 1, 1) := by decide +kernel
theorem dJ2_getChar_3b067_30 : decode cJ2_getChar_3b067 30 = .ok (.ishl, 1) := by decide +kernel
theorem dJ2_getChar_3b067_31 : decode cJ2_getChar_3b067 31 = .ok (.istore_n 1, 1) := by decide +kernel
theorem dJ2_getChar_3b067_32 : decode cJ2_getChar_3b067 32 = .ok (.aload_n 0, 1) := by decide +kernel
theorem dJ2_getChar_3b067_33 : decode cJ2_getChar_3b067 33 = .ok (.iload_n 1, 1) := by decide +kernel
theorem dJ2_getChar_3b067_34 : decode cJ2_getChar_3b067 34 = .ok (.iinc 1 1, 3) := by decide +kernel
theorem dJ2_getChar_3b067_37 : decode cJ2_getChar_3b067 37 = .ok (.baload, 1) := by decide +kernel
theorem dJ2_getChar_3b067_38 : decode cJ2_getChar_3b067 38 = .ok (.sipush 255, 3) := by decide +kernel
theorem dJ2_getChar_3b067_41 : decode cJ2_getChar_3b067 41 = .ok (.iand, 1) := by decide +kernel
theorem dJ2_getChar_3b067_42 : decode cJ2_getChar_3b067 42 = .ok (.getstatic 59, 3) := by decide +kernel
theorem dJ2_getChar_3b067_45 : decode cJ2_getChar_3b067 45 = .ok (.ishl, 1) := by decide +kernel
theorem dJ2_getChar_3b067_46 : decode cJ2_getChar_3b067 46 = .ok (.aload_n 0, 1) := by decide +kernel
theorem dJ2_getChar_3b067_47 : decode cJ2_getChar_3b067 47 = .ok (.iload_n 1, 1) := by decide +kernel
theorem dJ2_getChar_3b067_48 : decode cJ2_getChar_3b067 48 = .ok (.baload, 1) := by decide +kernel
theorem dJ2_getChar_3b067_49 : decode cJ2_getChar_3b067 49 = .ok (.sipush 255, 3) := by decide +kernel
theorem dJ2_getChar_3b067_52 : decode cJ2_getChar_3b067 52 = .ok (.iand, 1) := by decide +kernel
theorem dJ2_getChar_3b067_53 : decode cJ2_getChar_3b067 53 = .ok (.getstatic 63, 3) := by decide +kernel
theorem dJ2_getChar_3b067_56 : decode cJ2_getChar_3b067 56 = .ok (.ishl, 1) := by decide +kernel
theorem dJ2_getChar_3b067_57 : decode cJ2_getChar_3b067 57 = .ok (.ior, 1) := by decide +kernel
theorem dJ2_getChar_3b067_58 : decode cJ2_getChar_3b067 58 = .ok (.i2c, 1) := by decide +kernel
theorem dJ2_getChar_3b067_59 : decode cJ2_getChar_3b067 59 = .ok (.ireturn, 1) := by decide +kernel
theorem dJ2_length_9d52b_0 : decode cJ2_length_9d52b 0 = .ok (.aload_n 0, 1) := by decide +kernel
theorem dJ2_length_9d52b_1 : decode cJ2_length_9d52b 1 = .ok (.arraylength, 1) := by decide +kernel
theorem dJ2_length_9d52b_2 : decode cJ2_length_9d52b 2 = .ok (.iconst 1, 1) := by decide +kernel
theorem dJ2_length_9d52b_3 : decode cJ2_length_9d52b 3 = .ok (.ishr, 1) := by decide +kernel
theorem dJ2_length_9d52b_4 : decode cJ2_length_9d52b 4 = .ok (.ireturn, 1) := by decide +kernel
theorem dJ2_charAt_3b067_0 : decode cJ2_charAt_3b067 0 = .ok (.iload_n 1, 1) := by decide +kernel
theorem dJ2_charAt_3b067_1 : decode cJ2_charAt_3b067 1 = .ok (.aload_n 0, 1) := by decide +kernel
theorem dJ2_charAt_3b067_2 : decode cJ2_charAt_3b067 2 = .ok (.invokestatic 67, 3) := by decide +kernel
theorem dJ2_charAt_3b067_5 : decode cJ2_charAt_3b067 5 = .ok (.aload_n 0, 1) := by decide +kernel
theorem dJ2_charAt_3b067_6 : decode cJ2_charAt_3b067 6 = .ok (.iload_n 1, 1) := by decide +kernel
theorem dJ2_charAt_3b067_7 : decode cJ2_charAt_3b067 7 = .ok (.invokestatic 71, 3) := by decide +kernel
theorem dJ2_charAt_3b067_10 : decode cJ2_charAt_3b067 10 = .ok (.ireturn, 1) := by decide +kernel
theorem dJ2_checkIndex_2214a_0 : decode cJ2_checkIndex_2214a 0 = .ok (.iload_n 0, 1) := by decide +kernel
theorem dJ2_checkIndex_2214a_1 : decode cJ2_checkIndex_2214a 1 = .ok (.aload_n 1, 1) := by decide +kernel
theorem dJ2_checkIndex_2214a_2 : decode cJ2_checkIndex_2214a 2 = .ok (.invokestatic 48, 3) := by decide +kernel
theorem dJ2_checkIndex_2214a_5 : decode cJ2_checkIndex_2214a 5 = .ok (.invokestatic 414, 3) := by decide +kernel
theorem dJ2_checkIndex_2214a_8 : decode cJ2_checkIndex_2214a 8 = .ok (.return_, 1) := by decide +kernel
theorem dJ3_checkIndex_8e157_0 : decode cJ3_checkIndex_8e157 0 = .ok (.iload_n 0, 1) := by decide +kernel
theorem dJ3_checkIndex_8e157_1 : decode cJ3_checkIndex_8e157 1 = .ok (.ifCond .lt 8, 3) := by decide +kernel
theorem dJ3_checkIndex_8e157_4 : decode cJ3_checkIndex_8e157 4 = .ok (.iload_n 0, 1) := by decide +kernel
theorem dJ3_checkIndex_8e157_5 : decode cJ3_checkIndex_8e157 5 = .ok (.iload_n 1, 1) := by decide +kernel
theorem dJ3_checkIndex_8e157_6 : decode cJ3_checkIndex_8e157 6 = .ok (.if_icmp .lt 10, 3) := by decide +kernel
theorem dJ3_checkIndex_8e157_9 : decode cJ3_checkIndex_8e157 9 = .ok (.aload_n 2, 1) := by decide +kernel
theorem dJ3_checkIndex_8e157_10 : decode cJ3_checkIndex_8e157 10 = .ok (.iload_n 0, 1) := by decide +kernel
theorem dJ3_checkIndex_8e157_11 : decode cJ3_checkIndex_8e157 11 = .ok (.iload_n 1, 1) := by decide +kernel
theorem dJ3_checkIndex_8e157_12 : decode cJ3_checkIndex_8e157 12 = .ok (.invokestatic 95, 3) := by decide +kernel
theorem dJ3_checkIndex_8e157_15 : decode cJ3_checkIndex_8e157 15 = .ok (.athrow, 1) := by decide +kernel
theorem dJ3_checkIndex_8e157_16 : decode cJ3_checkIndex_8e157 16 = .ok (.iload_n 0, 1) := by decide +kernel
theorem dJ3_checkIndex_8e157_17 : decode cJ3_checkIndex_8e157 17 = .ok (.ireturn, 1) := by decide +kernel
theorem dL_law_0 : decode cL_law 0 = .ok (.new 7, 3) := by decide +kernel
theorem dL_law_3 : decode cL_law 3 = .ok (.dup, 1) := by decide +kernel
theorem dL_law_4 : decode cL_law 4 = .ok (.invokespecial 9, 3) := by decide +kernel
theorem dL_law_7 : decode cL_law 7 = .ok (.astore_n 1, 1) := by decide +kernel
theorem dL_law_8 : decode cL_law 8 = .ok (.new 10, 3) := by decide +kernel
theorem dL_law_11 : decode cL_law 11 = .ok (.dup, 1) := by decide +kernel
theorem dL_law_12 : decode cL_law 12 = .ok (.invokespecial 12, 3) := by decide +kernel
theorem dL_law_15 : decode cL_law 15 = .ok (.astore_n 2, 1) := by decide +kernel
theorem dL_law_16 : decode cL_law 16 = .ok (.iconst 0, 1) := by decide +kernel
theorem dL_law_17 : decode cL_law 17 = .ok (.istore_n 3, 1) := by decide +kernel
theorem dL_law_18 : decode cL_law 18 = .ok (.iload_n 3, 1) := by decide +kernel
theorem dL_law_19 : decode cL_law 19 = .ok (.aload_n 0, 1) := by decide +kernel
theorem dL_law_20 : decode cL_law 20 = .ok (.arraylength, 1) := by decide +kernel
theorem dL_law_21 : decode cL_law 21 = .ok (.bipush 6, 2) := by decide +kernel
theorem dL_law_23 : decode cL_law 23 = .ok (.isub, 1) := by decide +kernel
theorem dL_law_24 : decode cL_law 24 = .ok (.if_icmp .gt 1166, 3) := by decide +kernel
theorem dL_law_27 : decode cL_law 27 = .ok (.aload_n 0, 1) := by decide +kernel
theorem dL_law_28 : decode cL_law 28 = .ok (.iload_n 3, 1) := by decide +kernel
theorem dL_law_29 : decode cL_law 29 = .ok (.iaload, 1) := by decide +kernel
theorem dL_law_30 : decode cL_law 30 = .ok (.bipush 31, 2) := by decide +kernel
theorem dL_law_32 : decode cL_law 32 = .ok (.iand, 1) := by decide +kernel
theorem dL_law_33 : decode cL_law 33 = .ok (.tableswitch 1151 0 30 #[139, 192, 225, 268, 317, 340, 383, 406, 419, 442, 465, 498, 531, 564, 597, 631, 655, 688, 711, 744, 757, 790, 803, 816, 859, 882, 915, 938, 981, 1054, 1088], 139) := by decide +kernel
theorem dL_law_172 : decode cL_law 172 = .ok (.aload_n 1, 1) := by decide +kernel
theorem dL_law_173 : decode cL_law 173 = .ok (.aload_n 0, 1) := by decide +kernel
theorem dL_law_174 : decode cL_law 174 = .ok (.iload_n 3, 1) := by decide +kernel
theorem dL_law_175 : decode cL_law 175 = .ok (.iconst 1, 1) := by decide +kernel
theorem dL_law_176 : decode cL_law 176 = .ok (.iadd, 1) := by decide +kernel
theorem dL_law_177 : decode cL_law 177 = .ok (.iaload, 1) := by decide +kernel
theorem dL_law_178 : decode cL_law 178 = .ok (.aload_n 0, 1) := by decide +kernel
theorem dL_law_179 : decode cL_law 179 = .ok (.iload_n 3, 1) := by decide +kernel
theorem dL_law_180 : decode cL_law 180 = .ok (.iconst 2, 1) := by decide +kernel
theorem dL_law_181 : decode cL_law 181 = .ok (.iadd, 1) := by decide +kernel
theorem dL_law_182 : decode cL_law 182 = .ok (.iaload, 1) := by decide +kernel
theorem dL_law_183 : decode cL_law 183 = .ok (.aload_n 0, 1) := by decide +kernel
theorem dL_law_184 : decode cL_law 184 = .ok (.iload_n 3, 1) := by decide +kernel
theorem dL_law_185 : decode cL_law 185 = .ok (.iconst 3, 1) := by decide +kernel
theorem dL_law_186 : decode cL_law 186 = .ok (.iadd, 1) := by decide +kernel
theorem dL_law_187 : decode cL_law 187 = .ok (.iaload, 1) := by decide +kernel
theorem dL_law_188 : decode cL_law 188 = .ok (.aload_n 0, 1) := by decide +kernel
theorem dL_law_189 : decode cL_law 189 = .ok (.iload_n 3, 1) := by decide +kernel
theorem dL_law_190 : decode cL_law 190 = .ok (.iconst 4, 1) := by decide +kernel
theorem dL_law_191 : decode cL_law 191 = .ok (.iadd, 1) := by decide +kernel
theorem dL_law_192 : decode cL_law 192 = .ok (.iaload, 1) := by decide +kernel
theorem dL_law_193 : decode cL_law 193 = .ok (.invokevirtual 13, 3) := by decide +kernel
theorem dL_law_196 : decode cL_law 196 = .ok (.aload_n 2, 1) := by decide +kernel
theorem dL_law_197 : decode cL_law 197 = .ok (.aload_n 0, 1) := by decide +kernel
theorem dL_law_198 : decode cL_law 198 = .ok (.iload_n 3, 1) := by decide +kernel
theorem dL_law_199 : decode cL_law 199 = .ok (.iconst 1, 1) := by decide +kernel
theorem dL_law_200 : decode cL_law 200 = .ok (.iadd, 1) := by decide +kernel
theorem dL_law_201 : decode cL_law 201 = .ok (.iaload, 1) := by decide +kernel
theorem dL_law_202 : decode cL_law 202 = .ok (.aload_n 0, 1) := by decide +kernel
theorem dL_law_203 : decode cL_law 203 = .ok (.iload_n 3, 1) := by decide +kernel
theorem dL_law_204 : decode cL_law 204 = .ok (.iconst 2, 1) := by decide +kernel
theorem dL_law_205 : decode cL_law 205 = .ok (.iadd, 1) := by decide +kernel
theorem dL_law_206 : decode cL_law 206 = .ok (.iaload, 1) := by decide +kernel
theorem dL_law_207 : decode cL_law 207 = .ok (.aload_n 0, 1) := by decide +kernel
theorem dL_law_208 : decode cL_law 208 = .ok (.iload_n 3, 1) := by decide +kernel
theorem dL_law_209 : decode cL_law 209 = .ok (.iconst 3, 1) := by decide +kernel
theorem dL_law_210 : decode cL_law 210 = .ok (.iadd, 1) := by decide +kernel
theorem dL_law_211 : decode cL_law 211 = .ok (.iaload, 1) := by decide +kernel
theorem dL_law_212 : decode cL_law 212 = .ok (.aload_n 0, 1) := by decide +kernel
theorem dL_law_213 : decode cL_law 213 = .ok (.iload_n 3, 1) := by decide +kernel
theorem dL_law_214 : decode cL_law 214 = .ok (.iconst 4, 1) := by decide +kernel
theorem dL_law_215 : decode cL_law 215 = .ok (.iadd, 1) := by decide +kernel
theorem dL_law_216 : decode cL_law 216 = .ok (.iaload, 1) := by decide +kernel
theorem dL_law_217 : decode cL_law 217 = .ok (.invokevirtual 17, 3) := by decide +kernel
theorem dL_law_220 : decode cL_law 220 = .ok (.if_icmp .eq 964, 3) := by decide +kernel
theorem dL_law_223 : decode cL_law 223 = .ok (.iconst 0, 1) := by decide +kernel
theorem dL_law_224 : decode cL_law 224 = .ok (.ireturn, 1) := by decide +kernel
theorem dL_law_225 : decode cL_law 225 = .ok (.aload_n 1, 1) := by decide +kernel
theorem dL_law_226 : decode cL_law 226 = .ok (.aload_n 0, 1) := by decide +kernel
theorem dL_law_227 : decode cL_law 227 = .ok (.iload_n 3, 1) := by decide +kernel
theorem dL_law_228 : decode cL_law 228 = .ok (.iconst 1, 1) := by decide +kernel
theorem dL_law_229 : decode cL_law 229 = .ok (.iadd, 1) := by decide +kernel
theorem dL_law_230 : decode cL_law 230 = .ok (.iaload, 1) := by decide +kernel
theorem dL_law_231 : decode cL_law 231 = .ok (.aload_n 0, 1) := by decide +kernel
theorem dL_law_232 : decode cL_law 232 = .ok (.iload_n 3, 1) := by decide +kernel
theorem dL_law_233 : decode cL_law 233 = .ok (.iconst 2, 1) := by decide +kernel
theorem dL_law_234 : decode cL_law 234 = .ok (.iadd, 1) := by decide +kernel
theorem dL_law_235 : decode cL_law 235 = .ok (.iaload, 1) := by decide +kernel
theorem dL_law_236 : decode cL_law 236 = .ok (.invokevirtual 18, 3) := by decide +kernel
theorem dL_law_239 : decode cL_law 239 = .ok (.aload_n 2, 1) := by decide +kernel
theorem dL_law_240 : decode cL_law 240 = .ok (.aload_n 0, 1) := by decide +kernel
theorem dL_law_241 : decode cL_law 241 = .ok (.iload_n 3, 1) := by decide +kernel
theorem dL_law_242 : decode cL_law 242 = .ok (.iconst 1, 1) := by decide +kernel
theorem dL_law_243 : decode cL_law 243 = .ok (.iadd, 1) := by decide +kernel
theorem dL_law_244 : decode cL_law 244 = .ok (.iaload, 1) := by decide +kernel
theorem dL_law_245 : decode cL_law 245 = .ok (.aload_n 0, 1) := by decide +kernel
theorem dL_law_246 : decode cL_law 246 = .ok (.iload_n 3, 1) := by decide +kernel
theorem dL_law_247 : decode cL_law 247 = .ok (.iconst 2, 1) := by decide +kernel
theorem dL_law_248 : decode cL_law 248 = .ok (.iadd, 1) := by decide +kernel
theorem dL_law_249 : decode cL_law 249 = .ok (.iaload, 1) := by decide +kernel
theorem dL_law_250 : decode cL_law 250 = .ok (.invokevirtual 22, 3) := by decide +kernel
theorem dL_law_253 : decode cL_law 253 = .ok (.if_icmp .eq 931, 3) := by decide +kernel
theorem dL_law_256 : decode cL_law 256 = .ok (.iconst 0, 1) := by decide +kernel
theorem dL_law_257 : decode cL_law 257 = .ok (.ireturn, 1) := by decide +kernel
theorem dL_law_258 : decode cL_law 258 = .ok (.aload_n 1, 1) := by decide +kernel
theorem dL_law_259 : decode cL_law 259 = .ok (.aload_n 0, 1) := by decide +kernel
theorem dL_law_260 : decode cL_law 260 = .ok (.iload_n 3, 1) := by decide +kernel
theorem dL_law_261 : decode cL_law 261 = .ok (.iconst 1, 1) := by decide +kernel
theorem dL_law_262 : decode cL_law 262 = .ok (.iadd, 1) := by decide +kernel
theorem dL_law_263 : decode cL_law 263 = .ok (.iaload, 1) := by decide +kernel
theorem dL_law_264 : decode cL_law 264 = .ok (.aload_n 0, 1) := by decide +kernel
theorem dL_law_265 : decode cL_law 265 = .ok (.iload_n 3, 1) := by decide +kernel
theorem dL_law_266 : decode cL_law 266 = .ok (.iconst 2, 1) := by decide +kernel
theorem dL_law_267 : decode cL_law 267 = .ok (.iadd, 1) := by decide +kernel
theorem dL_law_268 : decode cL_law 268 = .ok (.iaload, 1) := by decide +kernel
theorem dL_law_269 : decode cL_law 269 = .ok (.aload_n 0, 1) := by decide +kernel
theorem dL_law_270 : decode cL_law 270 = .ok (.iload_n 3, 1) := by decide +kernel
theorem dL_law_271 : decode cL_law 271 = .ok (.iconst 3, 1) := by decide +kernel
theorem dL_law_272 : decode cL_law 272 = .ok (.iadd, 1) := by decide +kernel
theorem dL_law_273 : decode cL_law 273 = .ok (.iaload, 1) := by decide +kernel
theorem dL_law_274 : decode cL_law 274 = .ok (.invokevirtual 23, 3) := by decide +kernel
theorem dL_law_277 : decode cL_law 277 = .ok (.aload_n 2, 1) := by decide +kernel
theorem dL_law_278 : decode cL_law 278 = .ok (.aload_n 0, 1) := by decide +kernel
theorem dL_law_279 : decode cL_law 279 = .ok (.iload_n 3, 1) := by decide +kernel
theorem dL_law_280 : decode cL_law 280 = .ok (.iconst 1, 1) := by decide +kernel
theorem dL_law_281 : decode cL_law 281 = .ok (.iadd, 1) := by decide +kernel
theorem dL_law_282 : decode cL_law 282 = .ok (.iaload, 1) := by decide +kernel
theorem dL_law_283 : decode cL_law 283 = .ok (.aload_n 0, 1) := by decide +kernel
theorem dL_law_284 : decode cL_law 284 = .ok (.iload_n 3, 1) := by decide +kernel
theorem dL_law_285 : decode cL_law 285 = .ok (.iconst 2, 1) := by decide +kernel
theorem dL_law_286 : decode cL_law 286 = .ok (.iadd, 1) := by decide +kernel
theorem dL_law_287 : decode cL_law 287 = .ok (.iaload, 1) := by decide +kernel
theorem dL_law_288 : decode cL_law 288 = .ok (.aload_n 0, 1) := by decide +kernel
theorem dL_law_289 : decode cL_law 289 = .ok (.iload_n 3, 1) := by decide +kernel
theorem dL_law_290 : decode cL_law 290 = .ok (.iconst 3, 1) := by decide +kernel
theorem dL_law_291 : decode cL_law 291 = .ok (.iadd, 1) := by decide +kernel
theorem dL_law_292 : decode cL_law 292 = .ok (.iaload, 1) := by decide +kernel
theorem dL_law_293 : decode cL_law 293 = .ok (.invokevirtual 27, 3) := by decide +kernel
theorem dL_law_296 : decode cL_law 296 = .ok (.if_icmp .eq 888, 3) := by decide +kernel
theorem dL_law_299 : decode cL_law 299 = .ok (.iconst 0, 1) := by decide +kernel
theorem dL_law_300 : decode cL_law 300 = .ok (.ireturn, 1) := by decide +kernel
theorem dL_law_301 : decode cL_law 301 = .ok (.aload_n 1, 1) := by decide +kernel
theorem dL_law_302 : decode cL_law 302 = .ok (.aload_n 0, 1) := by decide +kernel
theorem dL_law_303 : decode cL_law 303 = .ok (.iload_n 3, 1) := by decide +kernel
theorem dL_law_304 : decode cL_law 304 = .ok (.iconst 1, 1) := by decide +kernel
theorem dL_law_305 : decode cL_law 305 = .ok (.iadd, 1) := by decide +kernel
theorem dL_law_306 : decode cL_law 306 = .ok (.iaload, 1) := by decide +kernel
theorem dL_law_307 : decode cL_law 307 = .ok (.aload_n 0, 1) := by decide +kernel
theorem dL_law_308 : decode cL_law 308 = .ok (.iload_n 3, 1) := by decide +kernel
theorem dL_law_309 : decode cL_law 309 = .ok (.iconst 2, 1) := by decide +kernel
theorem dL_law_310 : decode cL_law 310 = .ok (.iadd, 1) := by decide +kernel
theorem dL_law_311 : decode cL_law 311 = .ok (.iaload, 1) := by decide +kernel
theorem dL_law_312 : decode cL_law 312 = .ok (.ifCond .eq 7, 3) := by decide +kernel
theorem dL_law_315 : decode cL_law 315 = .ok (.iconst 1, 1) := by decide +kernel
theorem dL_law_316 : decode cL_law 316 = .ok (.goto 4, 3) := by decide +kernel
theorem dL_law_319 : decode cL_law 319 = .ok (.iconst 0, 1) := by decide +kernel
theorem dL_law_320 : decode cL_law 320 = .ok (.invokevirtual 28, 3) := by decide +kernel
theorem dL_law_323 : decode cL_law 323 = .ok (.aload_n 2, 1) := by decide +kernel
theorem dL_law_324 : decode cL_law 324 = .ok (.aload_n 0, 1) := by decide +kernel
theorem dL_law_325 : decode cL_law 325 = .ok (.iload_n 3, 1) := by decide +kernel
theorem dL_law_326 : decode cL_law 326 = .ok (.iconst 1, 1) := by decide +kernel
theorem dL_law_327 : decode cL_law 327 = .ok (.iadd, 1) := by decide +kernel
theorem dL_law_328 : decode cL_law 328 = .ok (.iaload, 1) := by decide +kernel
theorem dL_law_329 : decode cL_law 329 = .ok (.aload_n 0, 1) := by decide +kernel
theorem dL_law_330 : decode cL_law 330 = .ok (.iload_n 3, 1) := by decide +kernel
theorem dL_law_331 : decode cL_law 331 = .ok (.iconst 2, 1) := by decide +kernel
theorem dL_law_332 : decode cL_law 332 = .ok (.iadd, 1) := by decide +kernel
theorem dL_law_333 : decode cL_law 333 = .ok (.iaload, 1) := by decide +kernel
theorem dL_law_334 : decode cL_law 334 = .ok (.ifCond .eq 7, 3) := by decide +kernel
theorem dL_law_337 : decode cL_law 337 = .ok (.iconst 1, 1) := by decide +kernel
theorem dL_law_338 : decode cL_law 338 = .ok (.goto 4, 3) := by decide +kernel
theorem dL_law_341 : decode cL_law 341 = .ok (.iconst 0, 1) := by decide +kernel
theorem dL_law_342 : decode cL_law 342 = .ok (.invokevirtual 32, 3) := by decide +kernel
theorem dL_law_345 : decode cL_law 345 = .ok (.if_icmp .eq 839, 3) := by decide +kernel
theorem dL_law_348 : decode cL_law 348 = .ok (.iconst 0, 1) := by decide +kernel
theorem dL_law_349 : decode cL_law 349 = .ok (.ireturn, 1) := by decide +kernel
theorem dL_law_350 : decode cL_law 350 = .ok (.aload_n 1, 1) := by decide +kernel
theorem dL_law_351 : decode cL_law 351 = .ok (.aload_n 0, 1) := by decide +kernel
theorem dL_law_352 : decode cL_law 352 = .ok (.iload_n 3, 1) := by decide +kernel
theorem dL_law_353 : decode cL_law 353 = .ok (.iconst 1, 1) := by decide +kernel
theorem dL_law_354 : decode cL_law 354 = .ok (.iadd, 1) := by decide +kernel
theorem dL_law_355 : decode cL_law 355 = .ok (.iaload, 1) := by decide +kernel
theorem dL_law_356 : decode cL_law 356 = .ok (.invokevirtual 33, 3) := by decide +kernel
theorem dL_law_359 : decode cL_law 359 = .ok (.aload_n 2, 1) := by decide +kernel
theorem dL_law_360 : decode cL_law 360 = .ok (.aload_n 0, 1) := by decide +kernel
theorem dL_law_361 : decode cL_law 361 = .ok (.iload_n 3, 1) := by decide +kernel
theorem dL_law_362 : decode cL_law 362 = .ok (.iconst 1, 1) := by decide +kernel
theorem dL_law_363 : decode cL_law 363 = .ok (.iadd, 1) := by decide +kernel
theorem dL_law_364 : decode cL_law 364 = .ok (.iaload, 1) := by decide +kernel
theorem dL_law_365 : decode cL_law 365 = .ok (.invokevirtual 37, 3) := by decide +kernel
theorem dL_law_368 : decode cL_law 368 = .ok (.if_icmp .eq 816, 3) := by decide +kernel
theorem dL_law_371 : decode cL_law 371 = .ok (.iconst 0, 1) := by decide +kernel
theorem dL_law_372 : decode cL_law 372 = .ok (.ireturn, 1) := by decide +kernel
theorem dL_law_373 : decode cL_law 373 = .ok (.aload_n 1, 1) := by decide +kernel
theorem dL_law_374 : decode cL_law 374 = .ok (.aload_n 0, 1) := by decide +kernel
theorem dL_law_375 : decode cL_law 375 = .ok (.iload_n 3, 1) := by decide +kernel
theorem dL_law_376 : decode cL_law 376 = .ok (.iconst 1, 1) := by decide +kernel
theorem dL_law_377 : decode cL_law 377 = .ok (.iadd, 1) := by decide +kernel
theorem dL_law_378 : decode cL_law 378 = .ok (.iaload, 1) := by decide +kernel
theorem dL_law_379 : decode cL_law 379 = .ok (.aload_n 0, 1) := by decide +kernel
theorem dL_law_380 : decode cL_law 380 = .ok (.iload_n 3, 1) := by decide +kernel
theorem dL_law_381 : decode cL_law 381 = .ok (.iconst 2, 1) := by decide +kernel
theorem dL_law_382 : decode cL_law 382 = .ok (.iadd, 1) := by decide +kernel
theorem dL_law_383 : decode cL_law 383 = .ok (.iaload, 1) := by decide +kernel
theorem dL_law_384 : decode cL_law 384 = .ok (.aload_n 0, 1) := by decide +kernel
theorem dL_law_385 : decode cL_law 385 = .ok (.iload_n 3, 1) := by decide +kernel
theorem dL_law_386 : decode cL_law 386 = .ok (.iconst 3, 1) := by decide +kernel
theorem dL_law_387 : decode cL_law 387 = .ok (.iadd, 1) := by decide +kernel
theorem dL_law_388 : decode cL_law 388 = .ok (.iaload, 1) := by decide +kernel
theorem dL_law_389 : decode cL_law 389 = .ok (.invokevirtual 38, 3) := by decide +kernel
theorem dL_law_392 : decode cL_law 392 = .ok (.aload_n 2, 1) := by decide +kernel
theorem dL_law_393 : decode cL_law 393 = .ok (.aload_n 0, 1) := by decide +kernel
theorem dL_law_394 : decode cL_law 394 = .ok (.iload_n 3, 1) := by decide +kernel
theorem dL_law_395 : decode cL_law 395 = .ok (.iconst 1, 1) := by decide +kernel
theorem dL_law_396 : decode cL_law 396 = .ok (.iadd, 1) := by decide +kernel
theorem dL_law_397 : decode cL_law 397 = .ok (.iaload, 1) := by decide +kernel
theorem dL_law_398 : decode cL_law 398 = .ok (.aload_n 0, 1) := by decide +kernel
theorem dL_law_399 : decode cL_law 399 = .ok (.iload_n 3, 1) := by decide +kernel
theorem dL_law_400 : decode cL_law 400 = .ok (.iconst 2, 1) := by decide +kernel
theorem dL_law_401 : decode cL_law 401 = .ok (.iadd, 1) := by decide +kernel
theorem dL_law_402 : decode cL_law 402 = .ok (.iaload, 1) := by decide +kernel
theorem dL_law_403 : decode cL_law 403 = .ok (.aload_n 0, 1) := by decide +kernel
theorem dL_law_404 : decode cL_law 404 = .ok (.iload_n 3, 1) := by decide +kernel
theorem dL_law_405 : decode cL_law 405 = .ok (.iconst 3, 1) := by decide +kernel
theorem dL_law_406 : decode cL_law 406 = .ok (.iadd, 1) := by decide +kernel
theorem dL_law_407 : decode cL_law 407 = .ok (.iaload, 1) := by decide +kernel
theorem dL_law_408 : decode cL_law 408 = .ok (.invokevirtual 41, 3) := by decide +kernel
theorem dL_law_411 : decode cL_law 411 = .ok (.if_icmp .eq 773, 3) := by decide +kernel
theorem dL_law_414 : decode cL_law 414 = .ok (.iconst 0, 1) := by decide +kernel
theorem dL_law_415 : decode cL_law 415 = .ok (.ireturn, 1) := by decide +kernel
theorem dL_law_416 : decode cL_law 416 = .ok (.aload_n 1, 1) := by decide +kernel
theorem dL_law_417 : decode cL_law 417 = .ok (.aload_n 0, 1) := by decide +kernel
theorem dL_law_418 : decode cL_law 418 = .ok (.iload_n 3, 1) := by decide +kernel
theorem dL_law_419 : decode cL_law 419 = .ok (.iconst 1, 1) := by decide +kernel
theorem dL_law_420 : decode cL_law 420 = .ok (.iadd, 1) := by decide +kernel
theorem dL_law_421 : decode cL_law 421 = .ok (.iaload, 1) := by decide +kernel
theorem dL_law_422 : decode cL_law 422 = .ok (.invokevirtual 42, 3) := by decide +kernel
theorem dL_law_425 : decode cL_law 425 = .ok (.aload_n 2, 1) := by decide +kernel
theorem dL_law_426 : decode cL_law 426 = .ok (.aload_n 0, 1) := by decide +kernel
theorem dL_law_427 : decode cL_law 427 = .ok (.iload_n 3, 1) := by decide +kernel
theorem dL_law_428 : decode cL_law 428 = .ok (.iconst 1, 1) := by decide +kernel
theorem dL_law_429 : decode cL_law 429 = .ok (.iadd, 1) := by decide +kernel
theorem dL_law_430 : decode cL_law 430 = .ok (.iaload, 1) := by decide +kernel
theorem dL_law_431 : decode cL_law 431 = .ok (.invokevirtual 45, 3) := by decide +kernel
theorem dL_law_434 : decode cL_law 434 = .ok (.if_icmp .eq 750, 3) := by decide +kernel
theorem dL_law_437 : decode cL_law 437 = .ok (.iconst 0, 1) := by decide +kernel
theorem dL_law_438 : decode cL_law 438 = .ok (.ireturn, 1) := by decide +kernel
theorem dL_law_439 : decode cL_law 439 = .ok (.aload_n 1, 1) := by decide +kernel
theorem dL_law_440 : decode cL_law 440 = .ok (.invokevirtual 46, 3) := by decide +kernel
theorem dL_law_443 : decode cL_law 443 = .ok (.aload_n 2, 1) := by decide +kernel
theorem dL_law_444 : decode cL_law 444 = .ok (.invokevirtual 50, 3) := by decide +kernel
theorem dL_law_447 : decode cL_law 447 = .ok (.if_icmp .eq 737, 3) := by decide +kernel
theorem dL_law_450 : decode cL_law 450 = .ok (.iconst 0, 1) := by decide +kernel
theorem dL_law_451 : decode cL_law 451 = .ok (.ireturn, 1) := by decide +kernel
theorem dL_law_452 : decode cL_law 452 = .ok (.aload_n 1, 1) := by decide +kernel
theorem dL_law_453 : decode cL_law 453 = .ok (.aload_n 0, 1) := by decide +kernel
theorem dL_law_454 : decode cL_law 454 = .ok (.iload_n 3, 1) := by decide +kernel
theorem dL_law_455 : decode cL_law 455 = .ok (.iconst 1, 1) := by decide +kernel
theorem dL_law_456 : decode cL_law 456 = .ok (.iadd, 1) := by decide +kernel
theorem dL_law_457 : decode cL_law 457 = .ok (.iaload, 1) := by decide +kernel
theorem dL_law_458 : decode cL_law 458 = .ok (.invokevirtual 51, 3) := by decide +kernel
theorem dL_law_461 : decode cL_law 461 = .ok (.aload_n 2, 1) := by decide +kernel
theorem dL_law_462 : decode cL_law 462 = .ok (.aload_n 0, 1) := by decide +kernel
theorem dL_law_463 : decode cL_law 463 = .ok (.iload_n 3, 1) := by decide +kernel
theorem dL_law_464 : decode cL_law 464 = .ok (.iconst 1, 1) := by decide +kernel
theorem dL_law_465 : decode cL_law 465 = .ok (.iadd, 1) := by decide +kernel
theorem dL_law_466 : decode cL_law 466 = .ok (.iaload, 1) := by decide +kernel
theorem dL_law_467 : decode cL_law 467 = .ok (.invokevirtual 54, 3) := by decide +kernel
theorem dL_law_470 : decode cL_law 470 = .ok (.if_icmp .eq 714, 3) := by decide +kernel
theorem dL_law_473 : decode cL_law 473 = .ok (.iconst 0, 1) := by decide +kernel
theorem dL_law_474 : decode cL_law 474 = .ok (.ireturn, 1) := by decide +kernel
theorem dL_law_475 : decode cL_law 475 = .ok (.aload_n 1, 1) := by decide +kernel
theorem dL_law_476 : decode cL_law 476 = .ok (.aload_n 0, 1) := by decide +kernel
theorem dL_law_477 : decode cL_law 477 = .ok (.iload_n 3, 1) := by decide +kernel
theorem dL_law_478 : decode cL_law 478 = .ok (.iconst 1, 1) := by decide +kernel
theorem dL_law_479 : decode cL_law 479 = .ok (.iadd, 1) := by decide +kernel
theorem dL_law_480 : decode cL_law 480 = .ok (.iaload, 1) := by decide +kernel
theorem dL_law_481 : decode cL_law 481 = .ok (.invokevirtual 55, 3) := by decide +kernel
theorem dL_law_484 : decode cL_law 484 = .ok (.aload_n 2, 1) := by decide +kernel
theorem dL_law_485 : decode cL_law 485 = .ok (.aload_n 0, 1) := by decide +kernel
theorem dL_law_486 : decode cL_law 486 = .ok (.iload_n 3, 1) := by decide +kernel
theorem dL_law_487 : decode cL_law 487 = .ok (.iconst 1, 1) := by decide +kernel
theorem dL_law_488 : decode cL_law 488 = .ok (.iadd, 1) := by decide +kernel
theorem dL_law_489 : decode cL_law 489 = .ok (.iaload, 1) := by decide +kernel
theorem dL_law_490 : decode cL_law 490 = .ok (.invokevirtual 58, 3) := by decide +kernel
theorem dL_law_493 : decode cL_law 493 = .ok (.if_icmp .eq 691, 3) := by decide +kernel
theorem dL_law_496 : decode cL_law 496 = .ok (.iconst 0, 1) := by decide +kernel
theorem dL_law_497 : decode cL_law 497 = .ok (.ireturn, 1) := by decide +kernel
theorem dL_law_498 : decode cL_law 498 = .ok (.aload_n 1, 1) := by decide +kernel
theorem dL_law_499 : decode cL_law 499 = .ok (.aload_n 0, 1) := by decide +kernel
theorem dL_law_500 : decode cL_law 500 = .ok (.iload_n 3, 1) := by decide +kernel
theorem dL_law_501 : decode cL_law 501 = .ok (.iconst 1, 1) := by decide +kernel
theorem dL_law_502 : decode cL_law 502 = .ok (.iadd, 1) := by decide +kernel
theorem dL_law_503 : decode cL_law 503 = .ok (.iaload, 1) := by decide +kernel
theorem dL_law_504 : decode cL_law 504 = .ok (.aload_n 0, 1) := by decide +kernel
theorem dL_law_505 : decode cL_law 505 = .ok (.iload_n 3, 1) := by decide +kernel
theorem dL_law_506 : decode cL_law 506 = .ok (.iconst 2, 1) := by decide +kernel
theorem dL_law_507 : decode cL_law 507 = .ok (.iadd, 1) := by decide +kernel
theorem dL_law_508 : decode cL_law 508 = .ok (.iaload, 1) := by decide +kernel
theorem dL_law_509 : decode cL_law 509 = .ok (.invokevirtual 59, 3) := by decide +kernel
theorem dL_law_512 : decode cL_law 512 = .ok (.aload_n 2, 1) := by decide +kernel
theorem dL_law_513 : decode cL_law 513 = .ok (.aload_n 0, 1) := by decide +kernel
theorem dL_law_514 : decode cL_law 514 = .ok (.iload_n 3, 1) := by decide +kernel
theorem dL_law_515 : decode cL_law 515 = .ok (.iconst 1, 1) := by decide +kernel
theorem dL_law_516 : decode cL_law 516 = .ok (.iadd, 1) := by decide +kernel
theorem dL_law_517 : decode cL_law 517 = .ok (.iaload, 1) := by decide +kernel
theorem dL_law_518 : decode cL_law 518 = .ok (.aload_n 0, 1) := by decide +kernel
theorem dL_law_519 : decode cL_law 519 = .ok (.iload_n 3, 1) := by decide +kernel
theorem dL_law_520 : decode cL_law 520 = .ok (.iconst 2, 1) := by decide +kernel
theorem dL_law_521 : decode cL_law 521 = .ok (.iadd, 1) := by decide +kernel
theorem dL_law_522 : decode cL_law 522 = .ok (.iaload, 1) := by decide +kernel
theorem dL_law_523 : decode cL_law 523 = .ok (.invokevirtual 62, 3) := by decide +kernel
theorem dL_law_526 : decode cL_law 526 = .ok (.if_icmp .eq 658, 3) := by decide +kernel
theorem dL_law_529 : decode cL_law 529 = .ok (.iconst 0, 1) := by decide +kernel
theorem dL_law_530 : decode cL_law 530 = .ok (.ireturn, 1) := by decide +kernel
theorem dL_law_531 : decode cL_law 531 = .ok (.aload_n 1, 1) := by decide +kernel
theorem dL_law_532 : decode cL_law 532 = .ok (.aload_n 0, 1) := by decide +kernel
theorem dL_law_533 : decode cL_law 533 = .ok (.iload_n 3, 1) := by decide +kernel
theorem dL_law_534 : decode cL_law 534 = .ok (.iconst 1, 1) := by decide +kernel
theorem dL_law_535 : decode cL_law 535 = .ok (.iadd, 1) := by decide +kernel
theorem dL_law_536 : decode cL_law 536 = .ok (.iaload, 1) := by decide +kernel
theorem dL_law_537 : decode cL_law 537 = .ok (.aload_n 0, 1) := by decide +kernel
theorem dL_law_538 : decode cL_law 538 = .ok (.iload_n 3, 1) := by decide +kernel
theorem dL_law_539 : decode cL_law 539 = .ok (.iconst 2, 1) := by decide +kernel
theorem dL_law_540 : decode cL_law 540 = .ok (.iadd, 1) := by decide +kernel
theorem dL_law_541 : decode cL_law 541 = .ok (.iaload, 1) := by decide +kernel
theorem dL_law_542 : decode cL_law 542 = .ok (.invokevirtual 63, 3) := by decide +kernel
theorem dL_law_545 : decode cL_law 545 = .ok (.aload_n 2, 1) := by decide +kernel
theorem dL_law_546 : decode cL_law 546 = .ok (.aload_n 0, 1) := by decide +kernel
theorem dL_law_547 : decode cL_law 547 = .ok (.iload_n 3, 1) := by decide +kernel
theorem dL_law_548 : decode cL_law 548 = .ok (.iconst 1, 1) := by decide +kernel
theorem dL_law_549 : decode cL_law 549 = .ok (.iadd, 1) := by decide +kernel
theorem dL_law_550 : decode cL_law 550 = .ok (.iaload, 1) := by decide +kernel
theorem dL_law_551 : decode cL_law 551 = .ok (.aload_n 0, 1) := by decide +kernel
theorem dL_law_552 : decode cL_law 552 = .ok (.iload_n 3, 1) := by decide +kernel
theorem dL_law_553 : decode cL_law 553 = .ok (.iconst 2, 1) := by decide +kernel
theorem dL_law_554 : decode cL_law 554 = .ok (.iadd, 1) := by decide +kernel
theorem dL_law_555 : decode cL_law 555 = .ok (.iaload, 1) := by decide +kernel
theorem dL_law_556 : decode cL_law 556 = .ok (.invokevirtual 66, 3) := by decide +kernel
theorem dL_law_559 : decode cL_law 559 = .ok (.if_icmp .eq 625, 3) := by decide +kernel
theorem dL_law_562 : decode cL_law 562 = .ok (.iconst 0, 1) := by decide +kernel
theorem dL_law_563 : decode cL_law 563 = .ok (.ireturn, 1) := by decide +kernel
theorem dL_law_564 : decode cL_law 564 = .ok (.aload_n 1, 1) := by decide +kernel
theorem dL_law_565 : decode cL_law 565 = .ok (.aload_n 0, 1) := by decide +kernel
theorem dL_law_566 : decode cL_law 566 = .ok (.iload_n 3, 1) := by decide +kernel
theorem dL_law_567 : decode cL_law 567 = .ok (.iconst 1, 1) := by decide +kernel
theorem dL_law_568 : decode cL_law 568 = .ok (.iadd, 1) := by decide +kernel
theorem dL_law_569 : decode cL_law 569 = .ok (.iaload, 1) := by decide +kernel
theorem dL_law_570 : decode cL_law 570 = .ok (.aload_n 0, 1) := by decide +kernel
theorem dL_law_571 : decode cL_law 571 = .ok (.iload_n 3, 1) := by decide +kernel
theorem dL_law_572 : decode cL_law 572 = .ok (.iconst 2, 1) := by decide +kernel
theorem dL_law_573 : decode cL_law 573 = .ok (.iadd, 1) := by decide +kernel
theorem dL_law_574 : decode cL_law 574 = .ok (.iaload, 1) := by decide +kernel
theorem dL_law_575 : decode cL_law 575 = .ok (.invokevirtual 67, 3) := by decide +kernel
theorem dL_law_578 : decode cL_law 578 = .ok (.aload_n 2, 1) := by decide +kernel
theorem dL_law_579 : decode cL_law 579 = .ok (.aload_n 0, 1) := by decide +kernel
theorem dL_law_580 : decode cL_law 580 = .ok (.iload_n 3, 1) := by decide +kernel
theorem dL_law_581 : decode cL_law 581 = .ok (.iconst 1, 1) := by decide +kernel
theorem dL_law_582 : decode cL_law 582 = .ok (.iadd, 1) := by decide +kernel
theorem dL_law_583 : decode cL_law 583 = .ok (.iaload, 1) := by decide +kernel
theorem dL_law_584 : decode cL_law 584 = .ok (.aload_n 0, 1) := by decide +kernel
theorem dL_law_585 : decode cL_law 585 = .ok (.iload_n 3, 1) := by decide +kernel
theorem dL_law_586 : decode cL_law 586 = .ok (.iconst 2, 1) := by decide +kernel
theorem dL_law_587 : decode cL_law 587 = .ok (.iadd, 1) := by decide +kernel
theorem dL_law_588 : decode cL_law 588 = .ok (.iaload, 1) := by decide +kernel
theorem dL_law_589 : decode cL_law 589 = .ok (.invokevirtual 70, 3) := by decide +kernel
theorem dL_law_592 : decode cL_law 592 = .ok (.if_icmp .eq 592, 3) := by decide +kernel
theorem dL_law_595 : decode cL_law 595 = .ok (.iconst 0, 1) := by decide +kernel
theorem dL_law_596 : decode cL_law 596 = .ok (.ireturn, 1) := by decide +kernel
theorem dL_law_597 : decode cL_law 597 = .ok (.aload_n 1, 1) := by decide +kernel
theorem dL_law_598 : decode cL_law 598 = .ok (.aload_n 0, 1) := by decide +kernel
theorem dL_law_599 : decode cL_law 599 = .ok (.iload_n 3, 1) := by decide +kernel
theorem dL_law_600 : decode cL_law 600 = .ok (.iconst 1, 1) := by decide +kernel
theorem dL_law_601 : decode cL_law 601 = .ok (.iadd, 1) := by decide +kernel
theorem dL_law_602 : decode cL_law 602 = .ok (.iaload, 1) := by decide +kernel
theorem dL_law_603 : decode cL_law 603 = .ok (.aload_n 0, 1) := by decide +kernel
theorem dL_law_604 : decode cL_law 604 = .ok (.iload_n 3, 1) := by decide +kernel
theorem dL_law_605 : decode cL_law 605 = .ok (.iconst 2, 1) := by decide +kernel
theorem dL_law_606 : decode cL_law 606 = .ok (.iadd, 1) := by decide +kernel
theorem dL_law_607 : decode cL_law 607 = .ok (.iaload, 1) := by decide +kernel
theorem dL_law_608 : decode cL_law 608 = .ok (.invokevirtual 71, 3) := by decide +kernel
theorem dL_law_611 : decode cL_law 611 = .ok (.aload_n 2, 1) := by decide +kernel
theorem dL_law_612 : decode cL_law 612 = .ok (.aload_n 0, 1) := by decide +kernel
theorem dL_law_613 : decode cL_law 613 = .ok (.iload_n 3, 1) := by decide +kernel
theorem dL_law_614 : decode cL_law 614 = .ok (.iconst 1, 1) := by decide +kernel
theorem dL_law_615 : decode cL_law 615 = .ok (.iadd, 1) := by decide +kernel
theorem dL_law_616 : decode cL_law 616 = .ok (.iaload, 1) := by decide +kernel
theorem dL_law_617 : decode cL_law 617 = .ok (.aload_n 0, 1) := by decide +kernel
theorem dL_law_618 : decode cL_law 618 = .ok (.iload_n 3, 1) := by decide +kernel
theorem dL_law_619 : decode cL_law 619 = .ok (.iconst 2, 1) := by decide +kernel
theorem dL_law_620 : decode cL_law 620 = .ok (.iadd, 1) := by decide +kernel
theorem dL_law_621 : decode cL_law 621 = .ok (.iaload, 1) := by decide +kernel
theorem dL_law_622 : decode cL_law 622 = .ok (.invokevirtual 74, 3) := by decide +kernel
theorem dL_law_625 : decode cL_law 625 = .ok (.if_icmp .eq 559, 3) := by decide +kernel
theorem dL_law_628 : decode cL_law 628 = .ok (.iconst 0, 1) := by decide +kernel
theorem dL_law_629 : decode cL_law 629 = .ok (.ireturn, 1) := by decide +kernel
theorem dL_law_630 : decode cL_law 630 = .ok (.aload_n 1, 1) := by decide +kernel
theorem dL_law_631 : decode cL_law 631 = .ok (.aload_n 0, 1) := by decide +kernel
theorem dL_law_632 : decode cL_law 632 = .ok (.iload_n 3, 1) := by decide +kernel
theorem dL_law_633 : decode cL_law 633 = .ok (.iconst 1, 1) := by decide +kernel
theorem dL_law_634 : decode cL_law 634 = .ok (.iadd, 1) := by decide +kernel
theorem dL_law_635 : decode cL_law 635 = .ok (.iaload, 1) := by decide +kernel
theorem dL_law_636 : decode cL_law 636 = .ok (.aload_n 0, 1) := by decide +kernel
theorem dL_law_637 : decode cL_law 637 = .ok (.iload_n 3, 1) := by decide +kernel
theorem dL_law_638 : decode cL_law 638 = .ok (.iconst 2, 1) := by decide +kernel
theorem dL_law_639 : decode cL_law 639 = .ok (.iadd, 1) := by decide +kernel
theorem dL_law_640 : decode cL_law 640 = .ok (.iaload, 1) := by decide +kernel
theorem dL_law_641 : decode cL_law 641 = .ok (.invokevirtual 75, 3) := by decide +kernel
theorem dL_law_644 : decode cL_law 644 = .ok (.aload_n 2, 1) := by decide +kernel
theorem dL_law_645 : decode cL_law 645 = .ok (.aload_n 0, 1) := by decide +kernel
theorem dL_law_646 : decode cL_law 646 = .ok (.iload_n 3, 1) := by decide +kernel
theorem dL_law_647 : decode cL_law 647 = .ok (.iconst 1, 1) := by decide +kernel
theorem dL_law_648 : decode cL_law 648 = .ok (.iadd, 1) := by decide +kernel
theorem dL_law_649 : decode cL_law 649 = .ok (.iaload, 1) := by decide +kernel
theorem dL_law_650 : decode cL_law 650 = .ok (.aload_n 0, 1) := by decide +kernel
theorem dL_law_651 : decode cL_law 651 = .ok (.iload_n 3, 1) := by decide +kernel
theorem dL_law_652 : decode cL_law 652 = .ok (.iconst 2, 1) := by decide +kernel
theorem dL_law_653 : decode cL_law 653 = .ok (.iadd, 1) := by decide +kernel
theorem dL_law_654 : decode cL_law 654 = .ok (.iaload, 1) := by decide +kernel
theorem dL_law_655 : decode cL_law 655 = .ok (.invokevirtual 79, 3) := by decide +kernel
theorem dL_law_658 : decode cL_law 658 = .ok (.lcmp, 1) := by decide +kernel
theorem dL_law_659 : decode cL_law 659 = .ok (.ifCond .eq 525, 3) := by decide +kernel
theorem dL_law_662 : decode cL_law 662 = .ok (.iconst 0, 1) := by decide +kernel
theorem dL_law_663 : decode cL_law 663 = .ok (.ireturn, 1) := by decide +kernel
theorem dL_law_664 : decode cL_law 664 = .ok (.aload_n 1, 1) := by decide +kernel
theorem dL_law_665 : decode cL_law 665 = .ok (.aload_n 0, 1) := by decide +kernel
theorem dL_law_666 : decode cL_law 666 = .ok (.iload_n 3, 1) := by decide +kernel
theorem dL_law_667 : decode cL_law 667 = .ok (.iconst 1, 1) := by decide +kernel
theorem dL_law_668 : decode cL_law 668 = .ok (.iadd, 1) := by decide +kernel
theorem dL_law_669 : decode cL_law 669 = .ok (.iaload, 1) := by decide +kernel
theorem dL_law_670 : decode cL_law 670 = .ok (.invokevirtual 80, 3) := by decide +kernel
theorem dL_law_673 : decode cL_law 673 = .ok (.aload_n 2, 1) := by decide +kernel
theorem dL_law_674 : decode cL_law 674 = .ok (.aload_n 0, 1) := by decide +kernel
theorem dL_law_675 : decode cL_law 675 = .ok (.iload_n 3, 1) := by decide +kernel
theorem dL_law_676 : decode cL_law 676 = .ok (.iconst 1, 1) := by decide +kernel
theorem dL_law_677 : decode cL_law 677 = .ok (.iadd, 1) := by decide +kernel
theorem dL_law_678 : decode cL_law 678 = .ok (.iaload, 1) := by decide +kernel
theorem dL_law_679 : decode cL_law 679 = .ok (.invokevirtual 84, 3) := by decide +kernel
theorem dL_law_682 : decode cL_law 682 = .ok (.lcmp, 1) := by decide +kernel
theorem dL_law_683 : decode cL_law 683 = .ok (.ifCond .eq 501, 3) := by decide +kernel
theorem dL_law_686 : decode cL_law 686 = .ok (.iconst 0, 1) := by decide +kernel
theorem dL_law_687 : decode cL_law 687 = .ok (.ireturn, 1) := by decide +kernel
theorem dL_law_688 : decode cL_law 688 = .ok (.aload_n 1, 1) := by decide +kernel
theorem dL_law_689 : decode cL_law 689 = .ok (.aload_n 0, 1) := by decide +kernel
theorem dL_law_690 : decode cL_law 690 = .ok (.iload_n 3, 1) := by decide +kernel
theorem dL_law_691 : decode cL_law 691 = .ok (.iconst 1, 1) := by decide +kernel
theorem dL_law_692 : decode cL_law 692 = .ok (.iadd, 1) := by decide +kernel
theorem dL_law_693 : decode cL_law 693 = .ok (.iaload, 1) := by decide +kernel
theorem dL_law_694 : decode cL_law 694 = .ok (.aload_n 0, 1) := by decide +kernel
theorem dL_law_695 : decode cL_law 695 = .ok (.iload_n 3, 1) := by decide +kernel
theorem dL_law_696 : decode cL_law 696 = .ok (.iconst 2, 1) := by decide +kernel
theorem dL_law_697 : decode cL_law 697 = .ok (.iadd, 1) := by decide +kernel
theorem dL_law_698 : decode cL_law 698 = .ok (.iaload, 1) := by decide +kernel
theorem dL_law_699 : decode cL_law 699 = .ok (.invokevirtual 85, 3) := by decide +kernel
theorem dL_law_702 : decode cL_law 702 = .ok (.aload_n 2, 1) := by decide +kernel
theorem dL_law_703 : decode cL_law 703 = .ok (.aload_n 0, 1) := by decide +kernel
theorem dL_law_704 : decode cL_law 704 = .ok (.iload_n 3, 1) := by decide +kernel
theorem dL_law_705 : decode cL_law 705 = .ok (.iconst 1, 1) := by decide +kernel
theorem dL_law_706 : decode cL_law 706 = .ok (.iadd, 1) := by decide +kernel
theorem dL_law_707 : decode cL_law 707 = .ok (.iaload, 1) := by decide +kernel
theorem dL_law_708 : decode cL_law 708 = .ok (.aload_n 0, 1) := by decide +kernel
theorem dL_law_709 : decode cL_law 709 = .ok (.iload_n 3, 1) := by decide +kernel
theorem dL_law_710 : decode cL_law 710 = .ok (.iconst 2, 1) := by decide +kernel
theorem dL_law_711 : decode cL_law 711 = .ok (.iadd, 1) := by decide +kernel
theorem dL_law_712 : decode cL_law 712 = .ok (.iaload, 1) := by decide +kernel
theorem dL_law_713 : decode cL_law 713 = .ok (.invokevirtual 88, 3) := by decide +kernel
theorem dL_law_716 : decode cL_law 716 = .ok (.if_icmp .eq 468, 3) := by decide +kernel
theorem dL_law_719 : decode cL_law 719 = .ok (.iconst 0, 1) := by decide +kernel
theorem dL_law_720 : decode cL_law 720 = .ok (.ireturn, 1) := by decide +kernel
theorem dL_law_721 : decode cL_law 721 = .ok (.aload_n 1, 1) := by decide +kernel
theorem dL_law_722 : decode cL_law 722 = .ok (.aload_n 0, 1) := by decide +kernel
theorem dL_law_723 : decode cL_law 723 = .ok (.iload_n 3, 1) := by decide +kernel
theorem dL_law_724 : decode cL_law 724 = .ok (.iconst 1, 1) := by decide +kernel
theorem dL_law_725 : decode cL_law 725 = .ok (.iadd, 1) := by decide +kernel
theorem dL_law_726 : decode cL_law 726 = .ok (.iaload, 1) := by decide +kernel
theorem dL_law_727 : decode cL_law 727 = .ok (.invokevirtual 89, 3) := by decide +kernel
theorem dL_law_730 : decode cL_law 730 = .ok (.aload_n 2, 1) := by decide +kernel
theorem dL_law_731 : decode cL_law 731 = .ok (.aload_n 0, 1) := by decide +kernel
theorem dL_law_732 : decode cL_law 732 = .ok (.iload_n 3, 1) := by decide +kernel
theorem dL_law_733 : decode cL_law 733 = .ok (.iconst 1, 1) := by decide +kernel
theorem dL_law_734 : decode cL_law 734 = .ok (.iadd, 1) := by decide +kernel
theorem dL_law_735 : decode cL_law 735 = .ok (.iaload, 1) := by decide +kernel
theorem dL_law_736 : decode cL_law 736 = .ok (.invokevirtual 92, 3) := by decide +kernel
theorem dL_law_739 : decode cL_law 739 = .ok (.if_icmp .eq 445, 3) := by decide +kernel
theorem dL_law_742 : decode cL_law 742 = .ok (.iconst 0, 1) := by decide +kernel
theorem dL_law_743 : decode cL_law 743 = .ok (.ireturn, 1) := by decide +kernel
theorem dL_law_744 : decode cL_law 744 = .ok (.aload_n 1, 1) := by decide +kernel
theorem dL_law_745 : decode cL_law 745 = .ok (.aload_n 0, 1) := by decide +kernel
theorem dL_law_746 : decode cL_law 746 = .ok (.iload_n 3, 1) := by decide +kernel
theorem dL_law_747 : decode cL_law 747 = .ok (.iconst 1, 1) := by decide +kernel
theorem dL_law_748 : decode cL_law 748 = .ok (.iadd, 1) := by decide +kernel
theorem dL_law_749 : decode cL_law 749 = .ok (.iaload, 1) := by decide +kernel
theorem dL_law_750 : decode cL_law 750 = .ok (.aload_n 0, 1) := by decide +kernel
theorem dL_law_751 : decode cL_law 751 = .ok (.iload_n 3, 1) := by decide +kernel
theorem dL_law_752 : decode cL_law 752 = .ok (.iconst 2, 1) := by decide +kernel
theorem dL_law_753 : decode cL_law 753 = .ok (.iadd, 1) := by decide +kernel
theorem dL_law_754 : decode cL_law 754 = .ok (.iaload, 1) := by decide +kernel
theorem dL_law_755 : decode cL_law 755 = .ok (.invokevirtual 93, 3) := by decide +kernel
theorem dL_law_758 : decode cL_law 758 = .ok (.aload_n 2, 1) := by decide +kernel
theorem dL_law_759 : decode cL_law 759 = .ok (.aload_n 0, 1) := by decide +kernel
theorem dL_law_760 : decode cL_law 760 = .ok (.iload_n 3, 1) := by decide +kernel
theorem dL_law_761 : decode cL_law 761 = .ok (.iconst 1, 1) := by decide +kernel
theorem dL_law_762 : decode cL_law 762 = .ok (.iadd, 1) := by decide +kernel
theorem dL_law_763 : decode cL_law 763 = .ok (.iaload, 1) := by decide +kernel
theorem dL_law_764 : decode cL_law 764 = .ok (.aload_n 0, 1) := by decide +kernel
theorem dL_law_765 : decode cL_law 765 = .ok (.iload_n 3, 1) := by decide +kernel
theorem dL_law_766 : decode cL_law 766 = .ok (.iconst 2, 1) := by decide +kernel
theorem dL_law_767 : decode cL_law 767 = .ok (.iadd, 1) := by decide +kernel
theorem dL_law_768 : decode cL_law 768 = .ok (.iaload, 1) := by decide +kernel
theorem dL_law_769 : decode cL_law 769 = .ok (.invokevirtual 96, 3) := by decide +kernel
theorem dL_law_772 : decode cL_law 772 = .ok (.if_icmp .eq 412, 3) := by decide +kernel
theorem dL_law_775 : decode cL_law 775 = .ok (.iconst 0, 1) := by decide +kernel
theorem dL_law_776 : decode cL_law 776 = .ok (.ireturn, 1) := by decide +kernel
theorem dL_law_777 : decode cL_law 777 = .ok (.aload_n 1, 1) := by decide +kernel
theorem dL_law_778 : decode cL_law 778 = .ok (.invokevirtual 97, 3) := by decide +kernel
theorem dL_law_781 : decode cL_law 781 = .ok (.aload_n 2, 1) := by decide +kernel
theorem dL_law_782 : decode cL_law 782 = .ok (.invokevirtual 100, 3) := by decide +kernel
theorem dL_law_785 : decode cL_law 785 = .ok (.if_icmp .eq 399, 3) := by decide +kernel
theorem dL_law_788 : decode cL_law 788 = .ok (.iconst 0, 1) := by decide +kernel
theorem dL_law_789 : decode cL_law 789 = .ok (.ireturn, 1) := by decide +kernel
theorem dL_law_790 : decode cL_law 790 = .ok (.aload_n 1, 1) := by decide +kernel
theorem dL_law_791 : decode cL_law 791 = .ok (.aload_n 0, 1) := by decide +kernel
theorem dL_law_792 : decode cL_law 792 = .ok (.iload_n 3, 1) := by decide +kernel
theorem dL_law_793 : decode cL_law 793 = .ok (.iconst 1, 1) := by decide +kernel
theorem dL_law_794 : decode cL_law 794 = .ok (.iadd, 1) := by decide +kernel
theorem dL_law_795 : decode cL_law 795 = .ok (.iaload, 1) := by decide +kernel
theorem dL_law_796 : decode cL_law 796 = .ok (.aload_n 0, 1) := by decide +kernel
theorem dL_law_797 : decode cL_law 797 = .ok (.iload_n 3, 1) := by decide +kernel
theorem dL_law_798 : decode cL_law 798 = .ok (.iconst 2, 1) := by decide +kernel
theorem dL_law_799 : decode cL_law 799 = .ok (.iadd, 1) := by decide +kernel
theorem dL_law_800 : decode cL_law 800 = .ok (.iaload, 1) := by decide +kernel
theorem dL_law_801 : decode cL_law 801 = .ok (.invokevirtual 101, 3) := by decide +kernel
theorem dL_law_804 : decode cL_law 804 = .ok (.aload_n 2, 1) := by decide +kernel
theorem dL_law_805 : decode cL_law 805 = .ok (.aload_n 0, 1) := by decide +kernel
theorem dL_law_806 : decode cL_law 806 = .ok (.iload_n 3, 1) := by decide +kernel
theorem dL_law_807 : decode cL_law 807 = .ok (.iconst 1, 1) := by decide +kernel
theorem dL_law_808 : decode cL_law 808 = .ok (.iadd, 1) := by decide +kernel
theorem dL_law_809 : decode cL_law 809 = .ok (.iaload, 1) := by decide +kernel
theorem dL_law_810 : decode cL_law 810 = .ok (.aload_n 0, 1) := by decide +kernel
theorem dL_law_811 : decode cL_law 811 = .ok (.iload_n 3, 1) := by decide +kernel
theorem dL_law_812 : decode cL_law 812 = .ok (.iconst 2, 1) := by decide +kernel
theorem dL_law_813 : decode cL_law 813 = .ok (.iadd, 1) := by decide +kernel
theorem dL_law_814 : decode cL_law 814 = .ok (.iaload, 1) := by decide +kernel
theorem dL_law_815 : decode cL_law 815 = .ok (.invokevirtual 104, 3) := by decide +kernel
theorem dL_law_818 : decode cL_law 818 = .ok (.if_icmp .eq 366, 3) := by decide +kernel
theorem dL_law_821 : decode cL_law 821 = .ok (.iconst 0, 1) := by decide +kernel
theorem dL_law_822 : decode cL_law 822 = .ok (.ireturn, 1) := by decide +kernel
theorem dL_law_823 : decode cL_law 823 = .ok (.aload_n 1, 1) := by decide +kernel
theorem dL_law_824 : decode cL_law 824 = .ok (.invokevirtual 105, 3) := by decide +kernel
theorem dL_law_827 : decode cL_law 827 = .ok (.aload_n 2, 1) := by decide +kernel
theorem dL_law_828 : decode cL_law 828 = .ok (.invokevirtual 108, 3) := by decide +kernel
theorem dL_law_831 : decode cL_law 831 = .ok (.if_icmp .eq 353, 3) := by decide +kernel
theorem dL_law_834 : decode cL_law 834 = .ok (.iconst 0, 1) := by decide +kernel
theorem dL_law_835 : decode cL_law 835 = .ok (.ireturn, 1) := by decide +kernel
theorem dL_law_836 : decode cL_law 836 = .ok (.aload_n 1, 1) := by decide +kernel
theorem dL_law_837 : decode cL_law 837 = .ok (.invokevirtual 109, 3) := by decide +kernel
theorem dL_law_840 : decode cL_law 840 = .ok (.aload_n 2, 1) := by decide +kernel
theorem dL_law_841 : decode cL_law 841 = .ok (.invokevirtual 112, 3) := by decide +kernel
theorem dL_law_844 : decode cL_law 844 = .ok (.if_icmp .eq 340, 3) := by decide +kernel
theorem dL_law_847 : decode cL_law 847 = .ok (.iconst 0, 1) := by decide +kernel
theorem dL_law_848 : decode cL_law 848 = .ok (.ireturn, 1) := by decide +kernel
theorem dL_law_849 : decode cL_law 849 = .ok (.aload_n 1, 1) := by decide +kernel
theorem dL_law_850 : decode cL_law 850 = .ok (.aload_n 0, 1) := by decide +kernel
theorem dL_law_851 : decode cL_law 851 = .ok (.iload_n 3, 1) := by decide +kernel
theorem dL_law_852 : decode cL_law 852 = .ok (.iconst 1, 1) := by decide +kernel
theorem dL_law_853 : decode cL_law 853 = .ok (.iadd, 1) := by decide +kernel
theorem dL_law_854 : decode cL_law 854 = .ok (.iaload, 1) := by decide +kernel
theorem dL_law_855 : decode cL_law 855 = .ok (.aload_n 0, 1) := by decide +kernel
theorem dL_law_856 : decode cL_law 856 = .ok (.iload_n 3, 1) := by decide +kernel
theorem dL_law_857 : decode cL_law 857 = .ok (.iconst 2, 1) := by decide +kernel
theorem dL_law_858 : decode cL_law 858 = .ok (.iadd, 1) := by decide +kernel
theorem dL_law_859 : decode cL_law 859 = .ok (.iaload, 1) := by decide +kernel
theorem dL_law_860 : decode cL_law 860 = .ok (.aload_n 0, 1) := by decide +kernel
theorem dL_law_861 : decode cL_law 861 = .ok (.iload_n 3, 1) := by decide +kernel
theorem dL_law_862 : decode cL_law 862 = .ok (.iconst 3, 1) := by decide +kernel
theorem dL_law_863 : decode cL_law 863 = .ok (.iadd, 1) := by decide +kernel
theorem dL_law_864 : decode cL_law 864 = .ok (.iaload, 1) := by decide +kernel
theorem dL_law_865 : decode cL_law 865 = .ok (.invokevirtual 113, 3) := by decide +kernel
theorem dL_law_868 : decode cL_law 868 = .ok (.aload_n 2, 1) := by decide +kernel
theorem dL_law_869 : decode cL_law 869 = .ok (.aload_n 0, 1) := by decide +kernel
theorem dL_law_870 : decode cL_law 870 = .ok (.iload_n 3, 1) := by decide +kernel
theorem dL_law_871 : decode cL_law 871 = .ok (.iconst 1, 1) := by decide +kernel
theorem dL_law_872 : decode cL_law 872 = .ok (.iadd, 1) := by decide +kernel
theorem dL_law_873 : decode cL_law 873 = .ok (.iaload, 1) := by decide +kernel
theorem dL_law_874 : decode cL_law 874 = .ok (.aload_n 0, 1) := by decide +kernel
theorem dL_law_875 : decode cL_law 875 = .ok (.iload_n 3, 1) := by decide +kernel
theorem dL_law_876 : decode cL_law 876 = .ok (.iconst 2, 1) := by decide +kernel
theorem dL_law_877 : decode cL_law 877 = .ok (.iadd, 1) := by decide +kernel
theorem dL_law_878 : decode cL_law 878 = .ok (.iaload, 1) := by decide +kernel
theorem dL_law_879 : decode cL_law 879 = .ok (.aload_n 0, 1) := by decide +kernel
theorem dL_law_880 : decode cL_law 880 = .ok (.iload_n 3, 1) := by decide +kernel
theorem dL_law_881 : decode cL_law 881 = .ok (.iconst 3, 1) := by decide +kernel
theorem dL_law_882 : decode cL_law 882 = .ok (.iadd, 1) := by decide +kernel
theorem dL_law_883 : decode cL_law 883 = .ok (.iaload, 1) := by decide +kernel
theorem dL_law_884 : decode cL_law 884 = .ok (.invokevirtual 116, 3) := by decide +kernel
theorem dL_law_887 : decode cL_law 887 = .ok (.if_icmp .eq 297, 3) := by decide +kernel
theorem dL_law_890 : decode cL_law 890 = .ok (.iconst 0, 1) := by decide +kernel
theorem dL_law_891 : decode cL_law 891 = .ok (.ireturn, 1) := by decide +kernel
theorem dL_law_892 : decode cL_law 892 = .ok (.aload_n 1, 1) := by decide +kernel
theorem dL_law_893 : decode cL_law 893 = .ok (.aload_n 0, 1) := by decide +kernel
theorem dL_law_894 : decode cL_law 894 = .ok (.iload_n 3, 1) := by decide +kernel
theorem dL_law_895 : decode cL_law 895 = .ok (.iconst 1, 1) := by decide +kernel
theorem dL_law_896 : decode cL_law 896 = .ok (.iadd, 1) := by decide +kernel
theorem dL_law_897 : decode cL_law 897 = .ok (.iaload, 1) := by decide +kernel
theorem dL_law_898 : decode cL_law 898 = .ok (.invokevirtual 117, 3) := by decide +kernel
theorem dL_law_901 : decode cL_law 901 = .ok (.aload_n 2, 1) := by decide +kernel
theorem dL_law_902 : decode cL_law 902 = .ok (.aload_n 0, 1) := by decide +kernel
theorem dL_law_903 : decode cL_law 903 = .ok (.iload_n 3, 1) := by decide +kernel
theorem dL_law_904 : decode cL_law 904 = .ok (.iconst 1, 1) := by decide +kernel
theorem dL_law_905 : decode cL_law 905 = .ok (.iadd, 1) := by decide +kernel
theorem dL_law_906 : decode cL_law 906 = .ok (.iaload, 1) := by decide +kernel
theorem dL_law_907 : decode cL_law 907 = .ok (.invokevirtual 120, 3) := by decide +kernel
theorem dL_law_910 : decode cL_law 910 = .ok (.if_icmp .eq 274, 3) := by decide +kernel
theorem dL_law_913 : decode cL_law 913 = .ok (.iconst 0, 1) := by decide +kernel
theorem dL_law_914 : decode cL_law 914 = .ok (.ireturn, 1) := by decide +kernel
theorem dL_law_915 : decode cL_law 915 = .ok (.aload_n 1, 1) := by decide +kernel
theorem dL_law_916 : decode cL_law 916 = .ok (.aload_n 0, 1) := by decide +kernel
theorem dL_law_917 : decode cL_law 917 = .ok (.iload_n 3, 1) := by decide +kernel
theorem dL_law_918 : decode cL_law 918 = .ok (.iconst 1, 1) := by decide +kernel
theorem dL_law_919 : decode cL_law 919 = .ok (.iadd, 1) := by decide +kernel
theorem dL_law_920 : decode cL_law 920 = .ok (.iaload, 1) := by decide +kernel
theorem dL_law_921 : decode cL_law 921 = .ok (.aload_n 0, 1) := by decide +kernel
theorem dL_law_922 : decode cL_law 922 = .ok (.iload_n 3, 1) := by decide +kernel
theorem dL_law_923 : decode cL_law 923 = .ok (.iconst 2, 1) := by decide +kernel
theorem dL_law_924 : decode cL_law 924 = .ok (.iadd, 1) := by decide +kernel
theorem dL_law_925 : decode cL_law 925 = .ok (.iaload, 1) := by decide +kernel
theorem dL_law_926 : decode cL_law 926 = .ok (.invokevirtual 121, 3) := by decide +kernel
theorem dL_law_929 : decode cL_law 929 = .ok (.aload_n 2, 1) := by decide +kernel
theorem dL_law_930 : decode cL_law 930 = .ok (.aload_n 0, 1) := by decide +kernel
theorem dL_law_931 : decode cL_law 931 = .ok (.iload_n 3, 1) := by decide +kernel
theorem dL_law_932 : decode cL_law 932 = .ok (.iconst 1, 1) := by decide +kernel
theorem dL_law_933 : decode cL_law 933 = .ok (.iadd, 1) := by decide +kernel
theorem dL_law_934 : decode cL_law 934 = .ok (.iaload, 1) := by decide +kernel
theorem dL_law_935 : decode cL_law 935 = .ok (.aload_n 0, 1) := by decide +kernel
theorem dL_law_936 : decode cL_law 936 = .ok (.iload_n 3, 1) := by decide +kernel
theorem dL_law_937 : decode cL_law 937 = .ok (.iconst 2, 1) := by decide +kernel
theorem dL_law_938 : decode cL_law 938 = .ok (.iadd, 1) := by decide +kernel
theorem dL_law_939 : decode cL_law 939 = .ok (.iaload, 1) := by decide +kernel
theorem dL_law_940 : decode cL_law 940 = .ok (.invokevirtual 124, 3) := by decide +kernel
theorem dL_law_943 : decode cL_law 943 = .ok (.if_icmp .eq 241, 3) := by decide +kernel
theorem dL_law_946 : decode cL_law 946 = .ok (.iconst 0, 1) := by decide +kernel
theorem dL_law_947 : decode cL_law 947 = .ok (.ireturn, 1) := by decide +kernel
theorem dL_law_948 : decode cL_law 948 = .ok (.aload_n 1, 1) := by decide +kernel
theorem dL_law_949 : decode cL_law 949 = .ok (.aload_n 0, 1) := by decide +kernel
theorem dL_law_950 : decode cL_law 950 = .ok (.iload_n 3, 1) := by decide +kernel
theorem dL_law_951 : decode cL_law 951 = .ok (.iconst 1, 1) := by decide +kernel
theorem dL_law_952 : decode cL_law 952 = .ok (.iadd, 1) := by decide +kernel
theorem dL_law_953 : decode cL_law 953 = .ok (.iaload, 1) := by decide +kernel
theorem dL_law_954 : decode cL_law 954 = .ok (.invokevirtual 125, 3) := by decide +kernel
theorem dL_law_957 : decode cL_law 957 = .ok (.aload_n 2, 1) := by decide +kernel
theorem dL_law_958 : decode cL_law 958 = .ok (.aload_n 0, 1) := by decide +kernel
theorem dL_law_959 : decode cL_law 959 = .ok (.iload_n 3, 1) := by decide +kernel
theorem dL_law_960 : decode cL_law 960 = .ok (.iconst 1, 1) := by decide +kernel
theorem dL_law_961 : decode cL_law 961 = .ok (.iadd, 1) := by decide +kernel
theorem dL_law_962 : decode cL_law 962 = .ok (.iaload, 1) := by decide +kernel
theorem dL_law_963 : decode cL_law 963 = .ok (.invokevirtual 128, 3) := by decide +kernel
theorem dL_law_966 : decode cL_law 966 = .ok (.if_icmp .eq 218, 3) := by decide +kernel
theorem dL_law_969 : decode cL_law 969 = .ok (.iconst 0, 1) := by decide +kernel
theorem dL_law_970 : decode cL_law 970 = .ok (.ireturn, 1) := by decide +kernel
theorem dL_law_971 : decode cL_law 971 = .ok (.aload_n 1, 1) := by decide +kernel
theorem dL_law_972 : decode cL_law 972 = .ok (.aload_n 0, 1) := by decide +kernel
theorem dL_law_973 : decode cL_law 973 = .ok (.iload_n 3, 1) := by decide +kernel
theorem dL_law_974 : decode cL_law 974 = .ok (.iconst 1, 1) := by decide +kernel
theorem dL_law_975 : decode cL_law 975 = .ok (.iadd, 1) := by decide +kernel
theorem dL_law_976 : decode cL_law 976 = .ok (.iaload, 1) := by decide +kernel
theorem dL_law_977 : decode cL_law 977 = .ok (.aload_n 0, 1) := by decide +kernel
theorem dL_law_978 : decode cL_law 978 = .ok (.iload_n 3, 1) := by decide +kernel
theorem dL_law_979 : decode cL_law 979 = .ok (.iconst 2, 1) := by decide +kernel
theorem dL_law_980 : decode cL_law 980 = .ok (.iadd, 1) := by decide +kernel
theorem dL_law_981 : decode cL_law 981 = .ok (.iaload, 1) := by decide +kernel
theorem dL_law_982 : decode cL_law 982 = .ok (.aload_n 0, 1) := by decide +kernel
theorem dL_law_983 : decode cL_law 983 = .ok (.iload_n 3, 1) := by decide +kernel
theorem dL_law_984 : decode cL_law 984 = .ok (.iconst 3, 1) := by decide +kernel
theorem dL_law_985 : decode cL_law 985 = .ok (.iadd, 1) := by decide +kernel
theorem dL_law_986 : decode cL_law 986 = .ok (.iaload, 1) := by decide +kernel
theorem dL_law_987 : decode cL_law 987 = .ok (.invokevirtual 129, 3) := by decide +kernel
theorem dL_law_990 : decode cL_law 990 = .ok (.aload_n 2, 1) := by decide +kernel
theorem dL_law_991 : decode cL_law 991 = .ok (.aload_n 0, 1) := by decide +kernel
theorem dL_law_992 : decode cL_law 992 = .ok (.iload_n 3, 1) := by decide +kernel
theorem dL_law_993 : decode cL_law 993 = .ok (.iconst 1, 1) := by decide +kernel
theorem dL_law_994 : decode cL_law 994 = .ok (.iadd, 1) := by decide +kernel
theorem dL_law_995 : decode cL_law 995 = .ok (.iaload, 1) := by decide +kernel
theorem dL_law_996 : decode cL_law 996 = .ok (.aload_n 0, 1) := by decide +kernel
theorem dL_law_997 : decode cL_law 997 = .ok (.iload_n 3, 1) := by decide +kernel
theorem dL_law_998 : decode cL_law 998 = .ok (.iconst 2, 1) := by decide +kernel
theorem dL_law_999 : decode cL_law 999 = .ok (.iadd, 1) := by decide +kernel
theorem dL_law_1000 : decode cL_law 1000 = .ok (.iaload, 1) := by decide +kernel
theorem dL_law_1001 : decode cL_law 1001 = .ok (.aload_n 0, 1) := by decide +kernel
theorem dL_law_1002 : decode cL_law 1002 = .ok (.iload_n 3, 1) := by decide +kernel
theorem dL_law_1003 : decode cL_law 1003 = .ok (.iconst 3, 1) := by decide +kernel
theorem dL_law_1004 : decode cL_law 1004 = .ok (.iadd, 1) := by decide +kernel
theorem dL_law_1005 : decode cL_law 1005 = .ok (.iaload, 1) := by decide +kernel
theorem dL_law_1006 : decode cL_law 1006 = .ok (.invokevirtual 132, 3) := by decide +kernel
theorem dL_law_1009 : decode cL_law 1009 = .ok (.if_icmp .eq 175, 3) := by decide +kernel
theorem dL_law_1012 : decode cL_law 1012 = .ok (.iconst 0, 1) := by decide +kernel
theorem dL_law_1013 : decode cL_law 1013 = .ok (.ireturn, 1) := by decide +kernel
theorem dL_law_1014 : decode cL_law 1014 = .ok (.aload_n 1, 1) := by decide +kernel
theorem dL_law_1015 : decode cL_law 1015 = .ok (.aload_n 0, 1) := by decide +kernel
theorem dL_law_1016 : decode cL_law 1016 = .ok (.iload_n 3, 1) := by decide +kernel
theorem dL_law_1017 : decode cL_law 1017 = .ok (.iconst 1, 1) := by decide +kernel
theorem dL_law_1018 : decode cL_law 1018 = .ok (.iadd, 1) := by decide +kernel
theorem dL_law_1019 : decode cL_law 1019 = .ok (.iaload, 1) := by decide +kernel
theorem dL_law_1020 : decode cL_law 1020 = .ok (.aload_n 0, 1) := by decide +kernel
theorem dL_law_1021 : decode cL_law 1021 = .ok (.iload_n 3, 1) := by decide +kernel
theorem dL_law_1022 : decode cL_law 1022 = .ok (.iconst 2, 1) := by decide +kernel
theorem dL_law_1023 : decode cL_law 1023 = .ok (.iadd, 1) := by decide +kernel
theorem dL_law_1024 : decode cL_law 1024 = .ok (.iaload, 1) := by decide +kernel
theorem dL_law_1025 : decode cL_law 1025 = .ok (.aload_n 0, 1) := by decide +kernel
theorem dL_law_1026 : decode cL_law 1026 = .ok (.iload_n 3, 1) := by decide +kernel
theorem dL_law_1027 : decode cL_law 1027 = .ok (.iconst 3, 1) := by decide +kernel
theorem dL_law_1028 : decode cL_law 1028 = .ok (.iadd, 1) := by decide +kernel
theorem dL_law_1029 : decode cL_law 1029 = .ok (.iaload, 1) := by decide +kernel
theorem dL_law_1030 : decode cL_law 1030 = .ok (.i2l, 1) := by decide +kernel
theorem dL_law_1031 : decode cL_law 1031 = .ok (.bipush 32, 2) := by decide +kernel
theorem dL_law_1033 : decode cL_law 1033 = .ok (.lshl, 1) := by decide +kernel
theorem dL_law_1034 : decode cL_law 1034 = .ok (.aload_n 0, 1) := by decide +kernel
theorem dL_law_1035 : decode cL_law 1035 = .ok (.iload_n 3, 1) := by decide +kernel
theorem dL_law_1036 : decode cL_law 1036 = .ok (.iconst 4, 1) := by decide +kernel
theorem dL_law_1037 : decode cL_law 1037 = .ok (.iadd, 1) := by decide +kernel
theorem dL_law_1038 : decode cL_law 1038 = .ok (.iaload, 1) := by decide +kernel
theorem dL_law_1039 : decode cL_law 1039 = .ok (.i2l, 1) := by decide +kernel
theorem dL_law_1040 : decode cL_law 1040 = .ok (.ldc2_w 133, 3) := by decide +kernel
theorem dL_law_1043 : decode cL_law 1043 = .ok (.land, 1) := by decide +kernel
theorem dL_law_1044 : decode cL_law 1044 = .ok (.lor, 1) := by decide +kernel
theorem dL_law_1045 : decode cL_law 1045 = .ok (.invokevirtual 135, 3) := by decide +kernel
theorem dL_law_1048 : decode cL_law 1048 = .ok (.aload_n 2, 1) := by decide +kernel
theorem dL_law_1049 : decode cL_law 1049 = .ok (.aload_n 0, 1) := by decide +kernel
theorem dL_law_1050 : decode cL_law 1050 = .ok (.iload_n 3, 1) := by decide +kernel
theorem dL_law_1051 : decode cL_law 1051 = .ok (.iconst 1, 1) := by decide +kernel
theorem dL_law_1052 : decode cL_law 1052 = .ok (.iadd, 1) := by decide +kernel
theorem dL_law_1053 : decode cL_law 1053 = .ok (.iaload, 1) := by decide +kernel
theorem dL_law_1054 : decode cL_law 1054 = .ok (.aload_n 0, 1) := by decide +kernel
theorem dL_law_1055 : decode cL_law 1055 = .ok (.iload_n 3, 1) := by decide +kernel
theorem dL_law_1056 : decode cL_law 1056 = .ok (.iconst 2, 1) := by decide +kernel
theorem dL_law_1057 : decode cL_law 1057 = .ok (.iadd, 1) := by decide +kernel
theorem dL_law_1058 : decode cL_law 1058 = .ok (.iaload, 1) := by decide +kernel
theorem dL_law_1059 : decode cL_law 1059 = .ok (.aload_n 0, 1) := by decide +kernel
theorem dL_law_1060 : decode cL_law 1060 = .ok (.iload_n 3, 1) := by decide +kernel
theorem dL_law_1061 : decode cL_law 1061 = .ok (.iconst 3, 1) := by decide +kernel
theorem dL_law_1062 : decode cL_law 1062 = .ok (.iadd, 1) := by decide +kernel
theorem dL_law_1063 : decode cL_law 1063 = .ok (.iaload, 1) := by decide +kernel
theorem dL_law_1064 : decode cL_law 1064 = .ok (.i2l, 1) := by decide +kernel
theorem dL_law_1065 : decode cL_law 1065 = .ok (.bipush 32, 2) := by decide +kernel
theorem dL_law_1067 : decode cL_law 1067 = .ok (.lshl, 1) := by decide +kernel
theorem dL_law_1068 : decode cL_law 1068 = .ok (.aload_n 0, 1) := by decide +kernel
theorem dL_law_1069 : decode cL_law 1069 = .ok (.iload_n 3, 1) := by decide +kernel
theorem dL_law_1070 : decode cL_law 1070 = .ok (.iconst 4, 1) := by decide +kernel
theorem dL_law_1071 : decode cL_law 1071 = .ok (.iadd, 1) := by decide +kernel
theorem dL_law_1072 : decode cL_law 1072 = .ok (.iaload, 1) := by decide +kernel
theorem dL_law_1073 : decode cL_law 1073 = .ok (.i2l, 1) := by decide +kernel
theorem dL_law_1074 : decode cL_law 1074 = .ok (.ldc2_w 133, 3) := by decide +kernel
theorem dL_law_1077 : decode cL_law 1077 = .ok (.land, 1) := by decide +kernel
theorem dL_law_1078 : decode cL_law 1078 = .ok (.lor, 1) := by decide +kernel
theorem dL_law_1079 : decode cL_law 1079 = .ok (.invokevirtual 139, 3) := by decide +kernel
theorem dL_law_1082 : decode cL_law 1082 = .ok (.if_icmp .eq 102, 3) := by decide +kernel
theorem dL_law_1085 : decode cL_law 1085 = .ok (.iconst 0, 1) := by decide +kernel
theorem dL_law_1086 : decode cL_law 1086 = .ok (.ireturn, 1) := by decide +kernel
theorem dL_law_1087 : decode cL_law 1087 = .ok (.aload_n 1, 1) := by decide +kernel
theorem dL_law_1088 : decode cL_law 1088 = .ok (.aload_n 0, 1) := by decide +kernel
theorem dL_law_1089 : decode cL_law 1089 = .ok (.iload_n 3, 1) := by decide +kernel
theorem dL_law_1090 : decode cL_law 1090 = .ok (.iconst 1, 1) := by decide +kernel
theorem dL_law_1091 : decode cL_law 1091 = .ok (.iadd, 1) := by decide +kernel
theorem dL_law_1092 : decode cL_law 1092 = .ok (.iaload, 1) := by decide +kernel
theorem dL_law_1093 : decode cL_law 1093 = .ok (.aload_n 0, 1) := by decide +kernel
theorem dL_law_1094 : decode cL_law 1094 = .ok (.iload_n 3, 1) := by decide +kernel
theorem dL_law_1095 : decode cL_law 1095 = .ok (.iconst 2, 1) := by decide +kernel
theorem dL_law_1096 : decode cL_law 1096 = .ok (.iadd, 1) := by decide +kernel
theorem dL_law_1097 : decode cL_law 1097 = .ok (.iaload, 1) := by decide +kernel
theorem dL_law_1098 : decode cL_law 1098 = .ok (.invokevirtual 140, 3) := by decide +kernel
theorem dL_law_1101 : decode cL_law 1101 = .ok (.aload_n 2, 1) := by decide +kernel
theorem dL_law_1102 : decode cL_law 1102 = .ok (.aload_n 0, 1) := by decide +kernel
theorem dL_law_1103 : decode cL_law 1103 = .ok (.iload_n 3, 1) := by decide +kernel
theorem dL_law_1104 : decode cL_law 1104 = .ok (.iconst 1, 1) := by decide +kernel
theorem dL_law_1105 : decode cL_law 1105 = .ok (.iadd, 1) := by decide +kernel
theorem dL_law_1106 : decode cL_law 1106 = .ok (.iaload, 1) := by decide +kernel
theorem dL_law_1107 : decode cL_law 1107 = .ok (.aload_n 0, 1) := by decide +kernel
theorem dL_law_1108 : decode cL_law 1108 = .ok (.iload_n 3, 1) := by decide +kernel
theorem dL_law_1109 : decode cL_law 1109 = .ok (.iconst 2, 1) := by decide +kernel
theorem dL_law_1110 : decode cL_law 1110 = .ok (.iadd, 1) := by decide +kernel
theorem dL_law_1111 : decode cL_law 1111 = .ok (.iaload, 1) := by decide +kernel
theorem dL_law_1112 : decode cL_law 1112 = .ok (.invokevirtual 143, 3) := by decide +kernel
theorem dL_law_1115 : decode cL_law 1115 = .ok (.lcmp, 1) := by decide +kernel
theorem dL_law_1116 : decode cL_law 1116 = .ok (.ifCond .eq 68, 3) := by decide +kernel
theorem dL_law_1119 : decode cL_law 1119 = .ok (.iconst 0, 1) := by decide +kernel
theorem dL_law_1120 : decode cL_law 1120 = .ok (.ireturn, 1) := by decide +kernel
theorem dL_law_1121 : decode cL_law 1121 = .ok (.aload_n 1, 1) := by decide +kernel
theorem dL_law_1122 : decode cL_law 1122 = .ok (.aload_n 0, 1) := by decide +kernel
theorem dL_law_1123 : decode cL_law 1123 = .ok (.iload_n 3, 1) := by decide +kernel
theorem dL_law_1124 : decode cL_law 1124 = .ok (.iconst 1, 1) := by decide +kernel
theorem dL_law_1125 : decode cL_law 1125 = .ok (.iadd, 1) := by decide +kernel
theorem dL_law_1126 : decode cL_law 1126 = .ok (.iaload, 1) := by decide +kernel
theorem dL_law_1127 : decode cL_law 1127 = .ok (.aload_n 0, 1) := by decide +kernel
theorem dL_law_1128 : decode cL_law 1128 = .ok (.iload_n 3, 1) := by decide +kernel
theorem dL_law_1129 : decode cL_law 1129 = .ok (.iconst 2, 1) := by decide +kernel
theorem dL_law_1130 : decode cL_law 1130 = .ok (.iadd, 1) := by decide +kernel
theorem dL_law_1131 : decode cL_law 1131 = .ok (.iaload, 1) := by decide +kernel
theorem dL_law_1132 : decode cL_law 1132 = .ok (.aload_n 0, 1) := by decide +kernel
theorem dL_law_1133 : decode cL_law 1133 = .ok (.iload_n 3, 1) := by decide +kernel
theorem dL_law_1134 : decode cL_law 1134 = .ok (.iconst 3, 1) := by decide +kernel
theorem dL_law_1135 : decode cL_law 1135 = .ok (.iadd, 1) := by decide +kernel
theorem dL_law_1136 : decode cL_law 1136 = .ok (.iaload, 1) := by decide +kernel
theorem dL_law_1137 : decode cL_law 1137 = .ok (.aload_n 0, 1) := by decide +kernel
theorem dL_law_1138 : decode cL_law 1138 = .ok (.iload_n 3, 1) := by decide +kernel
theorem dL_law_1139 : decode cL_law 1139 = .ok (.iconst 4, 1) := by decide +kernel
theorem dL_law_1140 : decode cL_law 1140 = .ok (.iadd, 1) := by decide +kernel
theorem dL_law_1141 : decode cL_law 1141 = .ok (.iaload, 1) := by decide +kernel
theorem dL_law_1142 : decode cL_law 1142 = .ok (.aload_n 0, 1) := by decide +kernel
theorem dL_law_1143 : decode cL_law 1143 = .ok (.iload_n 3, 1) := by decide +kernel
theorem dL_law_1144 : decode cL_law 1144 = .ok (.iconst 5, 1) := by decide +kernel
theorem dL_law_1145 : decode cL_law 1145 = .ok (.iadd, 1) := by decide +kernel
theorem dL_law_1146 : decode cL_law 1146 = .ok (.iaload, 1) := by decide +kernel
theorem dL_law_1147 : decode cL_law 1147 = .ok (.invokevirtual 144, 3) := by decide +kernel
theorem dL_law_1150 : decode cL_law 1150 = .ok (.aload_n 2, 1) := by decide +kernel
theorem dL_law_1151 : decode cL_law 1151 = .ok (.aload_n 0, 1) := by decide +kernel
theorem dL_law_1152 : decode cL_law 1152 = .ok (.iload_n 3, 1) := by decide +kernel
theorem dL_law_1153 : decode cL_law 1153 = .ok (.iconst 1, 1) := by decide +kernel
theorem dL_law_1154 : decode cL_law 1154 = .ok (.iadd, 1) := by decide +kernel
theorem dL_law_1155 : decode cL_law 1155 = .ok (.iaload, 1) := by decide +kernel
theorem dL_law_1156 : decode cL_law 1156 = .ok (.aload_n 0, 1) := by decide +kernel
theorem dL_law_1157 : decode cL_law 1157 = .ok (.iload_n 3, 1) := by decide +kernel
theorem dL_law_1158 : decode cL_law 1158 = .ok (.iconst 2, 1) := by decide +kernel
theorem dL_law_1159 : decode cL_law 1159 = .ok (.iadd, 1) := by decide +kernel
theorem dL_law_1160 : decode cL_law 1160 = .ok (.iaload, 1) := by decide +kernel
theorem dL_law_1161 : decode cL_law 1161 = .ok (.aload_n 0, 1) := by decide +kernel
theorem dL_law_1162 : decode cL_law 1162 = .ok (.iload_n 3, 1) := by decide +kernel
theorem dL_law_1163 : decode cL_law 1163 = .ok (.iconst 3, 1) := by decide +kernel
theorem dL_law_1164 : decode cL_law 1164 = .ok (.iadd, 1) := by decide +kernel
theorem dL_law_1165 : decode cL_law 1165 = .ok (.iaload, 1) := by decide +kernel
theorem dL_law_1166 : decode cL_law 1166 = .ok (.aload_n 0, 1) := by decide +kernel
theorem dL_law_1167 : decode cL_law 1167 = .ok (.iload_n 3, 1) := by decide +kernel
theorem dL_law_1168 : decode cL_law 1168 = .ok (.iconst 4, 1) := by decide +kernel
theorem dL_law_1169 : decode cL_law 1169 = .ok (.iadd, 1) := by decide +kernel
theorem dL_law_1170 : decode cL_law 1170 = .ok (.iaload, 1) := by decide +kernel
theorem dL_law_1171 : decode cL_law 1171 = .ok (.aload_n 0, 1) := by decide +kernel
theorem dL_law_1172 : decode cL_law 1172 = .ok (.iload_n 3, 1) := by decide +kernel
theorem dL_law_1173 : decode cL_law 1173 = .ok (.iconst 5, 1) := by decide +kernel
theorem dL_law_1174 : decode cL_law 1174 = .ok (.iadd, 1) := by decide +kernel
theorem dL_law_1175 : decode cL_law 1175 = .ok (.iaload, 1) := by decide +kernel
theorem dL_law_1176 : decode cL_law 1176 = .ok (.invokevirtual 148, 3) := by decide +kernel
theorem dL_law_1179 : decode cL_law 1179 = .ok (.if_icmp .eq 5, 3) := by decide +kernel
theorem dL_law_1182 : decode cL_law 1182 = .ok (.iconst 0, 1) := by decide +kernel
theorem dL_law_1183 : decode cL_law 1183 = .ok (.ireturn, 1) := by decide +kernel
theorem dL_law_1184 : decode cL_law 1184 = .ok (.iinc 3 6, 3) := by decide +kernel
theorem dL_law_1187 : decode cL_law 1187 = .ok (.goto (-1169), 3) := by decide +kernel
theorem dL_law_1190 : decode cL_law 1190 = .ok (.iconst 1, 1) := by decide +kernel
theorem dL_law_1191 : decode cL_law 1191 = .ok (.ireturn, 1) := by decide +kernel
end
section
/-! ===== the tables' words: all good ===== -/
def TB : List Cond := lw_tbl.filter goodWord
theorem TB_in {w : Cond} (i : Nat) (h : lw_tbl[i]? = some w) (g : goodWord w = true) : w ∈ TB := List.mem_filter.mpr ⟨List.mem_of_getElem? h, g⟩
theorem TB_tbl {w : Cond} (h : w ∈ TB) : w ∈ lw_tbl := (List.mem_filter.mp h).1
theorem TB_g {w : Cond} (h : w ∈ TB) : (w.onTables && w.keeps) = true ∨ ∃ ty, w = .arrayClass ty := good_of_word (List.mem_filter.mp h).2
theorem TB_G {ws : List Cond} (h : ∀ w ∈ ws, w ∈ TB) : GoodIn TB ws := fun w hw => ⟨h w hw, TB_g (h w hw)⟩
theorem xw_gV {own C : String} {i : Nat} {y : MethodName} {cy : Cond} (h1 : Cond.methodLink own i y ∈ TB) (h2 : Cond.instanceMethod y ∈ TB) (h3 : Cond.selects C y y ∈ TB) (h4 : Cond.initialized C ∈ TB) (h5 : cy ∈ TB) : GoodIn TB (wsV own i C y (cy :: TB)) := TB_G (fun w h => by
  rcases List.mem_append.mp h with h | h
  · simp only [List.mem_cons, List.not_mem_nil, or_false] at h
    rcases h with rfl | rfl | rfl | rfl <;> assumption
  · rcases List.mem_cons.mp h with rfl | h <;> assumption)
theorem xw_gS {own : String} {i : Nat} {y : MethodName} {cy : Cond} (h1 : Cond.methodLink own i y ∈ TB) (h2 : Cond.static y ∈ TB) (h4 : Cond.initialized own ∈ TB) (h5 : cy ∈ TB) : GoodIn TB (wsS own i y (cy :: TB)) := TB_G (fun w h => by
  rcases List.mem_append.mp h with h | h
  · simp only [List.mem_cons, List.not_mem_nil, or_false] at h
    rcases h with rfl | rfl | rfl <;> assumption
  · rcases List.mem_cons.mp h with rfl | h <;> assumption)
theorem xw_gW {cy : Cond} (h5 : cy ∈ TB) : GoodIn TB (cy :: TB) := TB_G (fun w h => by
  rcases List.mem_cons.mp h with rfl | h <;> assumption)
/-! ===== memory ===== -/
abbrev xw_M : Type := (Nat → Nat → Int32) × (Nat → Nat → Int64)
abbrev xw_G : Type := va_G × (Nat → ClassId) × (Nat → Nat) × Nat × (Nat → Nat)
abbrev xw_D (G : xw_G) : va_G := G.1
abbrev xw_q (G : xw_G) : Nat → ClassId := G.2.1
abbrev xw_ad (G : xw_G) : Nat → Nat := G.2.2.1
abbrev xw_s0 (G : xw_G) : Nat := G.2.2.2.1
abbrev xw_sa (G : xw_G) : Nat → Nat := G.2.2.2.2
def xw_A (G : xw_G) : Nat → Prop := fun q => xw_s0 G ≤ q
abbrev xw_cl : List vw_C := [(RX0, TX0, 5), (RX1, TX1, 4), (RX2, TX2, 8), (RX3, TX3, 6), (RX4, TX4, 3), (RX5, TX5, 14), (RX6, TX6, 3), (RX7, TX7, 13), (RX8, TX8, 31)]
abbrev xw_ty (G : xw_G) : List (ClassId × FieldType) := [(xw_q G 0, .int), (xw_q G 1, .byte), (xw_q G 2, .char), (xw_q G 3, .long), (xw_q G 4, .object RX2), (xw_q G 5, .object RX6)]
def xw_si (μ : xw_M) (k j : Nat) (v : Int32) : xw_M := (va_up μ.1 k (upd (μ.1 k) j v), μ.2)
def xw_sl (μ : xw_M) (k j : Nat) (v : Int64) : xw_M := (μ.1, va_up μ.2 k (vp_updL (μ.2 k) j v))
def xw_ci (μ : xw_M) (k k' sp dp n : Nat) : xw_M := (va_up μ.1 k' (va_cpy (μ.1 k) (μ.1 k') sp dp n), μ.2)
def xw_cL (μ : xw_M) (k k' sp dp n : Nat) : xw_M := (μ.1, va_up μ.2 k' (va_cpy (μ.2 k) (μ.2 k') sp dp n))

def xw_F0 (G : xw_G) (f : Nat → Int32) : List Value := [.int (f 0), .int (f 1), .int (f 2), .int (f 3), .ref (xw_ad G (105))]
def xw_F1 (G : xw_G) (b : Nat) (f : Nat → Int32) : List Value := [.int (f 0), .ref (xw_ad G (b + 1)), .ref (xw_ad G (b + 2)), .int (f 3)]
def xw_F2 (G : xw_G) (b : Nat) (f : Nat → Int32) : List Value := [.int (f 0), .int (f 1), .ref (xw_ad G (b + 1)), .ref (xw_ad G (b + 2)), .int (f 4), .ref (xw_ad G (b + 3)), .ref (xw_ad G (b + 4)), .ref (xw_ad G (b + 5))]
def xw_F3 (G : xw_G) (f : Nat → Int32) : List Value := [.ref (xw_ad G (49)), .int (f 1), .int (f 2), .int (f 3), .int (f 4), .ref (xw_ad G (f 5).toNatClampNeg)]
def xw_F4 (G : xw_G) (f : Nat → Int32) : List Value := [.ref (xw_ad G (101)), .ref (xw_ad G (102)), .ref (xw_ad G (103))]
def xw_F5 (G : xw_G) (b : Nat) (f : Nat → Int32) : List Value := [.int (f 0), .ref (xw_ad G (b + 1)), .ref (xw_ad G (b + 2)), .ref (xw_ad G (b + 3)), .ref (xw_ad G (b + 4)), .ref (xw_ad G (b + 5)), .ref (xw_ad G (b + 6)), .int (f 7), .int (f 8), .int (f 9), .int (f 10), .ref (xw_ad G (b + 7)), .ref (xw_ad G (b + 10)), .ref (xw_ad G (b + 13))]
def xw_F6 (G : xw_G) (b : Nat) (f : Nat → Int32) : List Value := [.int (f 0), .int (f 1), .ref (xw_ad G (b + 1))]
def xw_F7 (G : xw_G) (f : Nat → Int32) : List Value := [.ref (xw_ad G (1)), .ref (xw_ad G (17)), .ref (xw_ad G (33)), .int (f 3), .ref (xw_ad G (49)), .int (f 5), .ref (xw_ad G (50)), .ref (xw_ad G (57)), .int (f 8), .ref (xw_ad G (94)), .ref (xw_ad G (100)), .ref (xw_ad G (104)), .ref (xw_ad G (106))]
def xw_F8 (G : xw_G) (f : Nat → Int32) : List Value := [.ref (xw_ad G (120)), .ref (xw_ad G (121)), .ref (xw_ad G (122)), .int (f 3), .ref (xw_ad G (123)), .int (f 5), .ref (xw_ad G (124)), .ref (xw_ad G (125)), .int (f 8), .ref (xw_ad G (126)), .int (f 10), .int (f 11), .int (f 12), .int (f 13), .int (f 14), .int (f 15), .ref (xw_ad G (127)), .ref (xw_ad G (128)), .ref (xw_ad G (129)), .ref (xw_ad G (130)), .ref (xw_ad G (131)), .ref (xw_ad G (132)), .ref (xw_ad G (133)), .ref (xw_ad G (134)), .ref (xw_ad G (135)), .ref (xw_ad G (136)), .int (f 26), .ref (xw_ad G (137)), .ref (xw_ad G (138)), .ref (xw_ad G (139)), .ref (xw_ad G (140))]
def xw_cI (G : xw_G) (t n : Nat) : (Nat → Int32) → (Nat → Int64) → va_E := fun f _ => .inl (xw_q G t, n, .inl f)
def xw_cJ (G : xw_G) (n : Nat) : (Nat → Int32) → (Nat → Int64) → va_E := fun _ g => .inl (xw_q G 3, n, .inr (.inl g))
def xw_cR (G : xw_G) (t n : Nat) (r : Nat → Option Nat) : (Nat → Int32) → (Nat → Int64) → va_E := fun _ _ => .inl (xw_q G t, n, .inr (.inr (.inr (.inr r))))
def xw_cO (ci : Nat) (F : (Nat → Int32) → List Value) : (Nat → Int32) → (Nat → Int64) → va_E := fun f _ => .inr (ci, F f)
def xw_tP (G : xw_G) (p : Nat) : List ((Nat → Int32) → (Nat → Int64) → va_E) := [xw_cO 2 (xw_F2 G p), xw_cI G 0 10, xw_cI G 0 10, xw_cI G 0 100, xw_cI G 0 100, xw_cI G 0 100]
def xw_tQ (G : xw_G) (q : Nat) : List ((Nat → Int32) → (Nat → Int64) → va_E) := [xw_cO 1 (xw_F1 G q), xw_cI G 0 8, xw_cI G 0 8]
def xw_tS (G : xw_G) (b : Nat) : List ((Nat → Int32) → (Nat → Int64) → va_E) := [xw_cO 5 (xw_F5 G b), xw_cI G 0 6, xw_cI G 0 6, xw_cI G 0 6, xw_cI G 0 6, xw_cI G 0 6, xw_cI G 0 24] ++ (xw_tQ G (b + 7) ++ (xw_tQ G (b + 10) ++ xw_tQ G (b + 13)))
def xw_tT (G : xw_G) (t : Nat) : List ((Nat → Int32) → (Nat → Int64) → va_E) := [xw_cO 6 (xw_F6 G t), xw_cJ G 60]
def xw_rP (G : xw_G) : Nat → Option Nat := fun i => some (xw_ad G (58 + 6 * i))
def xw_rT (G : xw_G) : Nat → Option Nat := fun i => some (xw_ad G (107 + 2 * i))
def xw_cells (G : xw_G) : List ((Nat → Int32) → (Nat → Int64) → va_E) := [xw_cO 7 (xw_F7 G)] ++ (xw_tS G 1 ++ (xw_tS G 17 ++ (xw_tS G 33 ++ ([xw_cI G 1 100, xw_cO 3 (xw_F3 G)] ++ (xw_tP G 51 ++ ([xw_cR G 4 6 (xw_rP G)] ++ (xw_tP G 58 ++ (xw_tP G 64 ++ (xw_tP G 70 ++ (xw_tP G 76 ++ (xw_tP G 82 ++ (xw_tP G 88 ++ (xw_tP G 94 ++ ([xw_cO 4 (xw_F4 G), xw_cI G 0 60, xw_cI G 0 6, xw_cI G 0 6, xw_cO 0 (xw_F0 G), xw_cI G 0 20, xw_cR G 5 6 (xw_rT G)] ++ (xw_tT G 107 ++ (xw_tT G 109 ++ (xw_tT G 111 ++ (xw_tT G 113 ++ (xw_tT G 115 ++ (xw_tT G 117 ++ [xw_cO 8 (xw_F8 G), xw_cI G 0 109, xw_cI G 0 218, xw_cI G 0 109, xw_cI G 0 100, xw_cI G 0 600, xw_cI G 0 6, xw_cI G 0 100, xw_cI G 0 6, xw_cI G 2 6, xw_cI G 2 3, xw_cI G 2 15, xw_cI G 0 6, xw_cI G 0 6, xw_cI G 0 6, xw_cI G 0 7, xw_cI G 0 21, xw_cI G 0 20, xw_cI G 0 6, xw_cI G 0 6, xw_cJ G 360, xw_cJ G 60]))))))))))))))))))))
def xw_cell (G : xw_G) (k : Nat) (f : Nat → Int32) (g : Nat → Int64) : va_E := match (xw_cells G)[k]? with
  | some c => c f g
  | none => .inr (0, [])
def xw_W (G : xw_G) (μ : xw_M) : va_W := (List.range 141).map (fun k => (xw_ad G k, xw_cell G k (μ.1 k) (μ.2 k)))
theorem xw_at (G : xw_G) (μ : xw_M) {k : Nat} (hk : k < 141) : (xw_W G μ)[k]? = some (xw_ad G k, xw_cell G k (μ.1 k) (μ.2 k)) := by
  simp [xw_W, hk]
theorem xw_set (G : xw_G) {μ μ' : xw_M} {k : Nat} {e : va_E} (he : e = xw_cell G k (μ'.1 k) (μ'.2 k)) (h : ∀ i, i ≠ k → μ'.1 i = μ.1 i ∧ μ'.2 i = μ.2 i) : (xw_W G μ).set k (xw_ad G k, e) = xw_W G μ' := by
  subst he
  refine List.ext_getElem? (fun i => ?_)
  rw [List.getElem?_set]
  by_cases hi : i < 141
  · by_cases e : k = i
    · subst e
      rw [if_pos rfl, if_pos (by simp [xw_W, hi]), xw_at G μ' hi]
    · rw [if_neg e, xw_at G μ hi, xw_at G μ' hi, (h i (fun q => e q.symm)).1, (h i (fun q => e q.symm)).2]
  · have h1 : (xw_W G μ)[i]? = none := by simp [xw_W]; omega
    have h2 : (xw_W G μ')[i]? = none := by simp [xw_W]; omega
    by_cases e : k = i
    · subst e
      rw [if_pos rfl, if_neg (by simp [xw_W]; omega), h2]
    · rw [if_neg e, h1, h2]
/-! ===== shapes ===== -/
def xw_io (G : xw_G) (ci k : Nat) (F : (Nat → Int32) → List Value) : Prop := k < 141 ∧ ∀ f g, xw_cell G k f g = .inr (ci, F f)
def xw_ia (G : xw_G) (t k n : Nat) : Prop := k < 141 ∧ ∀ f g, xw_cell G k f g = .inl (xw_q G t, n, .inl f)
def xw_il (G : xw_G) (k n : Nat) : Prop := k < 141 ∧ ∀ f g, xw_cell G k f g = .inl (xw_q G 3, n, .inr (.inl g))
def xw_ir (G : xw_G) (t k n : Nat) (r : Nat → Option Nat) : Prop := k < 141 ∧ ∀ f g, xw_cell G k f g = .inl (xw_q G t, n, .inr (.inr (.inr (.inr r))))
theorem xw_io.at {G : xw_G} {ci k : Nat} {F : (Nat → Int32) → List Value} (h : xw_io G ci k F) (μ : xw_M) : (xw_W G μ)[k]? = some (xw_ad G k, .inr (ci, F (μ.1 k))) := by rw [xw_at G μ h.1, h.2]
theorem xw_ia.at {G : xw_G} {t k n : Nat} (h : xw_ia G t k n) (μ : xw_M) : (xw_W G μ)[k]? = some (xw_ad G k, .inl (xw_q G t, n, .inl (μ.1 k))) := by rw [xw_at G μ h.1, h.2]
theorem xw_il.at {G : xw_G} {k n : Nat} (h : xw_il G k n) (μ : xw_M) : (xw_W G μ)[k]? = some (xw_ad G k, .inl (xw_q G 3, n, .inr (.inl (μ.2 k)))) := by rw [xw_at G μ h.1, h.2]
theorem xw_ir.at {G : xw_G} {t k n : Nat} {r : Nat → Option Nat} (h : xw_ir G t k n r) (μ : xw_M) : (xw_W G μ)[k]? = some (xw_ad G k, .inl (xw_q G t, n, .inr (.inr (.inr (.inr r))))) := by rw [xw_at G μ h.1, h.2]
/-! which numbers are Scenes, Pairs, Parishes, Tapes -/
abbrev xw_sc (b : Nat) : Prop := b = 1 ∨ b = 17 ∨ b = 33
abbrev xw_pr (b : Nat) : Prop := b = 8 ∨ b = 11 ∨ b = 14 ∨ b = 24 ∨ b = 27 ∨ b = 30 ∨ b = 40 ∨ b = 43 ∨ b = 46
abbrev xw_pa (b : Nat) : Prop := b = 51 ∨ b = 58 ∨ b = 64 ∨ b = 70 ∨ b = 76 ∨ b = 82 ∨ b = 88 ∨ b = 94
abbrev xw_tp (b : Nat) : Prop := b = 107 ∨ b = 109 ∨ b = 111 ∨ b = 113 ∨ b = 115 ∨ b = 117
theorem xw_sc_7 {b : Nat} (h : xw_sc b) : xw_pr (b + 7) := by rcases h with rfl | rfl | rfl <;> decide
theorem xw_sc_10 {b : Nat} (h : xw_sc b) : xw_pr (b + 10) := by rcases h with rfl | rfl | rfl <;> decide
theorem xw_sc_13 {b : Nat} (h : xw_sc b) : xw_pr (b + 13) := by rcases h with rfl | rfl | rfl <;> decide
theorem xw_o7 (G : xw_G) : xw_io G 7 0 (xw_F7 G) := ⟨by decide, fun _ _ => rfl⟩
theorem xw_o3 (G : xw_G) : xw_io G 3 50 (xw_F3 G) := ⟨by decide, fun _ _ => rfl⟩
theorem xw_o4 (G : xw_G) : xw_io G 4 100 (xw_F4 G) := ⟨by decide, fun _ _ => rfl⟩
theorem xw_o0 (G : xw_G) : xw_io G 0 104 (xw_F0 G) := ⟨by decide, fun _ _ => rfl⟩
theorem xw_o8 (G : xw_G) : xw_io G 8 119 (xw_F8 G) := ⟨by decide, fun _ _ => rfl⟩
theorem xw_o1 (G : xw_G) {b : Nat} (h : xw_pr b) : xw_io G 1 b (xw_F1 G b) := by rcases h with rfl | rfl | rfl | rfl | rfl | rfl | rfl | rfl | rfl <;> exact ⟨by decide, fun _ _ => rfl⟩
theorem xw_o2 (G : xw_G) {b : Nat} (h : xw_pa b) : xw_io G 2 b (xw_F2 G b) := by rcases h with rfl | rfl | rfl | rfl | rfl | rfl | rfl | rfl <;> exact ⟨by decide, fun _ _ => rfl⟩
theorem xw_o5 (G : xw_G) {b : Nat} (h : xw_sc b) : xw_io G 5 b (xw_F5 G b) := by rcases h with rfl | rfl | rfl <;> exact ⟨by decide, fun _ _ => rfl⟩
theorem xw_o6 (G : xw_G) {b : Nat} (h : xw_tp b) : xw_io G 6 b (xw_F6 G b) := by rcases h with rfl | rfl | rfl | rfl | rfl | rfl <;> exact ⟨by decide, fun _ _ => rfl⟩
theorem xw_a1_1 (G : xw_G) {b : Nat} (h : xw_pr b) : xw_ia G 0 (b + 1) 8 := by rcases h with rfl | rfl | rfl | rfl | rfl | rfl | rfl | rfl | rfl <;> exact ⟨by decide, fun _ _ => rfl⟩
theorem xw_a1_2 (G : xw_G) {b : Nat} (h : xw_pr b) : xw_ia G 0 (b + 2) 8 := by rcases h with rfl | rfl | rfl | rfl | rfl | rfl | rfl | rfl | rfl <;> exact ⟨by decide, fun _ _ => rfl⟩
theorem xw_a2_1 (G : xw_G) {b : Nat} (h : xw_pa b) : xw_ia G 0 (b + 1) 10 := by rcases h with rfl | rfl | rfl | rfl | rfl | rfl | rfl | rfl <;> exact ⟨by decide, fun _ _ => rfl⟩
theorem xw_a2_2 (G : xw_G) {b : Nat} (h : xw_pa b) : xw_ia G 0 (b + 2) 10 := by rcases h with rfl | rfl | rfl | rfl | rfl | rfl | rfl | rfl <;> exact ⟨by decide, fun _ _ => rfl⟩
theorem xw_a2_3 (G : xw_G) {b : Nat} (h : xw_pa b) : xw_ia G 0 (b + 3) 100 := by rcases h with rfl | rfl | rfl | rfl | rfl | rfl | rfl | rfl <;> exact ⟨by decide, fun _ _ => rfl⟩
theorem xw_a2_4 (G : xw_G) {b : Nat} (h : xw_pa b) : xw_ia G 0 (b + 4) 100 := by rcases h with rfl | rfl | rfl | rfl | rfl | rfl | rfl | rfl <;> exact ⟨by decide, fun _ _ => rfl⟩
theorem xw_a2_5 (G : xw_G) {b : Nat} (h : xw_pa b) : xw_ia G 0 (b + 5) 100 := by rcases h with rfl | rfl | rfl | rfl | rfl | rfl | rfl | rfl <;> exact ⟨by decide, fun _ _ => rfl⟩
theorem xw_a5_1 (G : xw_G) {b : Nat} (h : xw_sc b) : xw_ia G 0 (b + 1) 6 := by rcases h with rfl | rfl | rfl <;> exact ⟨by decide, fun _ _ => rfl⟩
theorem xw_a5_2 (G : xw_G) {b : Nat} (h : xw_sc b) : xw_ia G 0 (b + 2) 6 := by rcases h with rfl | rfl | rfl <;> exact ⟨by decide, fun _ _ => rfl⟩
theorem xw_a5_3 (G : xw_G) {b : Nat} (h : xw_sc b) : xw_ia G 0 (b + 3) 6 := by rcases h with rfl | rfl | rfl <;> exact ⟨by decide, fun _ _ => rfl⟩
theorem xw_a5_4 (G : xw_G) {b : Nat} (h : xw_sc b) : xw_ia G 0 (b + 4) 6 := by rcases h with rfl | rfl | rfl <;> exact ⟨by decide, fun _ _ => rfl⟩
theorem xw_a5_5 (G : xw_G) {b : Nat} (h : xw_sc b) : xw_ia G 0 (b + 5) 6 := by rcases h with rfl | rfl | rfl <;> exact ⟨by decide, fun _ _ => rfl⟩
theorem xw_a5_6 (G : xw_G) {b : Nat} (h : xw_sc b) : xw_ia G 0 (b + 6) 24 := by rcases h with rfl | rfl | rfl <;> exact ⟨by decide, fun _ _ => rfl⟩
theorem xw_a6_1 (G : xw_G) {b : Nat} (h : xw_tp b) : xw_il G (b + 1) 60 := by rcases h with rfl | rfl | rfl | rfl | rfl | rfl <;> exact ⟨by decide, fun _ _ => rfl⟩
theorem xw_k49 (G : xw_G) : xw_ia G 1 49 100 := ⟨by decide, fun _ _ => rfl⟩
theorem xw_k101 (G : xw_G) : xw_ia G 0 101 60 := ⟨by decide, fun _ _ => rfl⟩
theorem xw_k102 (G : xw_G) : xw_ia G 0 102 6 := ⟨by decide, fun _ _ => rfl⟩
theorem xw_k103 (G : xw_G) : xw_ia G 0 103 6 := ⟨by decide, fun _ _ => rfl⟩
theorem xw_k105 (G : xw_G) : xw_ia G 0 105 20 := ⟨by decide, fun _ _ => rfl⟩
theorem xw_k120 (G : xw_G) : xw_ia G 0 120 109 := ⟨by decide, fun _ _ => rfl⟩
theorem xw_k121 (G : xw_G) : xw_ia G 0 121 218 := ⟨by decide, fun _ _ => rfl⟩
theorem xw_k122 (G : xw_G) : xw_ia G 0 122 109 := ⟨by decide, fun _ _ => rfl⟩
theorem xw_k123 (G : xw_G) : xw_ia G 0 123 100 := ⟨by decide, fun _ _ => rfl⟩
theorem xw_k124 (G : xw_G) : xw_ia G 0 124 600 := ⟨by decide, fun _ _ => rfl⟩
theorem xw_k125 (G : xw_G) : xw_ia G 0 125 6 := ⟨by decide, fun _ _ => rfl⟩
theorem xw_k126 (G : xw_G) : xw_ia G 0 126 100 := ⟨by decide, fun _ _ => rfl⟩
theorem xw_k127 (G : xw_G) : xw_ia G 0 127 6 := ⟨by decide, fun _ _ => rfl⟩
theorem xw_k128 (G : xw_G) : xw_ia G 2 128 6 := ⟨by decide, fun _ _ => rfl⟩
theorem xw_k129 (G : xw_G) : xw_ia G 2 129 3 := ⟨by decide, fun _ _ => rfl⟩
theorem xw_k130 (G : xw_G) : xw_ia G 2 130 15 := ⟨by decide, fun _ _ => rfl⟩
theorem xw_k131 (G : xw_G) : xw_ia G 0 131 6 := ⟨by decide, fun _ _ => rfl⟩
theorem xw_k132 (G : xw_G) : xw_ia G 0 132 6 := ⟨by decide, fun _ _ => rfl⟩
theorem xw_k133 (G : xw_G) : xw_ia G 0 133 6 := ⟨by decide, fun _ _ => rfl⟩
theorem xw_k134 (G : xw_G) : xw_ia G 0 134 7 := ⟨by decide, fun _ _ => rfl⟩
theorem xw_k135 (G : xw_G) : xw_ia G 0 135 21 := ⟨by decide, fun _ _ => rfl⟩
theorem xw_k136 (G : xw_G) : xw_ia G 0 136 20 := ⟨by decide, fun _ _ => rfl⟩
theorem xw_k137 (G : xw_G) : xw_ia G 0 137 6 := ⟨by decide, fun _ _ => rfl⟩
theorem xw_k138 (G : xw_G) : xw_ia G 0 138 6 := ⟨by decide, fun _ _ => rfl⟩
theorem xw_k139 (G : xw_G) : xw_il G 139 360 := ⟨by decide, fun _ _ => rfl⟩
theorem xw_k140 (G : xw_G) : xw_il G 140 60 := ⟨by decide, fun _ _ => rfl⟩
theorem xw_k57 (G : xw_G) : xw_ir G 4 57 6 (xw_rP G) := ⟨by decide, fun _ _ => rfl⟩
theorem xw_k106 (G : xw_G) : xw_ir G 5 106 6 (xw_rT G) := ⟨by decide, fun _ _ => rfl⟩
def xw_ok (G : xw_G) : Prop := (∀ i j, i < 141 → j < 141 → xw_ad G i = xw_ad G j → i = j) ∧ ∀ i, i < 141 → xw_s0 G ≤ xw_ad G i
theorem xw_dis {G : xw_G} (h : xw_ok G) (μ : xw_M) : va_D (xw_A G) (xw_W G μ) := by
  have key : ∀ (i : Nat) (p : Nat × va_E), (xw_W G μ)[i]? = some p → i < 141 ∧ p.1 = xw_ad G i := by
    intro i p hp
    by_cases hi : i < 141
    · rw [xw_at G μ hi] at hp
      cases hp
      exact ⟨hi, rfl⟩
    · have : (xw_W G μ)[i]? = none := by simp [xw_W]; omega
      rw [this] at hp
      cases hp
  refine ⟨fun i j p q hp hq e => ?_, fun k q hq => ?_⟩
  · obtain ⟨a1, a2⟩ := key i p hp
    obtain ⟨b1, b2⟩ := key j q hq
    exact h.1 i j a1 b1 (by rw [← a2, ← b2]; exact e)
  · obtain ⟨a1, a2⟩ := key k q hq
    show xw_s0 G ≤ q.1
    rw [a2]
    exact h.2 k a1
/-! ===== what nobody writes: nest links, statics, String constants ===== -/
def xw_NL : List Cond := [.methodLinkNest RX7 (13 : Nat) yX5_init RX7, .methodLinkNest RX3 (17 : Nat) yX2_init RX7, .methodLinkNest RX7 (45 : Nat) yX2_init RX7, .methodLinkNest RX7 (52 : Nat) yX4_init RX7, .methodLinkNest RX7 (59 : Nat) yX0_init RX7, .methodLinkNest RX7 (70 : Nat) yX6_init RX7, .methodLinkNest RX5 (58 : Nat) yX7_put RX7, .methodLinkNest RX4 (29 : Nat) yX7_put RX7, .methodLinkNest RX4 (39 : Nat) yX7_at RX7, .methodLinkNest RX2 (41 : Nat) yX7_at RX7, .methodLinkNest RX2 (37 : Nat) yX7_put RX7, .methodLinkNest RX5 (62 : Nat) yX7_copyRow RX7, .methodLinkNest RX1 (35 : Nat) yX7_copyRow RX7, .methodLinkNest RX1 (31 : Nat) yX7_put RX7, .methodLinkNest RX0 (27 : Nat) yX7_at RX7, .fieldLinkNest RX0 (48 : Nat) RX7 "ABOVE" "[I" RX7, .methodLinkNest RX0 (54 : Nat) yX7_put RX7]
def xw_sv : Nat → String × String × String := fun k => match k with
  | 0 => ("FuneralDebts", "ABOVE", "[I")
  | _ => ("FuneralDebts$Actor", "BODY", "[I")
def xw_above (j : Nat) : Int32 := ([-1, 0, 0, 0, 1, 2, 3] : List Int32).getD j 0
def xw_body (j : Nat) : Int32 := ([10, 0, 30, 0, 50, 0, 71, 11, 20, 0, 0, 51, 0, 70, 12, 0, 0, 40, 0, 60, 0] : List Int32).getD j 0
def xw_slen : List Nat := [5, 5, 5, 1, 1]
def xw_sbyt : List (List Int32) := [[121, 97, 114, 100, 32], [108, 101, 115, 115, 32], [109, 111, 114, 101, 32], [32], [41]]
def xw_Ev (G : xw_G) (U : State) : Prop := (∀ q ∈ xw_NL, va_Nw q U) ∧ vk_R RX3 42 "yard " (xw_sa G 10) U ∧ vk_R RX3 44 "less " (xw_sa G 11) U ∧ vk_R RX3 46 "more " (xw_sa G 12) U ∧ vk_R RX3 61 " " (xw_sa G 13) U ∧ vk_R RX3 91 ")" (xw_sa G 14) U
def xw_Eh (G : xw_G) (U : State) (H : Heap) : Prop := va_Z "FuneralDebts" "ABOVE" "[I" (.ref (xw_sa G 0)) (xw_A G) U H ∧ va_Z "FuneralDebts$Actor" "BODY" "[I" (.ref (xw_sa G 1)) (xw_A G) U H ∧ va_T .int (xw_sa G 0) 7 (fun j => .int (xw_above j)) (xw_A G) U H ∧ va_T .int (xw_sa G 1) 21 (fun j => .int (xw_body j)) (xw_A G) U H ∧ vk_S 5 xw_slen xw_sbyt (fun i => xw_sa G (10 + i)) (fun i => xw_sa G (20 + i)) (xw_A G) U H ∧ va_Z "java/lang/String" "COMPACT_STRINGS" "Z" (.int 1) (xw_A G) U H ∧ va_Zq "jdk/internal/util/Preconditions" "SIOOBE_FORMATTER" "Ljava/util/function/BiFunction;" (xw_A G) U H
def xw_E (G : xw_G) (U : State) (H : Heap) : Prop := xw_Ev G U ∧ xw_Eh G U H ∧ xw_s0 G ≤ H.size

theorem xw_Eh.moved {G : xw_G} {u U : State} {H : Heap} (hvm : u.vm.Alike U.vm) (h : xw_Eh G u H) : xw_Eh G U H := ⟨h.1.moved hvm, h.2.1.moved hvm, h.2.2.1.moved hvm, h.2.2.2.1.moved hvm, h.2.2.2.2.1.moved hvm, h.2.2.2.2.2.1.moved hvm, h.2.2.2.2.2.2.moved hvm⟩
theorem xw_Eh.kept {G : xw_G} {U : State} {H H1 : Heap} (h : xw_Eh G U H) (hq : ∀ a : Nat, a < H.size → ¬ xw_A G a → H1[a]? = H[a]?) : xw_Eh G U H1 := ⟨h.1.kept hq, h.2.1.kept hq, h.2.2.1.kept hq, h.2.2.2.1.kept hq, h.2.2.2.2.1.kept hq, h.2.2.2.2.2.1.kept hq, h.2.2.2.2.2.2.kept hq⟩
theorem xw_NL_warm : ∀ q ∈ xw_NL, ∀ {s U : State}, s.WarmedH U.vm → va_Nw q s → va_Nw q U := by
  intro q hq s U hW h
  simp only [xw_NL, List.mem_cons, List.not_mem_nil, or_false] at hq
  rcases hq with rfl | rfl | rfl | rfl | rfl | rfl | rfl | rfl | rfl | rfl | rfl | rfl | rfl | rfl | rfl | rfl | rfl <;> first | exact va_Nw.warmM hW h | exact va_Nw.warmF hW h
theorem xw_NL_tab : ∀ q ∈ xw_NL, q.onTables = true := by decide +kernel
theorem xw_Ev.warm {G : xw_G} {s U : State} (hW : s.WarmedH U.vm) (h : xw_Ev G s) : xw_Ev G U := ⟨fun q hq => xw_NL_warm q hq hW (h.1 q hq), vk_R.warm hW h.2.1, vk_R.warm hW h.2.2.1, vk_R.warm hW h.2.2.2.1, vk_R.warm hW h.2.2.2.2.1, vk_R.warm hW h.2.2.2.2.2⟩
theorem xw_Ev.same {G : xw_G} {u U : State} (hv : u.vm = U.vm) (h : xw_Ev G u) : xw_Ev G U := ⟨fun q hq => va_Nw.same (xw_NL_tab q hq) hv (h.1 q hq), vk_R.same hv.symm h.2.1, vk_R.same hv.symm h.2.2.1, vk_R.same hv.symm h.2.2.2.1, vk_R.same hv.symm h.2.2.2.2.1, vk_R.same hv.symm h.2.2.2.2.2⟩
def xw_In (G : xw_G) (μ : xw_M) (U : State) : Prop := va_P (xw_D G) xw_cl (xw_W G μ) U.heap ∧ va_K (xw_D G) xw_cl (xw_ty G) U ∧ xw_E G U U.heap
theorem xw_in {G : xw_G} {μ : xw_M} {s U : State} {H : Heap} {locs : List Loc} (hK : va_K (xw_D G) xw_cl (xw_ty G) s) (hE : xw_E G s s.heap) (hS : va_S (xw_A G) s.heap H locs) (hP : va_P (xw_D G) xw_cl (xw_W G μ) H) (hU : U.heap = H) (hW : s.WarmedH U.vm) : xw_In G μ U := by
  subst hU
  exact ⟨hP, va_K.moved hW.alike hK, hE.1.warm hW, (hE.2.1.kept hS.2.1).moved hW.alike, Nat.le_trans hE.2.2 hS.1⟩
theorem xw_blind (G : xw_G) (μ : xw_M) (av : List Value) : FrameBlind (va_Pc av (xw_In G μ)) := by
  intro a U g mk h
  exact ⟨h.1, h.2.1, va_K.moved (u := U) (U := U.calling g mk a) (Vm.Alike.refl U.vm) h.2.2.1, xw_Ev.same (u := U) (U := U.calling g mk a) rfl h.2.2.2.1, xw_Eh.moved (u := U) (U := U.calling g mk a) (Vm.Alike.refl U.vm) h.2.2.2.2.1, h.2.2.2.2.2⟩
/-! ===== contracts ===== -/
abbrev xw_rm (fr lo : Nat) : Room := { frames := fr, cells := 0, slots := 0, locals := lo }
def xw_Ti (l : Launch) (G : xw_G) (y : MethodName) (cy : ByteArray) (ny : Nat) (ry : Option FieldType) (fr lo : Nat) (av : List Value) (μ : xw_M) (r : Int32) (μ' : xw_M) : Prop := Met l y (.code y cy ny ry :: TB) (xw_rm fr lo) (va_Pc av (xw_In G μ)) (va_Qi (fun (r' : Int32) (m2 : xw_M) => r' = r ∧ m2 = μ') (fun m2 t => xw_In G m2 t) (xw_A G)) 0 0 (xw_A G)
def xw_Tl (l : Launch) (G : xw_G) (y : MethodName) (cy : ByteArray) (ny : Nat) (ry : Option FieldType) (fr lo : Nat) (av : List Value) (μ : xw_M) (r : Int64) (μ' : xw_M) : Prop := Met l y (.code y cy ny ry :: TB) (xw_rm fr lo) (va_Pc av (xw_In G μ)) (va_Ql (fun (r' : Int64) (m2 : xw_M) => r' = r ∧ m2 = μ') (fun m2 t => xw_In G m2 t) (xw_A G)) 0 0 (xw_A G)
def xw_Tv (l : Launch) (G : xw_G) (y : MethodName) (cy : ByteArray) (ny : Nat) (ry : Option FieldType) (fr lo : Nat) (av : List Value) (μ : xw_M) (r : Unit) (μ' : xw_M) : Prop := Met l y (.code y cy ny ry :: TB) (xw_rm fr lo) (va_Pc av (xw_In G μ)) (va_Qv (fun (m2 : xw_M) => r = () ∧ m2 = μ') (fun m2 t => xw_In G m2 t) (xw_A G)) 0 0 (xw_A G)
def xw_Tq (l : Launch) (G : xw_G) (y : MethodName) (cy : ByteArray) (ny : Nat) (ry : Option FieldType) (fr lo : Nat) (av : List Value) (μ : xw_M) (r : Option Nat) (μ' : xw_M) : Prop := Met l y (.code y cy ny ry :: TB) (xw_rm fr lo) (va_Pc av (xw_In G μ)) (va_Qq (fun (r' : Option Nat) (m2 : xw_M) => r' = r.map (xw_ad G) ∧ m2 = μ') (fun m2 t => xw_In G m2 t) (xw_A G)) 0 0 (xw_A G)
/-! ===== rows over the world ===== -/
section XW
variable {p : Program} {l : Launch} {e : Env} {R : Room} {s : State} {m : MethodId} {args : Array Value} {below : List Frame} {meth : Method} {c : Code} {H : Heap} {locs : List Loc} {cells slots : Nat} {Q : State → Prop}
variable {cc : ByteArray} {pc nL : Nat} {ls : Array Slot} {rest st0 : List Value} {own : String} {G : xw_G} {μ : xw_M}
theorem xw_get (hB : CallFix p m c cc nL s args TB own) (hK : va_K (xw_D G) xw_cl (xw_ty G) s) (hP : va_P (xw_D G) xw_cl (xw_W G μ) H) {ci k index N : Nat} {ref C : String} {T : u_T} {F : (Nat → Int32) → List Value} {v : Value} (ho : xw_io G ci k F) (hc : xw_cl[ci]? = some (C, T, N)) (hin : ∀ w ∈ u_ws C T N, w ∈ TB) (j : Nat) (hj : j < N) (hlink : Cond.fieldLink own index ref (T j).2.1 (T j).2.2.1 ∈ TB) (hr : ref = (T j).1) (hv : (F (μ.1 k))[j]? = some v) (hdg : decode cc pc = .ok (.getfield index, 3))
    (kk : W p l e R s m args below meth c H locs cells slots Q (F0 m (pc + 3) ls (v :: rest))) : W p l e R s m args below meth c H locs cells slots Q (F0 m pc ls (.ref (xw_ad G k) :: rest)) := by
  subst hr
  exact va_get (D := xw_D G) (ci := ci) (v := v) (C := C) (T := T) (N := N) hB.1 hB.2.1 hB.2.2.2.2 hin hB.2.2.2.1 hK hP k (ho.at μ) hc j hj (hB.2.2.2.2 _ hlink) (fun _ h9 => h9) hv hdg kk
theorem xw_put (hG : xw_ok G) (hB : CallFix p m c cc nL s args TB own) (hK : va_K (xw_D G) xw_cl (xw_ty G) s) (hS : va_S (xw_A G) s.heap H locs) (hP : va_P (xw_D G) xw_cl (xw_W G μ) H) {ci k index N : Nat} {ref C : String} {T : u_T} {F : (Nat → Int32) → List Value} {v : Value} {x : Int32} {ty : FieldType} (ho : xw_io G ci k F) (hc : xw_cl[ci]? = some (C, T, N)) (hin : ∀ w ∈ u_ws C T N, w ∈ TB) (ty0 : Nat → FieldType) (hty : ∀ k, k < N → parseFieldDescriptor (T k).2.2.1 = some (ty0 k)) (hnm : ∀ a, a < N → ∀ b, b < N → a ≠ b → (T a).2.1 ≠ (T b).2.1) (j : Nat) (hj : j < N) (hlink : Cond.fieldLink own index ref (T j).2.1 (T j).2.2.1 ∈ TB) (hr : ref = (T j).1) (hfin : (T j).2.2.2 = false) (hd : ty0 j = ty) (hn : narrow ty v = v) (hfit : fits ty v = true) (hl : j < (F (μ.1 k)).length) (hset : (F (μ.1 k)).set j v = F (upd (μ.1 k) j x)) (hdg : decode cc pc = .ok (.putfield index, 3))
    (kk : ∀ m1 : xw_M, m1 = xw_si μ k j x → ∀ (H1 : Heap) (locs1 : List Loc), va_P (xw_D G) xw_cl (xw_W G m1) H1 → va_S (xw_A G) s.heap H1 locs1 → W p l e R s m args below meth c H1 locs1 cells slots Q (F0 m (pc + 3) ls rest)) : W p l e R s m args below meth c H locs cells slots Q (F0 m pc ls (v :: .ref (xw_ad G k) :: rest)) := by
  subst hr
  refine va_put (D := xw_D G) (ci := ci) (v := v) (ty := ty) (C := C) (T := T) (N := N) hB.1 hB.2.1 hB.2.2.2.2 hin ty0 hty hnm hB.2.2.2.1 hK hP (xw_dis hG μ) hS k (ho.at μ) hc j hj (hB.2.2.2.2 _ hlink) (fun _ h9 => h9) hfin (by rw [hty j hj, hd]) hn hfit hl hdg (fun H1 locs1 hP1 _ hS1 => ?_)
  have hw : (xw_W G μ).set k (xw_ad G k, .inr (ci, (F (μ.1 k)).set j v)) = xw_W G (xw_si μ k j x) := xw_set G (by rw [ho.2, hset]; simp [xw_si, va_up]) (fun i hi => ⟨va_up_ne _ _ hi, rfl⟩)
  rw [hw] at hP1
  exact kk _ rfl H1 locs1 hP1 hS1
theorem xw_ild (hB : CallFix p m c cc nL s args TB own) (hK : va_K (xw_D G) xw_cl (xw_ty G) s) (hP : va_P (xw_D G) xw_cl (xw_W G μ) H) {k n : Nat} {i : Int32} (ha : xw_ia G 0 k n) (hin : vp_in i n) (hdg : decode cc pc = .ok (.iaload, 1))
    (kk : W p l e R s m args below meth c H locs cells slots Q (F0 m (pc + 1) ls (.int (μ.1 k i.toNatClampNeg) :: rest))) : W p l e R s m args below meth c H locs cells slots Q (F0 m pc ls (.int i :: .ref (xw_ad G k) :: rest)) :=
  va_iald hB.1 hB.2.1 hK hP k 0 (ha.at μ) rfl hin hdg kk
theorem xw_bld (hB : CallFix p m c cc nL s args TB own) (hK : va_K (xw_D G) xw_cl (xw_ty G) s) (hP : va_P (xw_D G) xw_cl (xw_W G μ) H) {k n : Nat} {i : Int32} (ha : xw_ia G 1 k n) (hin : vp_in i n) (hdg : decode cc pc = .ok (.baload, 1))
    (kk : W p l e R s m args below meth c H locs cells slots Q (F0 m (pc + 1) ls (.int (μ.1 k i.toNatClampNeg) :: rest))) : W p l e R s m args below meth c H locs cells slots Q (F0 m pc ls (.int i :: .ref (xw_ad G k) :: rest)) :=
  va_bald hB.1 hB.2.1 hK hP k 1 (ha.at μ) rfl hin hdg kk
theorem xw_cld (hB : CallFix p m c cc nL s args TB own) (hK : va_K (xw_D G) xw_cl (xw_ty G) s) (hP : va_P (xw_D G) xw_cl (xw_W G μ) H) {k n : Nat} {i : Int32} (ha : xw_ia G 2 k n) (hin : vp_in i n) (hdg : decode cc pc = .ok (.caload, 1))
    (kk : W p l e R s m args below meth c H locs cells slots Q (F0 m (pc + 1) ls (.int (μ.1 k i.toNatClampNeg) :: rest))) : W p l e R s m args below meth c H locs cells slots Q (F0 m pc ls (.int i :: .ref (xw_ad G k) :: rest)) :=
  va_cald hB.1 hB.2.1 hK hP k 2 (ha.at μ) rfl hin hdg kk
theorem xw_lld (hB : CallFix p m c cc nL s args TB own) (hK : va_K (xw_D G) xw_cl (xw_ty G) s) (hP : va_P (xw_D G) xw_cl (xw_W G μ) H) {k n : Nat} {i : Int32} (ha : xw_il G k n) (hin : vp_in i n) (hdg : decode cc pc = .ok (.laload, 1))
    (kk : W p l e R s m args below meth c H locs cells slots Q (F0 m (pc + 1) ls (.long (μ.2 k i.toNatClampNeg) :: rest))) : W p l e R s m args below meth c H locs cells slots Q (F0 m pc ls (.int i :: .ref (xw_ad G k) :: rest)) :=
  va_lald hB.1 hB.2.1 hK hP k 3 (ha.at μ) rfl hin hdg kk
theorem xw_ist (hG : xw_ok G) (hB : CallFix p m c cc nL s args TB own) (hK : va_K (xw_D G) xw_cl (xw_ty G) s) (hS : va_S (xw_A G) s.heap H locs) (hP : va_P (xw_D G) xw_cl (xw_W G μ) H) {k n : Nat} {i x : Int32} (ha : xw_ia G 0 k n) (hin : vp_in i n) (hdg : decode cc pc = .ok (.iastore, 1))
    (kk : ∀ m1 : xw_M, m1 = xw_si μ k i.toNatClampNeg x → ∀ (H1 : Heap) (locs1 : List Loc), va_P (xw_D G) xw_cl (xw_W G m1) H1 → va_S (xw_A G) s.heap H1 locs1 → W p l e R s m args below meth c H1 locs1 cells slots Q (F0 m (pc + 1) ls rest)) : W p l e R s m args below meth c H locs cells slots Q (F0 m pc ls (.int x :: .int i :: .ref (xw_ad G k) :: rest)) := by
  refine va_iast hB.1 hB.2.1 hK hP (xw_dis hG μ) hS k 0 (ha.at μ) rfl hin hdg (fun H1 locs1 hP1 _ hS1 => ?_)
  have hw : (xw_W G μ).set k (xw_ad G k, .inl (xw_q G 0, n, .inl (upd (μ.1 k) i.toNatClampNeg x))) = xw_W G (xw_si μ k i.toNatClampNeg x) := xw_set G (by rw [ha.2]; simp [xw_si, va_up]) (fun j hj => ⟨va_up_ne _ _ hj, rfl⟩)
  rw [hw] at hP1
  exact kk _ rfl H1 locs1 hP1 hS1
theorem xw_bst (hG : xw_ok G) (hB : CallFix p m c cc nL s args TB own) (hK : va_K (xw_D G) xw_cl (xw_ty G) s) (hS : va_S (xw_A G) s.heap H locs) (hP : va_P (xw_D G) xw_cl (xw_W G μ) H) {k n : Nat} {i x : Int32} (ha : xw_ia G 1 k n) (hin : vp_in i n) (hdg : decode cc pc = .ok (.bastore, 1))
    (kk : ∀ m1 : xw_M, m1 = xw_si μ k i.toNatClampNeg (vp_nar .byte x) → ∀ (H1 : Heap) (locs1 : List Loc), va_P (xw_D G) xw_cl (xw_W G m1) H1 → va_S (xw_A G) s.heap H1 locs1 → W p l e R s m args below meth c H1 locs1 cells slots Q (F0 m (pc + 1) ls rest)) : W p l e R s m args below meth c H locs cells slots Q (F0 m pc ls (.int x :: .int i :: .ref (xw_ad G k) :: rest)) := by
  refine va_bast hB.1 hB.2.1 hK hP (xw_dis hG μ) hS k 1 (ha.at μ) rfl hin hdg (fun H1 locs1 hP1 _ hS1 => ?_)
  have hw : (xw_W G μ).set k (xw_ad G k, .inl (xw_q G 1, n, .inl (upd (μ.1 k) i.toNatClampNeg (vp_nar .byte x)))) = xw_W G (xw_si μ k i.toNatClampNeg (vp_nar .byte x)) := xw_set G (by rw [ha.2]; simp [xw_si, va_up]) (fun j hj => ⟨va_up_ne _ _ hj, rfl⟩)
  rw [hw] at hP1
  exact kk _ rfl H1 locs1 hP1 hS1
theorem xw_lst (hG : xw_ok G) (hB : CallFix p m c cc nL s args TB own) (hK : va_K (xw_D G) xw_cl (xw_ty G) s) (hS : va_S (xw_A G) s.heap H locs) (hP : va_P (xw_D G) xw_cl (xw_W G μ) H) {k n : Nat} {i : Int32} {x : Int64} (ha : xw_il G k n) (hin : vp_in i n) (hdg : decode cc pc = .ok (.lastore, 1))
    (kk : ∀ m1 : xw_M, m1 = xw_sl μ k i.toNatClampNeg x → ∀ (H1 : Heap) (locs1 : List Loc), va_P (xw_D G) xw_cl (xw_W G m1) H1 → va_S (xw_A G) s.heap H1 locs1 → W p l e R s m args below meth c H1 locs1 cells slots Q (F0 m (pc + 1) ls rest)) : W p l e R s m args below meth c H locs cells slots Q (F0 m pc ls (.long x :: .int i :: .ref (xw_ad G k) :: rest)) := by
  refine va_last hB.1 hB.2.1 hK hP (xw_dis hG μ) hS k 3 (ha.at μ) rfl hin hdg (fun H1 locs1 hP1 _ hS1 => ?_)
  have hw : (xw_W G μ).set k (xw_ad G k, .inl (xw_q G 3, n, .inr (.inl (vp_updL (μ.2 k) i.toNatClampNeg x)))) = xw_W G (xw_sl μ k i.toNatClampNeg x) := xw_set G (by rw [ha.2]; simp [xw_sl, va_up]) (fun j hj => ⟨rfl, va_up_ne _ _ hj⟩)
  rw [hw] at hP1
  exact kk _ rfl H1 locs1 hP1 hS1
theorem xw_ilen (hB : CallFix p m c cc nL s args TB own) (hK : va_K (xw_D G) xw_cl (xw_ty G) s) (hP : va_P (xw_D G) xw_cl (xw_W G μ) H) {t k n : Nat} {ty : FieldType} (ha : xw_ia G t k n) (ht : (xw_ty G)[t]? = some (xw_q G t, ty)) (hdg : decode cc pc = .ok (.arraylength, 1))
    (kk : W p l e R s m args below meth c H locs cells slots Q (F0 m (pc + 1) ls (.int (nI n) :: rest))) : W p l e R s m args below meth c H locs cells slots Q (F0 m pc ls (.ref (xw_ad G k) :: rest)) :=
  va_alen hB.1 hB.2.1 hK hP k t (ha.at μ) ht rfl hdg kk
theorem xw_llen (hB : CallFix p m c cc nL s args TB own) (hK : va_K (xw_D G) xw_cl (xw_ty G) s) (hP : va_P (xw_D G) xw_cl (xw_W G μ) H) {k n : Nat} (ha : xw_il G k n) (hdg : decode cc pc = .ok (.arraylength, 1))
    (kk : W p l e R s m args below meth c H locs cells slots Q (F0 m (pc + 1) ls (.int (nI n) :: rest))) : W p l e R s m args below meth c H locs cells slots Q (F0 m pc ls (.ref (xw_ad G k) :: rest)) :=
  va_alen hB.1 hB.2.1 hK hP k 3 (ha.at μ) rfl rfl hdg kk
theorem xw_rlen (hB : CallFix p m c cc nL s args TB own) (hK : va_K (xw_D G) xw_cl (xw_ty G) s) (hP : va_P (xw_D G) xw_cl (xw_W G μ) H) {t k n : Nat} {ty : FieldType} {r : Nat → Option Nat} (ha : xw_ir G t k n r) (ht : (xw_ty G)[t]? = some (xw_q G t, ty)) (hdg : decode cc pc = .ok (.arraylength, 1))
    (kk : W p l e R s m args below meth c H locs cells slots Q (F0 m (pc + 1) ls (.int (nI n) :: rest))) : W p l e R s m args below meth c H locs cells slots Q (F0 m pc ls (.ref (xw_ad G k) :: rest)) :=
  va_alen hB.1 hB.2.1 hK hP k t (ha.at μ) ht rfl hdg kk
theorem xw_rldP (hB : CallFix p m c cc nL s args TB own) (hK : va_K (xw_D G) xw_cl (xw_ty G) s) (hP : va_P (xw_D G) xw_cl (xw_W G μ) H) {i : Int32} (hin : vp_in i 6) (hdg : decode cc pc = .ok (.aaload, 1))
    (kk : W p l e R s m args below meth c H locs cells slots Q (F0 m (pc + 1) ls (.ref (xw_ad G (58 + 6 * i.toNatClampNeg)) :: rest))) : W p l e R s m args below meth c H locs cells slots Q (F0 m pc ls (.int i :: .ref (xw_ad G 57) :: rest)) :=
  va_aldq hB.1 hB.2.1 hK hP 57 4 ((xw_k57 G).at μ) rfl hin hdg kk
theorem xw_rldT (hB : CallFix p m c cc nL s args TB own) (hK : va_K (xw_D G) xw_cl (xw_ty G) s) (hP : va_P (xw_D G) xw_cl (xw_W G μ) H) {i : Int32} (hin : vp_in i 6) (hdg : decode cc pc = .ok (.aaload, 1))
    (kk : W p l e R s m args below meth c H locs cells slots Q (F0 m (pc + 1) ls (.ref (xw_ad G (107 + 2 * i.toNatClampNeg)) :: rest))) : W p l e R s m args below meth c H locs cells slots Q (F0 m pc ls (.int i :: .ref (xw_ad G 106) :: rest)) :=
  va_aldq hB.1 hB.2.1 hK hP 106 5 ((xw_k106 G).at μ) rfl hin hdg kk
theorem xw_iret {v r0 : Int32} {m0 : xw_M} (hB : CallFix p m c cc nL s args TB own) (hK : va_K (xw_D G) xw_cl (xw_ty G) s) (hE : xw_E G s s.heap) (hS : va_S (xw_A G) s.heap H locs) (hP : va_P (xw_D G) xw_cl (xw_W G μ) H) (hr : meth.sig.returnType = some .int) (hlk : meth.locks = false) (h0 : v = r0) (h1 : μ = m0) (hdg : decode cc pc = .ok (.ireturn, 1)) : W p l e R s m args below meth c H locs 0 0 (MQ below (va_Qi (fun (r' : Int32) (m2 : xw_M) => r' = r0 ∧ m2 = m0) (fun m2 t => xw_In G m2 t) (xw_A G)) args s 0 0 (xw_A G)) (F0 m pc ls [.int v]) := by
  subst h0; subst h1
  exact W.iret hB.1 hB.2.1 hr (fun t ht hW => ⟨⟨v, μ, rfl, ⟨rfl, rfl⟩, xw_in hK hE hS hP ht hW⟩, hS.F ht⟩) hS.2.2 hdg hlk
theorem xw_zret {v r0 : Int32} {m0 : xw_M} {ty : FieldType} (hB : CallFix p m c cc nL s args TB own) (hK : va_K (xw_D G) xw_cl (xw_ty G) s) (hE : xw_E G s s.heap) (hS : va_S (xw_A G) s.heap H locs) (hP : va_P (xw_D G) xw_cl (xw_W G μ) H) (hr : meth.sig.returnType = some ty) (hlk : meth.locks = false) (hn : narrow ty (.int v) = .int v) (h0 : v = r0) (h1 : μ = m0) (hdg : decode cc pc = .ok (.ireturn, 1)) : W p l e R s m args below meth c H locs 0 0 (MQ below (va_Qi (fun (r' : Int32) (m2 : xw_M) => r' = r0 ∧ m2 = m0) (fun m2 t => xw_In G m2 t) (xw_A G)) args s 0 0 (xw_A G)) (F0 m pc ls [.int v]) := by
  subst h0; subst h1
  exact W.zret hB.1 hB.2.1 hr hn (fun t ht hW => ⟨⟨v, μ, rfl, ⟨rfl, rfl⟩, xw_in hK hE hS hP ht hW⟩, hS.F ht⟩) hS.2.2 hdg hlk
theorem xw_lret {v r0 : Int64} {m0 : xw_M} (hB : CallFix p m c cc nL s args TB own) (hK : va_K (xw_D G) xw_cl (xw_ty G) s) (hE : xw_E G s s.heap) (hS : va_S (xw_A G) s.heap H locs) (hP : va_P (xw_D G) xw_cl (xw_W G μ) H) (hr : meth.sig.returnType = some .long) (hlk : meth.locks = false) (h0 : v = r0) (h1 : μ = m0) (hdg : decode cc pc = .ok (.lreturn, 1)) : W p l e R s m args below meth c H locs 0 0 (MQ below (va_Ql (fun (r' : Int64) (m2 : xw_M) => r' = r0 ∧ m2 = m0) (fun m2 t => xw_In G m2 t) (xw_A G)) args s 0 0 (xw_A G)) (F0 m pc ls [.long v]) := by
  subst h0; subst h1
  exact W.lret hB.1 hB.2.1 hr (fun t ht hW => ⟨⟨v, μ, rfl, ⟨rfl, rfl⟩, xw_in hK hE hS hP ht hW⟩, hS.F ht⟩) hS.2.2 hdg hlk
theorem xw_vret {m0 : xw_M} {r0 : Unit} (hB : CallFix p m c cc nL s args TB own) (hK : va_K (xw_D G) xw_cl (xw_ty G) s) (hE : xw_E G s s.heap) (hS : va_S (xw_A G) s.heap H locs) (hP : va_P (xw_D G) xw_cl (xw_W G μ) H) (hr : meth.sig.returnType = none) (hlk : meth.locks = false) (h1 : μ = m0) (hdg : decode cc pc = .ok (.return_, 1)) : W p l e R s m args below meth c H locs 0 0 (MQ below (va_Qv (fun (m2 : xw_M) => r0 = () ∧ m2 = m0) (fun m2 t => xw_In G m2 t) (xw_A G)) args s 0 0 (xw_A G)) (F0 m pc ls []) := by
  subst h1
  exact W.vret hB.1 hB.2.1 hr (fun t ht hW => ⟨⟨μ, rfl, ⟨rfl, rfl⟩, xw_in hK hE hS hP ht hW⟩, hS.F ht⟩) hS.2.2 hdg hlk
theorem xw_aret {v r0 : Option Nat} {m0 : xw_M} {C : String} (hB : CallFix p m c cc nL s args TB own) (hK : va_K (xw_D G) xw_cl (xw_ty G) s) (hE : xw_E G s s.heap) (hS : va_S (xw_A G) s.heap H locs) (hP : va_P (xw_D G) xw_cl (xw_W G μ) H) (hr : meth.sig.returnType = some (.object C)) (hlk : meth.locks = false) (h0 : v = r0) (h1 : μ = m0) (hdg : decode cc pc = .ok (.areturn, 1)) : W p l e R s m args below meth c H locs 0 0 (MQ below (va_Qq (fun (r' : Option Nat) (m2 : xw_M) => r' = r0.map (xw_ad G) ∧ m2 = m0) (fun m2 t => xw_In G m2 t) (xw_A G)) args s 0 0 (xw_A G)) (F0 m pc ls [va_rf (v.map (xw_ad G))]) := by
  subst h0; subst h1
  exact W.aret hB.1 hB.2.1 hr (Or.inl ⟨C, rfl⟩) (va_rf_or _) (fun t ht hW => ⟨⟨v.map (xw_ad G), μ, rfl, ⟨rfl, rfl⟩, xw_in hK hE hS hP ht hW⟩, hS.F ht⟩) hS.2.2 hdg hlk
theorem xw_Vi (hB : CallFix p m c cc nL s args TB own) (hK : va_K (xw_D G) xw_cl (xw_ty G) s) (hE : xw_E G s s.heap) (hS : va_S (xw_A G) s.heap H locs) (hP : va_P (xw_D G) xw_cl (xw_W G μ) H) {y : MethodName} {cy : ByteArray} {ny fr lo index : Nat} {ry : Option FieldType} {As : List Value} {r : Int32} {m' : xw_M} {ba : Addr} {C : String} (hM : xw_Ti l G y cy ny ry fr lo (.ref ba :: As) μ r m') (hg : GoodIn TB (wsV own index C y (.code y cy ny ry :: TB))) (hrc : ∃ cell : Cell, H[ba]? = some cell ∧ cell.vm.isStatics = false ∧ s.vm.findClass C = some cell.cls) (n : Nat) (hd : y.cls = C ∧ y.cls ≠ "java/lang/invoke/MethodHandle" ∧ y.cls ≠ "java/lang/invoke/VarHandle" ∧ (parseMethodDescriptor y.desc).map (fun d => d.parameters.length) = some n) (hR : fr + 1 ≤ R.frames ∧ 8 + (ny + 11) + lo ≤ R.locals) (hn : As.length = n) (hsz : ls.size = nL) (hst : (rest.map fun v => v.category).sum ≤ 8) (hst0 : st0 = As.reverse ++ .ref ba :: rest) (hdg : decode cc pc = .ok (.invokevirtual index, 3)) (hcs : cells ≤ R.cells ∧ slots ≤ R.slots)
    (kk : ∀ (H1 : Heap) (locs1 : List Loc), va_P (xw_D G) xw_cl (xw_W G m') H1 → va_S (xw_A G) s.heap H1 locs1 → W p l e R s m args below meth c H1 locs1 cells slots Q (F0 m (pc + 3) ls (.int r :: rest))) : W p l e R s m args below meth c H locs cells slots Q (F0 m pc ls st0) := by
  refine va_calli (va_runV (As := As) (rest := rest) (b := ba) ⟨hB.1, hB.2.1, hB.2.2.1, hB.2.2.2.1, hB.2.2.2.2⟩ hM (cwV n hB.2.2.2.2 hg rfl rfl rfl hd hR) ⟨xw_blind G μ _, hrc, fun U hU hW => ⟨rfl, xw_in hK hE hS hP hU hW⟩⟩ rfl hn hsz hst0 (lv_room hst) hdg hcs) hS (fun q _ h => h) (fun q h => h) (fun r2 m2 t H1 locs1 ht hvm hw hB2 hz1 hk1 hS1 => ?_)
  obtain ⟨e1, e2⟩ := hw
  subst e1
  subst e2
  have hP1 := hB2.1
  rw [ht] at hP1
  exact kk H1 locs1 hP1 hS1
theorem xw_Si (hB : CallFix p m c cc nL s args TB own) (hK : va_K (xw_D G) xw_cl (xw_ty G) s) (hE : xw_E G s s.heap) (hS : va_S (xw_A G) s.heap H locs) (hP : va_P (xw_D G) xw_cl (xw_W G μ) H) {y : MethodName} {cy : ByteArray} {ny fr lo index : Nat} {ry : Option FieldType} {As : List Value} {r : Int32} {m' : xw_M} (hM : xw_Ti l G y cy ny ry fr lo As μ r m') (hg : Cond.methodLink own index y ∈ TB) (hg2 : Cond.code y cy ny ry ∈ TB) (hg3 : Cond.static y ∈ TB) (hg4 : Cond.initialized y.cls ∈ TB) (n : Nat) (hd : y.cls ≠ "java/lang/invoke/MethodHandle" ∧ y.cls ≠ "java/lang/invoke/VarHandle" ∧ (parseMethodDescriptor y.desc).map (fun d => d.parameters.length) = some n) (hR : fr + 1 ≤ R.frames ∧ 8 + (ny + 11) + lo ≤ R.locals) (hn : As.length = n) (hsz : ls.size = nL) (hst : (rest.map fun v => v.category).sum ≤ 8) (hst0 : st0 = As.reverse ++ rest) (hdg : decode cc pc = .ok (.invokestatic index, 3)) (hcs : cells ≤ R.cells ∧ slots ≤ R.slots)
    (kk : ∀ (H1 : Heap) (locs1 : List Loc), va_P (xw_D G) xw_cl (xw_W G m') H1 → va_S (xw_A G) s.heap H1 locs1 → W p l e R s m args below meth c H1 locs1 cells slots Q (F0 m (pc + 3) ls (.int r :: rest))) : W p l e R s m args below meth c H locs cells slots Q (F0 m pc ls st0) := by
  refine va_calli (va_runS (As := As) (rest := rest) ⟨hB.1, hB.2.1, hB.2.2.1, hB.2.2.2.1, hB.2.2.2.2⟩ hM ⟨callB_of n hB.2.2.2.2 (xw_gW hg2) rfl rfl rfl (hB.2.2.2.2 _ hg4) (hB.2.2.2.2 _ hg) hd hR, hB.2.2.2.2 _ hg3⟩ ⟨xw_blind G μ _, fun U hU hW => ⟨rfl, xw_in hK hE hS hP hU hW⟩⟩ rfl hn hsz hst0 (lv_room hst) hdg hcs) hS (fun q _ h => h) (fun q h => h) (fun r2 m2 t H1 locs1 ht hvm hw hB2 hz1 hk1 hS1 => ?_)
  obtain ⟨e1, e2⟩ := hw
  subst e1
  subst e2
  have hP1 := hB2.1
  rw [ht] at hP1
  exact kk H1 locs1 hP1 hS1
theorem xw_Ni (hB : CallFix p m c cc nL s args TB own) (hK : va_K (xw_D G) xw_cl (xw_ty G) s) (hE : xw_E G s s.heap) (hS : va_S (xw_A G) s.heap H locs) (hP : va_P (xw_D G) xw_cl (xw_W G μ) H) {y : MethodName} {cy : ByteArray} {ny fr lo index : Nat} {ry : Option FieldType} {As : List Value} {r : Int32} {m' : xw_M} {host : String} (hM : xw_Ti l G y cy ny ry fr lo As μ r m') (hg : Cond.methodLinkNest own index y host ∈ xw_NL) (hg2 : Cond.code y cy ny ry ∈ TB) (hg3 : Cond.static y ∈ TB) (hg4 : Cond.initialized y.cls ∈ TB) (n : Nat) (hd : y.cls ≠ "java/lang/invoke/MethodHandle" ∧ y.cls ≠ "java/lang/invoke/VarHandle" ∧ (parseMethodDescriptor y.desc).map (fun d => d.parameters.length) = some n) (hR : fr + 1 ≤ R.frames ∧ 8 + (ny + 11) + lo ≤ R.locals) (hn : As.length = n) (hsz : ls.size = nL) (hst : (rest.map fun v => v.category).sum ≤ 8) (hst0 : st0 = As.reverse ++ rest) (hdg : decode cc pc = .ok (.invokestatic index, 3)) (hcs : cells ≤ R.cells ∧ slots ≤ R.slots)
    (kk : ∀ (H1 : Heap) (locs1 : List Loc), va_P (xw_D G) xw_cl (xw_W G m') H1 → va_S (xw_A G) s.heap H1 locs1 → W p l e R s m args below meth c H1 locs1 cells slots Q (F0 m (pc + 3) ls (.int r :: rest))) : W p l e R s m args below meth c H locs cells slots Q (F0 m pc ls st0) := by
  refine va_calli (va_runSN (As := As) (rest := rest) ⟨hB.1, hB.2.1, hB.2.2.1, hB.2.2.2.1, hB.2.2.2.2⟩ hM ⟨va_cnB n hB.2.2.2.2 (xw_gW hg2) rfl rfl rfl (hE.1.1 _ hg) (hB.2.2.2.2 _ hg4) hd hR, hB.2.2.2.2 _ hg3, trivial⟩ ⟨xw_blind G μ _, fun U hU hW => ⟨rfl, xw_in hK hE hS hP hU hW⟩⟩ rfl hn hsz hst0 (lv_room hst) hdg hcs) hS (fun q _ h => h) (fun q h => h) (fun r2 m2 t H1 locs1 ht hvm hw hB2 hz1 hk1 hS1 => ?_)
  obtain ⟨e1, e2⟩ := hw
  subst e1
  subst e2
  have hP1 := hB2.1
  rw [ht] at hP1
  exact kk H1 locs1 hP1 hS1
theorem xw_Vl (hB : CallFix p m c cc nL s args TB own) (hK : va_K (xw_D G) xw_cl (xw_ty G) s) (hE : xw_E G s s.heap) (hS : va_S (xw_A G) s.heap H locs) (hP : va_P (xw_D G) xw_cl (xw_W G μ) H) {y : MethodName} {cy : ByteArray} {ny fr lo index : Nat} {ry : Option FieldType} {As : List Value} {r : Int64} {m' : xw_M} {ba : Addr} {C : String} (hM : xw_Tl l G y cy ny ry fr lo (.ref ba :: As) μ r m') (hg : GoodIn TB (wsV own index C y (.code y cy ny ry :: TB))) (hrc : ∃ cell : Cell, H[ba]? = some cell ∧ cell.vm.isStatics = false ∧ s.vm.findClass C = some cell.cls) (n : Nat) (hd : y.cls = C ∧ y.cls ≠ "java/lang/invoke/MethodHandle" ∧ y.cls ≠ "java/lang/invoke/VarHandle" ∧ (parseMethodDescriptor y.desc).map (fun d => d.parameters.length) = some n) (hR : fr + 1 ≤ R.frames ∧ 8 + (ny + 11) + lo ≤ R.locals) (hn : As.length = n) (hsz : ls.size = nL) (hst : (rest.map fun v => v.category).sum ≤ 8) (hst0 : st0 = As.reverse ++ .ref ba :: rest) (hdg : decode cc pc = .ok (.invokevirtual index, 3)) (hcs : cells ≤ R.cells ∧ slots ≤ R.slots)
    (kk : ∀ (H1 : Heap) (locs1 : List Loc), va_P (xw_D G) xw_cl (xw_W G m') H1 → va_S (xw_A G) s.heap H1 locs1 → W p l e R s m args below meth c H1 locs1 cells slots Q (F0 m (pc + 3) ls (.long r :: rest))) : W p l e R s m args below meth c H locs cells slots Q (F0 m pc ls st0) := by
  refine va_calll (va_runV (As := As) (rest := rest) (b := ba) ⟨hB.1, hB.2.1, hB.2.2.1, hB.2.2.2.1, hB.2.2.2.2⟩ hM (cwV n hB.2.2.2.2 hg rfl rfl rfl hd hR) ⟨xw_blind G μ _, hrc, fun U hU hW => ⟨rfl, xw_in hK hE hS hP hU hW⟩⟩ rfl hn hsz hst0 (lv_room hst) hdg hcs) hS (fun q _ h => h) (fun q h => h) (fun r2 m2 t H1 locs1 ht hvm hw hB2 hz1 hk1 hS1 => ?_)
  obtain ⟨e1, e2⟩ := hw
  subst e1
  subst e2
  have hP1 := hB2.1
  rw [ht] at hP1
  exact kk H1 locs1 hP1 hS1
theorem xw_Sl (hB : CallFix p m c cc nL s args TB own) (hK : va_K (xw_D G) xw_cl (xw_ty G) s) (hE : xw_E G s s.heap) (hS : va_S (xw_A G) s.heap H locs) (hP : va_P (xw_D G) xw_cl (xw_W G μ) H) {y : MethodName} {cy : ByteArray} {ny fr lo index : Nat} {ry : Option FieldType} {As : List Value} {r : Int64} {m' : xw_M} (hM : xw_Tl l G y cy ny ry fr lo As μ r m') (hg : Cond.methodLink own index y ∈ TB) (hg2 : Cond.code y cy ny ry ∈ TB) (hg3 : Cond.static y ∈ TB) (hg4 : Cond.initialized y.cls ∈ TB) (n : Nat) (hd : y.cls ≠ "java/lang/invoke/MethodHandle" ∧ y.cls ≠ "java/lang/invoke/VarHandle" ∧ (parseMethodDescriptor y.desc).map (fun d => d.parameters.length) = some n) (hR : fr + 1 ≤ R.frames ∧ 8 + (ny + 11) + lo ≤ R.locals) (hn : As.length = n) (hsz : ls.size = nL) (hst : (rest.map fun v => v.category).sum ≤ 8) (hst0 : st0 = As.reverse ++ rest) (hdg : decode cc pc = .ok (.invokestatic index, 3)) (hcs : cells ≤ R.cells ∧ slots ≤ R.slots)
    (kk : ∀ (H1 : Heap) (locs1 : List Loc), va_P (xw_D G) xw_cl (xw_W G m') H1 → va_S (xw_A G) s.heap H1 locs1 → W p l e R s m args below meth c H1 locs1 cells slots Q (F0 m (pc + 3) ls (.long r :: rest))) : W p l e R s m args below meth c H locs cells slots Q (F0 m pc ls st0) := by
  refine va_calll (va_runS (As := As) (rest := rest) ⟨hB.1, hB.2.1, hB.2.2.1, hB.2.2.2.1, hB.2.2.2.2⟩ hM ⟨callB_of n hB.2.2.2.2 (xw_gW hg2) rfl rfl rfl (hB.2.2.2.2 _ hg4) (hB.2.2.2.2 _ hg) hd hR, hB.2.2.2.2 _ hg3⟩ ⟨xw_blind G μ _, fun U hU hW => ⟨rfl, xw_in hK hE hS hP hU hW⟩⟩ rfl hn hsz hst0 (lv_room hst) hdg hcs) hS (fun q _ h => h) (fun q h => h) (fun r2 m2 t H1 locs1 ht hvm hw hB2 hz1 hk1 hS1 => ?_)
  obtain ⟨e1, e2⟩ := hw
  subst e1
  subst e2
  have hP1 := hB2.1
  rw [ht] at hP1
  exact kk H1 locs1 hP1 hS1
theorem xw_Nl (hB : CallFix p m c cc nL s args TB own) (hK : va_K (xw_D G) xw_cl (xw_ty G) s) (hE : xw_E G s s.heap) (hS : va_S (xw_A G) s.heap H locs) (hP : va_P (xw_D G) xw_cl (xw_W G μ) H) {y : MethodName} {cy : ByteArray} {ny fr lo index : Nat} {ry : Option FieldType} {As : List Value} {r : Int64} {m' : xw_M} {host : String} (hM : xw_Tl l G y cy ny ry fr lo As μ r m') (hg : Cond.methodLinkNest own index y host ∈ xw_NL) (hg2 : Cond.code y cy ny ry ∈ TB) (hg3 : Cond.static y ∈ TB) (hg4 : Cond.initialized y.cls ∈ TB) (n : Nat) (hd : y.cls ≠ "java/lang/invoke/MethodHandle" ∧ y.cls ≠ "java/lang/invoke/VarHandle" ∧ (parseMethodDescriptor y.desc).map (fun d => d.parameters.length) = some n) (hR : fr + 1 ≤ R.frames ∧ 8 + (ny + 11) + lo ≤ R.locals) (hn : As.length = n) (hsz : ls.size = nL) (hst : (rest.map fun v => v.category).sum ≤ 8) (hst0 : st0 = As.reverse ++ rest) (hdg : decode cc pc = .ok (.invokestatic index, 3)) (hcs : cells ≤ R.cells ∧ slots ≤ R.slots)
    (kk : ∀ (H1 : Heap) (locs1 : List Loc), va_P (xw_D G) xw_cl (xw_W G m') H1 → va_S (xw_A G) s.heap H1 locs1 → W p l e R s m args below meth c H1 locs1 cells slots Q (F0 m (pc + 3) ls (.long r :: rest))) : W p l e R s m args below meth c H locs cells slots Q (F0 m pc ls st0) := by
  refine va_calll (va_runSN (As := As) (rest := rest) ⟨hB.1, hB.2.1, hB.2.2.1, hB.2.2.2.1, hB.2.2.2.2⟩ hM ⟨va_cnB n hB.2.2.2.2 (xw_gW hg2) rfl rfl rfl (hE.1.1 _ hg) (hB.2.2.2.2 _ hg4) hd hR, hB.2.2.2.2 _ hg3, trivial⟩ ⟨xw_blind G μ _, fun U hU hW => ⟨rfl, xw_in hK hE hS hP hU hW⟩⟩ rfl hn hsz hst0 (lv_room hst) hdg hcs) hS (fun q _ h => h) (fun q h => h) (fun r2 m2 t H1 locs1 ht hvm hw hB2 hz1 hk1 hS1 => ?_)
  obtain ⟨e1, e2⟩ := hw
  subst e1
  subst e2
  have hP1 := hB2.1
  rw [ht] at hP1
  exact kk H1 locs1 hP1 hS1
theorem xw_Vv (hB : CallFix p m c cc nL s args TB own) (hK : va_K (xw_D G) xw_cl (xw_ty G) s) (hE : xw_E G s s.heap) (hS : va_S (xw_A G) s.heap H locs) (hP : va_P (xw_D G) xw_cl (xw_W G μ) H) {y : MethodName} {cy : ByteArray} {ny fr lo index : Nat} {ry : Option FieldType} {As : List Value} {r : Unit} {m' : xw_M} {ba : Addr} {C : String} (hM : xw_Tv l G y cy ny ry fr lo (.ref ba :: As) μ r m') (hg : GoodIn TB (wsV own index C y (.code y cy ny ry :: TB))) (hrc : ∃ cell : Cell, H[ba]? = some cell ∧ cell.vm.isStatics = false ∧ s.vm.findClass C = some cell.cls) (n : Nat) (hd : y.cls = C ∧ y.cls ≠ "java/lang/invoke/MethodHandle" ∧ y.cls ≠ "java/lang/invoke/VarHandle" ∧ (parseMethodDescriptor y.desc).map (fun d => d.parameters.length) = some n) (hR : fr + 1 ≤ R.frames ∧ 8 + (ny + 11) + lo ≤ R.locals) (hn : As.length = n) (hsz : ls.size = nL) (hst : (rest.map fun v => v.category).sum ≤ 8) (hst0 : st0 = As.reverse ++ .ref ba :: rest) (hdg : decode cc pc = .ok (.invokevirtual index, 3)) (hcs : cells ≤ R.cells ∧ slots ≤ R.slots)
    (kk : ∀ (H1 : Heap) (locs1 : List Loc), va_P (xw_D G) xw_cl (xw_W G m') H1 → va_S (xw_A G) s.heap H1 locs1 → W p l e R s m args below meth c H1 locs1 cells slots Q (F0 m (pc + 3) ls (rest))) : W p l e R s m args below meth c H locs cells slots Q (F0 m pc ls st0) := by
  refine va_callv (va_runV (As := As) (rest := rest) (b := ba) ⟨hB.1, hB.2.1, hB.2.2.1, hB.2.2.2.1, hB.2.2.2.2⟩ hM (cwV n hB.2.2.2.2 hg rfl rfl rfl hd hR) ⟨xw_blind G μ _, hrc, fun U hU hW => ⟨rfl, xw_in hK hE hS hP hU hW⟩⟩ rfl hn hsz hst0 (lv_room hst) hdg hcs) hS (fun q _ h => h) (fun q h => h) (fun m2 t H1 locs1 ht hvm hw hB2 hz1 hk1 hS1 => ?_)
  obtain ⟨-, e2⟩ := hw
  subst e2
  have hP1 := hB2.1
  rw [ht] at hP1
  exact kk H1 locs1 hP1 hS1
theorem xw_Sv (hB : CallFix p m c cc nL s args TB own) (hK : va_K (xw_D G) xw_cl (xw_ty G) s) (hE : xw_E G s s.heap) (hS : va_S (xw_A G) s.heap H locs) (hP : va_P (xw_D G) xw_cl (xw_W G μ) H) {y : MethodName} {cy : ByteArray} {ny fr lo index : Nat} {ry : Option FieldType} {As : List Value} {r : Unit} {m' : xw_M} (hM : xw_Tv l G y cy ny ry fr lo As μ r m') (hg : Cond.methodLink own index y ∈ TB) (hg2 : Cond.code y cy ny ry ∈ TB) (hg3 : Cond.static y ∈ TB) (hg4 : Cond.initialized y.cls ∈ TB) (n : Nat) (hd : y.cls ≠ "java/lang/invoke/MethodHandle" ∧ y.cls ≠ "java/lang/invoke/VarHandle" ∧ (parseMethodDescriptor y.desc).map (fun d => d.parameters.length) = some n) (hR : fr + 1 ≤ R.frames ∧ 8 + (ny + 11) + lo ≤ R.locals) (hn : As.length = n) (hsz : ls.size = nL) (hst : (rest.map fun v => v.category).sum ≤ 8) (hst0 : st0 = As.reverse ++ rest) (hdg : decode cc pc = .ok (.invokestatic index, 3)) (hcs : cells ≤ R.cells ∧ slots ≤ R.slots)
    (kk : ∀ (H1 : Heap) (locs1 : List Loc), va_P (xw_D G) xw_cl (xw_W G m') H1 → va_S (xw_A G) s.heap H1 locs1 → W p l e R s m args below meth c H1 locs1 cells slots Q (F0 m (pc + 3) ls (rest))) : W p l e R s m args below meth c H locs cells slots Q (F0 m pc ls st0) := by
  refine va_callv (va_runS (As := As) (rest := rest) ⟨hB.1, hB.2.1, hB.2.2.1, hB.2.2.2.1, hB.2.2.2.2⟩ hM ⟨callB_of n hB.2.2.2.2 (xw_gW hg2) rfl rfl rfl (hB.2.2.2.2 _ hg4) (hB.2.2.2.2 _ hg) hd hR, hB.2.2.2.2 _ hg3⟩ ⟨xw_blind G μ _, fun U hU hW => ⟨rfl, xw_in hK hE hS hP hU hW⟩⟩ rfl hn hsz hst0 (lv_room hst) hdg hcs) hS (fun q _ h => h) (fun q h => h) (fun m2 t H1 locs1 ht hvm hw hB2 hz1 hk1 hS1 => ?_)
  obtain ⟨-, e2⟩ := hw
  subst e2
  have hP1 := hB2.1
  rw [ht] at hP1
  exact kk H1 locs1 hP1 hS1
theorem xw_Nv (hB : CallFix p m c cc nL s args TB own) (hK : va_K (xw_D G) xw_cl (xw_ty G) s) (hE : xw_E G s s.heap) (hS : va_S (xw_A G) s.heap H locs) (hP : va_P (xw_D G) xw_cl (xw_W G μ) H) {y : MethodName} {cy : ByteArray} {ny fr lo index : Nat} {ry : Option FieldType} {As : List Value} {r : Unit} {m' : xw_M} {host : String} (hM : xw_Tv l G y cy ny ry fr lo As μ r m') (hg : Cond.methodLinkNest own index y host ∈ xw_NL) (hg2 : Cond.code y cy ny ry ∈ TB) (hg3 : Cond.static y ∈ TB) (hg4 : Cond.initialized y.cls ∈ TB) (n : Nat) (hd : y.cls ≠ "java/lang/invoke/MethodHandle" ∧ y.cls ≠ "java/lang/invoke/VarHandle" ∧ (parseMethodDescriptor y.desc).map (fun d => d.parameters.length) = some n) (hR : fr + 1 ≤ R.frames ∧ 8 + (ny + 11) + lo ≤ R.locals) (hn : As.length = n) (hsz : ls.size = nL) (hst : (rest.map fun v => v.category).sum ≤ 8) (hst0 : st0 = As.reverse ++ rest) (hdg : decode cc pc = .ok (.invokestatic index, 3)) (hcs : cells ≤ R.cells ∧ slots ≤ R.slots)
    (kk : ∀ (H1 : Heap) (locs1 : List Loc), va_P (xw_D G) xw_cl (xw_W G m') H1 → va_S (xw_A G) s.heap H1 locs1 → W p l e R s m args below meth c H1 locs1 cells slots Q (F0 m (pc + 3) ls (rest))) : W p l e R s m args below meth c H locs cells slots Q (F0 m pc ls st0) := by
  refine va_callv (va_runSN (As := As) (rest := rest) ⟨hB.1, hB.2.1, hB.2.2.1, hB.2.2.2.1, hB.2.2.2.2⟩ hM ⟨va_cnB n hB.2.2.2.2 (xw_gW hg2) rfl rfl rfl (hE.1.1 _ hg) (hB.2.2.2.2 _ hg4) hd hR, hB.2.2.2.2 _ hg3, trivial⟩ ⟨xw_blind G μ _, fun U hU hW => ⟨rfl, xw_in hK hE hS hP hU hW⟩⟩ rfl hn hsz hst0 (lv_room hst) hdg hcs) hS (fun q _ h => h) (fun q h => h) (fun m2 t H1 locs1 ht hvm hw hB2 hz1 hk1 hS1 => ?_)
  obtain ⟨-, e2⟩ := hw
  subst e2
  have hP1 := hB2.1
  rw [ht] at hP1
  exact kk H1 locs1 hP1 hS1
theorem xw_Vq (hB : CallFix p m c cc nL s args TB own) (hK : va_K (xw_D G) xw_cl (xw_ty G) s) (hE : xw_E G s s.heap) (hS : va_S (xw_A G) s.heap H locs) (hP : va_P (xw_D G) xw_cl (xw_W G μ) H) {y : MethodName} {cy : ByteArray} {ny fr lo index : Nat} {ry : Option FieldType} {As : List Value} {r : Option Nat} {m' : xw_M} {ba : Addr} {C : String} (hM : xw_Tq l G y cy ny ry fr lo (.ref ba :: As) μ r m') (hg : GoodIn TB (wsV own index C y (.code y cy ny ry :: TB))) (hrc : ∃ cell : Cell, H[ba]? = some cell ∧ cell.vm.isStatics = false ∧ s.vm.findClass C = some cell.cls) (n : Nat) (hd : y.cls = C ∧ y.cls ≠ "java/lang/invoke/MethodHandle" ∧ y.cls ≠ "java/lang/invoke/VarHandle" ∧ (parseMethodDescriptor y.desc).map (fun d => d.parameters.length) = some n) (hR : fr + 1 ≤ R.frames ∧ 8 + (ny + 11) + lo ≤ R.locals) (hn : As.length = n) (hsz : ls.size = nL) (hst : (rest.map fun v => v.category).sum ≤ 8) (hst0 : st0 = As.reverse ++ .ref ba :: rest) (hdg : decode cc pc = .ok (.invokevirtual index, 3)) (hcs : cells ≤ R.cells ∧ slots ≤ R.slots)
    (kk : ∀ (H1 : Heap) (locs1 : List Loc), va_P (xw_D G) xw_cl (xw_W G m') H1 → va_S (xw_A G) s.heap H1 locs1 → W p l e R s m args below meth c H1 locs1 cells slots Q (F0 m (pc + 3) ls (va_rf (r.map (xw_ad G)) :: rest))) : W p l e R s m args below meth c H locs cells slots Q (F0 m pc ls st0) := by
  refine va_callq (va_runV (As := As) (rest := rest) (b := ba) ⟨hB.1, hB.2.1, hB.2.2.1, hB.2.2.2.1, hB.2.2.2.2⟩ hM (cwV n hB.2.2.2.2 hg rfl rfl rfl hd hR) ⟨xw_blind G μ _, hrc, fun U hU hW => ⟨rfl, xw_in hK hE hS hP hU hW⟩⟩ rfl hn hsz hst0 (lv_room hst) hdg hcs) hS (fun q _ h => h) (fun q h => h) (fun r2 m2 t H1 locs1 ht hvm hw hB2 hz1 hk1 hS1 => ?_)
  obtain ⟨e1, e2⟩ := hw
  subst e1
  subst e2
  have hP1 := hB2.1
  rw [ht] at hP1
  exact kk H1 locs1 hP1 hS1
theorem xw_Sq (hB : CallFix p m c cc nL s args TB own) (hK : va_K (xw_D G) xw_cl (xw_ty G) s) (hE : xw_E G s s.heap) (hS : va_S (xw_A G) s.heap H locs) (hP : va_P (xw_D G) xw_cl (xw_W G μ) H) {y : MethodName} {cy : ByteArray} {ny fr lo index : Nat} {ry : Option FieldType} {As : List Value} {r : Option Nat} {m' : xw_M} (hM : xw_Tq l G y cy ny ry fr lo As μ r m') (hg : Cond.methodLink own index y ∈ TB) (hg2 : Cond.code y cy ny ry ∈ TB) (hg3 : Cond.static y ∈ TB) (hg4 : Cond.initialized y.cls ∈ TB) (n : Nat) (hd : y.cls ≠ "java/lang/invoke/MethodHandle" ∧ y.cls ≠ "java/lang/invoke/VarHandle" ∧ (parseMethodDescriptor y.desc).map (fun d => d.parameters.length) = some n) (hR : fr + 1 ≤ R.frames ∧ 8 + (ny + 11) + lo ≤ R.locals) (hn : As.length = n) (hsz : ls.size = nL) (hst : (rest.map fun v => v.category).sum ≤ 8) (hst0 : st0 = As.reverse ++ rest) (hdg : decode cc pc = .ok (.invokestatic index, 3)) (hcs : cells ≤ R.cells ∧ slots ≤ R.slots)
    (kk : ∀ (H1 : Heap) (locs1 : List Loc), va_P (xw_D G) xw_cl (xw_W G m') H1 → va_S (xw_A G) s.heap H1 locs1 → W p l e R s m args below meth c H1 locs1 cells slots Q (F0 m (pc + 3) ls (va_rf (r.map (xw_ad G)) :: rest))) : W p l e R s m args below meth c H locs cells slots Q (F0 m pc ls st0) := by
  refine va_callq (va_runS (As := As) (rest := rest) ⟨hB.1, hB.2.1, hB.2.2.1, hB.2.2.2.1, hB.2.2.2.2⟩ hM ⟨callB_of n hB.2.2.2.2 (xw_gW hg2) rfl rfl rfl (hB.2.2.2.2 _ hg4) (hB.2.2.2.2 _ hg) hd hR, hB.2.2.2.2 _ hg3⟩ ⟨xw_blind G μ _, fun U hU hW => ⟨rfl, xw_in hK hE hS hP hU hW⟩⟩ rfl hn hsz hst0 (lv_room hst) hdg hcs) hS (fun q _ h => h) (fun q h => h) (fun r2 m2 t H1 locs1 ht hvm hw hB2 hz1 hk1 hS1 => ?_)
  obtain ⟨e1, e2⟩ := hw
  subst e1
  subst e2
  have hP1 := hB2.1
  rw [ht] at hP1
  exact kk H1 locs1 hP1 hS1
theorem xw_Nq (hB : CallFix p m c cc nL s args TB own) (hK : va_K (xw_D G) xw_cl (xw_ty G) s) (hE : xw_E G s s.heap) (hS : va_S (xw_A G) s.heap H locs) (hP : va_P (xw_D G) xw_cl (xw_W G μ) H) {y : MethodName} {cy : ByteArray} {ny fr lo index : Nat} {ry : Option FieldType} {As : List Value} {r : Option Nat} {m' : xw_M} {host : String} (hM : xw_Tq l G y cy ny ry fr lo As μ r m') (hg : Cond.methodLinkNest own index y host ∈ xw_NL) (hg2 : Cond.code y cy ny ry ∈ TB) (hg3 : Cond.static y ∈ TB) (hg4 : Cond.initialized y.cls ∈ TB) (n : Nat) (hd : y.cls ≠ "java/lang/invoke/MethodHandle" ∧ y.cls ≠ "java/lang/invoke/VarHandle" ∧ (parseMethodDescriptor y.desc).map (fun d => d.parameters.length) = some n) (hR : fr + 1 ≤ R.frames ∧ 8 + (ny + 11) + lo ≤ R.locals) (hn : As.length = n) (hsz : ls.size = nL) (hst : (rest.map fun v => v.category).sum ≤ 8) (hst0 : st0 = As.reverse ++ rest) (hdg : decode cc pc = .ok (.invokestatic index, 3)) (hcs : cells ≤ R.cells ∧ slots ≤ R.slots)
    (kk : ∀ (H1 : Heap) (locs1 : List Loc), va_P (xw_D G) xw_cl (xw_W G m') H1 → va_S (xw_A G) s.heap H1 locs1 → W p l e R s m args below meth c H1 locs1 cells slots Q (F0 m (pc + 3) ls (va_rf (r.map (xw_ad G)) :: rest))) : W p l e R s m args below meth c H locs cells slots Q (F0 m pc ls st0) := by
  refine va_callq (va_runSN (As := As) (rest := rest) ⟨hB.1, hB.2.1, hB.2.2.1, hB.2.2.2.1, hB.2.2.2.2⟩ hM ⟨va_cnB n hB.2.2.2.2 (xw_gW hg2) rfl rfl rfl (hE.1.1 _ hg) (hB.2.2.2.2 _ hg4) hd hR, hB.2.2.2.2 _ hg3, trivial⟩ ⟨xw_blind G μ _, fun U hU hW => ⟨rfl, xw_in hK hE hS hP hU hW⟩⟩ rfl hn hsz hst0 (lv_room hst) hdg hcs) hS (fun q _ h => h) (fun q h => h) (fun r2 m2 t H1 locs1 ht hvm hw hB2 hz1 hk1 hS1 => ?_)
  obtain ⟨e1, e2⟩ := hw
  subst e1
  subst e2
  have hP1 := hB2.1
  rw [ht] at hP1
  exact kk H1 locs1 hP1 hS1
theorem xw_rc (hK : va_K (xw_D G) xw_cl (xw_ty G) s) (hP : va_P (xw_D G) xw_cl (xw_W G μ) H) {ci k N : Nat} {C : String} {T : u_T} {F : (Nat → Int32) → List Value} (ho : xw_io G ci k F) (hc : xw_cl[ci]? = some (C, T, N)) : ∃ cell : Cell, H[xw_ad G k]? = some cell ∧ cell.vm.isStatics = false ∧ s.vm.findClass C = some cell.cls := va_recv hK hP hc (ho.at μ)
theorem xw_gsq (hB : CallFix p m c cc nL s args TB own) (hS : va_S (xw_A G) s.heap H locs) {C n d ref : String} {index : Nat} (hZ : va_Zq C n d (xw_A G) s s.heap) (hlink : Cond.fieldLink own index ref n d ∈ TB) (hr : ref = C) (hdg : decode cc pc = .ok (.getstatic index, 3))
    (kk : ∀ z : Value, (z = .null ∨ ∃ t, z = .ref t) → W p l e R s m args below meth c H locs cells slots Q (F0 m (pc + 3) ls (z :: rest))) : W p l e R s m args below meth c H locs cells slots Q (F0 m pc ls rest) := by
  subst hr
  rcases hZ with h | ⟨t, h⟩
  · exact va_gets hB.1 hB.2.1 h hS hB.2.2.2.1 (hB.2.2.2.2 _ hlink) (fun _ h => h) hdg (kk _ (Or.inl rfl))
  · exact va_gets hB.1 hB.2.1 h hS hB.2.2.2.1 (hB.2.2.2.2 _ hlink) (fun _ h => h) hdg (kk _ (Or.inr ⟨t, rfl⟩))
theorem xw_gs (hB : CallFix p m c cc nL s args TB own) (hS : va_S (xw_A G) s.heap H locs) {C n d ref : String} {index : Nat} {v : Value} (hZ : va_Z C n d v (xw_A G) s s.heap) (hlink : Cond.fieldLink own index ref n d ∈ TB) (hr : ref = C) (hdg : decode cc pc = .ok (.getstatic index, 3))
    (kk : W p l e R s m args below meth c H locs cells slots Q (F0 m (pc + 3) ls (v :: rest))) : W p l e R s m args below meth c H locs cells slots Q (F0 m pc ls rest) := by
  subst hr
  exact va_gets hB.1 hB.2.1 hZ hS hB.2.2.2.1 (hB.2.2.2.2 _ hlink) (fun _ h => h) hdg kk
theorem xw_gsN (hB : CallFix p m c cc nL s args TB own) (hE : xw_E G s s.heap) (hS : va_S (xw_A G) s.heap H locs) {C n d ref host : String} {index : Nat} {v : Value} (hZ : va_Z C n d v (xw_A G) s s.heap) (hlink : Cond.fieldLinkNest own index ref n d host ∈ xw_NL) (hr : ref = C) (hdg : decode cc pc = .ok (.getstatic index, 3))
    (kk : W p l e R s m args below meth c H locs cells slots Q (F0 m (pc + 3) ls (v :: rest))) : W p l e R s m args below meth c H locs cells slots Q (F0 m pc ls rest) := by
  subst hr
  exact va_getsN hB.1 hB.2.1 hZ hS hB.2.2.2.1 (va_Nw.use rfl (hE.1.1 _ hlink)) (fun _ h => h) hdg kk
theorem xw_copyi (hG : xw_ok G) (hB : CallFix p m c cc nL s args TB own) (hK : va_K (xw_D G) xw_cl (xw_ty G) s) (hS : va_S (xw_A G) s.heap H locs) (hP : va_P (xw_D G) xw_cl (xw_W G μ) H) {k k' n n' index : Nat} {sp dp z : Int32} (ha : xw_ia G 0 k n) (ha' : xw_ia G 0 k' n') (hc : ¬ sp < 0 ∧ ¬ dp < 0 ∧ ¬ z < 0 ∧ sp.toNatClampNeg + z.toNatClampNeg ≤ n ∧ dp.toNatClampNeg + z.toNatClampNeg ≤ n') (h1 : Cond.methodLink own index arraycopyName ∈ TB) (h2 : Cond.native arraycopyName ∈ TB) (h3 : Cond.static arraycopyName ∈ TB) (h4 : Cond.initialized "java/lang/System" ∈ TB) (hsz : ls.size = nL) (hfr : 1 ≤ R.frames) (hlo : (rest.map fun v => v.category).sum + (nativeFrameWords "java/lang/System" "arraycopy" 5 + 11) ≤ R.locals) (hdg : decode cc pc = .ok (.invokestatic index, 3))
    (kk : ∀ m1 : xw_M, m1 = xw_ci μ k k' sp.toNatClampNeg dp.toNatClampNeg z.toNatClampNeg → ∀ (H1 : Heap) (locs1 : List Loc), va_P (xw_D G) xw_cl (xw_W G m1) H1 → va_S (xw_A G) s.heap H1 locs1 → W p l e R s m args below meth c H1 locs1 cells slots Q (F0 m (pc + 3) ls rest)) : W p l e R s m args below meth c H locs cells slots Q (F0 m pc ls (.int z :: .int dp :: .ref (xw_ad G k') :: .int sp :: .ref (xw_ad G k) :: rest)) := by
  have ht := hB.2.2.2.2
  refine va_copyi hB.1 hB.2.1 (hB.2.2.1.trans hsz.symm) hB.2.2.2.1 (ht _ h1) (ht _ h2) (ht _ h3) (ht _ h4) hK hP (xw_dis hG μ) hS k k' 0 0 (ha.at μ) (ha'.at μ) rfl rfl rfl hc.1 hc.2.1 hc.2.2.1 hc.2.2.2.1 hc.2.2.2.2 (fun _ _ => rfl) hfr hlo hdg (fun H1 locs1 hP1 _ hS1 => ?_)
  have hw : (xw_W G μ).set k' (xw_ad G k', .inl (xw_q G 0, n', .inl (va_cpy (μ.1 k) (μ.1 k') sp.toNatClampNeg dp.toNatClampNeg z.toNatClampNeg))) = xw_W G (xw_ci μ k k' sp.toNatClampNeg dp.toNatClampNeg z.toNatClampNeg) := xw_set G (by rw [ha'.2]; simp [xw_ci, va_up]) (fun j hj => ⟨va_up_ne _ _ hj, rfl⟩)
  rw [hw] at hP1
  exact kk _ rfl H1 locs1 hP1 hS1
theorem xw_copyl (hG : xw_ok G) (hB : CallFix p m c cc nL s args TB own) (hK : va_K (xw_D G) xw_cl (xw_ty G) s) (hS : va_S (xw_A G) s.heap H locs) (hP : va_P (xw_D G) xw_cl (xw_W G μ) H) {k k' n n' index : Nat} {sp dp z : Int32} (ha : xw_il G k n) (ha' : xw_il G k' n') (hc : ¬ sp < 0 ∧ ¬ dp < 0 ∧ ¬ z < 0 ∧ sp.toNatClampNeg + z.toNatClampNeg ≤ n ∧ dp.toNatClampNeg + z.toNatClampNeg ≤ n') (h1 : Cond.methodLink own index arraycopyName ∈ TB) (h2 : Cond.native arraycopyName ∈ TB) (h3 : Cond.static arraycopyName ∈ TB) (h4 : Cond.initialized "java/lang/System" ∈ TB) (hsz : ls.size = nL) (hfr : 1 ≤ R.frames) (hlo : (rest.map fun v => v.category).sum + (nativeFrameWords "java/lang/System" "arraycopy" 5 + 11) ≤ R.locals) (hdg : decode cc pc = .ok (.invokestatic index, 3))
    (kk : ∀ m1 : xw_M, m1 = xw_cL μ k k' sp.toNatClampNeg dp.toNatClampNeg z.toNatClampNeg → ∀ (H1 : Heap) (locs1 : List Loc), va_P (xw_D G) xw_cl (xw_W G m1) H1 → va_S (xw_A G) s.heap H1 locs1 → W p l e R s m args below meth c H1 locs1 cells slots Q (F0 m (pc + 3) ls rest)) : W p l e R s m args below meth c H locs cells slots Q (F0 m pc ls (.int z :: .int dp :: .ref (xw_ad G k') :: .int sp :: .ref (xw_ad G k) :: rest)) := by
  have ht := hB.2.2.2.2
  refine va_copyl hB.1 hB.2.1 (hB.2.2.1.trans hsz.symm) hB.2.2.2.1 (ht _ h1) (ht _ h2) (ht _ h3) (ht _ h4) hK hP (xw_dis hG μ) hS k k' 3 3 (ha.at μ) (ha'.at μ) rfl rfl rfl hc.1 hc.2.1 hc.2.2.1 hc.2.2.2.1 hc.2.2.2.2 (fun _ _ => rfl) hfr hlo hdg (fun H1 locs1 hP1 _ hS1 => ?_)
  have hw : (xw_W G μ).set k' (xw_ad G k', .inl (xw_q G 3, n', .inr (.inl (va_cpy (μ.2 k) (μ.2 k') sp.toNatClampNeg dp.toNatClampNeg z.toNatClampNeg)))) = xw_W G (xw_cL μ k k' sp.toNatClampNeg dp.toNatClampNeg z.toNatClampNeg) := xw_set G (by rw [ha'.2]; simp [xw_cL, va_up]) (fun j hj => ⟨rfl, va_up_ne _ _ hj⟩)
  rw [hw] at hP1
  exact kk _ rfl H1 locs1 hP1 hS1
abbrev xw_Wi (G : xw_G) (p : Program) (l : Launch) (e : Env) (R : Room) (s : State) (m : MethodId) (args : Array Value) (below : List Frame) (meth : Method) (c : Code) (H : Heap) (locs : List Loc) (r0 : Int32) (wz : xw_M) (g : JFrame) : Prop := W p l e R s m args below meth c H locs 0 0 (MQ below (va_Qi (fun (r' : Int32) (m2 : xw_M) => r' = r0 ∧ m2 = wz) (fun m2 t => xw_In G m2 t) (xw_A G)) args s 0 0 (xw_A G)) g
abbrev xw_Wl (G : xw_G) (p : Program) (l : Launch) (e : Env) (R : Room) (s : State) (m : MethodId) (args : Array Value) (below : List Frame) (meth : Method) (c : Code) (H : Heap) (locs : List Loc) (r0 : Int64) (wz : xw_M) (g : JFrame) : Prop := W p l e R s m args below meth c H locs 0 0 (MQ below (va_Ql (fun (r' : Int64) (m2 : xw_M) => r' = r0 ∧ m2 = wz) (fun m2 t => xw_In G m2 t) (xw_A G)) args s 0 0 (xw_A G)) g
abbrev xw_Wv (G : xw_G) (p : Program) (l : Launch) (e : Env) (R : Room) (s : State) (m : MethodId) (args : Array Value) (below : List Frame) (meth : Method) (c : Code) (H : Heap) (locs : List Loc) (r0 : Unit) (wz : xw_M) (g : JFrame) : Prop := W p l e R s m args below meth c H locs 0 0 (MQ below (va_Qv (fun (m2 : xw_M) => r0 = () ∧ m2 = wz) (fun m2 t => xw_In G m2 t) (xw_A G)) args s 0 0 (xw_A G)) g
abbrev xw_Wq (G : xw_G) (p : Program) (l : Launch) (e : Env) (R : Room) (s : State) (m : MethodId) (args : Array Value) (below : List Frame) (meth : Method) (c : Code) (H : Heap) (locs : List Loc) (r0 : Option Nat) (wz : xw_M) (g : JFrame) : Prop := W p l e R s m args below meth c H locs 0 0 (MQ below (va_Qq (fun (r' : Option Nat) (m2 : xw_M) => r' = r0.map (xw_ad G) ∧ m2 = wz) (fun m2 t => xw_In G m2 t) (xw_A G)) args s 0 0 (xw_A G)) g
end XW
theorem xw_sA0 {G : xw_G} (U : State) (H : Heap) (h : xw_Eh G U H) : va_T .int (xw_sa G 0) 7 (fun j => .int (xw_above j)) (xw_A G) U H := h.2.2.1
theorem xw_sA1 {G : xw_G} (U : State) (H : Heap) (h : xw_Eh G U H) : va_T .int (xw_sa G 1) 21 (fun j => .int (xw_body j)) (xw_A G) U H := h.2.2.2.1
theorem xw_sS {G : xw_G} {k : Nat} (hk : k < 5) {U : State} {H : Heap} (h : xw_Eh G U H) : va_O "java/lang/String" (xw_sa G (10 + k)) (xw_A G) U H ∧ va_OF "java/lang/String" "coder" "B" (.int 0) (xw_sa G (10 + k)) (xw_A G) U H ∧ va_OF "java/lang/String" "value" "[B" (.ref (xw_sa G (20 + k))) (xw_sa G (10 + k)) (xw_A G) U H ∧ va_T .byte (xw_sa G (20 + k)) (xw_slen.getD k 0) (fun j => .int ((xw_sbyt.getD k []).getD j 0)) (xw_A G) U H := h.2.2.2.2.1.1 k hk
/-! ===== what the walks' functions are made of ===== -/
def xw_b {α β : Type} (o : Option (α × xw_M)) (k : α → xw_M → Option β) : Option β := match o with
  | none => none
  | some z => k z.1 z.2
def xw_bp {α β : Type} (o : Option α) (k : α → Option β) : Option β := match o with
  | none => none
  | some z => k z
def xw_lt {α β : Type} (e : α) (k : α → Option β) : Option β := k e
def xw_ck {β : Type} (i : Int32) (n : Nat) (k : Option β) : Option β := if i < 0 ∨ n ≤ i.toNatClampNeg then none else k
def xw_cc {β : Type} (c : Prop) [Decidable c] (k : Option β) : Option β := if c then k else none
def xw_om {α β : Type} (o : Option α) (a : Option β) (k : α → Option β) : Option β := match o with
  | none => a
  | some z => k z
def xw_su {α β γ : Type} (o : α ⊕ β) (a : α → Option γ) (b : β → Option γ) : Option γ := match o with
  | .inl z => a z
  | .inr z => b z
def xw_it {α β : Type} (f : α → Option (α ⊕ β)) : Nat → α → Option β
  | 0, _ => none
  | n + 1, a => match f a with
    | none => none
    | some (.inl a') => xw_it f n a'
    | some (.inr b) => some b
theorem xw_b_e {α β : Type} {o : Option (α × xw_M)} {k : α → xw_M → Option β} {z : β} (h : xw_b o k = some z) : ∃ r m1, o = some (r, m1) ∧ k r m1 = some z := by
  cases o with
  | none => cases h
  | some q => exact ⟨q.1, q.2, rfl, h⟩
theorem xw_bp_e {α β : Type} {o : Option α} {k : α → Option β} {z : β} (h : xw_bp o k = some z) : ∃ r, o = some r ∧ k r = some z := by
  cases o with
  | none => cases h
  | some q => exact ⟨q, rfl, h⟩
theorem xw_lt_e {α β : Type} {e y : α} {k : α → Option β} {z : Option β} (hy : y = e) (h : xw_lt e k = z) : k y = z := by subst hy; exact h
theorem xw_ck_e {β : Type} {i : Int32} {n : Nat} {k : Option β} {z : β} (h : xw_ck i n k = some z) : vp_in i n ∧ k = some z := by
  unfold xw_ck at h
  split at h
  · cases h
  · exact ⟨by assumption, h⟩
theorem xw_cc_e {β : Type} {c : Prop} [Decidable c] {k : Option β} {z : β} (h : xw_cc c k = some z) : c ∧ k = some z := by
  unfold xw_cc at h
  split at h
  · exact ⟨by assumption, h⟩
  · cases h
theorem xw_ip {β : Type} {c : Prop} [Decidable c] {a b z : β} (hc : c) (h : (if c then a else b) = z) : a = z := by rw [if_pos hc] at h; exact h
theorem xw_in' {β : Type} {c : Prop} [Decidable c] {a b z : β} (hc : ¬ c) (h : (if c then a else b) = z) : b = z := by rw [if_neg hc] at h; exact h
theorem xw_it_e {α β : Type} {f : α → Option (α ⊕ β)} {n : Nat} {a : α} {b : β} (h : xw_it f (n + 1) a = some b) : ∃ w, f a = some w ∧ ((∀ a', w = .inl a' → xw_it f n a' = some b) ∧ ∀ b', w = .inr b' → b' = b) := by
  unfold xw_it at h
  cases hf : f a with
  | none => rw [hf] at h; cases h
  | some w =>
    refine ⟨w, rfl, fun a' e => ?_, fun b' e => ?_⟩
    · subst e; rw [hf] at h; exact h
    · subst e; rw [hf] at h; exact Option.some.inj h
theorem xw_so {α : Type} {a b : α} (h : some a = some b) : a = b := Option.some.inj h
theorem xw_s2 {α β : Type} {a c : α} {b d : β} (h : some (a, b) = some (c, d)) : a = c ∧ b = d := by cases h; exact ⟨rfl, rfl⟩
theorem xw_nar {v : Int32} (h : v = 0 ∨ v = 1) : narrow .boolean (.int v) = .int v := by rcases h with rfl | rfl <;> rfl
end
