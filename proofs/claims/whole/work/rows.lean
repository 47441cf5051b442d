section
-- ===== PART A: goes FIRST, ahead of the names: the tables' words, and 'selects' of the private methods out of them =====
/-- a private method of a class that the tables say can be made, by its rows of tables_1 -/
def lw_okq (q : MethodName × Nat) : Prop := (q.1.cls ≠ "java/lang/invoke/MethodHandle" ∧ q.1.cls ≠ "java/lang/invoke/VarHandle") ∧ Cond.instantiable q.1.cls q.2 ∈ tables_1 ∧ Cond.privateMethod q.1 ∈ tables_1 ∧ Cond.instanceMethod q.1 ∈ tables_1
theorem lw_p0 : lw_okq (⟨"CandleDip", "possibleOfKind", "(I)I"⟩, 9) := ⟨⟨by decide +kernel, by decide +kernel⟩, List.mem_of_getElem? (i := 17) (by decide +kernel), List.mem_of_getElem? (i := 180) (by decide +kernel), List.mem_of_getElem? (i := 181) (by decide +kernel)⟩
theorem lw_p1 : lw_okq (⟨"CandleDip", "planOneMore", "(III)I"⟩, 9) := ⟨⟨by decide +kernel, by decide +kernel⟩, List.mem_of_getElem? (i := 17) (by decide +kernel), List.mem_of_getElem? (i := 202) (by decide +kernel), List.mem_of_getElem? (i := 203) (by decide +kernel)⟩
theorem lw_p2 : lw_okq (⟨"CandleDip", "framesMade", "()I"⟩, 9) := ⟨⟨by decide +kernel, by decide +kernel⟩, List.mem_of_getElem? (i := 17) (by decide +kernel), List.mem_of_getElem? (i := 221) (by decide +kernel), List.mem_of_getElem? (i := 222) (by decide +kernel)⟩
theorem lw_p3 : lw_okq (⟨"CandleDip", "framesHanging", "()I"⟩, 9) := ⟨⟨by decide +kernel, by decide +kernel⟩, List.mem_of_getElem? (i := 17) (by decide +kernel), List.mem_of_getElem? (i := 225) (by decide +kernel), List.mem_of_getElem? (i := 226) (by decide +kernel)⟩
theorem lw_p4 : lw_okq (⟨"CandleDip", "ordersTaken", "()I"⟩, 9) := ⟨⟨by decide +kernel, by decide +kernel⟩, List.mem_of_getElem? (i := 17) (by decide +kernel), List.mem_of_getElem? (i := 234) (by decide +kernel), List.mem_of_getElem? (i := 235) (by decide +kernel)⟩
theorem lw_p5 : lw_okq (⟨"CandleDip", "ordersInState", "(I)I"⟩, 9) := ⟨⟨by decide +kernel, by decide +kernel⟩, List.mem_of_getElem? (i := 17) (by decide +kernel), List.mem_of_getElem? (i := 238) (by decide +kernel), List.mem_of_getElem? (i := 239) (by decide +kernel)⟩
theorem lw_p6 : lw_okq (⟨"java/lang/Throwable", "fillInStackTrace", "(I)Ljava/lang/Throwable;"⟩, 6) := ⟨⟨by decide +kernel, by decide +kernel⟩, List.mem_of_getElem? (i := 280) (by decide +kernel), List.mem_of_getElem? (i := 278) (by decide +kernel), List.mem_of_getElem? (i := 279) (by decide +kernel)⟩
theorem lw_p7 : lw_okq (⟨"CandleDip", "frameAt", "(I)LCandleDip$Frame;"⟩, 9) := ⟨⟨by decide +kernel, by decide +kernel⟩, List.mem_of_getElem? (i := 17) (by decide +kernel), List.mem_of_getElem? (i := 320) (by decide +kernel), List.mem_of_getElem? (i := 321) (by decide +kernel)⟩
theorem lw_p8 : lw_okq (⟨"CandleDip", "orderAt", "(I)LCandleDip$Order;"⟩, 9) := ⟨⟨by decide +kernel, by decide +kernel⟩, List.mem_of_getElem? (i := 17) (by decide +kernel), List.mem_of_getElem? (i := 341) (by decide +kernel), List.mem_of_getElem? (i := 342) (by decide +kernel)⟩
theorem lw_p9 : lw_okq (⟨"CandleDip", "frameOn", "(I)I"⟩, 9) := ⟨⟨by decide +kernel, by decide +kernel⟩, List.mem_of_getElem? (i := 17) (by decide +kernel), List.mem_of_getElem? (i := 429) (by decide +kernel), List.mem_of_getElem? (i := 430) (by decide +kernel)⟩
theorem lw_p10 : lw_okq (⟨"CandleDip$Frame", "meltOff", "(I)V"⟩, 7) := ⟨⟨by decide +kernel, by decide +kernel⟩, List.mem_of_getElem? (i := 67) (by decide +kernel), List.mem_of_getElem? (i := 454) (by decide +kernel), List.mem_of_getElem? (i := 455) (by decide +kernel)⟩
theorem lw_p11 : lw_okq (⟨"CandleDip$Frame", "takeUp", "(LCandleDip$Vat;)V"⟩, 7) := ⟨⟨by decide +kernel, by decide +kernel⟩, List.mem_of_getElem? (i := 67) (by decide +kernel), List.mem_of_getElem? (i := 461) (by decide +kernel), List.mem_of_getElem? (i := 462) (by decide +kernel)⟩
theorem lw_p12 : lw_okq (⟨"CandleDip", "letQuarterGo", "(LCandleDip$Frame;)V"⟩, 9) := ⟨⟨by decide +kernel, by decide +kernel⟩, List.mem_of_getElem? (i := 17) (by decide +kernel), List.mem_of_getElem? (i := 465) (by decide +kernel), List.mem_of_getElem? (i := 466) (by decide +kernel)⟩
theorem lw_p13 : lw_okq (⟨"CandleDip$Frame", "coolingOfPlace", "()I"⟩, 7) := ⟨⟨by decide +kernel, by decide +kernel⟩, List.mem_of_getElem? (i := 67) (by decide +kernel), List.mem_of_getElem? (i := 479) (by decide +kernel), List.mem_of_getElem? (i := 480) (by decide +kernel)⟩
theorem lw_p14 : lw_okq (⟨"CandleDip", "endDay", "(I)V"⟩, 9) := ⟨⟨by decide +kernel, by decide +kernel⟩, List.mem_of_getElem? (i := 17) (by decide +kernel), List.mem_of_getElem? (i := 483) (by decide +kernel), List.mem_of_getElem? (i := 484) (by decide +kernel)⟩
theorem lw_p15 : lw_okq (⟨"CandleDip$Trial", "begin", "(LCandleDip$Frame;LCandleDip$Vat;)V"⟩, 2) := ⟨⟨by decide +kernel, by decide +kernel⟩, List.mem_of_getElem? (i := 61) (by decide +kernel), List.mem_of_getElem? (i := 607) (by decide +kernel), List.mem_of_getElem? (i := 608) (by decide +kernel)⟩
def lw_privs_1 : List (MethodName × Nat) := [(⟨"CandleDip", "possibleOfKind", "(I)I"⟩, 9), (⟨"CandleDip", "planOneMore", "(III)I"⟩, 9), (⟨"CandleDip", "framesMade", "()I"⟩, 9), (⟨"CandleDip", "framesHanging", "()I"⟩, 9), (⟨"CandleDip", "ordersTaken", "()I"⟩, 9), (⟨"CandleDip", "ordersInState", "(I)I"⟩, 9), (⟨"java/lang/Throwable", "fillInStackTrace", "(I)Ljava/lang/Throwable;"⟩, 6), (⟨"CandleDip", "frameAt", "(I)LCandleDip$Frame;"⟩, 9), (⟨"CandleDip", "orderAt", "(I)LCandleDip$Order;"⟩, 9), (⟨"CandleDip", "frameOn", "(I)I"⟩, 9), (⟨"CandleDip$Frame", "meltOff", "(I)V"⟩, 7), (⟨"CandleDip$Frame", "takeUp", "(LCandleDip$Vat;)V"⟩, 7), (⟨"CandleDip", "letQuarterGo", "(LCandleDip$Frame;)V"⟩, 9), (⟨"CandleDip$Frame", "coolingOfPlace", "()I"⟩, 7), (⟨"CandleDip", "endDay", "(I)V"⟩, 9), (⟨"CandleDip$Trial", "begin", "(LCandleDip$Frame;LCandleDip$Vat;)V"⟩, 2)]
theorem lw_r1 : ∀ q ∈ lw_privs_1, lw_okq q := List.forall_mem_cons.mpr ⟨lw_p0, List.forall_mem_cons.mpr ⟨lw_p1, List.forall_mem_cons.mpr ⟨lw_p2, List.forall_mem_cons.mpr ⟨lw_p3, List.forall_mem_cons.mpr ⟨lw_p4, List.forall_mem_cons.mpr ⟨lw_p5, List.forall_mem_cons.mpr ⟨lw_p6, List.forall_mem_cons.mpr ⟨lw_p7, List.forall_mem_cons.mpr ⟨lw_p8, List.forall_mem_cons.mpr ⟨lw_p9, List.forall_mem_cons.mpr ⟨lw_p10, List.forall_mem_cons.mpr ⟨lw_p11, List.forall_mem_cons.mpr ⟨lw_p12, List.forall_mem_cons.mpr ⟨lw_p13, List.forall_mem_cons.mpr ⟨lw_p14, List.forall_mem_cons.mpr ⟨lw_p15, fun _ h => absurd h List.not_mem_nil⟩⟩⟩⟩⟩⟩⟩⟩⟩⟩⟩⟩⟩⟩⟩⟩
theorem lw_p16 : lw_okq (⟨"CandleDip$Trial", "tryDip", "()Z"⟩, 2) := ⟨⟨by decide +kernel, by decide +kernel⟩, List.mem_of_getElem? (i := 61) (by decide +kernel), List.mem_of_getElem? (i := 619) (by decide +kernel), List.mem_of_getElem? (i := 620) (by decide +kernel)⟩
theorem lw_p17 : lw_okq (⟨"CandleDip$Trial", "letRest", "(I)V"⟩, 2) := ⟨⟨by decide +kernel, by decide +kernel⟩, List.mem_of_getElem? (i := 61) (by decide +kernel), List.mem_of_getElem? (i := 639) (by decide +kernel), List.mem_of_getElem? (i := 640) (by decide +kernel)⟩
theorem lw_p18 : lw_okq (⟨"CandleDipModel", "fail", "(I)I"⟩, 14) := ⟨⟨by decide +kernel, by decide +kernel⟩, List.mem_of_getElem? (i := 657) (by decide +kernel), List.mem_of_getElem? (i := 718) (by decide +kernel), List.mem_of_getElem? (i := 719) (by decide +kernel)⟩
theorem lw_p19 : lw_okq (⟨"CandleDipModel", "vatTold", "(I)I"⟩, 14) := ⟨⟨by decide +kernel, by decide +kernel⟩, List.mem_of_getElem? (i := 657) (by decide +kernel), List.mem_of_getElem? (i := 730) (by decide +kernel), List.mem_of_getElem? (i := 731) (by decide +kernel)⟩
theorem lw_p20 : lw_okq (⟨"CandleDipModel", "isFrame", "(I)Z"⟩, 14) := ⟨⟨by decide +kernel, by decide +kernel⟩, List.mem_of_getElem? (i := 657) (by decide +kernel), List.mem_of_getElem? (i := 745) (by decide +kernel), List.mem_of_getElem? (i := 746) (by decide +kernel)⟩
theorem lw_p21 : lw_okq (⟨"CandleDipModel", "at", "(I)I"⟩, 14) := ⟨⟨by decide +kernel, by decide +kernel⟩, List.mem_of_getElem? (i := 657) (by decide +kernel), List.mem_of_getElem? (i := 749) (by decide +kernel), List.mem_of_getElem? (i := 750) (by decide +kernel)⟩
theorem lw_p22 : lw_okq (⟨"CandleDipModel", "fr", "(II)I"⟩, 14) := ⟨⟨by decide +kernel, by decide +kernel⟩, List.mem_of_getElem? (i := 657) (by decide +kernel), List.mem_of_getElem? (i := 753) (by decide +kernel), List.mem_of_getElem? (i := 754) (by decide +kernel)⟩
theorem lw_p23 : lw_okq (⟨"CandleDipModel", "set", "(III)V"⟩, 14) := ⟨⟨by decide +kernel, by decide +kernel⟩, List.mem_of_getElem? (i := 657) (by decide +kernel), List.mem_of_getElem? (i := 757) (by decide +kernel), List.mem_of_getElem? (i := 758) (by decide +kernel)⟩
theorem lw_p24 : lw_okq (⟨"CandleDipModel", "take", "(I)V"⟩, 14) := ⟨⟨by decide +kernel, by decide +kernel⟩, List.mem_of_getElem? (i := 657) (by decide +kernel), List.mem_of_getElem? (i := 769) (by decide +kernel), List.mem_of_getElem? (i := 770) (by decide +kernel)⟩
theorem lw_p25 : lw_okq (⟨"CandleDipModel", "hangs", "(I)Z"⟩, 14) := ⟨⟨by decide +kernel, by decide +kernel⟩, List.mem_of_getElem? (i := 657) (by decide +kernel), List.mem_of_getElem? (i := 773) (by decide +kernel), List.mem_of_getElem? (i := 774) (by decide +kernel)⟩
theorem lw_p26 : lw_okq (⟨"CandleDipModel", "can", "(I)Z"⟩, 14) := ⟨⟨by decide +kernel, by decide +kernel⟩, List.mem_of_getElem? (i := 657) (by decide +kernel), List.mem_of_getElem? (i := 777) (by decide +kernel), List.mem_of_getElem? (i := 778) (by decide +kernel)⟩
theorem lw_p27 : lw_okq (⟨"CandleDipModel", "grows", "(I)I"⟩, 14) := ⟨⟨by decide +kernel, by decide +kernel⟩, List.mem_of_getElem? (i := 657) (by decide +kernel), List.mem_of_getElem? (i := 781) (by decide +kernel), List.mem_of_getElem? (i := 782) (by decide +kernel)⟩
theorem lw_p28 : lw_okq (⟨"CandleDipModel", "waxOf", "(II)I"⟩, 14) := ⟨⟨by decide +kernel, by decide +kernel⟩, List.mem_of_getElem? (i := 657) (by decide +kernel), List.mem_of_getElem? (i := 786) (by decide +kernel), List.mem_of_getElem? (i := 787) (by decide +kernel)⟩
theorem lw_p29 : lw_okq (⟨"CandleDipModel", "dipIt", "(I)V"⟩, 14) := ⟨⟨by decide +kernel, by decide +kernel⟩, List.mem_of_getElem? (i := 657) (by decide +kernel), List.mem_of_getElem? (i := 790) (by decide +kernel), List.mem_of_getElem? (i := 791) (by decide +kernel)⟩
theorem lw_p30 : lw_okq (⟨"CandleDipModel", "quarterOn", "(I)V"⟩, 14) := ⟨⟨by decide +kernel, by decide +kernel⟩, List.mem_of_getElem? (i := 657) (by decide +kernel), List.mem_of_getElem? (i := 794) (by decide +kernel), List.mem_of_getElem? (i := 795) (by decide +kernel)⟩
theorem lw_p31 : lw_okq (⟨"CandleDipModel", "heatBehind", "(I)I"⟩, 14) := ⟨⟨by decide +kernel, by decide +kernel⟩, List.mem_of_getElem? (i := 657) (by decide +kernel), List.mem_of_getElem? (i := 798) (by decide +kernel), List.mem_of_getElem? (i := 799) (by decide +kernel)⟩
def lw_privs_2 : List (MethodName × Nat) := [(⟨"CandleDip$Trial", "tryDip", "()Z"⟩, 2), (⟨"CandleDip$Trial", "letRest", "(I)V"⟩, 2), (⟨"CandleDipModel", "fail", "(I)I"⟩, 14), (⟨"CandleDipModel", "vatTold", "(I)I"⟩, 14), (⟨"CandleDipModel", "isFrame", "(I)Z"⟩, 14), (⟨"CandleDipModel", "at", "(I)I"⟩, 14), (⟨"CandleDipModel", "fr", "(II)I"⟩, 14), (⟨"CandleDipModel", "set", "(III)V"⟩, 14), (⟨"CandleDipModel", "take", "(I)V"⟩, 14), (⟨"CandleDipModel", "hangs", "(I)Z"⟩, 14), (⟨"CandleDipModel", "can", "(I)Z"⟩, 14), (⟨"CandleDipModel", "grows", "(I)I"⟩, 14), (⟨"CandleDipModel", "waxOf", "(II)I"⟩, 14), (⟨"CandleDipModel", "dipIt", "(I)V"⟩, 14), (⟨"CandleDipModel", "quarterOn", "(I)V"⟩, 14), (⟨"CandleDipModel", "heatBehind", "(I)I"⟩, 14)]
theorem lw_r2 : ∀ q ∈ lw_privs_2, lw_okq q := List.forall_mem_cons.mpr ⟨lw_p16, List.forall_mem_cons.mpr ⟨lw_p17, List.forall_mem_cons.mpr ⟨lw_p18, List.forall_mem_cons.mpr ⟨lw_p19, List.forall_mem_cons.mpr ⟨lw_p20, List.forall_mem_cons.mpr ⟨lw_p21, List.forall_mem_cons.mpr ⟨lw_p22, List.forall_mem_cons.mpr ⟨lw_p23, List.forall_mem_cons.mpr ⟨lw_p24, List.forall_mem_cons.mpr ⟨lw_p25, List.forall_mem_cons.mpr ⟨lw_p26, List.forall_mem_cons.mpr ⟨lw_p27, List.forall_mem_cons.mpr ⟨lw_p28, List.forall_mem_cons.mpr ⟨lw_p29, List.forall_mem_cons.mpr ⟨lw_p30, List.forall_mem_cons.mpr ⟨lw_p31, fun _ h => absurd h List.not_mem_nil⟩⟩⟩⟩⟩⟩⟩⟩⟩⟩⟩⟩⟩⟩⟩⟩
theorem lw_p32 : lw_okq (⟨"CandleDipModel", "cools", "(I)I"⟩, 14) := ⟨⟨by decide +kernel, by decide +kernel⟩, List.mem_of_getElem? (i := 657) (by decide +kernel), List.mem_of_getElem? (i := 803) (by decide +kernel), List.mem_of_getElem? (i := 804) (by decide +kernel)⟩
theorem lw_p33 : lw_okq (⟨"CandleDipModel", "or", "(II)I"⟩, 14) := ⟨⟨by decide +kernel, by decide +kernel⟩, List.mem_of_getElem? (i := 657) (by decide +kernel), List.mem_of_getElem? (i := 807) (by decide +kernel), List.mem_of_getElem? (i := 808) (by decide +kernel)⟩
theorem lw_p34 : lw_okq (⟨"CandleDipModel", "frameTold", "(II)I"⟩, 14) := ⟨⟨by decide +kernel, by decide +kernel⟩, List.mem_of_getElem? (i := 657) (by decide +kernel), List.mem_of_getElem? (i := 822) (by decide +kernel), List.mem_of_getElem? (i := 823) (by decide +kernel)⟩
theorem lw_p35 : lw_okq (⟨"CandleDipModel", "canFill", "(I)Z"⟩, 14) := ⟨⟨by decide +kernel, by decide +kernel⟩, List.mem_of_getElem? (i := 657) (by decide +kernel), List.mem_of_getElem? (i := 842) (by decide +kernel), List.mem_of_getElem? (i := 843) (by decide +kernel)⟩
theorem lw_p36 : lw_okq (⟨"CandleDipModel", "enough", "(II)I"⟩, 14) := ⟨⟨by decide +kernel, by decide +kernel⟩, List.mem_of_getElem? (i := 657) (by decide +kernel), List.mem_of_getElem? (i := 846) (by decide +kernel), List.mem_of_getElem? (i := 847) (by decide +kernel)⟩
theorem lw_p37 : lw_okq (⟨"CandleDipModel", "inStore", "()I"⟩, 14) := ⟨⟨by decide +kernel, by decide +kernel⟩, List.mem_of_getElem? (i := 657) (by decide +kernel), List.mem_of_getElem? (i := 850) (by decide +kernel), List.mem_of_getElem? (i := 851) (by decide +kernel)⟩
theorem lw_p38 : lw_okq (⟨"CandleDipModel", "orderTold", "(II)I"⟩, 14) := ⟨⟨by decide +kernel, by decide +kernel⟩, List.mem_of_getElem? (i := 657) (by decide +kernel), List.mem_of_getElem? (i := 858) (by decide +kernel), List.mem_of_getElem? (i := 859) (by decide +kernel)⟩
theorem lw_p39 : lw_okq (⟨"CandleDipModel", "counted", "(I)I"⟩, 14) := ⟨⟨by decide +kernel, by decide +kernel⟩, List.mem_of_getElem? (i := 657) (by decide +kernel), List.mem_of_getElem? (i := 870) (by decide +kernel), List.mem_of_getElem? (i := 871) (by decide +kernel)⟩
theorem lw_p40 : lw_okq (⟨"CandleDipModel", "with", "(I)I"⟩, 14) := ⟨⟨by decide +kernel, by decide +kernel⟩, List.mem_of_getElem? (i := 657) (by decide +kernel), List.mem_of_getElem? (i := 874) (by decide +kernel), List.mem_of_getElem? (i := 875) (by decide +kernel)⟩
theorem lw_p41 : lw_okq (⟨"CandleDipModel", "needs", "(III)I"⟩, 14) := ⟨⟨by decide +kernel, by decide +kernel⟩, List.mem_of_getElem? (i := 657) (by decide +kernel), List.mem_of_getElem? (i := 886) (by decide +kernel), List.mem_of_getElem? (i := 887) (by decide +kernel)⟩
theorem lw_p42 : lw_okq (⟨"CandleDipModel", "possibleOf", "(I)I"⟩, 14) := ⟨⟨by decide +kernel, by decide +kernel⟩, List.mem_of_getElem? (i := 657) (by decide +kernel), List.mem_of_getElem? (i := 902) (by decide +kernel), List.mem_of_getElem? (i := 903) (by decide +kernel)⟩
def lw_privs_3 : List (MethodName × Nat) := [(⟨"CandleDipModel", "cools", "(I)I"⟩, 14), (⟨"CandleDipModel", "or", "(II)I"⟩, 14), (⟨"CandleDipModel", "frameTold", "(II)I"⟩, 14), (⟨"CandleDipModel", "canFill", "(I)Z"⟩, 14), (⟨"CandleDipModel", "enough", "(II)I"⟩, 14), (⟨"CandleDipModel", "inStore", "()I"⟩, 14), (⟨"CandleDipModel", "orderTold", "(II)I"⟩, 14), (⟨"CandleDipModel", "counted", "(I)I"⟩, 14), (⟨"CandleDipModel", "with", "(I)I"⟩, 14), (⟨"CandleDipModel", "needs", "(III)I"⟩, 14), (⟨"CandleDipModel", "possibleOf", "(I)I"⟩, 14)]
theorem lw_r3 : ∀ q ∈ lw_privs_3, lw_okq q := List.forall_mem_cons.mpr ⟨lw_p32, List.forall_mem_cons.mpr ⟨lw_p33, List.forall_mem_cons.mpr ⟨lw_p34, List.forall_mem_cons.mpr ⟨lw_p35, List.forall_mem_cons.mpr ⟨lw_p36, List.forall_mem_cons.mpr ⟨lw_p37, List.forall_mem_cons.mpr ⟨lw_p38, List.forall_mem_cons.mpr ⟨lw_p39, List.forall_mem_cons.mpr ⟨lw_p40, List.forall_mem_cons.mpr ⟨lw_p41, List.forall_mem_cons.mpr ⟨lw_p42, fun _ h => absurd h List.not_mem_nil⟩⟩⟩⟩⟩⟩⟩⟩⟩⟩⟩
def lw_privs : List (MethodName × Nat) := lw_privs_1 ++ (lw_privs_2 ++ (lw_privs_3))
def lw_tbl : List Cond := k2_sels lw_privs ++ tables_1
theorem lw_privs_ok : ∀ q ∈ lw_privs, lw_okq q := by
  show ∀ q ∈ lw_privs_1 ++ (lw_privs_2 ++ (lw_privs_3)), lw_okq q
  exact List.forall_mem_append.mpr ⟨lw_r1, List.forall_mem_append.mpr ⟨lw_r2, lw_r3⟩⟩
/-- the streams that the claim lets the run draw from -/
abbrev lw_cs : List Choice := [Jvm.Choice.named "NaN.bits"]
theorem lw_bits : nanBits ∈ lw_cs := by first | decide | exact List.mem_cons_self | simp [lw_cs, nanBits]
end
section
/-! ===== BEGIN words of one list among another's, by their places ===== -/
theorem goodIn_r {big : List Cond} (ws : List Cond) (ps : List Nat) (hp : ws = ps.filterMap (fun i => big[i]?)) (h : ws.all goodWord = true) : GoodIn big ws := by
  intro w hw
  have h1 := List.all_eq_true.mp h w hw
  rw [hp] at hw
  obtain ⟨i, -, hi⟩ := List.mem_filterMap.mp hw
  have hm : w ∈ big := by first | exact List.mem_of_getElem? hi | exact List.getElem?_mem hi
  exact ⟨hm, good_of_word h1⟩
theorem goodIn_app {big a b : List Cond} (ha : GoodIn big a) (hb : GoodIn big b) : GoodIn big (a ++ b) := fun w h => (List.mem_append.mp h).elim (ha w) (hb w)
theorem goodIn_ca {big a b : List Cond} {c : Cond} (ha : GoodIn big (c :: a)) (hb : GoodIn big b) : GoodIn big (c :: (a ++ b)) := fun w h => (List.mem_cons.mp h).elim (fun e => ha w (List.mem_cons.mpr (Or.inl e))) (fun h => (List.mem_append.mp h).elim (fun h => ha w (List.mem_cons.mpr (Or.inr h))) (hb w))
theorem goodIn_sub {big ws : List Cond} (hm : ∀ w ∈ ws, w ∈ big) (h : ws.all goodWord = true) : GoodIn big ws := fun w hw => ⟨hm w hw, good_of_word (List.all_eq_true.mp h w hw)⟩
/-! ===== END ===== -/

/-! ===== BEGIN exceptions that leave a method, and their catching by the caller (launches without stack traces) ===== -/
section VXA
/-! The laws vx_back, vx_callV, vx_callS, vx_callSW, vx_throw0, vx_throwS follow proofs of the library, with one case more: JvmDerived/Free/Laws.lean (Back.of_free), Shelf42/LK1.lean (callV, callS), Shelf/KitTraced.lean (throwNew0V, throwNewS). -/
/-- where a method has thrown q: the class by its name, the cell, what was written, the world -/
def vx_T (XC : String → State → State → Prop) (st : State) (q : Addr) (t : State) (mc ms : Nat) (free : Addr → Prop) : Prop :=
  ∃ (E : String) (ce : Cell) (L : List Loc), XC E st t ∧ t.heap[q]? = some ce ∧ ce.vm = .none ∧ st.vm.findClass E = some ce.cls ∧ st.WarmedH t.vm ∧ st.sameButNew ({ t with vm := st.vm } : State) L mc ms ∧ ∀ z ∈ L, free z.base
def vx_Q (Qc : Array Value → State → Outcome → State → Prop) (XC : String → State → State → Prop) (mc ms : Nat) (free : Addr → Prop) : Array Value → State → Outcome → State → Prop := fun a st o t =>
  (Qc a st o t ∧ ∃ L, FrameEnd st o t L mc ms ∧ ∀ q ∈ L, free q.base) ∨ ∃ q, o = .threw q ∧ vx_T XC st q t mc ms free
/-- a callee that returns or throws -/
def vx_Met (l : Launch) (y : MethodName) (ws : List Cond) (rm : Room) (Pc : Array Value → State → Prop) (Qc : Array Value → State → Outcome → State → Prop) (XC : String → State → State → Prop) (mc ms : Nat) (free : Addr → Prop) : Prop :=
  MetFree l y (headSpec ws rm) Pc (fun _ _ _ _ _ => True) (vx_Q Qc XC mc ms free)
def vx_Post (XC : String → State → State → Prop) (mc ms : Nat) (free : Addr → Prop) : Pt → Array Value → Addr → Pt → Prop := fun A a q B =>
  ∃ (g : JFrame) (mk : MethodId) (t : State) (L : List Loc) (E : String) (ce : Cell), B.U.heap = t.heap ∧ B.U.vm = t.vm ∧ XC E (A.U.calling g mk a) t ∧ t.heap[q]? = some ce ∧ ce.vm = .none ∧ A.U.vm.findClass E = some ce.cls ∧ B.locs = A.locs ++ L ∧ (∀ z ∈ L, free z.base) ∧ B.cells = A.cells + mc ∧ B.slots = A.slots + ms
def vx_Back (l : Launch) (R : Room) (p : Program) (e : Env) (below : List Frame) (s : State) (sargs : Array Value) (y : MethodName) (len W9 : Nat)
    (Pre : Pt → Array Value → Prop) (Post : Pt → Array Value → Option Value → Pt → Prop) (PostX : Pt → Array Value → Addr → Pt → Prop) : Prop :=
  ∀ (m : MethodId) (meth : Method) (c : Code) (A : Pt) (g : JFrame) (ig : Instr) (mk : MethodId) (a : Array Value),
    Stand p l e R s m sargs below meth c A.U A.locs A.cells A.slots → g.method = m → g.locals.size = c.maxLocals → decode c.code g.pc = .ok (ig, len) →
    2 * g.monitorRoom + (g.stack.map fun v => v.category).sum ≤ W9 → A.U.methodNamed? y = some mk → Pre A a →
    (∃ (v : Option Value) (B : Pt), Stand p l e R s m sargs below meth c B.U B.locs B.cells B.slots ∧ Post A a v B ∧
      Steps p.tables e below (doInvoke e (A.U.setTop g) [] mk a).1 (B.U.setTop { g with pc := g.pc + len, stack := v.toList ++ g.stack })) ∨
    (∃ (q : Addr) (B : Pt), Stand p l e R s m sargs below meth c B.U B.locs B.cells B.slots ∧ PostX A a q B ∧
      Steps p.tables e below (doInvoke e (A.U.setTop g) [] mk a).1 ((B.U.setTop g).pushFrame (.throwing q)))
section Payer
variable {l : Launch} {R : Room} {p : Program} {e : Env} {below : List Frame} {s : State} {sargs : Array Value} {y : MethodName} {len W9 : Nat}
theorem vx_back {ws : List Cond} {rm : Room} {Pc : Array Value → State → Prop} {Qc : Array Value → State → Outcome → State → Prop} {XC : String → State → State → Prop} {mc ms : Nat} {free : Addr → Prop} {bytes : ByteArray} {maxL : Nat} {ret : Option FieldType}
    (hM : vx_Met l y ws rm Pc Qc XC mc ms free) (hblind : FrameBlind Pc) (hrc : rm.cells = mc) (hrs : rm.slots = ms)
    (hframes : rm.frames + 1 ≤ R.frames) (hlocals : W9 + (maxL + 11) + rm.locals ≤ R.locals)
    (hws : ∀ w ∈ ws, ∀ a' U, s.WarmedH U.vm → w.before a' U = true) (hcode : Cond.code y bytes maxL ret ∈ ws) (hinit : ∀ a' U, s.WarmedH U.vm → (Cond.initialized y.cls).before a' U = true) :
    vx_Back l R p e below s sargs y len W9 (PreOf R mc ms Pc) (PostOf Qc mc ms free) (vx_Post XC mc ms free) := by
  intro m meth c A g ig mk a X hg hsize hdg hW hn hp
  have h1 : (headSpec ws rm).pre.before a A.U = true := atoms_intro fun w hw => hws w hw _ _ X.warmed
  have h2 : (Cond.code y bytes maxL ret).before a A.U = true := hws _ hcode _ _ X.warmed
  have h3 : (Cond.initialized y.cls).before a A.U = true := hinit _ _ X.warmed
  have h4 : A.cells + (headSpec ws rm).room.cells ≤ R.cells := by rw [show (headSpec ws rm).room.cells = mc from hrc]; exact hp.1
  have h5 : A.slots + (headSpec ws rm).room.slots ≤ R.slots := by rw [show (headSpec ws rm).room.slots = ms from hrs]; exact hp.2.1
  have hPc : Pc a (A.U.calling g mk a) := hblind _ _ _ _ hp.2.2
  obtain ⟨U, Ls, c0, s0⟩ := A
  dsimp only [Pt.U, Pt.locs, Pt.cells, Pt.slots] at h1 h2 h3 h4 h5 X hn hPc ⊢
  obtain ⟨methY, cY, hmY, hcY, -, hlY, -, -, -, -⟩ := Cond.code_spec hn h2
  obtain ⟨kY, hkY, -⟩ := className_of_methodNamed hn
  have hinitY : kY.init = .initialized := Cond.initialized_spec (findClass_of_methodNamed hn) hkY h3
  have h : At U g.method c below := by rw [hg]; exact X.here
  have hlocals9 : W9 + (maxL + 11) + (headSpec ws rm).room.locals ≤ R.locals := hlocals
  have happ : (headSpec ws rm).appliesLoose y e.platform (U.calling g mk a) = true :=
    Spec.appliesLoose_calling (g := g) h hdg hn hkY hinitY
      (X.room_calling (g := g) (R' := (headSpec ws rm).room) hsize hmY hcY hframes (by rw [hlY]; omega) h4 h5) h1
  obtain ⟨mid, hmid⟩ := h.above
  have hfr : (U.setTop g).frames = (.java g :: mid) ++ below := by rw [State.frames_setTop' g h.top, hmid]; rfl
  obtain ⟨o, s₂, hsteps, -, hend, hq⟩ := Steps.callFree hM p X.admits X.cas X.clock (acts := []) hfr happ hPc trivial
  have hq' : vx_Q Qc XC mc ms free a (U.calling g mk a) o s₂ := hq
  rw [State.frames_setTop' g h.top] at hend
  obtain ⟨g₀, hg0⟩ := Option.isSome_iff_exists.mp h.top
  obtain ⟨r, hr⟩ := State.topJava?_eq_some.mp hg0
  have hr' : (({ U with heap := s₂.heap, slotsUsed := s₂.slotsUsed } : State).setVm s₂.vm).frames = .java g₀ :: r := hr
  rcases hq' with ⟨hqc, L, hfe, hL⟩ | ⟨q, rfl, E, ce, L, hx, hce, hcv, hcl, hW₂, hsm, hL⟩
  · obtain ⟨⟨v, rfl⟩, hW₂, e2, q2, q3, q4, q5, q6⟩ := id hfe
    have e3 : s₂ = ({ (U.calling g mk a).setFrames s₂.frames with heap := s₂.heap, slotsUsed := s₂.slotsUsed } : State).setVm s₂.vm := by
      have : s₂ = ({ s₂ with vm := (U.calling g mk a).vm } : State).setVm s₂.vm := rfl
      rw [e2] at this
      exact this
    obtain ⟨c₂, i₂, len₂, hc₂, hd₂, hf₂⟩ := hend
    have hW' : U.WarmedH s₂.vm := hW₂
    have hcc : c₂ = c := by
      have h1 : s₂.code? g.method = U.code? g.method := by
        rw [State.code?_eq, State.code?_eq, hW'.alike.method?]
      exact Option.some.inj (hc₂.symm.trans (h1.trans h.code))
    subst hcc
    have hlen : len₂ = len := by rw [hdg] at hd₂; cases hd₂; rfl
    subst hlen
    have hs₂ : s₂ = (({ U with heap := s₂.heap, slotsUsed := s₂.slotsUsed } : State).setVm s₂.vm).setTop { g with pc := g.pc + len₂, stack := v.toList ++ g.stack } := by
      refine e3.trans ?_
      rw [hf₂, State.calling_eq h.top, State.setFrames_setFrames, State.setTop_of_frames _ hr', hr]
      rfl
    have hsame : U.sameButNew ({ U with heap := s₂.heap, slotsUsed := s₂.slotsUsed } : State) L mc ms := by
      refine ⟨?_, q2, q3, q4, q5, q6⟩
      obtain ⟨t, ht, -⟩ := State.frames_cons hr
      show ({ U with heap := s₂.heap, slotsUsed := s₂.slotsUsed } : State) = { U.setFrames U.frames with heap := s₂.heap, slotsUsed := s₂.slotsUsed }
      rw [State.setFrames_self ht]
    subst hg
    refine Or.inl ⟨v, ⟨(({ U with heap := s₂.heap, slotsUsed := s₂.slotsUsed } : State).setVm s₂.vm), Ls ++ L, c0 + mc, s0 + ms⟩,
      ⟨X.admits, X.cas, X.clock, X.frames, X.room, X.hears, X.method, X.code, (X.here.setHeapUsed s₂.heap s₂.slotsUsed).setVm hW'.alike, X.tail, State.WarmedH.trans X.warmed hW', X.limits, X.bytes, X.same.trans (hsame.setVm s.vm)⟩,
      ⟨g, mk, s₂, L, rfl, rfl, hqc, rfl, hL, rfl, rfl⟩, ?_⟩
    show Steps p.tables e below _ ((({ U with heap := s₂.heap, slotsUsed := s₂.slotsUsed } : State).setVm s₂.vm).setTop { g with pc := g.pc + len₂, stack := v.toList ++ g.stack })
    rw [← hs₂]
    exact hsteps
  · obtain ⟨e2, q2, q3, q4, q5, q6⟩ := id hsm
    have e3 : s₂ = ({ (U.calling g mk a).setFrames s₂.frames with heap := s₂.heap, slotsUsed := s₂.slotsUsed } : State).setVm s₂.vm := by
      have : s₂ = ({ s₂ with vm := (U.calling g mk a).vm } : State).setVm s₂.vm := rfl
      rw [e2] at this
      exact this
    have hf₂ : s₂.frames = .throwing q :: .java g :: U.frames.tail := hend
    have hW' : U.WarmedH s₂.vm := hW₂
    have hs₂ : s₂ = ((({ U with heap := s₂.heap, slotsUsed := s₂.slotsUsed } : State).setVm s₂.vm).setTop g).pushFrame (.throwing q) := by
      refine e3.trans ?_
      rw [hf₂, State.calling_eq h.top, State.setFrames_setFrames, State.pushFrame, State.frames_setTop _ hr', State.setTop_of_frames _ hr', State.setFrames_setFrames, hr]
      rfl
    have hsame : U.sameButNew ({ U with heap := s₂.heap, slotsUsed := s₂.slotsUsed } : State) L mc ms := by
      refine ⟨?_, q2, q3, q4, q5, q6⟩
      obtain ⟨t, ht, -⟩ := State.frames_cons hr
      show ({ U with heap := s₂.heap, slotsUsed := s₂.slotsUsed } : State) = { U.setFrames U.frames with heap := s₂.heap, slotsUsed := s₂.slotsUsed }
      rw [State.setFrames_self ht]
    subst hg
    refine Or.inr ⟨q, ⟨(({ U with heap := s₂.heap, slotsUsed := s₂.slotsUsed } : State).setVm s₂.vm), Ls ++ L, c0 + mc, s0 + ms⟩,
      ⟨X.admits, X.cas, X.clock, X.frames, X.room, X.hears, X.method, X.code, (X.here.setHeapUsed s₂.heap s₂.slotsUsed).setVm hW'.alike, X.tail, State.WarmedH.trans X.warmed hW', X.limits, X.bytes, X.same.trans (hsame.setVm s.vm)⟩,
      ⟨g, mk, s₂, L, E, ce, rfl, rfl, hx, hce, hcv, hcl, rfl, hL, rfl, rfl⟩, ?_⟩
    show Steps p.tables e below _ (((({ U with heap := s₂.heap, slotsUsed := s₂.slotsUsed } : State).setVm s₂.vm).setTop g).pushFrame (.throwing q))
    rw [← hs₂]
    exact hsteps
end Payer
section Calls
variable {p : Program} {l : Launch} {e : Env} {R : Room} {s : State} {m : MethodId} {args : Array Value} {below : List Frame} {meth : Method} {c : Code} {T : State} {locs : List Loc} {cells slots : Nat}
theorem vx_callV (X : Stand p l e R s m args below meth c T locs cells slots) (hexec : p.tables.exec = Jvm.exec) {own C : String} {index : Nat} {y : MethodName} {bytes : ByteArray} {maxL : Nat} {ret : Option FieldType}
    (hown : s.vm.findClass own = some m.cls) (hlink : (Cond.methodLink own index y).before args s = true) (hinst : (Cond.instanceMethod y).before args s = true) (hsel : (Cond.selects C y y).before args s = true)
    (hcode : (Cond.code y bytes maxL ret).before args s = true) (hy : y.cls ≠ "java/lang/invoke/MethodHandle" ∧ y.cls ≠ "java/lang/invoke/VarHandle")
    {W9 : Nat} {Pre : Pt → Array Value → Prop} {Post : Pt → Array Value → Option Value → Pt → Prop} {PostX : Pt → Array Value → Addr → Pt → Prop} (hK : vx_Back l R p e below s args y 3 W9 Pre Post PostX)
    {b : Addr} {cellB : Cell} (hcell : T.heap[b]? = some cellB) (hobj : cellB.vm.isStatics = false) (hcls : s.vm.findClass C = some cellB.cls)
    {g : JFrame} (hg : g.method = m) (hsize : g.locals.size = c.maxLocals) {argsL rest : List Value} (hlen : ∀ sig, parseMethodDescriptor y.desc = some sig → argsL.length = sig.parameters.length)
    (hstack : g.stack = argsL.reverse ++ .ref b :: rest) (hW : 2 * g.monitorRoom + (rest.map fun v => v.category).sum ≤ W9) (hdg : decode c.code g.pc = .ok (.invokevirtual index, 3))
    (hpre : ∀ vm₁, s.WarmedH vm₁ → Pre ⟨T.setVm vm₁, locs, cells, slots⟩ (Value.ref b :: argsL).toArray) :
    (∃ (v : Option Value) (vm₁ : Vm) (B : Pt), s.WarmedH vm₁ ∧ Stand p l e R s m args below meth c B.U B.locs B.cells B.slots ∧ Post ⟨T.setVm vm₁, locs, cells, slots⟩ (Value.ref b :: argsL).toArray v B ∧
      ∀ target, Steps p.tables e below (B.U.setTop { g with pc := g.pc + 3, stack := v.toList ++ rest }) target → Steps p.tables e below (T.setTop g) target) ∨
    (∃ (q : Addr) (vm₁ : Vm) (B : Pt), s.WarmedH vm₁ ∧ Stand p l e R s m args below meth c B.U B.locs B.cells B.slots ∧ PostX ⟨T.setVm vm₁, locs, cells, slots⟩ (Value.ref b :: argsL).toArray q B ∧
      Steps p.tables e below (T.setTop g) ((B.U.setTop { g with stack := rest }).pushFrame (.throwing q))) := by
  obtain ⟨mk, methM, hnamed, hmethM, hstM, habM⟩ := Cond.instanceMethod_spec hinst
  obtain ⟨methM', cM, hmethM', -, -, -, -, -, -, hsigM⟩ := Cond.code_spec hnamed hcode
  cases hmethM.symm.trans hmethM'
  obtain ⟨c2, r2, m2, q1, q2, q3, q4, kP, hkP, hkPi⟩ := Cond.selects_spec hsel
  cases hcls.symm.trans q1
  cases (State.methodFound?_of_named hnamed hy).symm.trans q2
  cases hnamed.symm.trans q3
  have hselP : selectMethod e.platform s.vm cellB.cls mk = .method mk := by rw [Launch.admits_selectMethod X.admits]; exact q4
  obtain ⟨vm₁, X₁, hstep₁⟩ := X.invokevirtual hexec hown hlink hnamed hmethM hstM hkP hkPi hy (a := b) (cell := cellB) hcell
    (fun z h => by rw [h] at hobj; cases hobj) hselP hmethM habM hkP hkPi (g := g) hg (argsL := argsL) (rest := rest) (hlen _ hsigM) hstack hdg
  rcases hK m meth c ⟨T.setVm vm₁, locs, cells, slots⟩ { g with stack := rest } (.invokevirtual index) mk (Value.ref b :: argsL).toArray X₁ hg hsize hdg hW (X₁.named hnamed) (hpre vm₁ X₁.warmed) with ⟨v, B, X', hpost, hsteps⟩ | ⟨q, B, X', hpost, hsteps⟩
  · exact Or.inl ⟨v, vm₁, B, X₁.warmed, X', hpost, fun target h => hstep₁ _ fun acts => by rw [doInvoke_state]; exact hsteps.trans h⟩
  · exact Or.inr ⟨q, vm₁, B, X₁.warmed, X', hpost, hstep₁ _ fun acts => by rw [doInvoke_state]; exact hsteps⟩
theorem vx_callS (X : Stand p l e R s m args below meth c T locs cells slots) (hexec : p.tables.exec = Jvm.exec) {own : String} {index : Nat} {y : MethodName} {bytes : ByteArray} {maxL : Nat} {ret : Option FieldType}
    (hown : s.vm.findClass own = some m.cls) (hlink : (Cond.methodLink own index y).before args s = true) (hstat : (Cond.static y).before args s = true) (hinit : (Cond.initialized y.cls).before args s = true)
    (hcode : (Cond.code y bytes maxL ret).before args s = true) (hy : y.cls ≠ "java/lang/invoke/MethodHandle" ∧ y.cls ≠ "java/lang/invoke/VarHandle")
    {W9 : Nat} {Pre : Pt → Array Value → Prop} {Post : Pt → Array Value → Option Value → Pt → Prop} {PostX : Pt → Array Value → Addr → Pt → Prop} (hK : vx_Back l R p e below s args y 3 W9 Pre Post PostX)
    {g : JFrame} (hg : g.method = m) (hsize : g.locals.size = c.maxLocals) {argsL rest : List Value} (hlen : ∀ sig, parseMethodDescriptor y.desc = some sig → argsL.length = sig.parameters.length)
    (hstack : g.stack = argsL.reverse ++ rest) (hW : 2 * g.monitorRoom + (rest.map fun v => v.category).sum ≤ W9) (hdg : decode c.code g.pc = .ok (.invokestatic index, 3))
    (hpre : ∀ vm₁, s.WarmedH vm₁ → Pre ⟨T.setVm vm₁, locs, cells, slots⟩ argsL.toArray) :
    (∃ (v : Option Value) (vm₁ : Vm) (B : Pt), s.WarmedH vm₁ ∧ Stand p l e R s m args below meth c B.U B.locs B.cells B.slots ∧ Post ⟨T.setVm vm₁, locs, cells, slots⟩ argsL.toArray v B ∧
      ∀ target, Steps p.tables e below (B.U.setTop { g with pc := g.pc + 3, stack := v.toList ++ rest }) target → Steps p.tables e below (T.setTop g) target) ∨
    (∃ (q : Addr) (vm₁ : Vm) (B : Pt), s.WarmedH vm₁ ∧ Stand p l e R s m args below meth c B.U B.locs B.cells B.slots ∧ PostX ⟨T.setVm vm₁, locs, cells, slots⟩ argsL.toArray q B ∧
      Steps p.tables e below (T.setTop g) ((B.U.setTop { g with stack := rest }).pushFrame (.throwing q))) := by
  obtain ⟨mk, hnamed⟩ := Cond.code_named hcode
  obtain ⟨methM, cM, hmethM, -, -, -, -, -, -, hsigM⟩ := Cond.code_spec hnamed hcode
  have hstatic : methM.isStatic = true := Cond.static_spec hnamed hmethM hstat
  obtain ⟨kP, hkP, -⟩ := className_of_methodNamed hnamed
  have hinitP : kP.init = .initialized := Cond.initialized_spec (findClass_of_methodNamed hnamed) hkP hinit
  obtain ⟨vm₁, X₁, hstep₁⟩ := X.invokestatic hexec hown hlink hnamed hmethM hstatic hkP hinitP hy (g := g) hg (argsL := argsL) (rest := rest) (hlen _ hsigM) hstack hdg
  rcases hK m meth c ⟨T.setVm vm₁, locs, cells, slots⟩ { g with stack := rest } (.invokestatic index) mk argsL.toArray X₁ hg hsize hdg hW (X₁.named hnamed) (hpre vm₁ X₁.warmed) with ⟨v, B, X', hpost, hsteps⟩ | ⟨q, B, X', hpost, hsteps⟩
  · exact Or.inl ⟨v, vm₁, B, X₁.warmed, X', hpost, fun target h => hstep₁ _ fun acts => by rw [doInvoke_state]; exact hsteps.trans h⟩
  · exact Or.inr ⟨q, vm₁, B, X₁.warmed, X', hpost, hstep₁ _ fun acts => by rw [doInvoke_state]; exact hsteps⟩
end Calls
theorem vx_cls {s : State} {T : State} {vm₁ : Vm} {E : String} {k : ClassId} (hW : s.WarmedH vm₁) (h : (T.setVm vm₁).vm.findClass E = some k) : s.vm.findClass E = some k := by
  have h1 : vm₁.findClass E = some k := h
  rw [hW.alike.findClass] at h1
  exact h1
/-- the method's frame g, with q thrown over it -/
def vx_W (p : Program) (l : Launch) (e : Env) (R : Room) (s : State) (m : MethodId) (args : Array Value) (below : List Frame) (meth : Method) (c : Code) (H : Heap) (locs : List Loc) (cells slots : Nat) (Q : State → Prop) (g : JFrame) (q : Addr) : Prop :=
  ∀ T : State, T.heap = H → Stand p l e R s m args below meth c T locs cells slots → ∃ t, Steps p.tables e below ((T.setTop g).pushFrame (.throwing q)) t ∧ Q t
def vx_Run (p : Program) (l : Launch) (e : Env) (R : Room) (s : State) (m : MethodId) (args : Array Value) (below : List Frame) (meth : Method) (c : Code) (H : Heap) (locs : List Loc) (cells slots mc ms : Nat) (g : JFrame) (rest : List Value) (Qa : State → Outcome → State → Prop) (XC : String → State → State → Prop) (free : Addr → Prop) : Prop :=
  ∀ T : State, T.heap = H → Stand p l e R s m args below meth c T locs cells slots →
    (∃ (v : Option Value) (st₀ t T' : State) (L : List Loc), st₀.heap = H ∧ Stand p l e R s m args below meth c T' (locs ++ L) (cells + mc) (slots + ms) ∧ (∀ q ∈ L, free q.base) ∧ T'.heap = t.heap ∧ T'.vm = t.vm ∧ Qa st₀ (.returned v) t ∧
      Goes p e below T g T' { g with pc := g.pc + 3, stack := v.toList ++ rest }) ∨
    (∃ (q : Addr) (st₀ t T' : State) (L : List Loc) (E : String) (ce : Cell), st₀.heap = H ∧ Stand p l e R s m args below meth c T' (locs ++ L) (cells + mc) (slots + ms) ∧ (∀ z ∈ L, free z.base) ∧ T'.heap = t.heap ∧ T'.vm = t.vm ∧ XC E st₀ t ∧ t.heap[q]? = some ce ∧ ce.vm = .none ∧ s.vm.findClass E = some ce.cls ∧
      Steps p.tables e below (T.setTop g) ((T'.setTop { g with stack := rest }).pushFrame (.throwing q)))
def vx_X {S : Type} (px : S → Prop) (B : String → S → State → Prop) (A : Nat → Prop) : String → State → State → Prop := fun E st t => ∃ u : S, px u ∧ B E u t ∧ va_F A st t
section Runs
variable {p : Program} {l : Launch} {e : Env} {R : Room} {s : State} {m : MethodId} {args : Array Value} {below : List Frame} {meth : Method} {c : Code} {H : Heap} {locs : List Loc} {cells slots : Nat}
variable {y : MethodName} {bytes cc : ByteArray} {maxL nL mc ms n index : Nat} {ret : Option FieldType} {ws : List Cond} {rm : Room} {Pc : Array Value → State → Prop} {Qc : Array Value → State → Outcome → State → Prop} {XC : String → State → State → Prop} {free : Addr → Prop} {Ts : List Cond} {own C : String} {b : Addr} {As rest : List Value} {g : JFrame}
theorem vx_callBack (cb : CallB R s args own index y bytes maxL ret ws rm mc ms n) (hM : vx_Met l y ws rm Pc Qc XC mc ms free) (hbl : FrameBlind Pc) : vx_Back l R p e below s args y 3 8 (PreOf R mc ms Pc) (PostOf Qc mc ms free) (vx_Post XC mc ms free) := by
  obtain ⟨hrc, hrs, hfr, hlo, hws, hcw, -, hini, -⟩ := cb
  exact vx_back (bytes := bytes) (maxL := maxL) (ret := ret) hM hbl hrc hrs hfr hlo hws hcw (fun a' U hW => word_at hW (Or.inl (by first | rfl | simp [Cond.onTables, Cond.keeps, Cond.steady])) hini)
theorem vx_runV (S : CallFix p m c cc nL s args Ts own) (hM : vx_Met l y ws rm Pc Qc XC mc ms free) (cw : CallW R s args own C index y bytes maxL ret ws rm mc ms n) (hp : PreV s H C b Pc As)
    (hg : g.method = m) (hn : As.length = n) (hsize : g.locals.size = nL) (hstack : g.stack = As.reverse ++ .ref b :: rest) (hW : 2 * g.monitorRoom + (rest.map fun v => v.category).sum ≤ 8) (hdg : decode cc g.pc = .ok (.invokevirtual index, 3)) (hf : cells + mc ≤ R.cells ∧ slots + ms ≤ R.slots) :
    vx_Run p l e R s m args below meth c H locs cells slots mc ms g rest (Qc (Value.ref b :: As).toArray) XC free := by
  have hK : vx_Back l R p e below s args y 3 8 (PreOf R mc ms Pc) (PostOf Qc mc ms free) (vx_Post XC mc ms free) := vx_callBack cw.1 hM hp.1
  obtain ⟨⟨-, -, -, -, -, -, hcode, -, hy, hlen, hl⟩, hin, hse⟩ := cw
  obtain ⟨hx, hb, hml, ho, -⟩ := S
  obtain ⟨-, ⟨cellB, hcB, hoB, hclB⟩, hPc⟩ := hp
  intro T hT X
  rcases vx_callV X hx (C := C) (bytes := bytes) (maxL := maxL) (ret := ret) ho hl hin hse hcode hy hK (by rw [hT]; exact hcB) hoB hclB hg (hsize.trans hml.symm) (argsL := As) (rest := rest) (fun sig h => hn.trans (hlen sig h)) hstack hW (by rw [hb]; exact hdg)
    (fun vm₁ hW₁ => ⟨hf.1, hf.2, hPc (T.setVm vm₁) hT hW₁⟩) with ⟨v, vm₁, ⟨U', l2, c2, s2⟩, hW₁, X', ⟨g', mk, t, L, e1, e2, hq, h1, hL, h2, h3⟩, st⟩ | ⟨q, vm₁, ⟨U', l2, c2, s2⟩, hW₁, X', ⟨g', mk, t, L, E, ce, e1, e2, hq, hce, hcv, hcl, h1, hL, h2, h3⟩, st⟩
  · dsimp only [Pt.U, Pt.locs, Pt.cells, Pt.slots] at X' e1 e2 h1 h2 h3 st
    subst h1; subst h2; subst h3
    exact Or.inl ⟨v, (T.setVm vm₁).calling g' mk (Value.ref b :: As).toArray, t, U', L, hT, X', hL, e1, e2, hq, st⟩
  · dsimp only [Pt.U, Pt.locs, Pt.cells, Pt.slots] at X' e1 e2 h1 h2 h3 st hcl
    subst h1; subst h2; subst h3
    exact Or.inr ⟨q, (T.setVm vm₁).calling g' mk (Value.ref b :: As).toArray, t, U', L, E, ce, hT, X', hL, e1, e2, hq, hce, hcv, vx_cls hW₁ hcl, st⟩
theorem vx_runS (S : CallFix p m c cc nL s args Ts own) (hM : vx_Met l y ws rm Pc Qc XC mc ms free) (cw : CallB R s args own index y bytes maxL ret ws rm mc ms n ∧ (Cond.static y).before args s = true) (hp : PreS s H Pc As)
    (hg : g.method = m) (hn : As.length = n) (hsize : g.locals.size = nL) (hstack : g.stack = As.reverse ++ rest) (hW : 2 * g.monitorRoom + (rest.map fun v => v.category).sum ≤ 8) (hdg : decode cc g.pc = .ok (.invokestatic index, 3)) (hf : cells + mc ≤ R.cells ∧ slots + ms ≤ R.slots) :
    vx_Run p l e R s m args below meth c H locs cells slots mc ms g rest (Qc As.toArray) XC free := by
  have hK : vx_Back l R p e below s args y 3 8 (PreOf R mc ms Pc) (PostOf Qc mc ms free) (vx_Post XC mc ms free) := vx_callBack cw.1 hM hp.1
  obtain ⟨⟨-, -, -, -, -, -, hcode, hini, hy, hlen, hl⟩, hstt⟩ := cw
  obtain ⟨hx, hb, hml, ho, -⟩ := S
  intro T hT X
  rcases vx_callS X hx (bytes := bytes) (maxL := maxL) (ret := ret) ho hl hstt hini hcode hy hK hg (hsize.trans hml.symm) (argsL := As) (rest := rest) (fun sig h => hn.trans (hlen sig h)) hstack hW (by rw [hb]; exact hdg)
    (fun vm₁ hW₁ => ⟨hf.1, hf.2, hp.2 (T.setVm vm₁) hT hW₁⟩) with ⟨v, vm₁, ⟨U', l2, c2, s2⟩, hW₁, X', ⟨g', mk, t, L, e1, e2, hq, h1, hL, h2, h3⟩, st⟩ | ⟨q, vm₁, ⟨U', l2, c2, s2⟩, hW₁, X', ⟨g', mk, t, L, E, ce, e1, e2, hq, hce, hcv, hcl, h1, hL, h2, h3⟩, st⟩
  · dsimp only [Pt.U, Pt.locs, Pt.cells, Pt.slots] at X' e1 e2 h1 h2 h3 st
    subst h1; subst h2; subst h3
    exact Or.inl ⟨v, (T.setVm vm₁).calling g' mk As.toArray, t, U', L, hT, X', hL, e1, e2, hq, st⟩
  · dsimp only [Pt.U, Pt.locs, Pt.cells, Pt.slots] at X' e1 e2 h1 h2 h3 st hcl
    subst h1; subst h2; subst h3
    exact Or.inr ⟨q, (T.setVm vm₁).calling g' mk As.toArray, t, U', L, E, ce, hT, X', hL, e1, e2, hq, hce, hcv, vx_cls hW₁ hcl, st⟩
end Runs
section Rows
variable {p : Program} {l : Launch} {e : Env} {R : Room} {s : State} {m : MethodId} {args : Array Value} {below : List Frame} {meth : Method} {c : Code} {H : Heap} {locs : List Loc} {cells slots : Nat} {Q : State → Prop}
variable {mc ms : Nat} {free : Addr → Prop} {A0 A1 : Nat → Prop} {H0 : Heap} {a : Array Value} {pc : Nat} {ls : Array Slot} {st0 rest : List Value}
theorem vx_keep {st₀ t T' : State} {L : List Loc} (h0 : st₀.heap = H) (e1 : T'.heap = t.heap) (hS : va_S A0 H0 H locs) (hA : ∀ q, q < H.size → A1 q → A0 q) (hf : ∀ q, free q → A0 q) (hL : ∀ q ∈ L, free q.base) (hF : va_F A1 st₀ t) :
    H.size ≤ T'.heap.size ∧ (∀ q : Nat, q < H.size → ¬ A1 q → T'.heap[q]? = H[q]?) ∧ va_S A0 H0 T'.heap (locs ++ L) := by
  obtain ⟨hz, hk⟩ := hF
  rw [h0] at hz hk
  exact ⟨by rw [e1]; exact hz, fun q h1 h2 => by rw [e1]; exact hk q h1 h2,
    ⟨Nat.le_trans hS.1 (by rw [e1]; exact hz), fun q h1 h2 => by rw [e1, hk q (Nat.lt_of_lt_of_le h1 hS.1) (fun z => h2 (hA q (Nat.lt_of_lt_of_le h1 hS.1) z))]; exact hS.2.1 q h1 h2, fun q hq => by
      rcases List.mem_append.mp hq with h | h
      · exact hS.2.2 q h
      · exact hf _ (hL q h)⟩⟩
theorem vx_calli {S SX : Type} {post : Int32 → S → Prop} {px : SX → Prop} {B : S → State → Prop} {BX : String → SX → State → Prop} {AX : Nat → Prop} (hr : vx_Run p l e R s m args below meth c H locs cells slots mc ms (F0 m pc ls st0) rest (va_Qi post B A1 a) (vx_X px BX AX) free) (hS : va_S A0 H0 H locs) (hA : ∀ q, q < H.size → A1 q → A0 q) (hf : ∀ q, free q → A0 q) (hAX : ∀ q, q < H.size → AX q → A0 q)
    (kx : ∀ (E : String) (ce : Cell) (q9 : Addr) (u : SX) (t : State) (H1 : Heap) (locs1 : List Loc), t.heap = H1 → s.vm.Alike t.vm → px u → BX E u t → H.size ≤ H1.size → (∀ q : Nat, q < H.size → ¬ AX q → H1[q]? = H[q]?) → va_S A0 H0 H1 locs1 → H1[q9]? = some ce → ce.vm = .none → s.vm.findClass E = some ce.cls → vx_W p l e R s m args below meth c H1 locs1 (cells + mc) (slots + ms) Q (F0 m pc ls rest) q9)
    (kk : ∀ (r : Int32) (u : S) (t : State) (H1 : Heap) (locs1 : List Loc), t.heap = H1 → s.vm.Alike t.vm → post r u → B u t → H.size ≤ H1.size → (∀ q : Nat, q < H.size → ¬ A1 q → H1[q]? = H[q]?) → va_S A0 H0 H1 locs1 → W p l e R s m args below meth c H1 locs1 (cells + mc) (slots + ms) Q (F0 m (pc + 3) ls (.int r :: rest))) : W p l e R s m args below meth c H locs cells slots Q (F0 m pc ls st0) := by
  intro T hT X
  rcases hr T hT X with ⟨v, st₀, t, T', L, h0, X', hL, e1, e2, ⟨⟨r, u, hv, hp, hb⟩, hF⟩, st⟩ | ⟨q, st₀, t, T', L, E, ce, h0, X', hL, e1, e2, ⟨u, hp, hb, hF⟩, hce, hcv, hcl, st⟩
  · cases hv
    obtain ⟨k1, k2, k3⟩ := vx_keep h0 e1 hS hA hf hL hF
    obtain ⟨t2, a1, b1⟩ := kk r u t T'.heap (locs ++ L) e1.symm (by rw [← e2]; exact X'.warmed.alike) hp hb k1 k2 k3 T' rfl X'
    exact ⟨t2, st t2 a1, b1⟩
  · obtain ⟨k1, k2, k3⟩ := vx_keep h0 e1 hS hAX hf hL hF
    obtain ⟨t2, a1, b1⟩ := kx E ce q u t T'.heap (locs ++ L) e1.symm (by rw [← e2]; exact X'.warmed.alike) hp hb k1 k2 k3 (by rw [e1]; exact hce) hcv hcl T' rfl X'
    exact ⟨t2, st.trans a1, b1⟩
theorem vx_calll {S SX : Type} {post : Int64 → S → Prop} {px : SX → Prop} {B : S → State → Prop} {BX : String → SX → State → Prop} {AX : Nat → Prop} (hr : vx_Run p l e R s m args below meth c H locs cells slots mc ms (F0 m pc ls st0) rest (va_Ql post B A1 a) (vx_X px BX AX) free) (hS : va_S A0 H0 H locs) (hA : ∀ q, q < H.size → A1 q → A0 q) (hf : ∀ q, free q → A0 q) (hAX : ∀ q, q < H.size → AX q → A0 q)
    (kx : ∀ (E : String) (ce : Cell) (q9 : Addr) (u : SX) (t : State) (H1 : Heap) (locs1 : List Loc), t.heap = H1 → s.vm.Alike t.vm → px u → BX E u t → H.size ≤ H1.size → (∀ q : Nat, q < H.size → ¬ AX q → H1[q]? = H[q]?) → va_S A0 H0 H1 locs1 → H1[q9]? = some ce → ce.vm = .none → s.vm.findClass E = some ce.cls → vx_W p l e R s m args below meth c H1 locs1 (cells + mc) (slots + ms) Q (F0 m pc ls rest) q9)
    (kk : ∀ (r : Int64) (u : S) (t : State) (H1 : Heap) (locs1 : List Loc), t.heap = H1 → s.vm.Alike t.vm → post r u → B u t → H.size ≤ H1.size → (∀ q : Nat, q < H.size → ¬ A1 q → H1[q]? = H[q]?) → va_S A0 H0 H1 locs1 → W p l e R s m args below meth c H1 locs1 (cells + mc) (slots + ms) Q (F0 m (pc + 3) ls (.long r :: rest))) : W p l e R s m args below meth c H locs cells slots Q (F0 m pc ls st0) := by
  intro T hT X
  rcases hr T hT X with ⟨v, st₀, t, T', L, h0, X', hL, e1, e2, ⟨⟨r, u, hv, hp, hb⟩, hF⟩, st⟩ | ⟨q, st₀, t, T', L, E, ce, h0, X', hL, e1, e2, ⟨u, hp, hb, hF⟩, hce, hcv, hcl, st⟩
  · cases hv
    obtain ⟨k1, k2, k3⟩ := vx_keep h0 e1 hS hA hf hL hF
    obtain ⟨t2, a1, b1⟩ := kk r u t T'.heap (locs ++ L) e1.symm (by rw [← e2]; exact X'.warmed.alike) hp hb k1 k2 k3 T' rfl X'
    exact ⟨t2, st t2 a1, b1⟩
  · obtain ⟨k1, k2, k3⟩ := vx_keep h0 e1 hS hAX hf hL hF
    obtain ⟨t2, a1, b1⟩ := kx E ce q u t T'.heap (locs ++ L) e1.symm (by rw [← e2]; exact X'.warmed.alike) hp hb k1 k2 k3 (by rw [e1]; exact hce) hcv hcl T' rfl X'
    exact ⟨t2, st.trans a1, b1⟩
theorem vx_callf {S SX : Type} {post : UInt32 → S → Prop} {px : SX → Prop} {B : S → State → Prop} {BX : String → SX → State → Prop} {AX : Nat → Prop} (hr : vx_Run p l e R s m args below meth c H locs cells slots mc ms (F0 m pc ls st0) rest (va_Qf post B A1 a) (vx_X px BX AX) free) (hS : va_S A0 H0 H locs) (hA : ∀ q, q < H.size → A1 q → A0 q) (hf : ∀ q, free q → A0 q) (hAX : ∀ q, q < H.size → AX q → A0 q)
    (kx : ∀ (E : String) (ce : Cell) (q9 : Addr) (u : SX) (t : State) (H1 : Heap) (locs1 : List Loc), t.heap = H1 → s.vm.Alike t.vm → px u → BX E u t → H.size ≤ H1.size → (∀ q : Nat, q < H.size → ¬ AX q → H1[q]? = H[q]?) → va_S A0 H0 H1 locs1 → H1[q9]? = some ce → ce.vm = .none → s.vm.findClass E = some ce.cls → vx_W p l e R s m args below meth c H1 locs1 (cells + mc) (slots + ms) Q (F0 m pc ls rest) q9)
    (kk : ∀ (r : UInt32) (u : S) (t : State) (H1 : Heap) (locs1 : List Loc), t.heap = H1 → s.vm.Alike t.vm → post r u → B u t → H.size ≤ H1.size → (∀ q : Nat, q < H.size → ¬ A1 q → H1[q]? = H[q]?) → va_S A0 H0 H1 locs1 → W p l e R s m args below meth c H1 locs1 (cells + mc) (slots + ms) Q (F0 m (pc + 3) ls (.float r :: rest))) : W p l e R s m args below meth c H locs cells slots Q (F0 m pc ls st0) := by
  intro T hT X
  rcases hr T hT X with ⟨v, st₀, t, T', L, h0, X', hL, e1, e2, ⟨⟨r, u, hv, hp, hb⟩, hF⟩, st⟩ | ⟨q, st₀, t, T', L, E, ce, h0, X', hL, e1, e2, ⟨u, hp, hb, hF⟩, hce, hcv, hcl, st⟩
  · cases hv
    obtain ⟨k1, k2, k3⟩ := vx_keep h0 e1 hS hA hf hL hF
    obtain ⟨t2, a1, b1⟩ := kk r u t T'.heap (locs ++ L) e1.symm (by rw [← e2]; exact X'.warmed.alike) hp hb k1 k2 k3 T' rfl X'
    exact ⟨t2, st t2 a1, b1⟩
  · obtain ⟨k1, k2, k3⟩ := vx_keep h0 e1 hS hAX hf hL hF
    obtain ⟨t2, a1, b1⟩ := kx E ce q u t T'.heap (locs ++ L) e1.symm (by rw [← e2]; exact X'.warmed.alike) hp hb k1 k2 k3 (by rw [e1]; exact hce) hcv hcl T' rfl X'
    exact ⟨t2, st.trans a1, b1⟩
theorem vx_calld {S SX : Type} {post : UInt64 → S → Prop} {px : SX → Prop} {B : S → State → Prop} {BX : String → SX → State → Prop} {AX : Nat → Prop} (hr : vx_Run p l e R s m args below meth c H locs cells slots mc ms (F0 m pc ls st0) rest (va_Qd post B A1 a) (vx_X px BX AX) free) (hS : va_S A0 H0 H locs) (hA : ∀ q, q < H.size → A1 q → A0 q) (hf : ∀ q, free q → A0 q) (hAX : ∀ q, q < H.size → AX q → A0 q)
    (kx : ∀ (E : String) (ce : Cell) (q9 : Addr) (u : SX) (t : State) (H1 : Heap) (locs1 : List Loc), t.heap = H1 → s.vm.Alike t.vm → px u → BX E u t → H.size ≤ H1.size → (∀ q : Nat, q < H.size → ¬ AX q → H1[q]? = H[q]?) → va_S A0 H0 H1 locs1 → H1[q9]? = some ce → ce.vm = .none → s.vm.findClass E = some ce.cls → vx_W p l e R s m args below meth c H1 locs1 (cells + mc) (slots + ms) Q (F0 m pc ls rest) q9)
    (kk : ∀ (r : UInt64) (u : S) (t : State) (H1 : Heap) (locs1 : List Loc), t.heap = H1 → s.vm.Alike t.vm → post r u → B u t → H.size ≤ H1.size → (∀ q : Nat, q < H.size → ¬ A1 q → H1[q]? = H[q]?) → va_S A0 H0 H1 locs1 → W p l e R s m args below meth c H1 locs1 (cells + mc) (slots + ms) Q (F0 m (pc + 3) ls (.double r :: rest))) : W p l e R s m args below meth c H locs cells slots Q (F0 m pc ls st0) := by
  intro T hT X
  rcases hr T hT X with ⟨v, st₀, t, T', L, h0, X', hL, e1, e2, ⟨⟨r, u, hv, hp, hb⟩, hF⟩, st⟩ | ⟨q, st₀, t, T', L, E, ce, h0, X', hL, e1, e2, ⟨u, hp, hb, hF⟩, hce, hcv, hcl, st⟩
  · cases hv
    obtain ⟨k1, k2, k3⟩ := vx_keep h0 e1 hS hA hf hL hF
    obtain ⟨t2, a1, b1⟩ := kk r u t T'.heap (locs ++ L) e1.symm (by rw [← e2]; exact X'.warmed.alike) hp hb k1 k2 k3 T' rfl X'
    exact ⟨t2, st t2 a1, b1⟩
  · obtain ⟨k1, k2, k3⟩ := vx_keep h0 e1 hS hAX hf hL hF
    obtain ⟨t2, a1, b1⟩ := kx E ce q u t T'.heap (locs ++ L) e1.symm (by rw [← e2]; exact X'.warmed.alike) hp hb k1 k2 k3 (by rw [e1]; exact hce) hcv hcl T' rfl X'
    exact ⟨t2, st.trans a1, b1⟩
theorem vx_callv {S SX : Type} {post : S → Prop} {px : SX → Prop} {B : S → State → Prop} {BX : String → SX → State → Prop} {AX : Nat → Prop} (hr : vx_Run p l e R s m args below meth c H locs cells slots mc ms (F0 m pc ls st0) rest (va_Qv post B A1 a) (vx_X px BX AX) free) (hS : va_S A0 H0 H locs) (hA : ∀ q, q < H.size → A1 q → A0 q) (hf : ∀ q, free q → A0 q) (hAX : ∀ q, q < H.size → AX q → A0 q)
    (kx : ∀ (E : String) (ce : Cell) (q9 : Addr) (u : SX) (t : State) (H1 : Heap) (locs1 : List Loc), t.heap = H1 → s.vm.Alike t.vm → px u → BX E u t → H.size ≤ H1.size → (∀ q : Nat, q < H.size → ¬ AX q → H1[q]? = H[q]?) → va_S A0 H0 H1 locs1 → H1[q9]? = some ce → ce.vm = .none → s.vm.findClass E = some ce.cls → vx_W p l e R s m args below meth c H1 locs1 (cells + mc) (slots + ms) Q (F0 m pc ls rest) q9)
    (kk : ∀ (u : S) (t : State) (H1 : Heap) (locs1 : List Loc), t.heap = H1 → s.vm.Alike t.vm → post u → B u t → H.size ≤ H1.size → (∀ q : Nat, q < H.size → ¬ A1 q → H1[q]? = H[q]?) → va_S A0 H0 H1 locs1 → W p l e R s m args below meth c H1 locs1 (cells + mc) (slots + ms) Q (F0 m (pc + 3) ls (rest))) : W p l e R s m args below meth c H locs cells slots Q (F0 m pc ls st0) := by
  intro T hT X
  rcases hr T hT X with ⟨v, st₀, t, T', L, h0, X', hL, e1, e2, ⟨⟨u, hv, hp, hb⟩, hF⟩, st⟩ | ⟨q, st₀, t, T', L, E, ce, h0, X', hL, e1, e2, ⟨u, hp, hb, hF⟩, hce, hcv, hcl, st⟩
  · cases hv
    obtain ⟨k1, k2, k3⟩ := vx_keep h0 e1 hS hA hf hL hF
    obtain ⟨t2, a1, b1⟩ := kk u t T'.heap (locs ++ L) e1.symm (by rw [← e2]; exact X'.warmed.alike) hp hb k1 k2 k3 T' rfl X'
    exact ⟨t2, st t2 a1, b1⟩
  · obtain ⟨k1, k2, k3⟩ := vx_keep h0 e1 hS hAX hf hL hF
    obtain ⟨t2, a1, b1⟩ := kx E ce q u t T'.heap (locs ++ L) e1.symm (by rw [← e2]; exact X'.warmed.alike) hp hb k1 k2 k3 (by rw [e1]; exact hce) hcv hcl T' rfl X'
    exact ⟨t2, st.trans a1, b1⟩
/-- caught by the row x of this method's table; the rows ahead don't take it -/
theorem vx_catch {own name : String} {E : String} {ce : Cell} {q : Addr} (hown : s.vm.findClass own = some m.cls) (pre : List ExceptionTableEntry) (x : ExceptionTableEntry) (suf : List ExceptionTableEntry) (hsplit : c.exceptionTable.toList = pre ++ x :: suf)
    (hpass : ∀ z ∈ pre, covers z pc = false ∨ (z.catchType ≠ 0 ∧ ∃ nm : String, (Cond.classLink own z.catchType nm).before args s = true ∧ va_Nc E nm s)) (hx : covers x pc = true) (h0 : x.catchType ≠ 0)
    (hlink : (Cond.classLink own x.catchType name).before args s = true) (hcast : (Cond.castable E name).before args s = true) (hcell : H[q]? = some ce) (hv : ce.vm = .none) (hcl : s.vm.findClass E = some ce.cls)
    (kk : W p l e R s m args below meth c H locs cells slots Q (F0 m x.handlerPc ls [.ref q])) : vx_W p l e R s m args below meth c H locs cells slots Q (F0 m pc ls rest) q := by
  intro T hT X
  have hpl : e.platform.magicAccessors = ({} : Platform).magicAccessors := by rw [X.admits.platform]
  obtain ⟨c3, c4, hc3, hc4, hasg⟩ := Cond.castable_spec hcast
  cases Option.some.inj (hc3.symm.trans hcl)
  obtain ⟨c5, hc5, hcl5⟩ := Cond.classLink_spec hown hlink e.platform hpl
  cases Option.some.inj (hc4.symm.trans hc5)
  obtain ⟨vm', X', st⟩ := X.thenCaughtThrough q (g := F0 m pc ls rest) rfl (Steps.refl _) (by rw [hT]; exact hcell) (by rw [hv]; rfl) (by obtain ⟨k9, h9, -⟩ := Vm.findClass_spec hcl; exact ⟨k9, h9⟩) pre x suf hsplit
    (fun z hz => by
      rcases hpass z hz with h | ⟨hz0, nm, hl1, hn1⟩
      · exact Or.inl h
      · obtain ⟨c6, hc6, hcl6⟩ := Cond.classLink_spec hown hl1 e.platform hpl
        obtain ⟨a8, b8, h1, h2, h3⟩ := hn1
        cases Option.some.inj (h1.symm.trans hcl)
        cases Option.some.inj (h2.symm.trans hc6)
        exact Or.inr ⟨hz0, _, hcl6, h3⟩) hx (Or.inr ⟨h0, c4, hcl5, hasg⟩)
  obtain ⟨t, a1, b1⟩ := kk (T.setVm vm') hT X'
  exact ⟨t, st.trans a1, b1⟩
end Rows
section Ends
variable {p : Program} {l : Launch} {e : Env} {R : Room} {s : State} {m : MethodId} {args : Array Value} {below : List Frame} {meth : Method} {c : Code} {H : Heap} {locs : List Loc} {cells slots : Nat} {Q : State → Prop}
variable {mc ms : Nat} {free : Addr → Prop} {A0 A1 : Nat → Prop} {H0 : Heap} {a : Array Value} {ls : Array Slot} {st0 rest : List Value}
variable {Qc : Array Value → State → Outcome → State → Prop} {XC : String → State → State → Prop}
/-- what a body that may throw owes at its end -/
def vx_MQ (below : List Frame) (Qc : Array Value → State → Outcome → State → Prop) (XC : String → State → State → Prop) (a : Array Value) (s : State) (mc ms : Nat) (free : Addr → Prop) : State → Prop := fun t =>
  ∃ o, t.status = .running ∧ Ended t below o ∧ vx_Q Qc XC mc ms free a s o t
theorem vx_ret {g : JFrame} {mc ms : Nat} (k : W p l e R s m args below meth c H locs cells slots (MQ below Qc args s mc ms free) g) : W p l e R s m args below meth c H locs cells slots (vx_MQ below Qc XC args s mc ms free) g := by
  intro T hT X
  obtain ⟨t, a1, o, b1, b2, b3, b4⟩ := k T hT X
  exact ⟨t, a1, o, b1, b2, Or.inl ⟨b3, b4⟩⟩
/-- not caught here: it goes on to the caller -/
theorem vx_widen {g : JFrame} {q : Addr} {k n : Nat} (h1 : cells ≤ k) (h2 : slots ≤ n) (kk : vx_W p l e R s m args below meth c H locs k n Q g q) : vx_W p l e R s m args below meth c H locs cells slots Q g q := fun T hT X => kk T hT (stand_widen X h1 h2)
theorem vx_out {pc : Nat} {E : String} {ce : Cell} {q : Addr} {mc ms : Nat} (hout : ∀ x ∈ c.exceptionTable.toList, covers x pc = false) (hlocks : meth.locks = false) (hcell : H[q]? = some ce) (hv : ce.vm = .none) (hcl : s.vm.findClass E = some ce.cls)
    (hx : ∀ t : State, t.heap = H → s.vm.Alike t.vm → XC E s t) (hf : ∀ z ∈ locs, free z.base) (hc : cells ≤ mc) (hs : slots ≤ ms) :
    vx_W p l e R s m args below meth c H locs cells slots (vx_MQ below Qc XC args s mc ms free) (F0 m pc ls rest) q := by
  intro T hT X
  obtain ⟨st1, hrun, hend, hW, hsm⟩ := X.leaveThrown q (g := F0 m pc ls rest) rfl rfl rfl hout hlocks
  have hcell9 : (T.setFrames (.throwing q :: below)).heap[q]? = some ce := by
    show T.heap[q]? = some ce
    rw [hT]; exact hcell
  exact ⟨_, st1, .threw q, hrun, hend, Or.inr ⟨q, rfl, E, ce, locs, hx _ hT hW.alike, hcell9, hv, hcl, hW, hsm.mono hc hs, hf⟩⟩
theorem vx_frame {U : State} {k n : Nat} (h : s.sameButNew ({ U with vm := s.vm } : State) locs k n) : s.heap.size ≤ U.heap.size ∧ ∀ q : Nat, q < s.heap.size → (∀ z ∈ locs, z.base ≠ q) → U.heap[q]? = s.heap[q]? := by
  obtain ⟨-, h2, -, -, -, h6⟩ := h
  refine ⟨h2, fun q hq hz => ?_⟩
  obtain ⟨c9, e1, e2, e3, e4⟩ := h6 q _ (Array.getElem?_eq_getElem hq)
  have hs : c9.slots = (s.heap[q]).slots := Array.ext_getElem? fun i => e4 i fun hm => hz _ hm rfl
  have h9 : c9 = s.heap[q] := by
    rw [hs] at e2
    exact e2
  have e5 : U.heap[q]? = some c9 := e1
  rw [e5, h9, Array.getElem?_eq_getElem hq]
/-- the words of a throw but the four that speak of the heap -/
def vx_no (w : Cond) : Bool := decide (w ≠ .isRef (.static Bundle.tN "UNASSIGNED_STACK" Bundle.steD)) && decide (w ≠ .isRef (.static Bundle.tN "SUPPRESSED_SENTINEL" Bundle.listD)) && decide (w ≠ .laysStatic Bundle.tN "UNASSIGNED_STACK" Bundle.steD) && decide (w ≠ .laysStatic Bundle.tN "SUPPRESSED_SENTINEL" Bundle.listD)
def vx_at0 (own : String) (ic : Nat) (X : String) (names : List String) : List Cond := (Bundle.ownAtoms0 own ic X names).filter vx_no
def vx_atS (own : String) (ic : Nat) (X : String) (names : List String) : List Cond := (Bundle.ownAtoms own ic X names).filter vx_no
/-- a word that the tables alone decide, or a good one -/
def vx_ot (w : Cond) : Bool := w.onTables || goodWord w
theorem vx_ot_at {args a' : Array Value} {s U : State} {w : Cond} (hW : s.WarmedH U.vm) (hvm : s.vm = U.vm) (hg : vx_ot w = true) (h : w.before args s = true) : w.before a' U = true := by
  simp only [vx_ot, Bool.or_eq_true] at hg
  rcases hg with hg | hg
  · exact va_tabs hg hvm h
  · exact word_at hW (good_of_word hg) h
/-- a list's words: the good ones out of the method's own list, the others by premises of their own -/
theorem vx_hat {args : Array Value} {s : State} {L B : List Cond} (h1 : ∀ w ∈ L.filter goodWord, w.before args s = true) (h2 : ∀ w ∈ L.filter (fun w => !goodWord w), w ∈ B) (h3 : ∀ w ∈ B, w.before args s = true) : ∀ w ∈ L, w.before args s = true := by
  intro w hw
  by_cases g : goodWord w = true
  · exact h1 w (List.mem_filter.mpr ⟨hw, g⟩)
  · refine h3 w (h2 w (List.mem_filter.mpr ⟨hw, ?_⟩))
    show (!goodWord w) = true
    cases hgw : goodWord w
    · rfl
    · exact absurd hgw g
theorem vx_c {args : Array Value} {s : State} {w : Cond} {B : List Cond} (h : w.before args s = true) (t : ∀ w ∈ B, w.before args s = true) : ∀ w' ∈ w :: B, w'.before args s = true := fun w' h' => (List.mem_cons.mp h').elim (fun e => by rw [e]; exact h) (t w')
theorem vx_n {args : Array Value} {s : State} : ∀ w ∈ ([] : List Cond), w.before args s = true := fun _ h => nomatch h
theorem vx_own {args : Array Value} {s : State} {L : List Cond} (h1 : ∀ w ∈ L.filter vx_no, w.before args s = true)
    (hU : (Cond.isRef (.static Bundle.tN "UNASSIGNED_STACK" Bundle.steD)).before args s = true) (hN : (Cond.isRef (.static Bundle.tN "SUPPRESSED_SENTINEL" Bundle.listD)).before args s = true)
    (lU : (Cond.laysStatic Bundle.tN "UNASSIGNED_STACK" Bundle.steD).before args s = true) (lN : (Cond.laysStatic Bundle.tN "SUPPRESSED_SENTINEL" Bundle.listD).before args s = true) : ∀ w ∈ L, w.before args s = true := by
  intro w hw
  by_cases e1 : w = .isRef (.static Bundle.tN "UNASSIGNED_STACK" Bundle.steD)
  · rw [e1]; exact hU
  · by_cases e2 : w = .isRef (.static Bundle.tN "SUPPRESSED_SENTINEL" Bundle.listD)
    · rw [e2]; exact hN
    · by_cases e3 : w = .laysStatic Bundle.tN "UNASSIGNED_STACK" Bundle.steD
      · rw [e3]; exact lU
      · by_cases e4 : w = .laysStatic Bundle.tN "SUPPRESSED_SENTINEL" Bundle.listD
        · rw [e4]; exact lN
        · exact h1 w (List.mem_filter.mpr ⟨hw, by unfold vx_no; rw [decide_eq_true e1, decide_eq_true e2, decide_eq_true e3, decide_eq_true e4]; rfl⟩)
/-- where a static field lies, its class's statics cell in H -/
def vx_L (C n d : String) (A : Nat → Prop) (U : State) (H : Heap) : Prop := ∃ (c : ClassId) (k : Class) (i : Nat) (f : Field) (a : Nat) (cell : Cell), U.vm.findClass C = some c ∧ U.fieldFound? C n d = some (c, k, i, f) ∧ f.isStatic = true ∧ k.statics = some a ∧ H[a]? = some cell ∧ cell.vm.isStatics = true ∧ cell.cls = c ∧ f.slot < cell.slots.size ∧ k.staticTypes[f.slot]? = some f.type ∧ ¬ A a
theorem vx_L.moved {C n d : String} {A : Nat → Prop} {u U : State} {H : Heap} (hvm : u.vm.Alike U.vm) (h : vx_L C n d A u H) : vx_L C n d A U H := by
  obtain ⟨c, k, i, f, a, cell, h1, h2, h3, h4, h5, h6, h7, h8, h9, h10⟩ := h
  obtain ⟨k', hi', he⟩ := State.fieldFound?_setVm hvm h2
  exact ⟨c, k', i, f, a, cell, by rw [hvm.findClass]; exact h1, hi', h3, by rw [he]; exact h4, h5, h6, h7, h8, by rw [he]; exact h9, h10⟩
theorem vx_L.kept {C n d : String} {A : Nat → Prop} {U : State} {H H1 : Heap} (h : vx_L C n d A U H) (hq : ∀ a : Nat, a < H.size → ¬ A a → H1[a]? = H[a]?) : vx_L C n d A U H1 := by
  obtain ⟨c, k, i, f, a, cell, h1, h2, h3, h4, h5, h6, h7, h8, h9, h10⟩ := h
  exact ⟨c, k, i, f, a, cell, h1, h2, h3, h4, by rw [hq a (Array.getElem?_eq_some_iff.mp h5).1 h10]; exact h5, h6, h7, h8, h9, h10⟩
theorem vx_L.narrow {C n d : String} {A B : Nat → Prop} {U : State} {H : Heap} (h : vx_L C n d A U H) (hAB : ∀ q, B q → A q) : vx_L C n d B U H := by
  obtain ⟨c, k, i, f, a, cell, h1, h2, h3, h4, h5, h6, h7, h8, h9, h10⟩ := h
  exact ⟨c, k, i, f, a, cell, h1, h2, h3, h4, h5, h6, h7, h8, h9, fun z => h10 (hAB _ z)⟩
theorem vx_L.word {C n d : String} {A : Nat → Prop} {s : State} {args : Array Value} (h : vx_L C n d A s s.heap) : (Cond.laysStatic C n d).before args s = true := by
  obtain ⟨c, k, i, f, a, cell, h1, h2, h3, h4, h5, h6, h7, h8, h9, -⟩ := h
  show (Cond.laysStatic C n d).holds args s none s [] = true
  exact Cond.laysStatic_of h1 h2 h3 h4 h5 h6 h7 h8 h9
/-- .. and what it holds: null or some reference -/
def vx_Zq (C n d : String) (A : Nat → Prop) (U : State) (H : Heap) : Prop := va_Zq C n d A U H ∧ vx_L C n d A U H
theorem vx_Zq.moved {C n d : String} {A : Nat → Prop} {u U : State} {H : Heap} (hvm : u.vm.Alike U.vm) (h : vx_Zq C n d A u H) : vx_Zq C n d A U H := ⟨va_Zq.moved hvm h.1, vx_L.moved hvm h.2⟩
theorem vx_Zq.kept {C n d : String} {A : Nat → Prop} {U : State} {H H1 : Heap} (h : vx_Zq C n d A U H) (hq : ∀ a : Nat, a < H.size → ¬ A a → H1[a]? = H[a]?) : vx_Zq C n d A U H1 := ⟨va_Zq.kept h.1 hq, vx_L.kept h.2 hq⟩
theorem vx_Zq.narrow {C n d : String} {A B : Nat → Prop} {U : State} {H : Heap} (h : vx_Zq C n d A U H) (hAB : ∀ q, B q → A q) : vx_Zq C n d B U H := ⟨va_Zq.narrow h.1 hAB, vx_L.narrow h.2 hAB⟩
theorem vx_Zqof {args : Array Value} {s : State} {C n d : String} {A : Nat → Prop} (hl : (Cond.laysStatic C n d).before args s = true) (hini : (Cond.initialized C).before args s = true) (h : (Cond.isRef (.static C n d)).before args s = true) (hA : ∀ a : Nat, a < s.heap.size → ¬ A a) : vx_Zq C n d A s s.heap := by
  refine ⟨va_Zqof hl hini h hA, ?_⟩
  obtain ⟨c, k, i, f, a, cell, h1, h2, h3, h4, h5, h6, h7, h8, h9⟩ := Cond.laysStatic_spec hl
  exact ⟨c, k, i, f, a, cell, h1, h2, h3, h4, h5, h6, h7, h8, h9, hA a (Array.getElem?_eq_some_iff.mp h5).1⟩
theorem vx_isRef {C n d : String} {v : Value} {A : Nat → Prop} {s : State} {args : Array Value} (h : va_Z C n d v A s s.heap) (hv : v.isRef = true) : (Cond.isRef (.static C n d)).before args s = true := by
  obtain ⟨cf, kf, fi, f, a, cell, h1, h2, h3, h4, h5, h6, h7, -⟩ := h
  have he : (Term.static C n d).eval args s none [] s = some v := by
    simp [Term.eval, State.fieldNamed?, h1, h2, h4, h5, h6, h7]
  simp only [Cond.before, Cond.holds, Cond.value, he]
  cases v <;> simp_all [Value.isRef]
theorem vx_isRefq {C n d : String} {A : Nat → Prop} {s : State} {args : Array Value} (h : va_Zq C n d A s s.heap) : (Cond.isRef (.static C n d)).before args s = true := by
  rcases h with h | ⟨t, h⟩
  · exact vx_isRef h rfl
  · exact vx_isRef h rfl
/-- the same frame, seen from here: as if the method were called anew in this heap -/
theorem vx_rebase {T : State} (X : Stand p l e R s m args below meth c T locs cells slots) {R' : Room} (hf : R'.frames ≤ R.frames) (hl : R'.locals ≤ R.locals) (hc : cells + R'.cells ≤ R.cells) (hs : slots + R'.slots ≤ R.slots) :
    Stand p l e R' ((T.setVm s.vm).setFrames (.invoking m args :: below)) m args below meth c T [] 0 0 := by
  have htop : (T.setVm s.vm).topJava?.isSome := X.here.top
  have hF : ((T.setVm s.vm).setFrames (.invoking m args :: below)).frames = .invoking m args :: below := State.frames_setFrames _ (State.cur_lt_of_top htop)
  obtain ⟨g₀, hg0⟩ := Option.isSome_iff_exists.mp htop
  obtain ⟨r, hr⟩ := State.topJava?_eq_some.mp hg0
  have hl9 : e.platform.stackLimits (T.setVm s.vm).me = e.platform.stackLimits s.me := X.limits
  have hb9 : (T.setVm s.vm).me.stackBytes = s.me.stackBytes := X.bytes
  refine ⟨X.admits, X.cas, X.clock, hF, ?_, X.hears, X.method, X.code, X.here, X.tail, X.warmed, ?_, ?_, ?_⟩
  · have h := X.room
    have hU : ((T.setVm s.vm).setFrames (.invoking m args :: below)).localsInUse = s.localsInUse := by
      rw [State.localsInUse_invoking hF (meth := meth) (c := c) X.method X.code, State.localsInUse_invoking X.frames X.method X.code]
    simp only [State.hasRoom, Bool.and_eq_true, decide_eq_true_eq] at h ⊢
    obtain ⟨⟨⟨⟨h1, h2, h3, h4, h5, h6⟩, h7⟩, h8⟩, h9⟩ := h
    rw [X.frames, List.length_cons] at h2 h3
    have q1 := X.heapSize
    have q2 := X.used
    simp only [hF, hU, List.length_cons, State.stackLimits_setFrames, State.stackBytes_setFrames, hl9, hb9]
    refine ⟨⟨⟨⟨by omega, by omega, by omega, by omega, by omega, h6⟩, ?_⟩, ?_⟩, X.book⟩
    · show T.heap.size + R'.cells ≤ e.platform.maxCells
      omega
    · show T.slotsUsed + R'.slots ≤ e.platform.maxSlots
      omega
  · rw [State.stackLimits_setFrames]; rfl
  · rw [State.stackBytes_setFrames]; rfl
  · refine ⟨?_, Nat.le_refl _, Nat.le_refl _, ?_, ?_, fun a c9 h9 => ⟨c9, h9, rfl, rfl, fun _ _ => rfl⟩⟩
    · obtain ⟨t, ht, -⟩ := State.frames_cons hr
      show T.setVm s.vm = { ((T.setVm s.vm).setFrames (.invoking m args :: below)).setFrames (T.setVm s.vm).frames with heap := T.heap, slotsUsed := T.slotsUsed }
      rw [State.setFrames_setFrames, State.setFrames_self ht]
      rfl
    · show T.slotsUsed = T.slotsUsed + ((T.heap.toList.drop T.heap.size).map (·.slots.size)).sum
      rw [List.drop_eq_nil_of_le (Nat.le_of_eq Array.length_toList)]
      rfl
    · show ((T.heap.toList.drop T.heap.size).map (·.slots.size)).sum ≤ 0
      rw [List.drop_eq_nil_of_le (Nat.le_of_eq Array.length_toList)]
      exact Nat.le_refl _
/-- 'throw new E()': new; dup; invokespecial; athrow -/
theorem vx_throw0 {cc : ByteArray} {pc : Nat} (hexec : p.tables.exec = Jvm.exec) (hb : c.code = cc) (hl : l.stackTraces = false) {own cls : String} {names : List String} {ik ic mc ms : Nat} {A : Nat → Prop}
    (hown : s.vm.findClass own = some m.cls) (hcls : Bundle.fit cls = true) (hnames : ∀ n ∈ names, Bundle.fit n = true)
    (hk : (Cond.classLink own ik cls).before args s = true) (hini : (Cond.initialized cls).before args s = true) (hat : ∀ w ∈ vx_at0 own ic cls names, w.before args s = true)
    (hgood : ∀ w ∈ Cond.classLink own ik cls :: Cond.initialized cls :: vx_at0 own ic cls names, vx_ot w = true)
    (hU : vx_Zq Bundle.tN "UNASSIGNED_STACK" Bundle.steD A s s.heap) (hN : vx_Zq Bundle.tN "SUPPRESSED_SENTINEL" Bundle.listD A s s.heap) (hS : va_S A s.heap H locs) (hsize : ls.size = c.maxLocals)
    (d0 : decode cc pc = .ok (.new ik, 3)) (d3 : decode cc (pc + 3) = .ok (.dup, 1)) (d4 : decode cc (pc + 4) = .ok (.invokespecial ic, 3)) (d7 : decode cc (pc + 7) = .ok (.athrow, 1))
    (hout : ∀ x ∈ c.exceptionTable.toList, covers x (pc + 7) = false)
    (hRframes : names.length + 3 < R.frames) (hRlocals : (rest.map fun v => v.category).sum + (13 * (names.length + 1) + 42) ≤ R.locals) (hRcells : cells + 1 ≤ R.cells) (hRslots : slots + 6 ≤ R.slots) (hlocks : meth.locks = false)
    (hx : ∀ t : State, s.vm.Alike t.vm → H.size ≤ t.heap.size → (∀ q : Nat, q < H.size → t.heap[q]? = H[q]?) → XC cls s t)
    (hf : ∀ z ∈ locs, free z.base) (hc : cells + 1 ≤ mc) (hs : slots + 6 ≤ ms) :
    W p l e R s m args below meth c H locs cells slots (vx_MQ below Qc XC args s mc ms free) (F0 m pc ls rest) := by
  intro T hT X
  have htr : e.platform.stackTraces = false := (show e.platform.stackTraces = l.stackTraces by rw [X.admits.platform]).trans hl
  have Y := vx_rebase X (R' := { frames := R.frames, locals := R.locals, cells := 1, slots := 6 }) (Nat.le_refl _) (Nat.le_refl _) hRcells hRslots
  obtain ⟨s', hA⟩ : ∃ z, z = (T.setVm s.vm).setFrames (.invoking m args :: below) := ⟨_, rfl⟩
  rw [← hA] at Y
  have hvm : s'.vm = s.vm := by rw [hA]; rfl
  have hhp : s'.heap = H := by rw [hA]; exact hT
  have hW0 : s.WarmedH s'.vm := by rw [hvm]; exact State.WarmedH.refl s
  have hat' : ∀ w ∈ vx_at0 own ic cls names, w.before args s' = true := fun w hw => vx_ot_at hW0 hvm.symm (hgood w (List.mem_cons_of_mem _ (List.mem_cons_of_mem _ hw))) (hat w hw)
  have hk' : (Cond.classLink own ik cls).before args s' = true := vx_ot_at hW0 hvm.symm (hgood _ List.mem_cons_self) hk
  have hini' : (Cond.initialized cls).before args s' = true := vx_ot_at hW0 hvm.symm (hgood _ (List.mem_cons_of_mem _ List.mem_cons_self)) hini
  have hU' : vx_Zq Bundle.tN "UNASSIGNED_STACK" Bundle.steD A s' s'.heap := by rw [hhp]; exact vx_Zq.moved hW0.alike (hU.kept hS.2.1)
  have hN' : vx_Zq Bundle.tN "SUPPRESSED_SENTINEL" Bundle.listD A s' s'.heap := by rw [hhp]; exact vx_Zq.moved hW0.alike (hN.kept hS.2.1)
  have h : ∀ w ∈ Bundle.ownAtoms0 own ic cls names, w.before args s' = true := vx_own hat' (vx_isRefq hU'.1) (vx_isRefq hN'.1) hU'.2.word hN'.2.word
  have hown' : s'.vm.findClass own = some m.cls := by rw [hvm]; exact hown
  have hins : (Cond.instantiable cls 6).before args s' = true := h _ (by simp [Bundle.ownAtoms0])
  obtain ⟨vm₁, cX, kX, hfX, hkX, -, -, X₁, st1⟩ := Y.newCold hexec (own := own) (C := cls) (index := ik) (n := 6) hown' hk' hins hini'
    (g := F0 m pc ls rest) rfl (by rw [hb]; exact d0) (Nat.le_refl _) (Nat.le_refl _)
  generalize hT1 : (T.setVm vm₁).pushCell { cls := cX, slots := kX.instanceTypes.map defaultValue, vm := .none } = T1 at X₁ st1
  have hcat : (Value.ref T.heap.size).category = 1 := rfl
  have hcellA : T1.heap[T.heap.size]? = some (freshCell cX kX) := by rw [← hT1]; exact State.heap_pushCell_size _ _
  have d3' : decode c.code (pc + 3) = .ok (.dup, 1) := by rw [hb]; exact d3
  obtain ⟨U, hsteps, hrun, hend, hW, hsame, ce, hce, hO⟩ := X₁.ctorThrow0 hexec htr (own := own) (cls := cls) (names := names) (ic := ic) hown' hcls hnames h (fun x hx => nomatch hx) hfX hkX hcellA (by rw [hhp, hT]; exact Nat.le_refl _)
    (g := { method := m, pc := pc + 4, locals := ls, stack := .ref T.heap.size :: .ref T.heap.size :: rest, locked := none }) rfl hsize rfl rfl (rest := rest) rfl
    (by rw [hb]; exact d4) (by rw [hb]; exact d7) hout hRframes (by simp only [List.map_cons, List.sum_cons, hcat]; omega) hlocks
  obtain ⟨f1, f2⟩ := vx_frame hsame
  rw [hhp] at f1 f2
  have hWs : s.WarmedH U.vm := State.WarmedH.trans hW0 hW
  have hcl : s.vm.findClass cls = some ce.cls := by
    have h9 := hO.cls
    rw [hvm] at h9
    exact h9
  have hall : s.sameButNew ({ U with vm := s.vm } : State) locs mc ms := by
    subst hA
    obtain ⟨e1, e2⟩ := hsame
    rw [State.setFrames_setFrames] at e1
    have h2 : (T.setVm s.vm).sameButNew ({ U with vm := s.vm } : State) [] (0 + 1) (0 + 6) := ⟨e1, e2⟩
    have h3 := X.same.trans h2
    rw [List.append_nil] at h3
    exact h3.mono hc hs
  refine ⟨U, ?_, .threw T.heap.size, hrun, hend, Or.inr ⟨T.heap.size, rfl, cls, ce, locs, hx U hWs.alike f1 (fun q hq => f2 q hq (fun z hz => nomatch hz)), hce, hO.vm, hcl, hWs, hall, hf⟩⟩
  refine st1 _ ?_
  show Steps p.tables e below (T1.setTop { method := m, pc := pc + 3, locals := ls, stack := .ref T.heap.size :: rest, locked := none }) _
  jvm_step X₁.here [X₁.here.top, hexec, d3', Value.category]
  exact hsteps
/-- 'throw new E("text")': new; dup; ldc; invokespecial; athrow -/
theorem vx_throwS {cc : ByteArray} {pc : Nat} (hexec : p.tables.exec = Jvm.exec) (hb : c.code = cc) (hl : l.stackTraces = false) {own cls text : String} {names : List String} {ik is ic mc ms sa : Nat} {A : Nat → Prop}
    (hown : s.vm.findClass own = some m.cls) (hcls : Bundle.fit cls = true) (hnames : ∀ n ∈ names, Bundle.fit n = true)
    (hk : (Cond.classLink own ik cls).before args s = true) (hini : (Cond.initialized cls).before args s = true) (hstr : vk_R own is text sa s) (hat : ∀ w ∈ vx_atS own ic cls names, w.before args s = true)
    (hgood : ∀ w ∈ Cond.classLink own ik cls :: Cond.initialized cls :: vx_atS own ic cls names, vx_ot w = true)
    (hU : vx_Zq Bundle.tN "UNASSIGNED_STACK" Bundle.steD A s s.heap) (hN : vx_Zq Bundle.tN "SUPPRESSED_SENTINEL" Bundle.listD A s s.heap) (hS : va_S A s.heap H locs) (hsize : ls.size = c.maxLocals)
    (d0 : decode cc pc = .ok (.new ik, 3)) (d3 : decode cc (pc + 3) = .ok (.dup, 1)) (d4 : decode cc (pc + 4) = .ok (.ldc is, 2)) (d6 : decode cc (pc + 6) = .ok (.invokespecial ic, 3)) (d9 : decode cc (pc + 9) = .ok (.athrow, 1))
    (hout : ∀ x ∈ c.exceptionTable.toList, covers x (pc + 9) = false)
    (hRframes : names.length + 3 < R.frames) (hRlocals : (rest.map fun v => v.category).sum + (13 * (names.length + 1) + 43) ≤ R.locals) (hRcells : cells + 1 ≤ R.cells) (hRslots : slots + 6 ≤ R.slots) (hlocks : meth.locks = false)
    (hx : ∀ t : State, s.vm.Alike t.vm → H.size ≤ t.heap.size → (∀ q : Nat, q < H.size → t.heap[q]? = H[q]?) → XC cls s t)
    (hf : ∀ z ∈ locs, free z.base) (hc : cells + 1 ≤ mc) (hs : slots + 6 ≤ ms) :
    W p l e R s m args below meth c H locs cells slots (vx_MQ below Qc XC args s mc ms free) (F0 m pc ls rest) := by
  intro T hT X
  have htr : e.platform.stackTraces = false := (show e.platform.stackTraces = l.stackTraces by rw [X.admits.platform]).trans hl
  have Y := vx_rebase X (R' := { frames := R.frames, locals := R.locals, cells := 1, slots := 6 }) (Nat.le_refl _) (Nat.le_refl _) hRcells hRslots
  obtain ⟨s', hA⟩ : ∃ z, z = (T.setVm s.vm).setFrames (.invoking m args :: below) := ⟨_, rfl⟩
  rw [← hA] at Y
  have hvm : s'.vm = s.vm := by rw [hA]; rfl
  have hhp : s'.heap = H := by rw [hA]; exact hT
  have hW0 : s.WarmedH s'.vm := by rw [hvm]; exact State.WarmedH.refl s
  have hat' : ∀ w ∈ vx_atS own ic cls names, w.before args s' = true := fun w hw => vx_ot_at hW0 hvm.symm (hgood w (List.mem_cons_of_mem _ (List.mem_cons_of_mem _ hw))) (hat w hw)
  have hk' : (Cond.classLink own ik cls).before args s' = true := vx_ot_at hW0 hvm.symm (hgood _ List.mem_cons_self) hk
  have hini' : (Cond.initialized cls).before args s' = true := vx_ot_at hW0 hvm.symm (hgood _ (List.mem_cons_of_mem _ List.mem_cons_self)) hini
  have hU' : vx_Zq Bundle.tN "UNASSIGNED_STACK" Bundle.steD A s' s'.heap := by rw [hhp]; exact vx_Zq.moved hW0.alike (hU.kept hS.2.1)
  have hN' : vx_Zq Bundle.tN "SUPPRESSED_SENTINEL" Bundle.listD A s' s'.heap := by rw [hhp]; exact vx_Zq.moved hW0.alike (hN.kept hS.2.1)
  have h : ∀ w ∈ Bundle.ownAtoms own ic cls names, w.before args s' = true := vx_own hat' (vx_isRefq hU'.1) (vx_isRefq hN'.1) hU'.2.word hN'.2.word
  have hown' : s'.vm.findClass own = some m.cls := by rw [hvm]; exact hown
  have hins : (Cond.instantiable cls 6).before args s' = true := h _ (by simp [Bundle.ownAtoms])
  obtain ⟨vm₁, cX, kX, hfX, hkX, -, -, X₁, st1⟩ := Y.newCold hexec (own := own) (C := cls) (index := ik) (n := 6) hown' hk' hins hini'
    (g := F0 m pc ls rest) rfl (by rw [hb]; exact d0) (Nat.le_refl _) (Nat.le_refl _)
  generalize hT1 : (T.setVm vm₁).pushCell { cls := cX, slots := kX.instanceTypes.map defaultValue, vm := .none } = T1 at X₁ st1
  have hcat : (Value.ref T.heap.size).category = 1 := rfl
  have hcellA : T1.heap[T.heap.size]? = some (freshCell cX kX) := by rw [← hT1]; exact State.heap_pushCell_size _ _
  have d3' : decode c.code (pc + 3) = .ok (.dup, 1) := by rw [hb]; exact d3
  have d4' : decode c.code (pc + 4) = .ok (.ldc is, 2) := by rw [hb]; exact d4
  have hstr' : vk_R own is text sa s' := vk_R.warm hW0 hstr
  obtain ⟨U, hsteps, hrun, hend, hW, hsame, ce, hce, hO⟩ := X₁.ctorThrowS hexec htr (own := own) (cls := cls) (names := names) (ic := ic) hown' hcls hnames h (fun x hx => nomatch hx) hfX hkX hcellA (by rw [hhp, hT]; exact Nat.le_refl _) (msg := .ref sa) rfl
    (g := { method := m, pc := pc + 6, locals := ls, stack := .ref sa :: .ref T.heap.size :: .ref T.heap.size :: rest, locked := none }) rfl hsize rfl rfl (rest := rest) rfl
    (by rw [hb]; exact d6) (by rw [hb]; exact d9) hout hRframes (by simp only [List.map_cons, List.sum_cons, hcat]; omega) hlocks
  obtain ⟨f1, f2⟩ := vx_frame hsame
  rw [hhp] at f1 f2
  have hWs : s.WarmedH U.vm := State.WarmedH.trans hW0 hW
  have hcl : s.vm.findClass cls = some ce.cls := by
    have h9 := hO.cls
    rw [hvm] at h9
    exact h9
  have hall : s.sameButNew ({ U with vm := s.vm } : State) locs mc ms := by
    subst hA
    obtain ⟨e1, e2⟩ := hsame
    rw [State.setFrames_setFrames] at e1
    have h2 : (T.setVm s.vm).sameButNew ({ U with vm := s.vm } : State) [] (0 + 1) (0 + 6) := ⟨e1, e2⟩
    have h3 := X.same.trans h2
    rw [List.append_nil] at h3
    exact h3.mono hc hs
  refine ⟨U, ?_, .threw T.heap.size, hrun, hend, Or.inr ⟨T.heap.size, rfl, cls, ce, locs, hx U hWs.alike f1 (fun q hq => f2 q hq (fun z hz => nomatch hz)), hce, hO.vm, hcl, hWs, hall, hf⟩⟩
  refine st1 _ ?_
  show Steps p.tables e below (T1.setTop { method := m, pc := pc + 3, locals := ls, stack := .ref T.heap.size :: rest, locked := none }) _
  jvm_step X₁.here [X₁.here.top, hexec, d3', Value.category]
  exact X₁.ldcString hexec (own := own) (text := text) (index := is) (a := sa) hown' hstr'.1 hstr'.2
    (g := { method := m, pc := pc + 4, locals := ls, stack := .ref T.heap.size :: .ref T.heap.size :: rest, locked := none }) rfl d4' _ hsteps
/-- 'throw new E("text")', the text by a wide index -/
theorem vx_throwSW {cc : ByteArray} {pc : Nat} (hexec : p.tables.exec = Jvm.exec) (hb : c.code = cc) (hl : l.stackTraces = false) {own cls text : String} {names : List String} {ik is ic mc ms sa : Nat} {A : Nat → Prop}
    (hown : s.vm.findClass own = some m.cls) (hcls : Bundle.fit cls = true) (hnames : ∀ n ∈ names, Bundle.fit n = true)
    (hk : (Cond.classLink own ik cls).before args s = true) (hini : (Cond.initialized cls).before args s = true) (hstr : vk_R own is text sa s) (hat : ∀ w ∈ vx_atS own ic cls names, w.before args s = true)
    (hgood : ∀ w ∈ Cond.classLink own ik cls :: Cond.initialized cls :: vx_atS own ic cls names, vx_ot w = true)
    (hU : vx_Zq Bundle.tN "UNASSIGNED_STACK" Bundle.steD A s s.heap) (hN : vx_Zq Bundle.tN "SUPPRESSED_SENTINEL" Bundle.listD A s s.heap) (hS : va_S A s.heap H locs) (hsize : ls.size = c.maxLocals)
    (d0 : decode cc pc = .ok (.new ik, 3)) (d3 : decode cc (pc + 3) = .ok (.dup, 1)) (d4 : decode cc (pc + 4) = .ok (.ldc_w is, 3)) (d7 : decode cc (pc + 7) = .ok (.invokespecial ic, 3)) (d10 : decode cc (pc + 10) = .ok (.athrow, 1))
    (hout : ∀ x ∈ c.exceptionTable.toList, covers x (pc + 10) = false)
    (hRframes : names.length + 3 < R.frames) (hRlocals : (rest.map fun v => v.category).sum + (13 * (names.length + 1) + 43) ≤ R.locals) (hRcells : cells + 1 ≤ R.cells) (hRslots : slots + 6 ≤ R.slots) (hlocks : meth.locks = false)
    (hx : ∀ t : State, s.vm.Alike t.vm → H.size ≤ t.heap.size → (∀ q : Nat, q < H.size → t.heap[q]? = H[q]?) → XC cls s t)
    (hf : ∀ z ∈ locs, free z.base) (hc : cells + 1 ≤ mc) (hs : slots + 6 ≤ ms) :
    W p l e R s m args below meth c H locs cells slots (vx_MQ below Qc XC args s mc ms free) (F0 m pc ls rest) := by
  intro T hT X
  have htr : e.platform.stackTraces = false := (show e.platform.stackTraces = l.stackTraces by rw [X.admits.platform]).trans hl
  have Y := vx_rebase X (R' := { frames := R.frames, locals := R.locals, cells := 1, slots := 6 }) (Nat.le_refl _) (Nat.le_refl _) hRcells hRslots
  obtain ⟨s', hA⟩ : ∃ z, z = (T.setVm s.vm).setFrames (.invoking m args :: below) := ⟨_, rfl⟩
  rw [← hA] at Y
  have hvm : s'.vm = s.vm := by rw [hA]; rfl
  have hhp : s'.heap = H := by rw [hA]; exact hT
  have hW0 : s.WarmedH s'.vm := by rw [hvm]; exact State.WarmedH.refl s
  have hat' : ∀ w ∈ vx_atS own ic cls names, w.before args s' = true := fun w hw => vx_ot_at hW0 hvm.symm (hgood w (List.mem_cons_of_mem _ (List.mem_cons_of_mem _ hw))) (hat w hw)
  have hk' : (Cond.classLink own ik cls).before args s' = true := vx_ot_at hW0 hvm.symm (hgood _ List.mem_cons_self) hk
  have hini' : (Cond.initialized cls).before args s' = true := vx_ot_at hW0 hvm.symm (hgood _ (List.mem_cons_of_mem _ List.mem_cons_self)) hini
  have hU' : vx_Zq Bundle.tN "UNASSIGNED_STACK" Bundle.steD A s' s'.heap := by rw [hhp]; exact vx_Zq.moved hW0.alike (hU.kept hS.2.1)
  have hN' : vx_Zq Bundle.tN "SUPPRESSED_SENTINEL" Bundle.listD A s' s'.heap := by rw [hhp]; exact vx_Zq.moved hW0.alike (hN.kept hS.2.1)
  have h : ∀ w ∈ Bundle.ownAtoms own ic cls names, w.before args s' = true := vx_own hat' (vx_isRefq hU'.1) (vx_isRefq hN'.1) hU'.2.word hN'.2.word
  have hown' : s'.vm.findClass own = some m.cls := by rw [hvm]; exact hown
  have hins : (Cond.instantiable cls 6).before args s' = true := h _ (by simp [Bundle.ownAtoms])
  obtain ⟨vm₁, cX, kX, hfX, hkX, -, -, X₁, st1⟩ := Y.newCold hexec (own := own) (C := cls) (index := ik) (n := 6) hown' hk' hins hini'
    (g := F0 m pc ls rest) rfl (by rw [hb]; exact d0) (Nat.le_refl _) (Nat.le_refl _)
  generalize hT1 : (T.setVm vm₁).pushCell { cls := cX, slots := kX.instanceTypes.map defaultValue, vm := .none } = T1 at X₁ st1
  have hcat : (Value.ref T.heap.size).category = 1 := rfl
  have hcellA : T1.heap[T.heap.size]? = some (freshCell cX kX) := by rw [← hT1]; exact State.heap_pushCell_size _ _
  have d3' : decode c.code (pc + 3) = .ok (.dup, 1) := by rw [hb]; exact d3
  have d4' : decode c.code (pc + 4) = .ok (.ldc_w is, 3) := by rw [hb]; exact d4
  have hstr' : vk_R own is text sa s' := vk_R.warm hW0 hstr
  obtain ⟨U, hsteps, hrun, hend, hW, hsame, ce, hce, hO⟩ := X₁.ctorThrowS hexec htr (own := own) (cls := cls) (names := names) (ic := ic) hown' hcls hnames h (fun x hx => nomatch hx) hfX hkX hcellA (by rw [hhp, hT]; exact Nat.le_refl _) (msg := .ref sa) rfl
    (g := { method := m, pc := pc + 7, locals := ls, stack := .ref sa :: .ref T.heap.size :: .ref T.heap.size :: rest, locked := none }) rfl hsize rfl rfl (rest := rest) rfl
    (by rw [hb]; exact d7) (by rw [hb]; exact d10) hout hRframes (by simp only [List.map_cons, List.sum_cons, hcat]; omega) hlocks
  obtain ⟨f1, f2⟩ := vx_frame hsame
  rw [hhp] at f1 f2
  have hWs : s.WarmedH U.vm := State.WarmedH.trans hW0 hW
  have hcl : s.vm.findClass cls = some ce.cls := by
    have h9 := hO.cls
    rw [hvm] at h9
    exact h9
  have hall : s.sameButNew ({ U with vm := s.vm } : State) locs mc ms := by
    subst hA
    obtain ⟨e1, e2⟩ := hsame
    rw [State.setFrames_setFrames] at e1
    have h2 : (T.setVm s.vm).sameButNew ({ U with vm := s.vm } : State) [] (0 + 1) (0 + 6) := ⟨e1, e2⟩
    have h3 := X.same.trans h2
    rw [List.append_nil] at h3
    exact h3.mono hc hs
  refine ⟨U, ?_, .threw T.heap.size, hrun, hend, Or.inr ⟨T.heap.size, rfl, cls, ce, locs, hx U hWs.alike f1 (fun q hq => f2 q hq (fun z hz => nomatch hz)), hce, hO.vm, hcl, hWs, hall, hf⟩⟩
  refine st1 _ ?_
  show Steps p.tables e below (T1.setTop { method := m, pc := pc + 3, locals := ls, stack := .ref T.heap.size :: rest, locked := none }) _
  jvm_step X₁.here [X₁.here.top, hexec, d3', Value.category]
  exact X₁.ldcStringW hexec (own := own) (text := text) (index := is) (a := sa) hown' hstr'.1 hstr'.2
    (g := { method := m, pc := pc + 4, locals := ls, stack := .ref T.heap.size :: .ref T.heap.size :: rest, locked := none }) rfl d4' _ hsteps
end Ends
section Bodies
variable {l : Launch}
theorem vx_ofW {y : MethodName} {ws ws' : List Cond} {rm : Room} {Pc : Array Value → State → Prop} {Qc : Array Value → State → Outcome → State → Prop} {XC : String → State → State → Prop} {mc ms : Nat} {free : Addr → Prop} {cc : ByteArray} {maxL : Nat} {ret : Option FieldType}
    (hy : plainName y.cls = true) (hw : ws = Cond.code y cc maxL ret :: ws')
    (body : ∀ p e s m args below meth c s₁, BodyLoose p l y (headSpec ws rm) cc maxL ret e s m args below meth c s₁ → c.maxLocals = maxL → (∀ x ∈ c.exceptionTable.toList, False) → Pc args s →
      W p l e (headSpec ws rm).room s m args below meth c s.heap [] 0 0 (vx_MQ below Qc XC args s mc ms free) (entryFrame m args maxL)) : vx_Met l y ws rm Pc Qc XC mc ms free := by
  refine MetFree.of_bodyS (code := cc) (maxLocals := maxL) (ret := ret) hy ?_ ?_
  · intro args s m h hn
    obtain ⟨meth, c, h1, h2, h3, h4, h5, h6, -, -⟩ := Cond.code_spec hn (atoms_spec (ws := ws) h _ (by rw [hw]; exact List.mem_cons_self))
    exact ⟨meth, c, h1, h2, h3, h4, h5, h6⟩
  · intro p e s m args below meth c s₁ B hml hP _
    have hh0 : s₁.heap = s.heap := by rw [B.state]; rfl
    have ht : ∀ x ∈ c.exceptionTable.toList, False := by
      obtain ⟨meth9, c9, h1, h2, -, -, -, -, h7, -⟩ := Cond.code_spec B.named (atoms_spec (ws := ws) B.pre _ (by rw [hw]; exact List.mem_cons_self))
      cases Option.some.inj (h1.symm.trans B.method)
      cases Option.some.inj (h2.symm.trans (Stand.of_body B).code)
      intro x hx
      rw [Array.isEmpty_iff.mp h7] at hx
      cases hx
    obtain ⟨t, a1, o, b1, b2, b3⟩ := body p e s m args below meth c s₁ B hml ht hP s₁ hh0 (Stand.of_body B)
    exact ⟨t, o, a1, b1, b2, b3⟩
/-- the table of a body with handlers -/
theorem vx_table {p : Program} {x y : MethodName} {S : Spec} {cc bytes : ByteArray} {maxL maxL' : Nat} {ret ret' : Option FieldType} {e : Env} {s s₁ : State} {m : MethodId} {args : Array Value} {below : List Frame} {meth : Method} {c : Code} {hh : List (Nat × Nat × Nat × Nat)}
    (B : BodyLoose p l y S cc maxL ret e s m args below meth c s₁) (h : (Cond.codeWith y bytes maxL' ret' hh).before args s = true) : c.exceptionTable.toList = tableOf hh := by
  obtain ⟨m9, meth9, c9, hn9, h1, h2, -, -, h6, -⟩ := Cond.codeWith_spec h
  cases Option.some.inj (hn9.symm.trans B.named)
  cases Option.some.inj (h1.symm.trans B.method)
  cases Option.some.inj (h2.symm.trans (Stand.of_body B).code)
  rw [← h6, table_eq]
end Bodies
end VXA
/-! ===== END ===== -/
/-! ===== BEGIN a static call of a method with an exception table ===== -/
section VXS
variable {p : Program} {l : Launch} {e : Env} {R : Room} {s : State} {m : MethodId} {args : Array Value} {below : List Frame} {meth : Method} {c : Code} {T : State} {H : Heap} {locs : List Loc} {cells slots : Nat}
abbrev vx_CSW (R : Room) (s : State) (args : Array Value) (own : String) (index : Nat) (y : MethodName) (bytes : ByteArray) (maxL : Nat) (ret : Option FieldType) (hh : List (Nat × Nat × Nat × Nat)) (ws : List Cond) (rm : Room) (mc ms n : Nat) : Prop :=
  (rm.cells = mc ∧ rm.slots = ms ∧ rm.frames + 1 ≤ R.frames ∧ 8 + (maxL + 11) + rm.locals ≤ R.locals ∧ (∀ w ∈ ws, ∀ (a' : Array Value) (U : State), s.WarmedH U.vm → w.before a' U = true) ∧ Cond.codeWith y bytes maxL ret hh ∈ ws) ∧
  (Cond.codeWith y bytes maxL ret hh).before args s = true ∧ (Cond.initialized y.cls).before args s = true ∧ (y.cls ≠ "java/lang/invoke/MethodHandle" ∧ y.cls ≠ "java/lang/invoke/VarHandle") ∧
  (∀ sig, parseMethodDescriptor y.desc = some sig → n = sig.parameters.length) ∧ (Cond.methodLink own index y).before args s = true ∧ (Cond.static y).before args s = true
theorem vx_cwSW {own : String} {index maxL mc ms : Nat} {y : MethodName} {bytes : ByteArray} {ret : Option FieldType} {hh : List (Nat × Nat × Nat × Nat)} {Ts ws ws' : List Cond} {rm : Room} (n : Nat) (ht : ∀ w ∈ Ts, w.before args s = true) (hT : GoodIn Ts (va_wsS own index y ws)) (hw : ws = Cond.codeWith y bytes maxL ret hh :: ws') (hrc : rm.cells = mc) (hrs : rm.slots = ms)
    (hd : y.cls ≠ "java/lang/invoke/MethodHandle" ∧ y.cls ≠ "java/lang/invoke/VarHandle" ∧ (parseMethodDescriptor y.desc).map (fun d => d.parameters.length) = some n) (hR : rm.frames + 1 ≤ R.frames ∧ 8 + (maxL + 11) + rm.locals ≤ R.locals) :
    vx_CSW R s args own index y bytes maxL ret hh ws rm mc ms n := by
  have ok : ∀ w ∈ va_wsS own index y ws, w.before args s = true := fun w h => ht w (hT w h).1
  have hG : GoodIn Ts ws := fun w h => hT w (by unfold va_wsS; exact List.mem_append_right _ h)
  have hc : Cond.codeWith y bytes maxL ret hh ∈ ws := by rw [hw]; exact List.mem_cons_self
  refine ⟨⟨hrc, hrs, hR.1, hR.2, pay_in ht hG, hc⟩, ht _ (hG _ hc).1, ok _ (by simp [va_wsS]), ⟨hd.1, hd.2.1⟩, fun sig h => ?_, ok _ (by simp [va_wsS]), ok _ (by simp [va_wsS])⟩
  have h2 := hd.2.2
  rw [h] at h2
  exact (Option.some.inj h2).symm
theorem vx_callSW (X : Stand p l e R s m args below meth c T locs cells slots) (hexec : p.tables.exec = Jvm.exec) {own : String} {index : Nat} {y : MethodName} {bytes : ByteArray} {maxL : Nat} {ret : Option FieldType} {hh : List (Nat × Nat × Nat × Nat)}
    (hown : s.vm.findClass own = some m.cls) (hlink : (Cond.methodLink own index y).before args s = true) (hstat : (Cond.static y).before args s = true) (hinit : (Cond.initialized y.cls).before args s = true)
    (hcode : (Cond.codeWith y bytes maxL ret hh).before args s = true) (hy : y.cls ≠ "java/lang/invoke/MethodHandle" ∧ y.cls ≠ "java/lang/invoke/VarHandle")
    {W9 : Nat} {Pre : Pt → Array Value → Prop} {Post : Pt → Array Value → Option Value → Pt → Prop} (hK : Back l R p e below s args y 3 W9 Pre Post)
    {g : JFrame} (hg : g.method = m) (hsize : g.locals.size = c.maxLocals) {argsL rest : List Value} (hlen : ∀ sig, parseMethodDescriptor y.desc = some sig → argsL.length = sig.parameters.length)
    (hstack : g.stack = argsL.reverse ++ rest) (hW : 2 * g.monitorRoom + (rest.map fun v => v.category).sum ≤ W9) (hdg : decode c.code g.pc = .ok (.invokestatic index, 3))
    (hpre : ∀ vm₁, s.WarmedH vm₁ → Pre ⟨T.setVm vm₁, locs, cells, slots⟩ argsL.toArray) :
    ∃ (v : Option Value) (vm₁ : Vm) (B : Pt), s.WarmedH vm₁ ∧ Stand p l e R s m args below meth c B.U B.locs B.cells B.slots ∧ Post ⟨T.setVm vm₁, locs, cells, slots⟩ argsL.toArray v B ∧
      ∀ target, Steps p.tables e below (B.U.setTop { g with pc := g.pc + 3, stack := v.toList ++ rest }) target → Steps p.tables e below (T.setTop g) target := by
  obtain ⟨mk, methM, cM, hnamed, hmethM, -, -, -, -, -, -, hsigM⟩ := Cond.codeWith_spec hcode
  have hstatic : methM.isStatic = true := Cond.static_spec hnamed hmethM hstat
  obtain ⟨kP, hkP, -⟩ := className_of_methodNamed hnamed
  have hinitP : kP.init = .initialized := Cond.initialized_spec (findClass_of_methodNamed hnamed) hkP hinit
  obtain ⟨vm₁, X₁, hstep₁⟩ := X.invokestatic hexec hown hlink hnamed hmethM hstatic hkP hinitP hy (g := g) hg (argsL := argsL) (rest := rest) (hlen _ hsigM) hstack hdg
  obtain ⟨v, B, X', hpost, hsteps⟩ := hK m meth c ⟨T.setVm vm₁, locs, cells, slots⟩ { g with stack := rest } (.invokestatic index) mk argsL.toArray X₁ hg hsize hdg hW (X₁.named hnamed) (hpre vm₁ X₁.warmed)
  exact ⟨v, vm₁, B, X₁.warmed, X', hpost, fun target h => hstep₁ _ fun acts => by rw [doInvoke_state]; exact hsteps.trans h⟩
theorem vx_runSW {y : MethodName} {bytes cc : ByteArray} {maxL nL mc ms n index : Nat} {ret : Option FieldType} {hh : List (Nat × Nat × Nat × Nat)} {ws : List Cond} {rm : Room} {Pc : Array Value → State → Prop} {Qc : Array Value → State → Outcome → State → Prop} {free : Addr → Prop} {Ts : List Cond} {own : String} {As rest : List Value} {g : JFrame}
    (S : CallFix p m c cc nL s args Ts own) (hM : Met l y ws rm Pc Qc mc ms free) (cw : vx_CSW R s args own index y bytes maxL ret hh ws rm mc ms n) (hp : PreS s H Pc As)
    (hg : g.method = m) (hn : As.length = n) (hsize : g.locals.size = nL) (hstack : g.stack = As.reverse ++ rest) (hW : 2 * g.monitorRoom + (rest.map fun v => v.category).sum ≤ 8) (hdg : decode cc g.pc = .ok (.invokestatic index, 3)) (hf : cells + mc ≤ R.cells ∧ slots + ms ≤ R.slots) :
    va_Run p l e R s m args below meth c H locs cells slots mc ms g rest (Qc As.toArray) (free) := by
  obtain ⟨⟨hrc, hrs, hfr, hlo, hws, hcw⟩, hcode, hini, hy, hlen, hl, hstt⟩ := cw
  have hK : Back l R p e below s args y 3 8 (PreOf R mc ms Pc) (PostOf Qc mc ms free) := va_backW (hh := hh) (bytes := bytes) (maxL := maxL) (ret := ret) hM hp.1 hrc hrs hfr hlo hws hcw (fun a' U hW => word_at hW (Or.inl (by first | rfl | simp [Cond.onTables, Cond.keeps, Cond.steady])) hini)
  obtain ⟨hx, hb, hml, ho, -⟩ := S
  intro T hT X
  obtain ⟨v, vm₁, ⟨U', l2, c2, s2⟩, hW₁, X', ⟨g', mk, t, L, e1, e2, hq, h1, hL, h2, h3⟩, st⟩ := vx_callSW X hx (hh := hh) (bytes := bytes) (maxL := maxL) (ret := ret) ho hl hstt hini hcode hy hK hg (hsize.trans hml.symm) (argsL := As) (rest := rest) (fun sig h => hn.trans (hlen sig h)) hstack hW (by rw [hb]; exact hdg)
    (fun vm₁ hW₁ => ⟨hf.1, hf.2, hp.2 (T.setVm vm₁) hT hW₁⟩)
  dsimp only [Pt.U, Pt.locs, Pt.cells, Pt.slots] at X' e1 e2 h1 h2 h3 st
  subst h1; subst h2; subst h3
  exact ⟨v, (T.setVm vm₁).calling g' mk As.toArray, t, U', L, hT, X', hL, e1, e2, hq, st⟩
/-- not caught here, past rows that name other classes: it goes on to the caller -/
theorem vx_outP {p : Program} {l : Launch} {e : Env} {R : Room} {s : State} {m : MethodId} {args : Array Value} {below : List Frame} {meth : Method} {c : Code} {H : Heap} {locs : List Loc} {cells slots : Nat} {free : Addr → Prop} {ls : Array Slot} {rest : List Value} {Qc : Array Value → State → Outcome → State → Prop} {XC : String → State → State → Prop}
    {pc : Nat} {own E : String} {ce : Cell} {q : Addr} {mc ms : Nat} (hown : s.vm.findClass own = some m.cls) (hlocks : meth.locks = false)
    (hpass : ∀ z ∈ c.exceptionTable.toList, covers z pc = false ∨ (z.catchType ≠ 0 ∧ ∃ nm : String, (Cond.classLink own z.catchType nm).before args s = true ∧ va_Nc E nm s)) (hcell : H[q]? = some ce) (hv : ce.vm = .none) (hcl : s.vm.findClass E = some ce.cls)
    (hx : ∀ t : State, t.heap = H → s.vm.Alike t.vm → XC E s t) (hf : ∀ z ∈ locs, free z.base) (hc : cells ≤ mc) (hs : slots ≤ ms) :
    vx_W p l e R s m args below meth c H locs cells slots (vx_MQ below Qc XC args s mc ms free) (F0 m pc ls rest) q := by
  intro T hT X
  have hpl : e.platform.magicAccessors = ({} : Platform).magicAccessors := by rw [X.admits.platform]
  obtain ⟨vm', hW', X', st⟩ := X.outThrough hlocks q (g := F0 m pc ls rest) rfl rfl rfl (cell := ce) (by rw [hT]; exact hcell) (by rw [hv]; rfl)
    (by obtain ⟨k9, h9, -⟩ := Vm.findClass_spec hcl; exact ⟨k9, h9⟩) (fun z hz => by
      rcases hpass z hz with h | ⟨hz0, nm, hl1, hn1⟩
      · exact Or.inl h
      · obtain ⟨c6, hc6, hcl6⟩ := Cond.classLink_spec hown hl1 e.platform hpl
        obtain ⟨a8, b8, h1, h2, h3⟩ := hn1
        cases Option.some.inj (h1.symm.trans hcl)
        cases Option.some.inj (h2.symm.trans hc6)
        exact Or.inr ⟨hz0, _, hcl6, h3⟩)
  obtain ⟨g₀, hfr⟩ := X'.frames_eq
  have hcell9 : ((T.setVm vm').setFrames (.throwing q :: below)).heap[q]? = some ce := by
    show T.heap[q]? = some ce
    rw [hT]; exact hcell
  have hend : Ended ((T.setVm vm').setFrames (.throwing q :: below)) below (.threw q) := State.frames_setFrames _ (State.cur_lt_of_frames hfr)
  refine ⟨(T.setVm vm').setFrames (.throwing q :: below), ?_, .threw q, X'.here.running, hend, Or.inr ⟨q, rfl, E, ce, locs, hx _ hT (X'.ends _).1.alike, hcell9, hv, hcl, (X'.ends _).1, (X'.ends _).2.mono hc hs, hf⟩⟩
  rw [X.pushThrowing_eq]
  exact st
/-- a thing of a world lies in the heap -/
theorem vx_lt {D : va_G} {cl : List vw_C} {ws : va_W} {H1 : Heap} (h : va_P D cl ws H1) {k : Nat} {q : Nat × va_E} (hk : ws[k]? = some q) : q.1 < H1.size := (h k q hk).lt
end VXS
/-! ===== END ===== -/
/-! ===== BEGIN methods with a table of their own: called by a name, returning or throwing ===== -/
section VXH
/-! vx_backW, vx_callVX, vx_callSX, vx_callVW, vx_runVW, vx_runVX, vx_runSX, vx_ofWH follow the same proofs as their sisters above (Free/Laws.lean, Shelf42/LK1.lean); vx_outP calls Shelf42/NT130.lean (outThrough). -/
section
variable {l : Launch} {R : Room} {p : Program} {e : Env} {below : List Frame} {s : State} {sargs : Array Value} {y : MethodName} {len W9 : Nat}
theorem vx_backW {ws : List Cond} {rm : Room} {Pc : Array Value → State → Prop} {Qc : Array Value → State → Outcome → State → Prop} {XC : String → State → State → Prop} {mc ms : Nat} {free : Addr → Prop} {bytes : ByteArray} {maxL : Nat} {ret : Option FieldType} {hh : List (Nat × Nat × Nat × Nat)}
    (hM : vx_Met l y ws rm Pc Qc XC mc ms free) (hblind : FrameBlind Pc) (hrc : rm.cells = mc) (hrs : rm.slots = ms)
    (hframes : rm.frames + 1 ≤ R.frames) (hlocals : W9 + (maxL + 11) + rm.locals ≤ R.locals)
    (hws : ∀ w ∈ ws, ∀ a' U, s.WarmedH U.vm → w.before a' U = true) (hcode : Cond.codeWith y bytes maxL ret hh ∈ ws) (hinit : ∀ a' U, s.WarmedH U.vm → (Cond.initialized y.cls).before a' U = true) :
    vx_Back l R p e below s sargs y len W9 (PreOf R mc ms Pc) (PostOf Qc mc ms free) (vx_Post XC mc ms free) := by
  intro m meth c A g ig mk a X hg hsize hdg hW hn hp
  have h1 : (headSpec ws rm).pre.before a A.U = true := atoms_intro fun w hw => hws w hw _ _ X.warmed
  have h2 : (Cond.codeWith y bytes maxL ret hh).before a A.U = true := hws _ hcode _ _ X.warmed
  have h3 : (Cond.initialized y.cls).before a A.U = true := hinit _ _ X.warmed
  have h4 : A.cells + (headSpec ws rm).room.cells ≤ R.cells := by rw [show (headSpec ws rm).room.cells = mc from hrc]; exact hp.1
  have h5 : A.slots + (headSpec ws rm).room.slots ≤ R.slots := by rw [show (headSpec ws rm).room.slots = ms from hrs]; exact hp.2.1
  have hPc : Pc a (A.U.calling g mk a) := hblind _ _ _ _ hp.2.2
  obtain ⟨U, Ls, c0, s0⟩ := A
  dsimp only [Pt.U, Pt.locs, Pt.cells, Pt.slots] at h1 h2 h3 h4 h5 X hn hPc ⊢
  obtain ⟨m9, methY, cY, hn9, hmY, hcY, -, hlY, -⟩ := Cond.codeWith_spec h2
  cases Option.some.inj (hn9.symm.trans hn)
  obtain ⟨kY, hkY, -⟩ := className_of_methodNamed hn
  have hinitY : kY.init = .initialized := Cond.initialized_spec (findClass_of_methodNamed hn) hkY h3
  have h : At U g.method c below := by rw [hg]; exact X.here
  have hlocals9 : W9 + (maxL + 11) + (headSpec ws rm).room.locals ≤ R.locals := hlocals
  have happ : (headSpec ws rm).appliesLoose y e.platform (U.calling g mk a) = true :=
    Spec.appliesLoose_calling (g := g) h hdg hn hkY hinitY
      (X.room_calling (g := g) (R' := (headSpec ws rm).room) hsize hmY hcY hframes (by rw [hlY]; omega) h4 h5) h1
  obtain ⟨mid, hmid⟩ := h.above
  have hfr : (U.setTop g).frames = (.java g :: mid) ++ below := by rw [State.frames_setTop' g h.top, hmid]; rfl
  obtain ⟨o, s₂, hsteps, -, hend, hq⟩ := Steps.callFree hM p X.admits X.cas X.clock (acts := []) hfr happ hPc trivial
  have hq' : vx_Q Qc XC mc ms free a (U.calling g mk a) o s₂ := hq
  rw [State.frames_setTop' g h.top] at hend
  obtain ⟨g₀, hg0⟩ := Option.isSome_iff_exists.mp h.top
  obtain ⟨r, hr⟩ := State.topJava?_eq_some.mp hg0
  have hr' : (({ U with heap := s₂.heap, slotsUsed := s₂.slotsUsed } : State).setVm s₂.vm).frames = .java g₀ :: r := hr
  rcases hq' with ⟨hqc, L, hfe, hL⟩ | ⟨q, rfl, E, ce, L, hx, hce, hcv, hcl, hW₂, hsm, hL⟩
  · obtain ⟨⟨v, rfl⟩, hW₂, e2, q2, q3, q4, q5, q6⟩ := id hfe
    have e3 : s₂ = ({ (U.calling g mk a).setFrames s₂.frames with heap := s₂.heap, slotsUsed := s₂.slotsUsed } : State).setVm s₂.vm := by
      have : s₂ = ({ s₂ with vm := (U.calling g mk a).vm } : State).setVm s₂.vm := rfl
      rw [e2] at this
      exact this
    obtain ⟨c₂, i₂, len₂, hc₂, hd₂, hf₂⟩ := hend
    have hW' : U.WarmedH s₂.vm := hW₂
    have hcc : c₂ = c := by
      have h1 : s₂.code? g.method = U.code? g.method := by
        rw [State.code?_eq, State.code?_eq, hW'.alike.method?]
      exact Option.some.inj (hc₂.symm.trans (h1.trans h.code))
    subst hcc
    have hlen : len₂ = len := by rw [hdg] at hd₂; cases hd₂; rfl
    subst hlen
    have hs₂ : s₂ = (({ U with heap := s₂.heap, slotsUsed := s₂.slotsUsed } : State).setVm s₂.vm).setTop { g with pc := g.pc + len₂, stack := v.toList ++ g.stack } := by
      refine e3.trans ?_
      rw [hf₂, State.calling_eq h.top, State.setFrames_setFrames, State.setTop_of_frames _ hr', hr]
      rfl
    have hsame : U.sameButNew ({ U with heap := s₂.heap, slotsUsed := s₂.slotsUsed } : State) L mc ms := by
      refine ⟨?_, q2, q3, q4, q5, q6⟩
      obtain ⟨t, ht, -⟩ := State.frames_cons hr
      show ({ U with heap := s₂.heap, slotsUsed := s₂.slotsUsed } : State) = { U.setFrames U.frames with heap := s₂.heap, slotsUsed := s₂.slotsUsed }
      rw [State.setFrames_self ht]
    subst hg
    refine Or.inl ⟨v, ⟨(({ U with heap := s₂.heap, slotsUsed := s₂.slotsUsed } : State).setVm s₂.vm), Ls ++ L, c0 + mc, s0 + ms⟩,
      ⟨X.admits, X.cas, X.clock, X.frames, X.room, X.hears, X.method, X.code, (X.here.setHeapUsed s₂.heap s₂.slotsUsed).setVm hW'.alike, X.tail, State.WarmedH.trans X.warmed hW', X.limits, X.bytes, X.same.trans (hsame.setVm s.vm)⟩,
      ⟨g, mk, s₂, L, rfl, rfl, hqc, rfl, hL, rfl, rfl⟩, ?_⟩
    show Steps p.tables e below _ ((({ U with heap := s₂.heap, slotsUsed := s₂.slotsUsed } : State).setVm s₂.vm).setTop { g with pc := g.pc + len₂, stack := v.toList ++ g.stack })
    rw [← hs₂]
    exact hsteps
  · obtain ⟨e2, q2, q3, q4, q5, q6⟩ := id hsm
    have e3 : s₂ = ({ (U.calling g mk a).setFrames s₂.frames with heap := s₂.heap, slotsUsed := s₂.slotsUsed } : State).setVm s₂.vm := by
      have : s₂ = ({ s₂ with vm := (U.calling g mk a).vm } : State).setVm s₂.vm := rfl
      rw [e2] at this
      exact this
    have hf₂ : s₂.frames = .throwing q :: .java g :: U.frames.tail := hend
    have hW' : U.WarmedH s₂.vm := hW₂
    have hs₂ : s₂ = ((({ U with heap := s₂.heap, slotsUsed := s₂.slotsUsed } : State).setVm s₂.vm).setTop g).pushFrame (.throwing q) := by
      refine e3.trans ?_
      rw [hf₂, State.calling_eq h.top, State.setFrames_setFrames, State.pushFrame, State.frames_setTop _ hr', State.setTop_of_frames _ hr', State.setFrames_setFrames, hr]
      rfl
    have hsame : U.sameButNew ({ U with heap := s₂.heap, slotsUsed := s₂.slotsUsed } : State) L mc ms := by
      refine ⟨?_, q2, q3, q4, q5, q6⟩
      obtain ⟨t, ht, -⟩ := State.frames_cons hr
      show ({ U with heap := s₂.heap, slotsUsed := s₂.slotsUsed } : State) = { U.setFrames U.frames with heap := s₂.heap, slotsUsed := s₂.slotsUsed }
      rw [State.setFrames_self ht]
    subst hg
    refine Or.inr ⟨q, ⟨(({ U with heap := s₂.heap, slotsUsed := s₂.slotsUsed } : State).setVm s₂.vm), Ls ++ L, c0 + mc, s0 + ms⟩,
      ⟨X.admits, X.cas, X.clock, X.frames, X.room, X.hears, X.method, X.code, (X.here.setHeapUsed s₂.heap s₂.slotsUsed).setVm hW'.alike, X.tail, State.WarmedH.trans X.warmed hW', X.limits, X.bytes, X.same.trans (hsame.setVm s.vm)⟩,
      ⟨g, mk, s₂, L, E, ce, rfl, rfl, hx, hce, hcv, hcl, rfl, hL, rfl, rfl⟩, ?_⟩
    show Steps p.tables e below _ (((({ U with heap := s₂.heap, slotsUsed := s₂.slotsUsed } : State).setVm s₂.vm).setTop g).pushFrame (.throwing q))
    rw [← hs₂]
    exact hsteps
end
variable {p : Program} {l : Launch} {e : Env} {R : Room} {s : State} {m : MethodId} {args : Array Value} {below : List Frame} {meth : Method} {c : Code} {T : State} {H : Heap} {locs : List Loc} {cells slots : Nat}
theorem vx_callVX (X : Stand p l e R s m args below meth c T locs cells slots) (hexec : p.tables.exec = Jvm.exec) {own C : String} {index : Nat} {y : MethodName} {bytes : ByteArray} {maxL : Nat} {ret : Option FieldType} {hh : List (Nat × Nat × Nat × Nat)}
    (hown : s.vm.findClass own = some m.cls) (hlink : (Cond.methodLink own index y).before args s = true) (hinst : (Cond.instanceMethod y).before args s = true) (hsel : (Cond.selects C y y).before args s = true)
    (hcode : (Cond.codeWith y bytes maxL ret hh).before args s = true) (hy : y.cls ≠ "java/lang/invoke/MethodHandle" ∧ y.cls ≠ "java/lang/invoke/VarHandle")
    {W9 : Nat} {Pre : Pt → Array Value → Prop} {Post : Pt → Array Value → Option Value → Pt → Prop} {PostX : Pt → Array Value → Addr → Pt → Prop} (hK : vx_Back l R p e below s args y 3 W9 Pre Post PostX)
    {b : Addr} {cellB : Cell} (hcell : T.heap[b]? = some cellB) (hobj : cellB.vm.isStatics = false) (hcls : s.vm.findClass C = some cellB.cls)
    {g : JFrame} (hg : g.method = m) (hsize : g.locals.size = c.maxLocals) {argsL rest : List Value} (hlen : ∀ sig, parseMethodDescriptor y.desc = some sig → argsL.length = sig.parameters.length)
    (hstack : g.stack = argsL.reverse ++ .ref b :: rest) (hW : 2 * g.monitorRoom + (rest.map fun v => v.category).sum ≤ W9) (hdg : decode c.code g.pc = .ok (.invokevirtual index, 3))
    (hpre : ∀ vm₁, s.WarmedH vm₁ → Pre ⟨T.setVm vm₁, locs, cells, slots⟩ (Value.ref b :: argsL).toArray) :
    (∃ (v : Option Value) (vm₁ : Vm) (B : Pt), s.WarmedH vm₁ ∧ Stand p l e R s m args below meth c B.U B.locs B.cells B.slots ∧ Post ⟨T.setVm vm₁, locs, cells, slots⟩ (Value.ref b :: argsL).toArray v B ∧
      ∀ target, Steps p.tables e below (B.U.setTop { g with pc := g.pc + 3, stack := v.toList ++ rest }) target → Steps p.tables e below (T.setTop g) target) ∨
    (∃ (q : Addr) (vm₁ : Vm) (B : Pt), s.WarmedH vm₁ ∧ Stand p l e R s m args below meth c B.U B.locs B.cells B.slots ∧ PostX ⟨T.setVm vm₁, locs, cells, slots⟩ (Value.ref b :: argsL).toArray q B ∧
      Steps p.tables e below (T.setTop g) ((B.U.setTop { g with stack := rest }).pushFrame (.throwing q))) := by
  obtain ⟨mk, methM, hnamed, hmethM, hstM, habM⟩ := Cond.instanceMethod_spec hinst
  obtain ⟨m8, methM', cM, hn8, hmethM', -, -, -, -, -, -, hsigM⟩ := Cond.codeWith_spec hcode
  cases Option.some.inj (hn8.symm.trans hnamed)
  cases hmethM.symm.trans hmethM'
  obtain ⟨c2, r2, m2, q1, q2, q3, q4, kP, hkP, hkPi⟩ := Cond.selects_spec hsel
  cases hcls.symm.trans q1
  cases (State.methodFound?_of_named hnamed hy).symm.trans q2
  cases hnamed.symm.trans q3
  have hselP : selectMethod e.platform s.vm cellB.cls mk = .method mk := by rw [Launch.admits_selectMethod X.admits]; exact q4
  obtain ⟨vm₁, X₁, hstep₁⟩ := X.invokevirtual hexec hown hlink hnamed hmethM hstM hkP hkPi hy (a := b) (cell := cellB) hcell
    (fun z h => by rw [h] at hobj; cases hobj) hselP hmethM habM hkP hkPi (g := g) hg (argsL := argsL) (rest := rest) (hlen _ hsigM) hstack hdg
  rcases hK m meth c ⟨T.setVm vm₁, locs, cells, slots⟩ { g with stack := rest } (.invokevirtual index) mk (Value.ref b :: argsL).toArray X₁ hg hsize hdg hW (X₁.named hnamed) (hpre vm₁ X₁.warmed) with ⟨v, B, X', hpost, hsteps⟩ | ⟨q, B, X', hpost, hsteps⟩
  · exact Or.inl ⟨v, vm₁, B, X₁.warmed, X', hpost, fun target h => hstep₁ _ fun acts => by rw [doInvoke_state]; exact hsteps.trans h⟩
  · exact Or.inr ⟨q, vm₁, B, X₁.warmed, X', hpost, hstep₁ _ fun acts => by rw [doInvoke_state]; exact hsteps⟩
theorem vx_callSX (X : Stand p l e R s m args below meth c T locs cells slots) (hexec : p.tables.exec = Jvm.exec) {own : String} {index : Nat} {y : MethodName} {bytes : ByteArray} {maxL : Nat} {ret : Option FieldType} {hh : List (Nat × Nat × Nat × Nat)}
    (hown : s.vm.findClass own = some m.cls) (hlink : (Cond.methodLink own index y).before args s = true) (hstat : (Cond.static y).before args s = true) (hinit : (Cond.initialized y.cls).before args s = true)
    (hcode : (Cond.codeWith y bytes maxL ret hh).before args s = true) (hy : y.cls ≠ "java/lang/invoke/MethodHandle" ∧ y.cls ≠ "java/lang/invoke/VarHandle")
    {W9 : Nat} {Pre : Pt → Array Value → Prop} {Post : Pt → Array Value → Option Value → Pt → Prop} {PostX : Pt → Array Value → Addr → Pt → Prop} (hK : vx_Back l R p e below s args y 3 W9 Pre Post PostX)
    {g : JFrame} (hg : g.method = m) (hsize : g.locals.size = c.maxLocals) {argsL rest : List Value} (hlen : ∀ sig, parseMethodDescriptor y.desc = some sig → argsL.length = sig.parameters.length)
    (hstack : g.stack = argsL.reverse ++ rest) (hW : 2 * g.monitorRoom + (rest.map fun v => v.category).sum ≤ W9) (hdg : decode c.code g.pc = .ok (.invokestatic index, 3))
    (hpre : ∀ vm₁, s.WarmedH vm₁ → Pre ⟨T.setVm vm₁, locs, cells, slots⟩ argsL.toArray) :
    (∃ (v : Option Value) (vm₁ : Vm) (B : Pt), s.WarmedH vm₁ ∧ Stand p l e R s m args below meth c B.U B.locs B.cells B.slots ∧ Post ⟨T.setVm vm₁, locs, cells, slots⟩ argsL.toArray v B ∧
      ∀ target, Steps p.tables e below (B.U.setTop { g with pc := g.pc + 3, stack := v.toList ++ rest }) target → Steps p.tables e below (T.setTop g) target) ∨
    (∃ (q : Addr) (vm₁ : Vm) (B : Pt), s.WarmedH vm₁ ∧ Stand p l e R s m args below meth c B.U B.locs B.cells B.slots ∧ PostX ⟨T.setVm vm₁, locs, cells, slots⟩ argsL.toArray q B ∧
      Steps p.tables e below (T.setTop g) ((B.U.setTop { g with stack := rest }).pushFrame (.throwing q))) := by
  obtain ⟨mk, methM, cM, hnamed, hmethM, -, -, -, -, -, -, hsigM⟩ := Cond.codeWith_spec hcode
  have hstatic : methM.isStatic = true := Cond.static_spec hnamed hmethM hstat
  obtain ⟨kP, hkP, -⟩ := className_of_methodNamed hnamed
  have hinitP : kP.init = .initialized := Cond.initialized_spec (findClass_of_methodNamed hnamed) hkP hinit
  obtain ⟨vm₁, X₁, hstep₁⟩ := X.invokestatic hexec hown hlink hnamed hmethM hstatic hkP hinitP hy (g := g) hg (argsL := argsL) (rest := rest) (hlen _ hsigM) hstack hdg
  rcases hK m meth c ⟨T.setVm vm₁, locs, cells, slots⟩ { g with stack := rest } (.invokestatic index) mk argsL.toArray X₁ hg hsize hdg hW (X₁.named hnamed) (hpre vm₁ X₁.warmed) with ⟨v, B, X', hpost, hsteps⟩ | ⟨q, B, X', hpost, hsteps⟩
  · exact Or.inl ⟨v, vm₁, B, X₁.warmed, X', hpost, fun target h => hstep₁ _ fun acts => by rw [doInvoke_state]; exact hsteps.trans h⟩
  · exact Or.inr ⟨q, vm₁, B, X₁.warmed, X', hpost, hstep₁ _ fun acts => by rw [doInvoke_state]; exact hsteps⟩
theorem vx_callVW (X : Stand p l e R s m args below meth c T locs cells slots) (hexec : p.tables.exec = Jvm.exec) {own C : String} {index : Nat} {y : MethodName} {bytes : ByteArray} {maxL : Nat} {ret : Option FieldType} {hh : List (Nat × Nat × Nat × Nat)}
    (hown : s.vm.findClass own = some m.cls) (hlink : (Cond.methodLink own index y).before args s = true) (hinst : (Cond.instanceMethod y).before args s = true) (hsel : (Cond.selects C y y).before args s = true)
    (hcode : (Cond.codeWith y bytes maxL ret hh).before args s = true) (hy : y.cls ≠ "java/lang/invoke/MethodHandle" ∧ y.cls ≠ "java/lang/invoke/VarHandle")
    {W9 : Nat} {Pre : Pt → Array Value → Prop} {Post : Pt → Array Value → Option Value → Pt → Prop} (hK : Back l R p e below s args y 3 W9 Pre Post)
    {b : Addr} {cellB : Cell} (hcell : T.heap[b]? = some cellB) (hobj : cellB.vm.isStatics = false) (hcls : s.vm.findClass C = some cellB.cls)
    {g : JFrame} (hg : g.method = m) (hsize : g.locals.size = c.maxLocals) {argsL rest : List Value} (hlen : ∀ sig, parseMethodDescriptor y.desc = some sig → argsL.length = sig.parameters.length)
    (hstack : g.stack = argsL.reverse ++ .ref b :: rest) (hW : 2 * g.monitorRoom + (rest.map fun v => v.category).sum ≤ W9) (hdg : decode c.code g.pc = .ok (.invokevirtual index, 3))
    (hpre : ∀ vm₁, s.WarmedH vm₁ → Pre ⟨T.setVm vm₁, locs, cells, slots⟩ (Value.ref b :: argsL).toArray) :
    ∃ (v : Option Value) (vm₁ : Vm) (B : Pt), s.WarmedH vm₁ ∧ Stand p l e R s m args below meth c B.U B.locs B.cells B.slots ∧ Post ⟨T.setVm vm₁, locs, cells, slots⟩ (Value.ref b :: argsL).toArray v B ∧
      ∀ target, Steps p.tables e below (B.U.setTop { g with pc := g.pc + 3, stack := v.toList ++ rest }) target → Steps p.tables e below (T.setTop g) target := by
  obtain ⟨mk, methM, hnamed, hmethM, hstM, habM⟩ := Cond.instanceMethod_spec hinst
  obtain ⟨m8, methM', cM, hn8, hmethM', -, -, -, -, -, -, hsigM⟩ := Cond.codeWith_spec hcode
  cases Option.some.inj (hn8.symm.trans hnamed)
  cases hmethM.symm.trans hmethM'
  obtain ⟨c2, r2, m2, q1, q2, q3, q4, kP, hkP, hkPi⟩ := Cond.selects_spec hsel
  cases hcls.symm.trans q1
  cases (State.methodFound?_of_named hnamed hy).symm.trans q2
  cases hnamed.symm.trans q3
  have hselP : selectMethod e.platform s.vm cellB.cls mk = .method mk := by rw [Launch.admits_selectMethod X.admits]; exact q4
  obtain ⟨vm₁, X₁, hstep₁⟩ := X.invokevirtual hexec hown hlink hnamed hmethM hstM hkP hkPi hy (a := b) (cell := cellB) hcell
    (fun z h => by rw [h] at hobj; cases hobj) hselP hmethM habM hkP hkPi (g := g) hg (argsL := argsL) (rest := rest) (hlen _ hsigM) hstack hdg
  obtain ⟨v, B, X', hpost, hsteps⟩ := hK m meth c ⟨T.setVm vm₁, locs, cells, slots⟩ { g with stack := rest } (.invokevirtual index) mk (Value.ref b :: argsL).toArray X₁ hg hsize hdg hW (X₁.named hnamed) (hpre vm₁ X₁.warmed)
  exact ⟨v, vm₁, B, X₁.warmed, X', hpost, fun target h => hstep₁ _ fun acts => by rw [doInvoke_state]; exact hsteps.trans h⟩
abbrev vx_CVW (R : Room) (s : State) (args : Array Value) (own C : String) (index : Nat) (y : MethodName) (bytes : ByteArray) (maxL : Nat) (ret : Option FieldType) (hh : List (Nat × Nat × Nat × Nat)) (ws : List Cond) (rm : Room) (mc ms n : Nat) : Prop :=
  (rm.cells = mc ∧ rm.slots = ms ∧ rm.frames + 1 ≤ R.frames ∧ 8 + (maxL + 11) + rm.locals ≤ R.locals ∧ (∀ w ∈ ws, ∀ (a' : Array Value) (U : State), s.WarmedH U.vm → w.before a' U = true) ∧ Cond.codeWith y bytes maxL ret hh ∈ ws) ∧
  (Cond.codeWith y bytes maxL ret hh).before args s = true ∧ (Cond.initialized y.cls).before args s = true ∧ (y.cls ≠ "java/lang/invoke/MethodHandle" ∧ y.cls ≠ "java/lang/invoke/VarHandle") ∧
  (∀ sig, parseMethodDescriptor y.desc = some sig → n = sig.parameters.length) ∧ (Cond.methodLink own index y).before args s = true ∧ (Cond.instanceMethod y).before args s = true ∧ (Cond.selects C y y).before args s = true
theorem vx_cwVW {own C : String} {index maxL mc ms : Nat} {y : MethodName} {bytes : ByteArray} {ret : Option FieldType} {hh : List (Nat × Nat × Nat × Nat)} {Ts ws ws' : List Cond} {rm : Room} (n : Nat) (ht : ∀ w ∈ Ts, w.before args s = true) (hT : GoodIn Ts (wsV own index C y ws)) (hw : ws = Cond.codeWith y bytes maxL ret hh :: ws') (hrc : rm.cells = mc) (hrs : rm.slots = ms)
    (hd : y.cls = C ∧ y.cls ≠ "java/lang/invoke/MethodHandle" ∧ y.cls ≠ "java/lang/invoke/VarHandle" ∧ (parseMethodDescriptor y.desc).map (fun d => d.parameters.length) = some n) (hR : rm.frames + 1 ≤ R.frames ∧ 8 + (maxL + 11) + rm.locals ≤ R.locals) :
    vx_CVW R s args own C index y bytes maxL ret hh ws rm mc ms n := by
  obtain ⟨hC, hd⟩ := hd
  subst hC
  have ok : ∀ w ∈ wsV own index y.cls y ws, w.before args s = true := fun w h => ht w (hT w h).1
  have hG : GoodIn Ts ws := fun w h => hT w (by unfold wsV; exact List.mem_append_right _ h)
  have hc : Cond.codeWith y bytes maxL ret hh ∈ ws := by rw [hw]; exact List.mem_cons_self
  refine ⟨⟨hrc, hrs, hR.1, hR.2, pay_in ht hG, hc⟩, ht _ (hG _ hc).1, ok _ (by simp [wsV]), ⟨hd.1, hd.2.1⟩, fun sig h => ?_, ok _ (by simp [wsV]), ok _ (by simp [wsV]), ok _ (by simp [wsV])⟩
  have h2 := hd.2.2
  rw [h] at h2
  exact (Option.some.inj h2).symm
theorem vx_runVW {y : MethodName} {bytes cc : ByteArray} {maxL nL mc ms n index : Nat} {ret : Option FieldType} {hh : List (Nat × Nat × Nat × Nat)} {ws : List Cond} {rm : Room} {Pc : Array Value → State → Prop} {Qc : Array Value → State → Outcome → State → Prop} {free : Addr → Prop} {Ts : List Cond} {own C : String} {b : Addr} {As rest : List Value} {g : JFrame}
    (S : CallFix p m c cc nL s args Ts own) (hM : Met l y ws rm Pc Qc mc ms free) (cw : vx_CVW R s args own C index y bytes maxL ret hh ws rm mc ms n) (hp : PreV s H C b Pc As)
    (hg : g.method = m) (hn : As.length = n) (hsize : g.locals.size = nL) (hstack : g.stack = As.reverse ++ .ref b :: rest) (hW : 2 * g.monitorRoom + (rest.map fun v => v.category).sum ≤ 8) (hdg : decode cc g.pc = .ok (.invokevirtual index, 3)) (hf : cells + mc ≤ R.cells ∧ slots + ms ≤ R.slots) :
    va_Run p l e R s m args below meth c H locs cells slots mc ms g rest (Qc (Value.ref b :: As).toArray) free := by
  obtain ⟨⟨hrc, hrs, hfr, hlo, hws, hcw⟩, hcode, hini, hy, hlen, hl, hin, hse⟩ := cw
  have hK : Back l R p e below s args y 3 8 (PreOf R mc ms Pc) (PostOf Qc mc ms free) := va_backW (hh := hh) (bytes := bytes) (maxL := maxL) (ret := ret) hM hp.1 hrc hrs hfr hlo hws hcw (fun a' U hW => word_at hW (Or.inl (by first | rfl | simp [Cond.onTables, Cond.keeps, Cond.steady])) hini)
  obtain ⟨hx, hb, hml, ho, -⟩ := S
  obtain ⟨-, ⟨cellB, hcB, hoB, hclB⟩, hPc⟩ := hp
  intro T hT X
  obtain ⟨v, vm₁, ⟨U', l2, c2, s2⟩, hW₁, X', ⟨g', mk, t, L, e1, e2, hq, h1, hL, h2, h3⟩, st⟩ := vx_callVW X hx (C := C) (hh := hh) (bytes := bytes) (maxL := maxL) (ret := ret) ho hl hin hse hcode hy hK (by rw [hT]; exact hcB) hoB hclB hg (hsize.trans hml.symm) (argsL := As) (rest := rest) (fun sig h => hn.trans (hlen sig h)) hstack hW (by rw [hb]; exact hdg)
    (fun vm₁ hW₁ => ⟨hf.1, hf.2, hPc (T.setVm vm₁) hT hW₁⟩)
  dsimp only [Pt.U, Pt.locs, Pt.cells, Pt.slots] at X' e1 e2 h1 h2 h3 st
  subst h1; subst h2; subst h3
  exact ⟨v, (T.setVm vm₁).calling g' mk (Value.ref b :: As).toArray, t, U', L, hT, X', hL, e1, e2, hq, st⟩
section
variable {y : MethodName} {bytes cc : ByteArray} {maxL nL mc ms n index : Nat} {ret : Option FieldType} {ws : List Cond} {rm : Room} {Pc : Array Value → State → Prop} {Qc : Array Value → State → Outcome → State → Prop} {XC : String → State → State → Prop} {free : Addr → Prop} {Ts : List Cond} {own C : String} {b : Addr} {As rest : List Value} {g : JFrame}
theorem vx_runVX {hh : List (Nat × Nat × Nat × Nat)} (S : CallFix p m c cc nL s args Ts own) (hM : vx_Met l y ws rm Pc Qc XC mc ms free) (cw : vx_CVW R s args own C index y bytes maxL ret hh ws rm mc ms n) (hp : PreV s H C b Pc As)
    (hg : g.method = m) (hn : As.length = n) (hsize : g.locals.size = nL) (hstack : g.stack = As.reverse ++ .ref b :: rest) (hW : 2 * g.monitorRoom + (rest.map fun v => v.category).sum ≤ 8) (hdg : decode cc g.pc = .ok (.invokevirtual index, 3)) (hf : cells + mc ≤ R.cells ∧ slots + ms ≤ R.slots) :
    vx_Run p l e R s m args below meth c H locs cells slots mc ms g rest (Qc (Value.ref b :: As).toArray) XC free := by
  obtain ⟨⟨hrc, hrs, hfr, hlo, hws, hcw⟩, hcode, hini, hy, hlen, hl, hin, hse⟩ := cw
  have hK : vx_Back l R p e below s args y 3 8 (PreOf R mc ms Pc) (PostOf Qc mc ms free) (vx_Post XC mc ms free) := vx_backW (hh := hh) (bytes := bytes) (maxL := maxL) (ret := ret) hM hp.1 hrc hrs hfr hlo hws hcw (fun a' U hW => word_at hW (Or.inl (by first | rfl | simp [Cond.onTables, Cond.keeps, Cond.steady])) hini)
  obtain ⟨hx, hb, hml, ho, -⟩ := S
  obtain ⟨-, ⟨cellB, hcB, hoB, hclB⟩, hPc⟩ := hp
  intro T hT X
  rcases vx_callVX X hx (C := C) (hh := hh) (bytes := bytes) (maxL := maxL) (ret := ret) ho hl hin hse hcode hy hK (by rw [hT]; exact hcB) hoB hclB hg (hsize.trans hml.symm) (argsL := As) (rest := rest) (fun sig h => hn.trans (hlen sig h)) hstack hW (by rw [hb]; exact hdg)
    (fun vm₁ hW₁ => ⟨hf.1, hf.2, hPc (T.setVm vm₁) hT hW₁⟩) with ⟨v, vm₁, ⟨U', l2, c2, s2⟩, hW₁, X', ⟨g', mk, t, L, e1, e2, hq, h1, hL, h2, h3⟩, st⟩ | ⟨q, vm₁, ⟨U', l2, c2, s2⟩, hW₁, X', ⟨g', mk, t, L, E, ce, e1, e2, hq, hce, hcv, hcl, h1, hL, h2, h3⟩, st⟩
  · dsimp only [Pt.U, Pt.locs, Pt.cells, Pt.slots] at X' e1 e2 h1 h2 h3 st
    subst h1; subst h2; subst h3
    exact Or.inl ⟨v, (T.setVm vm₁).calling g' mk (Value.ref b :: As).toArray, t, U', L, hT, X', hL, e1, e2, hq, st⟩
  · dsimp only [Pt.U, Pt.locs, Pt.cells, Pt.slots] at X' e1 e2 h1 h2 h3 st hcl
    subst h1; subst h2; subst h3
    exact Or.inr ⟨q, (T.setVm vm₁).calling g' mk (Value.ref b :: As).toArray, t, U', L, E, ce, hT, X', hL, e1, e2, hq, hce, hcv, vx_cls hW₁ hcl, st⟩
theorem vx_runSX {hh : List (Nat × Nat × Nat × Nat)} (S : CallFix p m c cc nL s args Ts own) (hM : vx_Met l y ws rm Pc Qc XC mc ms free) (cw : vx_CSW R s args own index y bytes maxL ret hh ws rm mc ms n) (hp : PreS s H Pc As)
    (hg : g.method = m) (hn : As.length = n) (hsize : g.locals.size = nL) (hstack : g.stack = As.reverse ++ rest) (hW : 2 * g.monitorRoom + (rest.map fun v => v.category).sum ≤ 8) (hdg : decode cc g.pc = .ok (.invokestatic index, 3)) (hf : cells + mc ≤ R.cells ∧ slots + ms ≤ R.slots) :
    vx_Run p l e R s m args below meth c H locs cells slots mc ms g rest (Qc As.toArray) XC free := by
  obtain ⟨⟨hrc, hrs, hfr, hlo, hws, hcw⟩, hcode, hini, hy, hlen, hl, hstt⟩ := cw
  have hK : vx_Back l R p e below s args y 3 8 (PreOf R mc ms Pc) (PostOf Qc mc ms free) (vx_Post XC mc ms free) := vx_backW (hh := hh) (bytes := bytes) (maxL := maxL) (ret := ret) hM hp.1 hrc hrs hfr hlo hws hcw (fun a' U hW => word_at hW (Or.inl (by first | rfl | simp [Cond.onTables, Cond.keeps, Cond.steady])) hini)
  obtain ⟨hx, hb, hml, ho, -⟩ := S
  intro T hT X
  rcases vx_callSX X hx (hh := hh) (bytes := bytes) (maxL := maxL) (ret := ret) ho hl hstt hini hcode hy hK hg (hsize.trans hml.symm) (argsL := As) (rest := rest) (fun sig h => hn.trans (hlen sig h)) hstack hW (by rw [hb]; exact hdg)
    (fun vm₁ hW₁ => ⟨hf.1, hf.2, hp.2 (T.setVm vm₁) hT hW₁⟩) with ⟨v, vm₁, ⟨U', l2, c2, s2⟩, hW₁, X', ⟨g', mk, t, L, e1, e2, hq, h1, hL, h2, h3⟩, st⟩ | ⟨q, vm₁, ⟨U', l2, c2, s2⟩, hW₁, X', ⟨g', mk, t, L, E, ce, e1, e2, hq, hce, hcv, hcl, h1, hL, h2, h3⟩, st⟩
  · dsimp only [Pt.U, Pt.locs, Pt.cells, Pt.slots] at X' e1 e2 h1 h2 h3 st
    subst h1; subst h2; subst h3
    exact Or.inl ⟨v, (T.setVm vm₁).calling g' mk As.toArray, t, U', L, hT, X', hL, e1, e2, hq, st⟩
  · dsimp only [Pt.U, Pt.locs, Pt.cells, Pt.slots] at X' e1 e2 h1 h2 h3 st hcl
    subst h1; subst h2; subst h3
    exact Or.inr ⟨q, (T.setVm vm₁).calling g' mk As.toArray, t, U', L, E, ce, hT, X', hL, e1, e2, hq, hce, hcv, vx_cls hW₁ hcl, st⟩
end
end VXH
theorem vx_ofWH {l : Launch} {y : MethodName} {ws ws' : List Cond} {rm : Room} {Pc : Array Value → State → Prop} {Qc : Array Value → State → Outcome → State → Prop} {XC : String → State → State → Prop} {mc ms : Nat} {free : Addr → Prop} {cc : ByteArray} {maxL : Nat} {ret : Option FieldType} {hh : List (Nat × Nat × Nat × Nat)}
    (hy : plainName y.cls = true) (hw : ws = Cond.codeWith y cc maxL ret hh :: ws')
    (body : ∀ p e s m args below meth c s₁, BodyLoose p l y (headSpec ws rm) cc maxL ret e s m args below meth c s₁ → c.maxLocals = maxL → Pc args s →
      W p l e (headSpec ws rm).room s m args below meth c s.heap [] 0 0 (vx_MQ below Qc XC args s mc ms free) (entryFrame m args maxL)) : vx_Met l y ws rm Pc Qc XC mc ms free := by
  refine MetFree.of_bodyS (code := cc) (maxLocals := maxL) (ret := ret) hy ?_ ?_
  · intro args s m h hn
    obtain ⟨m9, meth, c, hn9, h1, h2, h3, h4, -, h5, h6, -⟩ := Cond.codeWith_spec (atoms_spec (ws := ws) h _ (by rw [hw]; exact List.mem_cons_self))
    cases hn.symm.trans hn9
    exact ⟨meth, c, h1, h2, h3, h4, h5, h6⟩
  · intro p e s m args below meth c s₁ B hml hP _
    have hh0 : s₁.heap = s.heap := by rw [B.state]; rfl
    obtain ⟨t, a1, o, b1, b2, b3⟩ := body p e s m args below meth c s₁ B hml hP s₁ hh0 (Stand.of_body B)
    exact ⟨t, o, a1, b1, b2, b3⟩
/-! ===== END ===== -/
end
section
/-! ===== BEGIN printed: names, fields, word lists, decode rows ===== -/
def RX0 : String := "CandleDip$Frame"
def TX0 : u_T := fun k => match k with
  | 0 => ("CandleDip$Frame", "kind", "I", false)
  | 1 => ("CandleDip$Frame", "wicks", "I", false)
  | 2 => ("CandleDip$Frame", "thickness", "I", false)
  | 3 => ("CandleDip$Frame", "warmth", "I", false)
  | 4 => ("CandleDip$Frame", "cracked", "Z", false)
  | 5 => ("CandleDip$Frame", "place", "I", false)
  | _ => ("CandleDip$Frame", "dips", "I", false)
def tyX0 : Nat → FieldType := fun k => match k with
  | 0 => .int
  | 1 => .int
  | 2 => .int
  | 3 => .int
  | 4 => .boolean
  | 5 => .int
  | _ => .int
abbrev wsX00 : List Cond := u_ws RX0 TX0 7
theorem nmX0 : ∀ a, a < 7 → ∀ b, b < 7 → a ≠ b → (TX0 a).2.1 ≠ (TX0 b).2.1 := by decide +kernel
theorem tyX0_ok : ∀ k, k < 7 → parseFieldDescriptor (TX0 k).2.2.1 = some (tyX0 k) := by decide +kernel
abbrev cX0_init : ByteArray := prog_2_method_1_code
def yX0_init : MethodName := ⟨RX0, "<init>", "(II)V"⟩
abbrev cX0_hangs : ByteArray := prog_2_method_2_code
def yX0_hangs : MethodName := ⟨RX0, "hangs", "()Z"⟩
abbrev cX0_isBare : ByteArray := prog_2_method_3_code
def yX0_isBare : MethodName := ⟨RX0, "isBare", "()Z"⟩
abbrev cX0_isTooWarmToCut : ByteArray := prog_2_method_4_code
def yX0_isTooWarmToCut : MethodName := ⟨RX0, "isTooWarmToCut", "()Z"⟩
abbrev cX0_meltsWhenDipped : ByteArray := prog_2_method_5_code
def yX0_meltsWhenDipped : MethodName := ⟨RX0, "meltsWhenDipped", "()Z"⟩
abbrev cX0_waxOf : ByteArray := prog_2_method_6_code
def yX0_waxOf : MethodName := ⟨RX0, "waxOf", "(I)I"⟩
abbrev cX0_canBeDipped : ByteArray := prog_2_method_7_code
def yX0_canBeDipped : MethodName := ⟨RX0, "canBeDipped", "(LCandleDip$Vat;)Z"⟩
abbrev cX0_gain : ByteArray := prog_2_method_8_code
def yX0_gain : MethodName := ⟨RX0, "gain", "(I)I"⟩
abbrev cX0_immerse : ByteArray := prog_2_method_9_code
def yX0_immerse : MethodName := ⟨RX0, "immerse", "(LCandleDip$Vat;)V"⟩
abbrev cX0_meltOff : ByteArray := prog_2_method_10_code
def yX0_meltOff : MethodName := ⟨RX0, "meltOff", "(I)V"⟩
abbrev cX0_takeUp : ByteArray := prog_2_method_11_code
def yX0_takeUp : MethodName := ⟨RX0, "takeUp", "(LCandleDip$Vat;)V"⟩
abbrev cX0_cool : ByteArray := prog_2_method_12_code
def yX0_cool : MethodName := ⟨RX0, "cool", "()V"⟩
abbrev cX0_coolingOfPlace : ByteArray := prog_2_method_13_code
def yX0_coolingOfPlace : MethodName := ⟨RX0, "coolingOfPlace", "()I"⟩
abbrev cX0_size : ByteArray := prog_2_method_14_code
def yX0_size : MethodName := ⟨RX0, "size", "()I"⟩
abbrev cX0_renewWicks : ByteArray := prog_2_method_15_code
def yX0_renewWicks : MethodName := ⟨RX0, "renewWicks", "()V"⟩
abbrev cX0_copyFrom : ByteArray := prog_2_method_16_code
def yX0_copyFrom : MethodName := ⟨RX0, "copyFrom", "(LCandleDip$Frame;)V"⟩
def RX1 : String := "CandleDip$Order"
def TX1 : u_T := fun k => match k with
  | 0 => ("CandleDip$Order", "kind", "I", true)
  | 1 => ("CandleDip$Order", "leastSize", "I", true)
  | 2 => ("CandleDip$Order", "many", "I", true)
  | 3 => ("CandleDip$Order", "day", "I", true)
  | _ => ("CandleDip$Order", "state", "I", false)
def tyX1 : Nat → FieldType := fun k => match k with
  | 0 => .int
  | 1 => .int
  | 2 => .int
  | 3 => .int
  | _ => .int
abbrev wsX10 : List Cond := u_ws RX1 TX1 5
theorem nmX1 : ∀ a, a < 5 → ∀ b, b < 5 → a ≠ b → (TX1 a).2.1 ≠ (TX1 b).2.1 := by decide +kernel
theorem tyX1_ok : ∀ k, k < 5 → parseFieldDescriptor (TX1 k).2.2.1 = some (tyX1 k) := by decide +kernel
abbrev cX1_init : ByteArray := prog_3_method_1_code
def yX1_init : MethodName := ⟨RX1, "<init>", "(IIII)V"⟩
abbrev cX1_isOpenFor : ByteArray := prog_3_method_2_code
def yX1_isOpenFor : MethodName := ⟨RX1, "isOpenFor", "(II)Z"⟩
abbrev cX1_canBeFilled : ByteArray := prog_3_method_3_code
def yX1_canBeFilled : MethodName := ⟨RX1, "canBeFilled", "(LCandleDip$Store;)Z"⟩
def RX2 : String := "CandleDip$Store"
def TX2 : u_T := fun k => match k with
  | _ => ("CandleDip$Store", "shelves", "[I", true)
def tyX2 : Nat → FieldType := fun k => match k with
  | _ => .array .int
abbrev wsX20 : List Cond := u_ws RX2 TX2 1
theorem nmX2 : ∀ a, a < 1 → ∀ b, b < 1 → a ≠ b → (TX2 a).2.1 ≠ (TX2 b).2.1 := by decide +kernel
theorem tyX2_ok : ∀ k, k < 1 → parseFieldDescriptor (TX2 k).2.2.1 = some (tyX2 k) := by decide +kernel
abbrev cX2_init : ByteArray := prog_4_method_1_code
def yX2_init : MethodName := ⟨RX2, "<init>", "()V"⟩
abbrev cX2_hasShelf : ByteArray := prog_4_method_2_code
def yX2_hasShelf : MethodName := ⟨RX2, "hasShelf", "(II)Z"⟩
abbrev cX2_amount : ByteArray := prog_4_method_3_code
def yX2_amount : MethodName := ⟨RX2, "amount", "(II)I"⟩
abbrev cX2_amountFrom : ByteArray := prog_4_method_4_code
def yX2_amountFrom : MethodName := ⟨RX2, "amountFrom", "(II)I"⟩
abbrev cX2_total : ByteArray := prog_4_method_5_code
def yX2_total : MethodName := ⟨RX2, "total", "()I"⟩
abbrev cX2_put : ByteArray := prog_4_method_6_code
def yX2_put : MethodName := ⟨RX2, "put", "(III)V"⟩
abbrev cX2_take : ByteArray := prog_4_method_7_code
def yX2_take : MethodName := ⟨RX2, "take", "(III)V"⟩
def RX3 : String := "CandleDip$Trial"
def TX3 : u_T := fun k => match k with
  | 0 => ("CandleDip$Trial", "frame", "LCandleDip$Frame;", true)
  | _ => ("CandleDip$Trial", "vat", "LCandleDip$Vat;", true)
def tyX3 : Nat → FieldType := fun k => match k with
  | 0 => .object "CandleDip$Frame"
  | _ => .object "CandleDip$Vat"
abbrev wsX30 : List Cond := u_ws RX3 TX3 2
theorem nmX3 : ∀ a, a < 2 → ∀ b, b < 2 → a ≠ b → (TX3 a).2.1 ≠ (TX3 b).2.1 := by decide +kernel
theorem tyX3_ok : ∀ k, k < 2 → parseFieldDescriptor (TX3 k).2.2.1 = some (tyX3 k) := by decide +kernel
abbrev cX3_init : ByteArray := prog_5_method_1_code
def yX3_init : MethodName := ⟨RX3, "<init>", "()V"⟩
abbrev cX3_thicknessAfter : ByteArray := prog_5_method_2_code
def yX3_thicknessAfter : MethodName := ⟨RX3, "thicknessAfter", "(LCandleDip$Frame;LCandleDip$Vat;I)I"⟩
abbrev cX3_dipsNeeded : ByteArray := prog_5_method_3_code
def yX3_dipsNeeded : MethodName := ⟨RX3, "dipsNeeded", "(LCandleDip$Frame;LCandleDip$Vat;II)I"⟩
abbrev cX3_quickestRest : ByteArray := prog_5_method_4_code
def yX3_quickestRest : MethodName := ⟨RX3, "quickestRest", "(LCandleDip$Frame;LCandleDip$Vat;I)I"⟩
abbrev cX3_begin : ByteArray := prog_5_method_5_code
def yX3_begin : MethodName := ⟨RX3, "begin", "(LCandleDip$Frame;LCandleDip$Vat;)V"⟩
abbrev cX3_tryDip : ByteArray := prog_5_method_6_code
def yX3_tryDip : MethodName := ⟨RX3, "tryDip", "()Z"⟩
abbrev cX3_letRest : ByteArray := prog_5_method_7_code
def yX3_letRest : MethodName := ⟨RX3, "letRest", "(I)V"⟩
def RX4 : String := "CandleDip$Vat"
def TX4 : u_T := fun k => match k with
  | 0 => ("CandleDip$Vat", "wax", "I", false)
  | 1 => ("CandleDip$Vat", "heat", "I", false)
  | _ => ("CandleDip$Vat", "level", "I", false)
def tyX4 : Nat → FieldType := fun k => match k with
  | 0 => .int
  | 1 => .int
  | _ => .int
abbrev wsX40 : List Cond := u_ws RX4 TX4 3
theorem nmX4 : ∀ a, a < 3 → ∀ b, b < 3 → a ≠ b → (TX4 a).2.1 ≠ (TX4 b).2.1 := by decide +kernel
theorem tyX4_ok : ∀ k, k < 3 → parseFieldDescriptor (TX4 k).2.2.1 = some (tyX4 k) := by decide +kernel
abbrev cX4_init : ByteArray := prog_6_method_1_code
def yX4_init : MethodName := ⟨RX4, "<init>", "()V"⟩
abbrev cX4_isMelted : ByteArray := prog_6_method_2_code
def yX4_isMelted : MethodName := ⟨RX4, "isMelted", "()Z"⟩
abbrev cX4_throwIn : ByteArray := prog_6_method_3_code
def yX4_throwIn : MethodName := ⟨RX4, "throwIn", "(I)V"⟩
abbrev cX4_takeBack : ByteArray := prog_6_method_4_code
def yX4_takeBack : MethodName := ⟨RX4, "takeBack", "(I)V"⟩
abbrev cX4_burn : ByteArray := prog_6_method_5_code
def yX4_burn : MethodName := ⟨RX4, "burn", "()V"⟩
abbrev cX4_copyFrom : ByteArray := prog_6_method_6_code
def yX4_copyFrom : MethodName := ⟨RX4, "copyFrom", "(LCandleDip$Vat;)V"⟩
def RX5 : String := "CandleDip"
def TX5 : u_T := fun k => match k with
  | 0 => ("CandleDip", "vat", "LCandleDip$Vat;", true)
  | 1 => ("CandleDip", "frames", "[LCandleDip$Frame;", true)
  | 2 => ("CandleDip", "store", "LCandleDip$Store;", true)
  | 3 => ("CandleDip", "orders", "[LCandleDip$Order;", true)
  | 4 => ("CandleDip", "trial", "LCandleDip$Trial;", true)
  | 5 => ("CandleDip", "fewestCandles", "[I", true)
  | 6 => ("CandleDip", "quarter", "I", false)
  | 7 => ("CandleDip", "dipsInAll", "I", false)
  | _ => ("CandleDip", "thrownAway", "I", false)
def tyX5 : Nat → FieldType := fun k => match k with
  | 0 => .object "CandleDip$Vat"
  | 1 => .array (.object "CandleDip$Frame")
  | 2 => .object "CandleDip$Store"
  | 3 => .array (.object "CandleDip$Order")
  | 4 => .object "CandleDip$Trial"
  | 5 => .array .int
  | 6 => .int
  | 7 => .int
  | _ => .int
abbrev wsX50 : List Cond := u_ws RX5 TX5 9
theorem nmX5 : ∀ a, a < 9 → ∀ b, b < 9 → a ≠ b → (TX5 a).2.1 ≠ (TX5 b).2.1 := by decide +kernel
theorem tyX5_ok : ∀ k, k < 9 → parseFieldDescriptor (TX5 k).2.2.1 = some (tyX5 k) := by decide +kernel
abbrev cX5_init : ByteArray := prog_1_method_1_code
def yX5_init : MethodName := ⟨RX5, "<init>", "()V"⟩
abbrev cX5_melt : ByteArray := prog_1_method_2_code
def yX5_melt : MethodName := ⟨RX5, "melt", "(I)I"⟩
abbrev cX5_setFire : ByteArray := prog_1_method_3_code
def yX5_setFire : MethodName := ⟨RX5, "setFire", "(I)I"⟩
abbrev cX5_vat : ByteArray := prog_1_method_4_code
def yX5_vat : MethodName := ⟨RX5, "vat", "(I)I"⟩
abbrev cX5_addFrame : ByteArray := prog_1_method_5_code
def yX5_addFrame : MethodName := ⟨RX5, "addFrame", "(II)I"⟩
abbrev cX5_hang : ByteArray := prog_1_method_6_code
def yX5_hang : MethodName := ⟨RX5, "hang", "(II)I"⟩
abbrev cX5_layAside : ByteArray := prog_1_method_7_code
def yX5_layAside : MethodName := ⟨RX5, "layAside", "(I)I"⟩
abbrev cX5_dip : ByteArray := prog_1_method_8_code
def yX5_dip : MethodName := ⟨RX5, "dip", "(I)I"⟩
abbrev cX5_cutOff : ByteArray := prog_1_method_9_code
def yX5_cutOff : MethodName := ⟨RX5, "cutOff", "(I)I"⟩
abbrev cX5_frame : ByteArray := prog_1_method_10_code
def yX5_frame : MethodName := ⟨RX5, "frame", "(II)I"⟩
abbrev cX5_hook : ByteArray := prog_1_method_11_code
def yX5_hook : MethodName := ⟨RX5, "hook", "(I)I"⟩
abbrev cX5_store : ByteArray := prog_1_method_12_code
def yX5_store : MethodName := ⟨RX5, "store", "(II)I"⟩
abbrev cX5_addOrder : ByteArray := prog_1_method_13_code
def yX5_addOrder : MethodName := ⟨RX5, "addOrder", "(IIII)I"⟩
abbrev cX5_fill : ByteArray := prog_1_method_14_code
def yX5_fill : MethodName := ⟨RX5, "fill", "(I)I"⟩
abbrev cX5_order : ByteArray := prog_1_method_15_code
def yX5_order : MethodName := ⟨RX5, "order", "(II)I"⟩
abbrev cX5_pass : ByteArray := prog_1_method_16_code
def yX5_pass : MethodName := ⟨RX5, "pass", "(I)I"⟩
abbrev cX5_count : ByteArray := prog_1_method_17_code
def yX5_count : MethodName := ⟨RX5, "count", "(I)I"⟩
abbrev cX5_would : ByteArray := prog_1_method_18_code
def yX5_would : MethodName := ⟨RX5, "would", "(II)I"⟩
abbrev cX5_dipsTo : ByteArray := prog_1_method_19_code
def yX5_dipsTo : MethodName := ⟨RX5, "dipsTo", "(III)I"⟩
abbrev cX5_bestRest : ByteArray := prog_1_method_20_code
def yX5_bestRest : MethodName := ⟨RX5, "bestRest", "(II)I"⟩
abbrev cX5_advise : ByteArray := prog_1_method_21_code
def yX5_advise : MethodName := ⟨RX5, "advise", "()I"⟩
abbrev cX5_possible : ByteArray := prog_1_method_22_code
def yX5_possible : MethodName := ⟨RX5, "possible", "()I"⟩
abbrev cX5_mean : ByteArray := prog_1_method_23_code
def yX5_mean : MethodName := ⟨RX5, "mean", "()D"⟩
abbrev cX5_digest : ByteArray := prog_1_method_24_code
def yX5_digest : MethodName := ⟨RX5, "digest", "()J"⟩
abbrev cX5_within : ByteArray := prog_1_method_25_code
def yX5_within : MethodName := ⟨RX5, "within", "(III)Z"⟩
abbrev cX5_frameAt : ByteArray := prog_1_method_26_code
def yX5_frameAt : MethodName := ⟨RX5, "frameAt", "(I)LCandleDip$Frame;"⟩
abbrev cX5_orderAt : ByteArray := prog_1_method_27_code
def yX5_orderAt : MethodName := ⟨RX5, "orderAt", "(I)LCandleDip$Order;"⟩
abbrev cX5_frameOn : ByteArray := prog_1_method_28_code
def yX5_frameOn : MethodName := ⟨RX5, "frameOn", "(I)I"⟩
abbrev cX5_framesMade : ByteArray := prog_1_method_29_code
def yX5_framesMade : MethodName := ⟨RX5, "framesMade", "()I"⟩
abbrev cX5_framesHanging : ByteArray := prog_1_method_30_code
def yX5_framesHanging : MethodName := ⟨RX5, "framesHanging", "()I"⟩
abbrev cX5_ordersTaken : ByteArray := prog_1_method_31_code
def yX5_ordersTaken : MethodName := ⟨RX5, "ordersTaken", "()I"⟩
abbrev cX5_ordersInState : ByteArray := prog_1_method_32_code
def yX5_ordersInState : MethodName := ⟨RX5, "ordersInState", "(I)I"⟩
abbrev cX5_letQuarterGo : ByteArray := prog_1_method_33_code
def yX5_letQuarterGo : MethodName := ⟨RX5, "letQuarterGo", "(LCandleDip$Frame;)V"⟩
abbrev cX5_endDay : ByteArray := prog_1_method_34_code
def yX5_endDay : MethodName := ⟨RX5, "endDay", "(I)V"⟩
abbrev cX5_possibleOfKind : ByteArray := prog_1_method_35_code
def yX5_possibleOfKind : MethodName := ⟨RX5, "possibleOfKind", "(I)I"⟩
abbrev cX5_planOneMore : ByteArray := prog_1_method_36_code
def yX5_planOneMore : MethodName := ⟨RX5, "planOneMore", "(III)I"⟩
def RX6 : String := "CandleDipModel"
def TX6 : u_T := fun k => match k with
  | 0 => ("CandleDipModel", "thrown", "I", false)
  | 1 => ("CandleDipModel", "wax", "I", false)
  | 2 => ("CandleDipModel", "heat", "I", false)
  | 3 => ("CandleDipModel", "level", "I", false)
  | 4 => ("CandleDipModel", "frames", "I", false)
  | 5 => ("CandleDipModel", "table", "[I", true)
  | 6 => ("CandleDipModel", "store", "[I", true)
  | 7 => ("CandleDipModel", "orders", "I", false)
  | 8 => ("CandleDipModel", "orderTable", "[I", true)
  | 9 => ("CandleDipModel", "quarter", "I", false)
  | 10 => ("CandleDipModel", "dips", "I", false)
  | 11 => ("CandleDipModel", "away", "I", false)
  | 12 => ("CandleDipModel", "it", "[I", true)
  | _ => ("CandleDipModel", "chosen", "[Z", true)
def tyX6 : Nat → FieldType := fun k => match k with
  | 0 => .int
  | 1 => .int
  | 2 => .int
  | 3 => .int
  | 4 => .int
  | 5 => .array .int
  | 6 => .array .int
  | 7 => .int
  | 8 => .array .int
  | 9 => .int
  | 10 => .int
  | 11 => .int
  | 12 => .array .int
  | _ => .array .boolean
abbrev wsX60 : List Cond := u_ws RX6 TX6 14
theorem nmX6 : ∀ a, a < 14 → ∀ b, b < 14 → a ≠ b → (TX6 a).2.1 ≠ (TX6 b).2.1 := by decide +kernel
theorem tyX6_ok : ∀ k, k < 14 → parseFieldDescriptor (TX6 k).2.2.1 = some (tyX6 k) := by decide +kernel
abbrev cX6_init : ByteArray := prog_8_method_1_code
def yX6_init : MethodName := ⟨RX6, "<init>", "()V"⟩
abbrev cX6_thrown : ByteArray := prog_8_method_2_code
def yX6_thrown : MethodName := ⟨RX6, "thrown", "()I"⟩
abbrev cX6_fail : ByteArray := prog_8_method_3_code
def yX6_fail : MethodName := ⟨RX6, "fail", "(I)I"⟩
abbrev cX6_isIn : ByteArray := prog_8_method_4_code
def yX6_isIn : MethodName := ⟨RX6, "isIn", "(III)Z"⟩
abbrev cX6_isFrame : ByteArray := prog_8_method_5_code
def yX6_isFrame : MethodName := ⟨RX6, "isFrame", "(I)Z"⟩
abbrev cX6_fr : ByteArray := prog_8_method_6_code
def yX6_fr : MethodName := ⟨RX6, "fr", "(II)I"⟩
abbrev cX6_set : ByteArray := prog_8_method_7_code
def yX6_set : MethodName := ⟨RX6, "set", "(III)V"⟩
abbrev cX6_or : ByteArray := prog_8_method_8_code
def yX6_or : MethodName := ⟨RX6, "or", "(II)I"⟩
abbrev cX6_melt : ByteArray := prog_8_method_9_code
def yX6_melt : MethodName := ⟨RX6, "melt", "(I)I"⟩
abbrev cX6_setFire : ByteArray := prog_8_method_10_code
def yX6_setFire : MethodName := ⟨RX6, "setFire", "(I)I"⟩
abbrev cX6_vatTold : ByteArray := prog_8_method_11_code
def yX6_vatTold : MethodName := ⟨RX6, "vatTold", "(I)I"⟩
abbrev cX6_vat : ByteArray := prog_8_method_12_code
def yX6_vat : MethodName := ⟨RX6, "vat", "(I)I"⟩
abbrev cX6_addFrame : ByteArray := prog_8_method_13_code
def yX6_addFrame : MethodName := ⟨RX6, "addFrame", "(II)I"⟩
abbrev cX6_at : ByteArray := prog_8_method_14_code
def yX6_at : MethodName := ⟨RX6, "at", "(I)I"⟩
abbrev cX6_hang : ByteArray := prog_8_method_15_code
def yX6_hang : MethodName := ⟨RX6, "hang", "(II)I"⟩
abbrev cX6_layAside : ByteArray := prog_8_method_16_code
def yX6_layAside : MethodName := ⟨RX6, "layAside", "(I)I"⟩
abbrev cX6_take : ByteArray := prog_8_method_17_code
def yX6_take : MethodName := ⟨RX6, "take", "(I)V"⟩
abbrev cX6_grows : ByteArray := prog_8_method_18_code
def yX6_grows : MethodName := ⟨RX6, "grows", "(I)I"⟩
abbrev cX6_waxOf : ByteArray := prog_8_method_19_code
def yX6_waxOf : MethodName := ⟨RX6, "waxOf", "(II)I"⟩
abbrev cX6_can : ByteArray := prog_8_method_20_code
def yX6_can : MethodName := ⟨RX6, "can", "(I)Z"⟩
abbrev cX6_dipIt : ByteArray := prog_8_method_21_code
def yX6_dipIt : MethodName := ⟨RX6, "dipIt", "(I)V"⟩
abbrev cX6_heatBehind : ByteArray := prog_8_method_22_code
def yX6_heatBehind : MethodName := ⟨RX6, "heatBehind", "(I)I"⟩
abbrev cX6_cools : ByteArray := prog_8_method_23_code
def yX6_cools : MethodName := ⟨RX6, "cools", "(I)I"⟩
abbrev cX6_quarterOn : ByteArray := prog_8_method_24_code
def yX6_quarterOn : MethodName := ⟨RX6, "quarterOn", "(I)V"⟩
abbrev cX6_hangs : ByteArray := prog_8_method_25_code
def yX6_hangs : MethodName := ⟨RX6, "hangs", "(I)Z"⟩
abbrev cX6_dip : ByteArray := prog_8_method_26_code
def yX6_dip : MethodName := ⟨RX6, "dip", "(I)I"⟩
abbrev cX6_size : ByteArray := prog_8_method_27_code
def yX6_size : MethodName := ⟨RX6, "size", "(II)I"⟩
abbrev cX6_cutOff : ByteArray := prog_8_method_28_code
def yX6_cutOff : MethodName := ⟨RX6, "cutOff", "(I)I"⟩
abbrev cX6_frameTold : ByteArray := prog_8_method_29_code
def yX6_frameTold : MethodName := ⟨RX6, "frameTold", "(II)I"⟩
abbrev cX6_frame : ByteArray := prog_8_method_30_code
def yX6_frame : MethodName := ⟨RX6, "frame", "(II)I"⟩
abbrev cX6_hook : ByteArray := prog_8_method_31_code
def yX6_hook : MethodName := ⟨RX6, "hook", "(I)I"⟩
abbrev cX6_store : ByteArray := prog_8_method_32_code
def yX6_store : MethodName := ⟨RX6, "store", "(II)I"⟩
abbrev cX6_enough : ByteArray := prog_8_method_33_code
def yX6_enough : MethodName := ⟨RX6, "enough", "(II)I"⟩
abbrev cX6_addOrder : ByteArray := prog_8_method_34_code
def yX6_addOrder : MethodName := ⟨RX6, "addOrder", "(IIII)I"⟩
abbrev cX6_canFill : ByteArray := prog_8_method_35_code
def yX6_canFill : MethodName := ⟨RX6, "canFill", "(I)Z"⟩
abbrev cX6_inStore : ByteArray := prog_8_method_36_code
def yX6_inStore : MethodName := ⟨RX6, "inStore", "()I"⟩
abbrev cX6_fill : ByteArray := prog_8_method_37_code
def yX6_fill : MethodName := ⟨RX6, "fill", "(I)I"⟩
abbrev cX6_orderTold : ByteArray := prog_8_method_38_code
def yX6_orderTold : MethodName := ⟨RX6, "orderTold", "(II)I"⟩
abbrev cX6_order : ByteArray := prog_8_method_39_code
def yX6_order : MethodName := ⟨RX6, "order", "(II)I"⟩
abbrev cX6_pass : ByteArray := prog_8_method_40_code
def yX6_pass : MethodName := ⟨RX6, "pass", "(I)I"⟩
abbrev cX6_with : ByteArray := prog_8_method_41_code
def yX6_with : MethodName := ⟨RX6, "with", "(I)I"⟩
abbrev cX6_counted : ByteArray := prog_8_method_42_code
def yX6_counted : MethodName := ⟨RX6, "counted", "(I)I"⟩
abbrev cX6_count : ByteArray := prog_8_method_43_code
def yX6_count : MethodName := ⟨RX6, "count", "(I)I"⟩
abbrev cX6_would : ByteArray := prog_8_method_44_code
def yX6_would : MethodName := ⟨RX6, "would", "(II)I"⟩
abbrev cX6_needs : ByteArray := prog_8_method_45_code
def yX6_needs : MethodName := ⟨RX6, "needs", "(III)I"⟩
abbrev cX6_dipsTo : ByteArray := prog_8_method_46_code
def yX6_dipsTo : MethodName := ⟨RX6, "dipsTo", "(III)I"⟩
abbrev cX6_bestRest : ByteArray := prog_8_method_47_code
def yX6_bestRest : MethodName := ⟨RX6, "bestRest", "(II)I"⟩
abbrev cX6_advise : ByteArray := prog_8_method_48_code
def yX6_advise : MethodName := ⟨RX6, "advise", "()I"⟩
abbrev cX6_possibleOf : ByteArray := prog_8_method_49_code
def yX6_possibleOf : MethodName := ⟨RX6, "possibleOf", "(I)I"⟩
abbrev cX6_possible : ByteArray := prog_8_method_50_code
def yX6_possible : MethodName := ⟨RX6, "possible", "()I"⟩
abbrev cX6_mean : ByteArray := prog_8_method_51_code
def yX6_mean : MethodName := ⟨RX6, "mean", "()D"⟩
abbrev cX6_digest : ByteArray := prog_8_method_52_code
def yX6_digest : MethodName := ⟨RX6, "digest", "()J"⟩
def RJ9 : String := "java/lang/Math"
def TJ9 : u_T := fun k => match k with
  | _ => ("", "", "", false)
def tyJ9 : Nat → FieldType := fun k => match k with
  | _ => .int
abbrev wsJ90 : List Cond := u_ws RJ9 TJ9 0
theorem nmJ9 : ∀ a, a < 0 → ∀ b, b < 0 → a ≠ b → (TJ9 a).2.1 ≠ (TJ9 b).2.1 := by decide +kernel
theorem tyJ9_ok : ∀ k, k < 0 → parseFieldDescriptor (TJ9 k).2.2.1 = some (tyJ9 k) := by decide +kernel
abbrev cJ9_max_7cf53 : ByteArray := prog_13_method_65_code
def yJ9_max_7cf53 : MethodName := ⟨RJ9, "max", "(II)I"⟩
abbrev cJ9_min_7cf53 : ByteArray := prog_13_method_69_code
def yJ9_min_7cf53 : MethodName := ⟨RJ9, "min", "(II)I"⟩
def RJ0 : String := "java/lang/String"
def TJ0 : u_T := fun k => match k with
  | _ => ("", "", "", false)
def tyJ0 : Nat → FieldType := fun k => match k with
  | _ => .int
abbrev wsJ00 : List Cond := u_ws RJ0 TJ0 0
theorem nmJ0 : ∀ a, a < 0 → ∀ b, b < 0 → a ≠ b → (TJ0 a).2.1 ≠ (TJ0 b).2.1 := by decide +kernel
theorem tyJ0_ok : ∀ k, k < 0 → parseFieldDescriptor (TJ0 k).2.2.1 = some (tyJ0 k) := by decide +kernel
def RJ10 : String := "java/lang/System"
def TJ10 : u_T := fun k => match k with
  | _ => ("", "", "", false)
def tyJ10 : Nat → FieldType := fun k => match k with
  | _ => .int
abbrev wsJ100 : List Cond := u_ws RJ10 TJ10 0
theorem nmJ10 : ∀ a, a < 0 → ∀ b, b < 0 → a ≠ b → (TJ10 a).2.1 ≠ (TJ10 b).2.1 := by decide +kernel
theorem tyJ10_ok : ∀ k, k < 0 → parseFieldDescriptor (TJ10 k).2.2.1 = some (tyJ10 k) := by decide +kernel
def RL : String := "CandleDipLaw"
abbrev cL_melt : ByteArray := method_3_code
def yL_melt : MethodName := ⟨RL, "melt", "(LCandleDip;I[J)I"⟩
abbrev cL_setFire : ByteArray := method_4_code
def yL_setFire : MethodName := ⟨RL, "setFire", "(LCandleDip;I[J)I"⟩
abbrev cL_vat : ByteArray := method_5_code
def yL_vat : MethodName := ⟨RL, "vat", "(LCandleDip;I[J)I"⟩
abbrev cL_addFrame : ByteArray := method_6_code
def yL_addFrame : MethodName := ⟨RL, "addFrame", "(LCandleDip;II[J)I"⟩
abbrev cL_hang : ByteArray := method_7_code
def yL_hang : MethodName := ⟨RL, "hang", "(LCandleDip;II[J)I"⟩
abbrev cL_layAside : ByteArray := method_8_code
def yL_layAside : MethodName := ⟨RL, "layAside", "(LCandleDip;I[J)I"⟩
abbrev cL_dip : ByteArray := method_9_code
def yL_dip : MethodName := ⟨RL, "dip", "(LCandleDip;I[J)I"⟩
abbrev cL_cutOff : ByteArray := method_10_code
def yL_cutOff : MethodName := ⟨RL, "cutOff", "(LCandleDip;I[J)I"⟩
abbrev cL_frame : ByteArray := method_11_code
def yL_frame : MethodName := ⟨RL, "frame", "(LCandleDip;II[J)I"⟩
abbrev cL_hook : ByteArray := method_12_code
def yL_hook : MethodName := ⟨RL, "hook", "(LCandleDip;I[J)I"⟩
abbrev cL_store : ByteArray := method_13_code
def yL_store : MethodName := ⟨RL, "store", "(LCandleDip;II[J)I"⟩
abbrev cL_addOrder : ByteArray := method_14_code
def yL_addOrder : MethodName := ⟨RL, "addOrder", "(LCandleDip;IIII[J)I"⟩
abbrev cL_fill : ByteArray := method_15_code
def yL_fill : MethodName := ⟨RL, "fill", "(LCandleDip;I[J)I"⟩
abbrev cL_order : ByteArray := method_16_code
def yL_order : MethodName := ⟨RL, "order", "(LCandleDip;II[J)I"⟩
abbrev cL_pass : ByteArray := method_17_code
def yL_pass : MethodName := ⟨RL, "pass", "(LCandleDip;I[J)I"⟩
abbrev cL_count : ByteArray := method_18_code
def yL_count : MethodName := ⟨RL, "count", "(LCandleDip;I[J)I"⟩
abbrev cL_would : ByteArray := method_19_code
def yL_would : MethodName := ⟨RL, "would", "(LCandleDip;II[J)I"⟩
abbrev cL_dipsTo : ByteArray := method_20_code
def yL_dipsTo : MethodName := ⟨RL, "dipsTo", "(LCandleDip;III[J)I"⟩
abbrev cL_bestRest : ByteArray := method_21_code
def yL_bestRest : MethodName := ⟨RL, "bestRest", "(LCandleDip;II[J)I"⟩
abbrev cL_law : ByteArray := code
def yL_law : MethodName := ⟨RL, "law", "([I)Z"⟩
abbrev vwCl : List vw_C := [(RX0, TX0, 7), (RX1, TX1, 5), (RX2, TX2, 1), (RX3, TX3, 2), (RX4, TX4, 3), (RX5, TX5, 9), (RX6, TX6, 14)]
end
section
/-! ===== ONE list of words for every contract ===== -/
def lw_all : List Cond := lw_tbl.filter goodWord
theorem lw_all_tbl {w : Cond} (h : w ∈ lw_all) : w ∈ lw_tbl := (List.mem_filter.mp h).1
theorem lw_in {w : Cond} (i : Nat) (h : (decide (lw_tbl[i]? = some w) && goodWord w) = true) : w ∈ lw_all := by
  simp only [Bool.and_eq_true, decide_eq_true_eq] at h
  exact List.mem_filter.mpr ⟨List.mem_of_getElem? h.1, h.2⟩
theorem lw_good {L : List Cond} (h : L.all (fun w => decide (w ∈ lw_all)) = true) : ∀ w ∈ L, w ∈ lw_all := fun w hw => by
  have h1 := List.all_eq_true.mp h w hw
  simpa using h1
theorem qs_0 : (.selects RX5 yX5_possibleOfKind yX5_possibleOfKind : Cond) ∈ lw_all := lw_in 0 (by decide +kernel)
theorem qs_1 : (.selects RX5 yX5_planOneMore yX5_planOneMore : Cond) ∈ lw_all := lw_in 1 (by decide +kernel)
theorem qs_2 : (.selects RX5 yX5_framesMade yX5_framesMade : Cond) ∈ lw_all := lw_in 2 (by decide +kernel)
theorem qs_3 : (.selects RX5 yX5_framesHanging yX5_framesHanging : Cond) ∈ lw_all := lw_in 3 (by decide +kernel)
theorem qs_4 : (.selects RX5 yX5_ordersTaken yX5_ordersTaken : Cond) ∈ lw_all := lw_in 4 (by decide +kernel)
theorem qs_5 : (.selects RX5 yX5_ordersInState yX5_ordersInState : Cond) ∈ lw_all := lw_in 5 (by decide +kernel)
theorem qs_7 : (.selects RX5 yX5_frameAt yX5_frameAt : Cond) ∈ lw_all := lw_in 7 (by decide +kernel)
theorem qs_8 : (.selects RX5 yX5_orderAt yX5_orderAt : Cond) ∈ lw_all := lw_in 8 (by decide +kernel)
theorem qs_9 : (.selects RX5 yX5_frameOn yX5_frameOn : Cond) ∈ lw_all := lw_in 9 (by decide +kernel)
theorem qs_10 : (.selects RX0 yX0_meltOff yX0_meltOff : Cond) ∈ lw_all := lw_in 10 (by decide +kernel)
theorem qs_11 : (.selects RX0 yX0_takeUp yX0_takeUp : Cond) ∈ lw_all := lw_in 11 (by decide +kernel)
theorem qs_12 : (.selects RX5 yX5_letQuarterGo yX5_letQuarterGo : Cond) ∈ lw_all := lw_in 12 (by decide +kernel)
theorem qs_13 : (.selects RX0 yX0_coolingOfPlace yX0_coolingOfPlace : Cond) ∈ lw_all := lw_in 13 (by decide +kernel)
theorem qs_14 : (.selects RX5 yX5_endDay yX5_endDay : Cond) ∈ lw_all := lw_in 14 (by decide +kernel)
theorem qs_15 : (.selects RX3 yX3_begin yX3_begin : Cond) ∈ lw_all := lw_in 15 (by decide +kernel)
theorem qs_16 : (.selects RX3 yX3_tryDip yX3_tryDip : Cond) ∈ lw_all := lw_in 16 (by decide +kernel)
theorem qs_17 : (.selects RX3 yX3_letRest yX3_letRest : Cond) ∈ lw_all := lw_in 17 (by decide +kernel)
theorem qs_18 : (.selects RX6 yX6_fail yX6_fail : Cond) ∈ lw_all := lw_in 18 (by decide +kernel)
theorem qs_19 : (.selects RX6 yX6_vatTold yX6_vatTold : Cond) ∈ lw_all := lw_in 19 (by decide +kernel)
theorem qs_20 : (.selects RX6 yX6_isFrame yX6_isFrame : Cond) ∈ lw_all := lw_in 20 (by decide +kernel)
theorem qs_21 : (.selects RX6 yX6_at yX6_at : Cond) ∈ lw_all := lw_in 21 (by decide +kernel)
theorem qs_22 : (.selects RX6 yX6_fr yX6_fr : Cond) ∈ lw_all := lw_in 22 (by decide +kernel)
theorem qs_23 : (.selects RX6 yX6_set yX6_set : Cond) ∈ lw_all := lw_in 23 (by decide +kernel)
theorem qs_24 : (.selects RX6 yX6_take yX6_take : Cond) ∈ lw_all := lw_in 24 (by decide +kernel)
theorem qs_25 : (.selects RX6 yX6_hangs yX6_hangs : Cond) ∈ lw_all := lw_in 25 (by decide +kernel)
theorem qs_26 : (.selects RX6 yX6_can yX6_can : Cond) ∈ lw_all := lw_in 26 (by decide +kernel)
theorem qs_27 : (.selects RX6 yX6_grows yX6_grows : Cond) ∈ lw_all := lw_in 27 (by decide +kernel)
theorem qs_28 : (.selects RX6 yX6_waxOf yX6_waxOf : Cond) ∈ lw_all := lw_in 28 (by decide +kernel)
theorem qs_29 : (.selects RX6 yX6_dipIt yX6_dipIt : Cond) ∈ lw_all := lw_in 29 (by decide +kernel)
theorem qs_30 : (.selects RX6 yX6_quarterOn yX6_quarterOn : Cond) ∈ lw_all := lw_in 30 (by decide +kernel)
theorem qs_31 : (.selects RX6 yX6_heatBehind yX6_heatBehind : Cond) ∈ lw_all := lw_in 31 (by decide +kernel)
theorem qs_32 : (.selects RX6 yX6_cools yX6_cools : Cond) ∈ lw_all := lw_in 32 (by decide +kernel)
theorem qs_33 : (.selects RX6 yX6_or yX6_or : Cond) ∈ lw_all := lw_in 33 (by decide +kernel)
theorem qs_34 : (.selects RX6 yX6_frameTold yX6_frameTold : Cond) ∈ lw_all := lw_in 34 (by decide +kernel)
theorem qs_35 : (.selects RX6 yX6_canFill yX6_canFill : Cond) ∈ lw_all := lw_in 35 (by decide +kernel)
theorem qs_36 : (.selects RX6 yX6_enough yX6_enough : Cond) ∈ lw_all := lw_in 36 (by decide +kernel)
theorem qs_37 : (.selects RX6 yX6_inStore yX6_inStore : Cond) ∈ lw_all := lw_in 37 (by decide +kernel)
theorem qs_38 : (.selects RX6 yX6_orderTold yX6_orderTold : Cond) ∈ lw_all := lw_in 38 (by decide +kernel)
theorem qs_39 : (.selects RX6 yX6_counted yX6_counted : Cond) ∈ lw_all := lw_in 39 (by decide +kernel)
theorem qs_40 : (.selects RX6 yX6_with yX6_with : Cond) ∈ lw_all := lw_in 40 (by decide +kernel)
theorem qs_41 : (.selects RX6 yX6_needs yX6_needs : Cond) ∈ lw_all := lw_in 41 (by decide +kernel)
theorem qs_42 : (.selects RX6 yX6_possibleOf yX6_possibleOf : Cond) ∈ lw_all := lw_in 42 (by decide +kernel)
theorem q_0 : (.initialized RL : Cond) ∈ lw_all := lw_in 43 (by decide +kernel)
theorem q_1 : (.initialized RX5 : Cond) ∈ lw_all := lw_in 44 (by decide +kernel)
theorem q_2 : (.initialized RX4 : Cond) ∈ lw_all := lw_in 45 (by decide +kernel)
theorem q_3 : (.initialized RX2 : Cond) ∈ lw_all := lw_in 46 (by decide +kernel)
theorem q_4 : (.initialized RX3 : Cond) ∈ lw_all := lw_in 47 (by decide +kernel)
theorem q_5 : (.initialized RX0 : Cond) ∈ lw_all := lw_in 48 (by decide +kernel)
theorem q_6 : (.initialized RX6 : Cond) ∈ lw_all := lw_in 49 (by decide +kernel)
theorem q_7 : (.initialized "java/lang/Throwable" : Cond) ∈ lw_all := lw_in 50 (by decide +kernel)
theorem q_8 : (.initialized "java/lang/Exception" : Cond) ∈ lw_all := lw_in 51 (by decide +kernel)
theorem q_9 : (.initialized "java/lang/RuntimeException" : Cond) ∈ lw_all := lw_in 52 (by decide +kernel)
theorem q_10 : (.initialized "java/lang/IllegalArgumentException" : Cond) ∈ lw_all := lw_in 53 (by decide +kernel)
theorem q_11 : (.initialized "java/lang/IllegalStateException" : Cond) ∈ lw_all := lw_in 54 (by decide +kernel)
theorem q_12 : (.initialized "java/lang/IndexOutOfBoundsException" : Cond) ∈ lw_all := lw_in 55 (by decide +kernel)
theorem q_13 : (.initialized "java/lang/System" : Cond) ∈ lw_all := lw_in 56 (by decide +kernel)
theorem q_14 : (.initialized "java/lang/Math" : Cond) ∈ lw_all := lw_in 57 (by decide +kernel)
theorem q_15 : (.initialized RX1 : Cond) ∈ lw_all := lw_in 58 (by decide +kernel)
theorem q_16 : (.classLink RL 8 RX5 : Cond) ∈ lw_all := lw_in 59 (by decide +kernel)
theorem q_17 : (.instantiable RX5 9 : Cond) ∈ lw_all := lw_in 60 (by decide +kernel)
theorem q_18 : (.methodLink RL 76 yX5_init : Cond) ∈ lw_all := lw_in 61 (by decide +kernel)
theorem q_19 : (.instanceMethod yX5_init : Cond) ∈ lw_all := lw_in 62 (by decide +kernel)
theorem q_20 : (.code yX5_init cX5_init 1 none : Cond) ∈ lw_all := lw_in 63 (by decide +kernel)
theorem q_21 : (.methodLink RX5 1 objectInit : Cond) ∈ lw_all := lw_in 64 (by decide +kernel)
theorem q_22 : (.instanceMethod objectInit : Cond) ∈ lw_all := lw_in 65 (by decide +kernel)
theorem q_23 : (.code objectInit ⟨#[0xb1]⟩ 1 none : Cond) ∈ lw_all := lw_in 66 (by decide +kernel)
theorem q_24 : (.classLink RX5 7 RX4 : Cond) ∈ lw_all := lw_in 67 (by decide +kernel)
theorem q_25 : (.instantiable RX4 3 : Cond) ∈ lw_all := lw_in 68 (by decide +kernel)
theorem q_27 : (.instanceMethod yX4_init : Cond) ∈ lw_all := lw_in 70 (by decide +kernel)
theorem q_28 : (.code yX4_init cX4_init 1 none : Cond) ∈ lw_all := lw_in 71 (by decide +kernel)
theorem q_29 : (.methodLink RX4 3 objectInit : Cond) ∈ lw_all := lw_in 72 (by decide +kernel)
theorem q_30 : (.fieldLink RX5 57 "CandleDip$Vat" "wax" "I" : Cond) ∈ lw_all := lw_in 73 (by decide +kernel)
theorem q_31 : (.fieldLink RX4 15 "CandleDip$Vat" "wax" "I" : Cond) ∈ lw_all := lw_in 74 (by decide +kernel)
theorem q_32 : (.fieldLink RX0 46 "CandleDip$Vat" "wax" "I" : Cond) ∈ lw_all := lw_in 75 (by decide +kernel)
theorem q_33 : (.fieldLink RX4 9 "CandleDip$Vat" "heat" "I" : Cond) ∈ lw_all := lw_in 76 (by decide +kernel)
theorem q_34 : (.fieldLink RX5 70 "CandleDip$Vat" "heat" "I" : Cond) ∈ lw_all := lw_in 77 (by decide +kernel)
theorem q_35 : (.fieldLink RX0 36 "CandleDip$Vat" "heat" "I" : Cond) ∈ lw_all := lw_in 78 (by decide +kernel)
theorem q_36 : (.fieldLink RX5 75 "CandleDip$Vat" "level" "I" : Cond) ∈ lw_all := lw_in 79 (by decide +kernel)
theorem q_37 : (.fieldLink RX4 24 "CandleDip$Vat" "level" "I" : Cond) ∈ lw_all := lw_in 80 (by decide +kernel)
theorem q_45 : (.classLink RX5 16 RX0 : Cond) ∈ lw_all := lw_in 88 (by decide +kernel)
theorem q_47 : (.classLink RX5 22 RX2 : Cond) ∈ lw_all := lw_in 90 (by decide +kernel)
theorem q_48 : (.instantiable RX2 1 : Cond) ∈ lw_all := lw_in 91 (by decide +kernel)
theorem q_50 : (.instanceMethod yX2_init : Cond) ∈ lw_all := lw_in 93 (by decide +kernel)
theorem q_51 : (.code yX2_init cX2_init 1 none : Cond) ∈ lw_all := lw_in 94 (by decide +kernel)
theorem q_52 : (.methodLink RX2 3 objectInit : Cond) ∈ lw_all := lw_in 95 (by decide +kernel)
theorem q_53 : (.fieldLink RX2 9 "CandleDip$Store" "shelves" "[I" : Cond) ∈ lw_all := lw_in 96 (by decide +kernel)
theorem q_57 : (.arrayClass .int : Cond) ∈ lw_all := lw_in 100 (by decide +kernel)
theorem q_58 : (.classLink RX5 29 RX1 : Cond) ∈ lw_all := lw_in 101 (by decide +kernel)
theorem q_60 : (.classLink RX5 35 RX3 : Cond) ∈ lw_all := lw_in 103 (by decide +kernel)
theorem q_61 : (.instantiable RX3 2 : Cond) ∈ lw_all := lw_in 104 (by decide +kernel)
theorem q_63 : (.instanceMethod yX3_init : Cond) ∈ lw_all := lw_in 106 (by decide +kernel)
theorem q_64 : (.code yX3_init cX3_init 1 none : Cond) ∈ lw_all := lw_in 107 (by decide +kernel)
theorem q_65 : (.methodLink RX3 3 objectInit : Cond) ∈ lw_all := lw_in 108 (by decide +kernel)
theorem q_66 : (.classLink RX3 9 RX0 : Cond) ∈ lw_all := lw_in 109 (by decide +kernel)
theorem q_67 : (.instantiable RX0 7 : Cond) ∈ lw_all := lw_in 110 (by decide +kernel)
theorem q_68 : (.methodLink RX3 11 yX0_init : Cond) ∈ lw_all := lw_in 111 (by decide +kernel)
theorem q_69 : (.instanceMethod yX0_init : Cond) ∈ lw_all := lw_in 112 (by decide +kernel)
theorem q_70 : (.code yX0_init cX0_init 3 none : Cond) ∈ lw_all := lw_in 113 (by decide +kernel)
theorem q_71 : (.methodLink RX0 3 objectInit : Cond) ∈ lw_all := lw_in 114 (by decide +kernel)
theorem q_72 : (.fieldLink RX0 15 "CandleDip$Frame" "kind" "I" : Cond) ∈ lw_all := lw_in 115 (by decide +kernel)
theorem q_73 : (.fieldLink RX5 161 "CandleDip$Frame" "kind" "I" : Cond) ∈ lw_all := lw_in 116 (by decide +kernel)
theorem q_74 : (.fieldLink RX0 18 "CandleDip$Frame" "wicks" "I" : Cond) ∈ lw_all := lw_in 117 (by decide +kernel)
theorem q_75 : (.fieldLink RX5 152 "CandleDip$Frame" "wicks" "I" : Cond) ∈ lw_all := lw_in 118 (by decide +kernel)
theorem q_76 : (.fieldLink RX3 35 "CandleDip$Frame" "thickness" "I" : Cond) ∈ lw_all := lw_in 119 (by decide +kernel)
theorem q_77 : (.fieldLink RX0 21 "CandleDip$Frame" "thickness" "I" : Cond) ∈ lw_all := lw_in 120 (by decide +kernel)
theorem q_78 : (.fieldLink RX5 135 "CandleDip$Frame" "thickness" "I" : Cond) ∈ lw_all := lw_in 121 (by decide +kernel)
theorem q_79 : (.fieldLink RX0 24 "CandleDip$Frame" "warmth" "I" : Cond) ∈ lw_all := lw_in 122 (by decide +kernel)
theorem q_80 : (.fieldLink RX5 171 "CandleDip$Frame" "warmth" "I" : Cond) ∈ lw_all := lw_in 123 (by decide +kernel)
theorem q_81 : (.fieldLink RX0 75 "CandleDip$Frame" "cracked" "Z" : Cond) ∈ lw_all := lw_in 124 (by decide +kernel)
theorem q_82 : (.fieldLink RX5 174 "CandleDip$Frame" "cracked" "Z" : Cond) ∈ lw_all := lw_in 125 (by decide +kernel)
theorem q_83 : (.fieldLink RX0 9 "CandleDip$Frame" "place" "I" : Cond) ∈ lw_all := lw_in 126 (by decide +kernel)
theorem q_84 : (.fieldLink RX5 110 "CandleDip$Frame" "place" "I" : Cond) ∈ lw_all := lw_in 127 (by decide +kernel)
theorem q_85 : (.fieldLink RX0 61 "CandleDip$Frame" "dips" "I" : Cond) ∈ lw_all := lw_in 128 (by decide +kernel)
theorem q_86 : (.fieldLink RX5 178 "CandleDip$Frame" "dips" "I" : Cond) ∈ lw_all := lw_in 129 (by decide +kernel)
theorem q_102 : (.classLink RX3 20 RX4 : Cond) ∈ lw_all := lw_in 145 (by decide +kernel)
theorem q_104 : (.fieldLink RX3 14 "CandleDip$Trial" "frame" "LCandleDip$Frame;" : Cond) ∈ lw_all := lw_in 147 (by decide +kernel)
theorem q_105 : (.fieldLink RX3 23 "CandleDip$Trial" "vat" "LCandleDip$Vat;" : Cond) ∈ lw_all := lw_in 148 (by decide +kernel)
theorem q_111 : (.fieldLink RX5 10 "CandleDip" "vat" "LCandleDip$Vat;" : Cond) ∈ lw_all := lw_in 154 (by decide +kernel)
theorem q_112 : (.fieldLink RX5 18 "CandleDip" "frames" "[LCandleDip$Frame;" : Cond) ∈ lw_all := lw_in 155 (by decide +kernel)
theorem q_113 : (.fieldLink RX5 25 "CandleDip" "store" "LCandleDip$Store;" : Cond) ∈ lw_all := lw_in 156 (by decide +kernel)
theorem q_114 : (.fieldLink RX5 31 "CandleDip" "orders" "[LCandleDip$Order;" : Cond) ∈ lw_all := lw_in 157 (by decide +kernel)
theorem q_115 : (.fieldLink RX5 38 "CandleDip" "trial" "LCandleDip$Trial;" : Cond) ∈ lw_all := lw_in 158 (by decide +kernel)
theorem q_116 : (.fieldLink RX5 42 "CandleDip" "fewestCandles" "[I" : Cond) ∈ lw_all := lw_in 159 (by decide +kernel)
theorem q_117 : (.fieldLink RX5 195 "CandleDip" "quarter" "I" : Cond) ∈ lw_all := lw_in 160 (by decide +kernel)
theorem q_118 : (.fieldLink RX5 128 "CandleDip" "dipsInAll" "I" : Cond) ∈ lw_all := lw_in 161 (by decide +kernel)
theorem q_119 : (.fieldLink RX5 149 "CandleDip" "thrownAway" "I" : Cond) ∈ lw_all := lw_in 162 (by decide +kernel)
theorem q_139 : (.methodLink RL 147 yX5_advise : Cond) ∈ lw_all := lw_in 182 (by decide +kernel)
theorem q_140 : (.instanceMethod yX5_advise : Cond) ∈ lw_all := lw_in 183 (by decide +kernel)
theorem q_141 : (.selects RX5 yX5_advise yX5_advise : Cond) ∈ lw_all := lw_in 184 (by decide +kernel)
theorem q_142 : (.code yX5_advise cX5_advise 5 (some .int) : Cond) ∈ lw_all := lw_in 185 (by decide +kernel)
theorem q_143 : (.methodLink RX5 118 yX0_canBeDipped : Cond) ∈ lw_all := lw_in 186 (by decide +kernel)
theorem q_144 : (.instanceMethod yX0_canBeDipped : Cond) ∈ lw_all := lw_in 187 (by decide +kernel)
theorem q_145 : (.selects RX0 yX0_canBeDipped yX0_canBeDipped : Cond) ∈ lw_all := lw_in 188 (by decide +kernel)
theorem q_146 : (.code yX0_canBeDipped cX0_canBeDipped 2 (some .boolean) : Cond) ∈ lw_all := lw_in 189 (by decide +kernel)
theorem q_147 : (.methodLink RX0 27 yX0_hangs : Cond) ∈ lw_all := lw_in 190 (by decide +kernel)
theorem q_148 : (.instanceMethod yX0_hangs : Cond) ∈ lw_all := lw_in 191 (by decide +kernel)
theorem q_149 : (.selects RX0 yX0_hangs yX0_hangs : Cond) ∈ lw_all := lw_in 192 (by decide +kernel)
theorem q_150 : (.code yX0_hangs cX0_hangs 1 (some .boolean) : Cond) ∈ lw_all := lw_in 193 (by decide +kernel)
theorem q_151 : (.methodLink RX0 31 yX4_isMelted : Cond) ∈ lw_all := lw_in 194 (by decide +kernel)
theorem q_152 : (.instanceMethod yX4_isMelted : Cond) ∈ lw_all := lw_in 195 (by decide +kernel)
theorem q_153 : (.selects RX4 yX4_isMelted yX4_isMelted : Cond) ∈ lw_all := lw_in 196 (by decide +kernel)
theorem q_154 : (.code yX4_isMelted cX4_isMelted 1 (some .boolean) : Cond) ∈ lw_all := lw_in 197 (by decide +kernel)
theorem q_155 : (.methodLink RX0 39 yX0_gain : Cond) ∈ lw_all := lw_in 198 (by decide +kernel)
theorem q_156 : (.instanceMethod yX0_gain : Cond) ∈ lw_all := lw_in 199 (by decide +kernel)
theorem q_157 : (.selects RX0 yX0_gain yX0_gain : Cond) ∈ lw_all := lw_in 200 (by decide +kernel)
theorem q_158 : (.code yX0_gain cX0_gain 3 (some .int) : Cond) ∈ lw_all := lw_in 201 (by decide +kernel)
theorem q_159 : (.methodLink RX0 49 yX0_meltsWhenDipped : Cond) ∈ lw_all := lw_in 202 (by decide +kernel)
theorem q_160 : (.instanceMethod yX0_meltsWhenDipped : Cond) ∈ lw_all := lw_in 203 (by decide +kernel)
theorem q_161 : (.selects RX0 yX0_meltsWhenDipped yX0_meltsWhenDipped : Cond) ∈ lw_all := lw_in 204 (by decide +kernel)
theorem q_162 : (.code yX0_meltsWhenDipped cX0_meltsWhenDipped 1 (some .boolean) : Cond) ∈ lw_all := lw_in 205 (by decide +kernel)
theorem q_163 : (.methodLink RX0 52 yX0_isBare : Cond) ∈ lw_all := lw_in 206 (by decide +kernel)
theorem q_164 : (.instanceMethod yX0_isBare : Cond) ∈ lw_all := lw_in 207 (by decide +kernel)
theorem q_165 : (.selects RX0 yX0_isBare yX0_isBare : Cond) ∈ lw_all := lw_in 208 (by decide +kernel)
theorem q_166 : (.code yX0_isBare cX0_isBare 1 (some .boolean) : Cond) ∈ lw_all := lw_in 209 (by decide +kernel)
theorem q_167 : (.methodLink RX0 55 Lib.Math.min.name : Cond) ∈ lw_all := lw_in 210 (by decide +kernel)
theorem q_168 : (.static Lib.Math.min.name : Cond) ∈ lw_all := lw_in 211 (by decide +kernel)
theorem q_169 : (.code Lib.Math.min.name Lib.Math.min.code 2 (some .int) : Cond) ∈ lw_all := lw_in 212 (by decide +kernel)
theorem q_170 : (.methodLink RX0 43 yX0_waxOf : Cond) ∈ lw_all := lw_in 213 (by decide +kernel)
theorem q_171 : (.instanceMethod yX0_waxOf : Cond) ∈ lw_all := lw_in 214 (by decide +kernel)
theorem q_172 : (.selects RX0 yX0_waxOf yX0_waxOf : Cond) ∈ lw_all := lw_in 215 (by decide +kernel)
theorem q_173 : (.code yX0_waxOf cX0_waxOf 2 (some .int) : Cond) ∈ lw_all := lw_in 216 (by decide +kernel)
theorem q_174 : (.methodLink RX5 268 yX0_gain : Cond) ∈ lw_all := lw_in 217 (by decide +kernel)
theorem q_175 : (.methodLink RL 151 yX5_possible : Cond) ∈ lw_all := lw_in 218 (by decide +kernel)
theorem q_176 : (.instanceMethod yX5_possible : Cond) ∈ lw_all := lw_in 219 (by decide +kernel)
theorem q_177 : (.selects RX5 yX5_possible yX5_possible : Cond) ∈ lw_all := lw_in 220 (by decide +kernel)
theorem q_178 : (.code yX5_possible cX5_possible 3 (some .int) : Cond) ∈ lw_all := lw_in 221 (by decide +kernel)
theorem q_179 : (.methodLink RX5 271 yX5_possibleOfKind : Cond) ∈ lw_all := lw_in 222 (by decide +kernel)
theorem q_181 : (.instanceMethod yX5_possibleOfKind : Cond) ∈ lw_all := lw_in 224 (by decide +kernel)
theorem q_182 : (.code yX5_possibleOfKind cX5_possibleOfKind 9 (some .int) : Cond) ∈ lw_all := lw_in 225 (by decide +kernel)
theorem q_183 : (.methodLink RX5 304 yX2_amountFrom : Cond) ∈ lw_all := lw_in 226 (by decide +kernel)
theorem q_184 : (.instanceMethod yX2_amountFrom : Cond) ∈ lw_all := lw_in 227 (by decide +kernel)
theorem q_185 : (.selects RX2 yX2_amountFrom yX2_amountFrom : Cond) ∈ lw_all := lw_in 228 (by decide +kernel)
theorem q_186 : (.code yX2_amountFrom cX2_amountFrom 5 (some .int) : Cond) ∈ lw_all := lw_in 229 (by decide +kernel)
theorem q_187 : (.methodLink RX2 23 yX2_amount : Cond) ∈ lw_all := lw_in 230 (by decide +kernel)
theorem q_188 : (.instanceMethod yX2_amount : Cond) ∈ lw_all := lw_in 231 (by decide +kernel)
theorem q_189 : (.selects RX2 yX2_amount yX2_amount : Cond) ∈ lw_all := lw_in 232 (by decide +kernel)
theorem q_190 : (.code yX2_amount cX2_amount 3 (some .int) : Cond) ∈ lw_all := lw_in 233 (by decide +kernel)
theorem q_191 : (.methodLink RX2 19 yX2_hasShelf : Cond) ∈ lw_all := lw_in 234 (by decide +kernel)
theorem q_192 : (.static yX2_hasShelf : Cond) ∈ lw_all := lw_in 235 (by decide +kernel)
theorem q_193 : (.code yX2_hasShelf cX2_hasShelf 2 (some .boolean) : Cond) ∈ lw_all := lw_in 236 (by decide +kernel)
theorem q_195 : (.static yX5_within : Cond) ∈ lw_all := lw_in 238 (by decide +kernel)
theorem q_196 : (.code yX5_within cX5_within 3 (some .boolean) : Cond) ∈ lw_all := lw_in 239 (by decide +kernel)
theorem q_197 : (.methodLink RX5 307 yX1_isOpenFor : Cond) ∈ lw_all := lw_in 240 (by decide +kernel)
theorem q_198 : (.instanceMethod yX1_isOpenFor : Cond) ∈ lw_all := lw_in 241 (by decide +kernel)
theorem q_199 : (.selects RX1 yX1_isOpenFor yX1_isOpenFor : Cond) ∈ lw_all := lw_in 242 (by decide +kernel)
theorem q_200 : (.code yX1_isOpenFor cX1_isOpenFor 3 (some .boolean) : Cond) ∈ lw_all := lw_in 243 (by decide +kernel)
theorem q_201 : (.methodLink RX5 310 yX5_planOneMore : Cond) ∈ lw_all := lw_in 244 (by decide +kernel)
theorem q_203 : (.instanceMethod yX5_planOneMore : Cond) ∈ lw_all := lw_in 246 (by decide +kernel)
theorem q_204 : (.code yX5_planOneMore cX5_planOneMore 6 (some .int) : Cond) ∈ lw_all := lw_in 247 (by decide +kernel)
theorem q_205 : (.methodLink RX5 314 Lib.Math.min.name : Cond) ∈ lw_all := lw_in 248 (by decide +kernel)
theorem q_206 : (.methodLink RL 155 yX5_mean : Cond) ∈ lw_all := lw_in 249 (by decide +kernel)
theorem q_207 : (.instanceMethod yX5_mean : Cond) ∈ lw_all := lw_in 250 (by decide +kernel)
theorem q_208 : (.selects RX5 yX5_mean yX5_mean : Cond) ∈ lw_all := lw_in 251 (by decide +kernel)
theorem q_209 : (.code yX5_mean cX5_mean 7 (some .double) : Cond) ∈ lw_all := lw_in 252 (by decide +kernel)
theorem q_210 : (.methodLink RL 160 yX5_digest : Cond) ∈ lw_all := lw_in 253 (by decide +kernel)
theorem q_211 : (.instanceMethod yX5_digest : Cond) ∈ lw_all := lw_in 254 (by decide +kernel)
theorem q_212 : (.selects RX5 yX5_digest yX5_digest : Cond) ∈ lw_all := lw_in 255 (by decide +kernel)
theorem q_213 : (.code yX5_digest cX5_digest 5 (some .long) : Cond) ∈ lw_all := lw_in 256 (by decide +kernel)
theorem q_214 : (.constantLong RX5 274 613 : Cond) ∈ lw_all := lw_in 257 (by decide +kernel)
theorem q_215 : (.constantLong RX5 276 31 : Cond) ∈ lw_all := lw_in 258 (by decide +kernel)
theorem q_216 : (.methodLink RX5 278 yX5_count : Cond) ∈ lw_all := lw_in 259 (by decide +kernel)
theorem q_217 : (.instanceMethod yX5_count : Cond) ∈ lw_all := lw_in 260 (by decide +kernel)
theorem q_218 : (.selects RX5 yX5_count yX5_count : Cond) ∈ lw_all := lw_in 261 (by decide +kernel)
theorem q_219 : (.code yX5_count cX5_count 2 (some .int) : Cond) ∈ lw_all := lw_in 262 (by decide +kernel)
theorem q_220 : (.methodLink RX5 89 yX5_framesMade : Cond) ∈ lw_all := lw_in 263 (by decide +kernel)
theorem q_222 : (.instanceMethod yX5_framesMade : Cond) ∈ lw_all := lw_in 265 (by decide +kernel)
theorem q_223 : (.code yX5_framesMade cX5_framesMade 6 (some .int) : Cond) ∈ lw_all := lw_in 266 (by decide +kernel)
theorem q_224 : (.methodLink RX5 241 yX5_framesHanging : Cond) ∈ lw_all := lw_in 267 (by decide +kernel)
theorem q_226 : (.instanceMethod yX5_framesHanging : Cond) ∈ lw_all := lw_in 269 (by decide +kernel)
theorem q_227 : (.code yX5_framesHanging cX5_framesHanging 6 (some .int) : Cond) ∈ lw_all := lw_in 270 (by decide +kernel)
theorem q_228 : (.methodLink RX5 113 yX0_hangs : Cond) ∈ lw_all := lw_in 271 (by decide +kernel)
theorem q_229 : (.methodLink RX5 231 yX2_total : Cond) ∈ lw_all := lw_in 272 (by decide +kernel)
theorem q_230 : (.instanceMethod yX2_total : Cond) ∈ lw_all := lw_in 273 (by decide +kernel)
theorem q_231 : (.selects RX2 yX2_total yX2_total : Cond) ∈ lw_all := lw_in 274 (by decide +kernel)
theorem q_232 : (.code yX2_total cX2_total 6 (some .int) : Cond) ∈ lw_all := lw_in 275 (by decide +kernel)
theorem q_233 : (.methodLink RX5 200 yX5_ordersTaken : Cond) ∈ lw_all := lw_in 276 (by decide +kernel)
theorem q_235 : (.instanceMethod yX5_ordersTaken : Cond) ∈ lw_all := lw_in 278 (by decide +kernel)
theorem q_236 : (.code yX5_ordersTaken cX5_ordersTaken 6 (some .int) : Cond) ∈ lw_all := lw_in 279 (by decide +kernel)
theorem q_237 : (.methodLink RX5 244 yX5_ordersInState : Cond) ∈ lw_all := lw_in 280 (by decide +kernel)
theorem q_239 : (.instanceMethod yX5_ordersInState : Cond) ∈ lw_all := lw_in 282 (by decide +kernel)
theorem q_240 : (.code yX5_ordersInState cX5_ordersInState 7 (some .int) : Cond) ∈ lw_all := lw_in 283 (by decide +kernel)
theorem q_241 : (.classLink RX5 82 "java/lang/IndexOutOfBoundsException" : Cond) ∈ lw_all := lw_in 284 (by decide +kernel)
theorem q_242 : (.instantiable "java/lang/IndexOutOfBoundsException" 6 : Cond) ∈ lw_all := lw_in 285 (by decide +kernel)
theorem q_262 : (.fieldLink "java/lang/Throwable" 198 "java/lang/Throwable" "backtrace" "Ljava/lang/Object;" : Cond) ∈ lw_all := lw_in 305 (by decide +kernel)
theorem q_266 : (.methodLink "java/lang/Throwable" 1 objectInit : Cond) ∈ lw_all := lw_in 309 (by decide +kernel)
theorem q_267 : (.fieldLink "java/lang/Throwable" 13 "java/lang/Throwable" "UNASSIGNED_STACK" "[Ljava/lang/StackTraceElement;" : Cond) ∈ lw_all := lw_in 310 (by decide +kernel)
theorem q_269 : (.fieldLink "java/lang/Throwable" 20 "java/lang/Throwable" "SUPPRESSED_SENTINEL" "Ljava/util/List;" : Cond) ∈ lw_all := lw_in 312 (by decide +kernel)
theorem q_280 : (.instantiable "java/lang/Throwable" 6 : Cond) ∈ lw_all := lw_in 323 (by decide +kernel)
theorem q_295 : (.fieldLink "java/lang/Throwable" 198 "java/lang/Throwable" "backtrace" "Ljava/lang/Object;" : Cond) ∈ lw_all := lw_in 338 (by decide +kernel)
theorem q_296 : (.fieldLink "java/lang/Throwable" 31 "java/lang/Throwable" "detailMessage" "Ljava/lang/String;" : Cond) ∈ lw_all := lw_in 339 (by decide +kernel)
theorem q_297 : (.fieldLink "java/lang/Throwable" 7 "java/lang/Throwable" "cause" "Ljava/lang/Throwable;" : Cond) ∈ lw_all := lw_in 340 (by decide +kernel)
theorem q_298 : (.fieldLink "java/lang/Throwable" 17 "java/lang/Throwable" "stackTrace" "[Ljava/lang/StackTraceElement;" : Cond) ∈ lw_all := lw_in 341 (by decide +kernel)
theorem q_299 : (.fieldLink "java/lang/Throwable" 24 "java/lang/Throwable" "suppressedExceptions" "Ljava/util/List;" : Cond) ∈ lw_all := lw_in 342 (by decide +kernel)
theorem q_308 : (.arrayClass .byte : Cond) ∈ lw_all := lw_in 351 (by decide +kernel)
theorem q_309 : (.methodLink RX5 281 yX5_vat : Cond) ∈ lw_all := lw_in 352 (by decide +kernel)
theorem q_310 : (.instanceMethod yX5_vat : Cond) ∈ lw_all := lw_in 353 (by decide +kernel)
theorem q_311 : (.selects RX5 yX5_vat yX5_vat : Cond) ∈ lw_all := lw_in 354 (by decide +kernel)
theorem q_312 : (.code yX5_vat cX5_vat 2 (some .int) : Cond) ∈ lw_all := lw_in 355 (by decide +kernel)
theorem q_313 : (.methodLink RX5 78 yX4_isMelted : Cond) ∈ lw_all := lw_in 356 (by decide +kernel)
theorem q_315 : (.methodLink RX5 283 yX5_frame : Cond) ∈ lw_all := lw_in 358 (by decide +kernel)
theorem q_316 : (.instanceMethod yX5_frame : Cond) ∈ lw_all := lw_in 359 (by decide +kernel)
theorem q_317 : (.selects RX5 yX5_frame yX5_frame : Cond) ∈ lw_all := lw_in 360 (by decide +kernel)
theorem q_318 : (.code yX5_frame cX5_frame 4 (some .int) : Cond) ∈ lw_all := lw_in 361 (by decide +kernel)
theorem q_319 : (.methodLink RX5 98 yX5_frameAt : Cond) ∈ lw_all := lw_in 362 (by decide +kernel)
theorem q_321 : (.instanceMethod yX5_frameAt : Cond) ∈ lw_all := lw_in 364 (by decide +kernel)
theorem q_322 : (.code yX5_frameAt cX5_frameAt 2 (some (.object "CandleDip$Frame")) : Cond) ∈ lw_all := lw_in 365 (by decide +kernel)
theorem q_324 : (.methodLink RX5 146 yX0_size : Cond) ∈ lw_all := lw_in 367 (by decide +kernel)
theorem q_325 : (.instanceMethod yX0_size : Cond) ∈ lw_all := lw_in 368 (by decide +kernel)
theorem q_326 : (.selects RX0 yX0_size yX0_size : Cond) ∈ lw_all := lw_in 369 (by decide +kernel)
theorem q_327 : (.code yX0_size cX0_size 1 (some .int) : Cond) ∈ lw_all := lw_in 370 (by decide +kernel)
theorem q_329 : (.methodLink RX5 286 yX5_store : Cond) ∈ lw_all := lw_in 372 (by decide +kernel)
theorem q_330 : (.instanceMethod yX5_store : Cond) ∈ lw_all := lw_in 373 (by decide +kernel)
theorem q_331 : (.selects RX5 yX5_store yX5_store : Cond) ∈ lw_all := lw_in 374 (by decide +kernel)
theorem q_332 : (.code yX5_store cX5_store 3 (some .int) : Cond) ∈ lw_all := lw_in 375 (by decide +kernel)
theorem q_333 : (.methodLink RX5 183 yX2_hasShelf : Cond) ∈ lw_all := lw_in 376 (by decide +kernel)
theorem q_335 : (.methodLink RX5 189 yX2_amount : Cond) ∈ lw_all := lw_in 378 (by decide +kernel)
theorem q_336 : (.methodLink RX5 288 yX5_order : Cond) ∈ lw_all := lw_in 379 (by decide +kernel)
theorem q_337 : (.instanceMethod yX5_order : Cond) ∈ lw_all := lw_in 380 (by decide +kernel)
theorem q_338 : (.selects RX5 yX5_order yX5_order : Cond) ∈ lw_all := lw_in 381 (by decide +kernel)
theorem q_339 : (.code yX5_order cX5_order 4 (some .int) : Cond) ∈ lw_all := lw_in 382 (by decide +kernel)
theorem q_340 : (.methodLink RX5 208 yX5_orderAt : Cond) ∈ lw_all := lw_in 383 (by decide +kernel)
theorem q_342 : (.instanceMethod yX5_orderAt : Cond) ∈ lw_all := lw_in 385 (by decide +kernel)
theorem q_343 : (.code yX5_orderAt cX5_orderAt 2 (some (.object "CandleDip$Order")) : Cond) ∈ lw_all := lw_in 386 (by decide +kernel)
theorem q_345 : (.methodLink RX5 212 yX1_canBeFilled : Cond) ∈ lw_all := lw_in 388 (by decide +kernel)
theorem q_346 : (.instanceMethod yX1_canBeFilled : Cond) ∈ lw_all := lw_in 389 (by decide +kernel)
theorem q_347 : (.selects RX1 yX1_canBeFilled yX1_canBeFilled : Cond) ∈ lw_all := lw_in 390 (by decide +kernel)
theorem q_348 : (.code yX1_canBeFilled cX1_canBeFilled 2 (some .boolean) : Cond) ∈ lw_all := lw_in 391 (by decide +kernel)
theorem q_349 : (.methodLink RX1 27 yX2_amountFrom : Cond) ∈ lw_all := lw_in 392 (by decide +kernel)
theorem q_351 : (.methodLink RL 80 yL_melt : Cond) ∈ lw_all := lw_in 394 (by decide +kernel)
theorem q_352 : (.static yL_melt : Cond) ∈ lw_all := lw_in 395 (by decide +kernel)
theorem q_353 : (.codeWith yL_melt cL_melt 4 (some .int) [(0, 9, 12, 13), (0, 9, 15, 15)] : Cond) ∈ lw_all := lw_in 396 (by decide +kernel)
theorem q_354 : (.classLink RL 13 "java/lang/IllegalArgumentException" : Cond) ∈ lw_all := lw_in 397 (by decide +kernel)
theorem q_355 : (.classLink RL 15 "java/lang/IllegalStateException" : Cond) ∈ lw_all := lw_in 398 (by decide +kernel)
theorem q_356 : (.methodLink RL 7 yX5_melt : Cond) ∈ lw_all := lw_in 399 (by decide +kernel)
theorem q_357 : (.instanceMethod yX5_melt : Cond) ∈ lw_all := lw_in 400 (by decide +kernel)
theorem q_358 : (.selects RX5 yX5_melt yX5_melt : Cond) ∈ lw_all := lw_in 401 (by decide +kernel)
theorem q_359 : (.code yX5_melt cX5_melt 2 (some .int) : Cond) ∈ lw_all := lw_in 402 (by decide +kernel)
theorem q_360 : (.methodLink RX5 46 yX5_within : Cond) ∈ lw_all := lw_in 403 (by decide +kernel)
theorem q_361 : (.classLink RX5 50 "java/lang/IllegalArgumentException" : Cond) ∈ lw_all := lw_in 404 (by decide +kernel)
theorem q_362 : (.instantiable "java/lang/IllegalArgumentException" 6 : Cond) ∈ lw_all := lw_in 405 (by decide +kernel)
theorem q_377 : (.classLink RX5 61 "java/lang/IllegalStateException" : Cond) ∈ lw_all := lw_in 420 (by decide +kernel)
theorem q_378 : (.instantiable "java/lang/IllegalStateException" 6 : Cond) ∈ lw_all := lw_in 421 (by decide +kernel)
theorem q_393 : (.methodLink RX5 66 yX4_throwIn : Cond) ∈ lw_all := lw_in 436 (by decide +kernel)
theorem q_394 : (.instanceMethod yX4_throwIn : Cond) ∈ lw_all := lw_in 437 (by decide +kernel)
theorem q_395 : (.selects RX4 yX4_throwIn yX4_throwIn : Cond) ∈ lw_all := lw_in 438 (by decide +kernel)
theorem q_396 : (.code yX4_throwIn cX4_throwIn 3 none : Cond) ∈ lw_all := lw_in 439 (by decide +kernel)
theorem q_397 : (.methodLink RL 90 yL_setFire : Cond) ∈ lw_all := lw_in 440 (by decide +kernel)
theorem q_398 : (.static yL_setFire : Cond) ∈ lw_all := lw_in 441 (by decide +kernel)
theorem q_399 : (.codeWith yL_setFire cL_setFire 4 (some .int) [(0, 9, 12, 13)] : Cond) ∈ lw_all := lw_in 442 (by decide +kernel)
theorem q_400 : (.methodLink RL 17 yX5_setFire : Cond) ∈ lw_all := lw_in 443 (by decide +kernel)
theorem q_401 : (.instanceMethod yX5_setFire : Cond) ∈ lw_all := lw_in 444 (by decide +kernel)
theorem q_402 : (.selects RX5 yX5_setFire yX5_setFire : Cond) ∈ lw_all := lw_in 445 (by decide +kernel)
theorem q_403 : (.code yX5_setFire cX5_setFire 3 (some .int) : Cond) ∈ lw_all := lw_in 446 (by decide +kernel)
theorem q_405 : (.methodLink RL 93 yL_vat : Cond) ∈ lw_all := lw_in 448 (by decide +kernel)
theorem q_406 : (.static yL_vat : Cond) ∈ lw_all := lw_in 449 (by decide +kernel)
theorem q_407 : (.codeWith yL_vat cL_vat 4 (some .int) [(0, 9, 12, 23)] : Cond) ∈ lw_all := lw_in 450 (by decide +kernel)
theorem q_408 : (.classLink RL 23 "java/lang/IndexOutOfBoundsException" : Cond) ∈ lw_all := lw_in 451 (by decide +kernel)
theorem q_409 : (.methodLink RL 20 yX5_vat : Cond) ∈ lw_all := lw_in 452 (by decide +kernel)
theorem q_410 : (.methodLink RL 96 yL_addFrame : Cond) ∈ lw_all := lw_in 453 (by decide +kernel)
theorem q_411 : (.static yL_addFrame : Cond) ∈ lw_all := lw_in 454 (by decide +kernel)
theorem q_412 : (.codeWith yL_addFrame cL_addFrame 5 (some .int) [(0, 10, 13, 13), (0, 10, 17, 15)] : Cond) ∈ lw_all := lw_in 455 (by decide +kernel)
theorem q_413 : (.methodLink RL 25 yX5_addFrame : Cond) ∈ lw_all := lw_in 456 (by decide +kernel)
theorem q_414 : (.instanceMethod yX5_addFrame : Cond) ∈ lw_all := lw_in 457 (by decide +kernel)
theorem q_415 : (.selects RX5 yX5_addFrame yX5_addFrame : Cond) ∈ lw_all := lw_in 458 (by decide +kernel)
theorem q_416 : (.code yX5_addFrame cX5_addFrame 4 (some .int) : Cond) ∈ lw_all := lw_in 459 (by decide +kernel)
theorem q_419 : (.methodLink RX5 95 yX0_init : Cond) ∈ lw_all := lw_in 462 (by decide +kernel)
theorem q_420 : (.methodLink RL 100 yL_hang : Cond) ∈ lw_all := lw_in 463 (by decide +kernel)
theorem q_421 : (.static yL_hang : Cond) ∈ lw_all := lw_in 464 (by decide +kernel)
theorem q_422 : (.codeWith yL_hang cL_hang 5 (some .int) [(0, 10, 13, 23), (0, 10, 17, 13), (0, 10, 21, 15)] : Cond) ∈ lw_all := lw_in 465 (by decide +kernel)
theorem q_423 : (.methodLink RL 29 yX5_hang : Cond) ∈ lw_all := lw_in 466 (by decide +kernel)
theorem q_424 : (.instanceMethod yX5_hang : Cond) ∈ lw_all := lw_in 467 (by decide +kernel)
theorem q_425 : (.selects RX5 yX5_hang yX5_hang : Cond) ∈ lw_all := lw_in 468 (by decide +kernel)
theorem q_426 : (.code yX5_hang cX5_hang 6 (some .int) : Cond) ∈ lw_all := lw_in 469 (by decide +kernel)
theorem q_428 : (.methodLink RX5 104 yX5_frameOn : Cond) ∈ lw_all := lw_in 471 (by decide +kernel)
theorem q_430 : (.instanceMethod yX5_frameOn : Cond) ∈ lw_all := lw_in 473 (by decide +kernel)
theorem q_431 : (.code yX5_frameOn cX5_frameOn 3 (some .int) : Cond) ∈ lw_all := lw_in 474 (by decide +kernel)
theorem q_433 : (.methodLink RL 103 yL_layAside : Cond) ∈ lw_all := lw_in 476 (by decide +kernel)
theorem q_434 : (.static yL_layAside : Cond) ∈ lw_all := lw_in 477 (by decide +kernel)
theorem q_435 : (.codeWith yL_layAside cL_layAside 4 (some .int) [(0, 9, 12, 23), (0, 9, 15, 15)] : Cond) ∈ lw_all := lw_in 478 (by decide +kernel)
theorem q_436 : (.methodLink RL 32 yX5_layAside : Cond) ∈ lw_all := lw_in 479 (by decide +kernel)
theorem q_437 : (.instanceMethod yX5_layAside : Cond) ∈ lw_all := lw_in 480 (by decide +kernel)
theorem q_438 : (.selects RX5 yX5_layAside yX5_layAside : Cond) ∈ lw_all := lw_in 481 (by decide +kernel)
theorem q_439 : (.code yX5_layAside cX5_layAside 4 (some .int) : Cond) ∈ lw_all := lw_in 482 (by decide +kernel)
theorem q_441 : (.methodLink RL 106 yL_dip : Cond) ∈ lw_all := lw_in 484 (by decide +kernel)
theorem q_442 : (.static yL_dip : Cond) ∈ lw_all := lw_in 485 (by decide +kernel)
theorem q_443 : (.codeWith yL_dip cL_dip 4 (some .int) [(0, 9, 12, 23), (0, 9, 15, 15)] : Cond) ∈ lw_all := lw_in 486 (by decide +kernel)
theorem q_444 : (.methodLink RL 35 yX5_dip : Cond) ∈ lw_all := lw_in 487 (by decide +kernel)
theorem q_445 : (.instanceMethod yX5_dip : Cond) ∈ lw_all := lw_in 488 (by decide +kernel)
theorem q_446 : (.selects RX5 yX5_dip yX5_dip : Cond) ∈ lw_all := lw_in 489 (by decide +kernel)
theorem q_447 : (.code yX5_dip cX5_dip 3 (some .int) : Cond) ∈ lw_all := lw_in 490 (by decide +kernel)
theorem q_449 : (.methodLink RX5 124 yX0_immerse : Cond) ∈ lw_all := lw_in 492 (by decide +kernel)
theorem q_450 : (.instanceMethod yX0_immerse : Cond) ∈ lw_all := lw_in 493 (by decide +kernel)
theorem q_451 : (.selects RX0 yX0_immerse yX0_immerse : Cond) ∈ lw_all := lw_in 494 (by decide +kernel)
theorem q_452 : (.code yX0_immerse cX0_immerse 2 none : Cond) ∈ lw_all := lw_in 495 (by decide +kernel)
theorem q_453 : (.methodLink RX0 64 yX0_meltOff : Cond) ∈ lw_all := lw_in 496 (by decide +kernel)
theorem q_455 : (.instanceMethod yX0_meltOff : Cond) ∈ lw_all := lw_in 498 (by decide +kernel)
theorem q_456 : (.code yX0_meltOff cX0_meltOff 2 none : Cond) ∈ lw_all := lw_in 499 (by decide +kernel)
theorem q_457 : (.methodLink RX0 72 Lib.Math.max.name : Cond) ∈ lw_all := lw_in 500 (by decide +kernel)
theorem q_458 : (.static Lib.Math.max.name : Cond) ∈ lw_all := lw_in 501 (by decide +kernel)
theorem q_459 : (.code Lib.Math.max.name Lib.Math.max.code 2 (some .int) : Cond) ∈ lw_all := lw_in 502 (by decide +kernel)
theorem q_460 : (.methodLink RX0 68 yX0_takeUp : Cond) ∈ lw_all := lw_in 503 (by decide +kernel)
theorem q_462 : (.instanceMethod yX0_takeUp : Cond) ∈ lw_all := lw_in 505 (by decide +kernel)
theorem q_463 : (.code yX0_takeUp cX0_takeUp 3 none : Cond) ∈ lw_all := lw_in 506 (by decide +kernel)
theorem q_464 : (.methodLink RX5 131 yX5_letQuarterGo : Cond) ∈ lw_all := lw_in 507 (by decide +kernel)
theorem q_466 : (.instanceMethod yX5_letQuarterGo : Cond) ∈ lw_all := lw_in 509 (by decide +kernel)
theorem q_467 : (.code yX5_letQuarterGo cX5_letQuarterGo 6 none : Cond) ∈ lw_all := lw_in 510 (by decide +kernel)
theorem q_468 : (.methodLink RX5 295 yX4_burn : Cond) ∈ lw_all := lw_in 511 (by decide +kernel)
theorem q_469 : (.instanceMethod yX4_burn : Cond) ∈ lw_all := lw_in 512 (by decide +kernel)
theorem q_470 : (.selects RX4 yX4_burn yX4_burn : Cond) ∈ lw_all := lw_in 513 (by decide +kernel)
theorem q_471 : (.code yX4_burn cX4_burn 3 none : Cond) ∈ lw_all := lw_in 514 (by decide +kernel)
theorem q_472 : (.methodLink RX4 18 Lib.Math.min.name : Cond) ∈ lw_all := lw_in 515 (by decide +kernel)
theorem q_473 : (.methodLink RX4 27 Lib.Math.max.name : Cond) ∈ lw_all := lw_in 516 (by decide +kernel)
theorem q_474 : (.methodLink RX5 298 yX0_cool : Cond) ∈ lw_all := lw_in 517 (by decide +kernel)
theorem q_475 : (.instanceMethod yX0_cool : Cond) ∈ lw_all := lw_in 518 (by decide +kernel)
theorem q_476 : (.selects RX0 yX0_cool yX0_cool : Cond) ∈ lw_all := lw_in 519 (by decide +kernel)
theorem q_477 : (.code yX0_cool cX0_cool 1 none : Cond) ∈ lw_all := lw_in 520 (by decide +kernel)
theorem q_478 : (.methodLink RX0 79 yX0_coolingOfPlace : Cond) ∈ lw_all := lw_in 521 (by decide +kernel)
theorem q_480 : (.instanceMethod yX0_coolingOfPlace : Cond) ∈ lw_all := lw_in 523 (by decide +kernel)
theorem q_481 : (.code yX0_coolingOfPlace cX0_coolingOfPlace 1 (some .int) : Cond) ∈ lw_all := lw_in 524 (by decide +kernel)
theorem q_482 : (.methodLink RX5 301 yX5_endDay : Cond) ∈ lw_all := lw_in 525 (by decide +kernel)
theorem q_484 : (.instanceMethod yX5_endDay : Cond) ∈ lw_all := lw_in 527 (by decide +kernel)
theorem q_485 : (.code yX5_endDay cX5_endDay 6 none : Cond) ∈ lw_all := lw_in 528 (by decide +kernel)
theorem q_486 : (.methodLink RL 109 yL_cutOff : Cond) ∈ lw_all := lw_in 529 (by decide +kernel)
theorem q_487 : (.static yL_cutOff : Cond) ∈ lw_all := lw_in 530 (by decide +kernel)
theorem q_488 : (.codeWith yL_cutOff cL_cutOff 4 (some .int) [(0, 9, 12, 23), (0, 9, 15, 15)] : Cond) ∈ lw_all := lw_in 531 (by decide +kernel)
theorem q_489 : (.methodLink RL 38 yX5_cutOff : Cond) ∈ lw_all := lw_in 532 (by decide +kernel)
theorem q_490 : (.instanceMethod yX5_cutOff : Cond) ∈ lw_all := lw_in 533 (by decide +kernel)
theorem q_491 : (.selects RX5 yX5_cutOff yX5_cutOff : Cond) ∈ lw_all := lw_in 534 (by decide +kernel)
theorem q_492 : (.code yX5_cutOff cX5_cutOff 4 (some .int) : Cond) ∈ lw_all := lw_in 535 (by decide +kernel)
theorem q_493 : (.methodLink RX5 138 yX0_isBare : Cond) ∈ lw_all := lw_in 536 (by decide +kernel)
theorem q_494 : (.methodLink RX5 141 yX0_isTooWarmToCut : Cond) ∈ lw_all := lw_in 537 (by decide +kernel)
theorem q_495 : (.instanceMethod yX0_isTooWarmToCut : Cond) ∈ lw_all := lw_in 538 (by decide +kernel)
theorem q_496 : (.selects RX0 yX0_isTooWarmToCut yX0_isTooWarmToCut : Cond) ∈ lw_all := lw_in 539 (by decide +kernel)
theorem q_497 : (.code yX0_isTooWarmToCut cX0_isTooWarmToCut 1 (some .boolean) : Cond) ∈ lw_all := lw_in 540 (by decide +kernel)
theorem q_499 : (.methodLink RX5 155 yX0_waxOf : Cond) ∈ lw_all := lw_in 542 (by decide +kernel)
theorem q_500 : (.methodLink RX5 158 yX4_takeBack : Cond) ∈ lw_all := lw_in 543 (by decide +kernel)
theorem q_501 : (.instanceMethod yX4_takeBack : Cond) ∈ lw_all := lw_in 544 (by decide +kernel)
theorem q_502 : (.selects RX4 yX4_takeBack yX4_takeBack : Cond) ∈ lw_all := lw_in 545 (by decide +kernel)
theorem q_503 : (.code yX4_takeBack cX4_takeBack 2 none : Cond) ∈ lw_all := lw_in 546 (by decide +kernel)
theorem q_504 : (.methodLink RX5 164 yX2_put : Cond) ∈ lw_all := lw_in 547 (by decide +kernel)
theorem q_505 : (.instanceMethod yX2_put : Cond) ∈ lw_all := lw_in 548 (by decide +kernel)
theorem q_506 : (.selects RX2 yX2_put yX2_put : Cond) ∈ lw_all := lw_in 549 (by decide +kernel)
theorem q_507 : (.code yX2_put cX2_put 4 none : Cond) ∈ lw_all := lw_in 550 (by decide +kernel)
theorem q_508 : (.methodLink RX5 168 yX0_renewWicks : Cond) ∈ lw_all := lw_in 551 (by decide +kernel)
theorem q_509 : (.instanceMethod yX0_renewWicks : Cond) ∈ lw_all := lw_in 552 (by decide +kernel)
theorem q_510 : (.selects RX0 yX0_renewWicks yX0_renewWicks : Cond) ∈ lw_all := lw_in 553 (by decide +kernel)
theorem q_511 : (.code yX0_renewWicks cX0_renewWicks 1 none : Cond) ∈ lw_all := lw_in 554 (by decide +kernel)
theorem q_512 : (.methodLink RL 112 yL_frame : Cond) ∈ lw_all := lw_in 555 (by decide +kernel)
theorem q_513 : (.static yL_frame : Cond) ∈ lw_all := lw_in 556 (by decide +kernel)
theorem q_514 : (.codeWith yL_frame cL_frame 5 (some .int) [(0, 10, 13, 23)] : Cond) ∈ lw_all := lw_in 557 (by decide +kernel)
theorem q_515 : (.methodLink RL 41 yX5_frame : Cond) ∈ lw_all := lw_in 558 (by decide +kernel)
theorem q_516 : (.methodLink RL 115 yL_hook : Cond) ∈ lw_all := lw_in 559 (by decide +kernel)
theorem q_517 : (.static yL_hook : Cond) ∈ lw_all := lw_in 560 (by decide +kernel)
theorem q_518 : (.codeWith yL_hook cL_hook 4 (some .int) [(0, 9, 12, 23)] : Cond) ∈ lw_all := lw_in 561 (by decide +kernel)
theorem q_519 : (.methodLink RL 44 yX5_hook : Cond) ∈ lw_all := lw_in 562 (by decide +kernel)
theorem q_520 : (.instanceMethod yX5_hook : Cond) ∈ lw_all := lw_in 563 (by decide +kernel)
theorem q_521 : (.selects RX5 yX5_hook yX5_hook : Cond) ∈ lw_all := lw_in 564 (by decide +kernel)
theorem q_522 : (.code yX5_hook cX5_hook 2 (some .int) : Cond) ∈ lw_all := lw_in 565 (by decide +kernel)
theorem q_523 : (.methodLink RL 118 yL_store : Cond) ∈ lw_all := lw_in 566 (by decide +kernel)
theorem q_524 : (.static yL_store : Cond) ∈ lw_all := lw_in 567 (by decide +kernel)
theorem q_525 : (.codeWith yL_store cL_store 5 (some .int) [(0, 10, 13, 23)] : Cond) ∈ lw_all := lw_in 568 (by decide +kernel)
theorem q_526 : (.methodLink RL 47 yX5_store : Cond) ∈ lw_all := lw_in 569 (by decide +kernel)
theorem q_527 : (.methodLink RL 121 yL_addOrder : Cond) ∈ lw_all := lw_in 570 (by decide +kernel)
theorem q_528 : (.static yL_addOrder : Cond) ∈ lw_all := lw_in 571 (by decide +kernel)
theorem q_529 : (.codeWith yL_addOrder cL_addOrder 7 (some .int) [(0, 14, 17, 13), (0, 14, 21, 15)] : Cond) ∈ lw_all := lw_in 572 (by decide +kernel)
theorem q_530 : (.methodLink RL 50 yX5_addOrder : Cond) ∈ lw_all := lw_in 573 (by decide +kernel)
theorem q_531 : (.instanceMethod yX5_addOrder : Cond) ∈ lw_all := lw_in 574 (by decide +kernel)
theorem q_532 : (.selects RX5 yX5_addOrder yX5_addOrder : Cond) ∈ lw_all := lw_in 575 (by decide +kernel)
theorem q_533 : (.code yX5_addOrder cX5_addOrder 6 (some .int) : Cond) ∈ lw_all := lw_in 576 (by decide +kernel)
theorem q_537 : (.instantiable RX1 5 : Cond) ∈ lw_all := lw_in 580 (by decide +kernel)
theorem q_538 : (.methodLink RX5 205 yX1_init : Cond) ∈ lw_all := lw_in 581 (by decide +kernel)
theorem q_539 : (.instanceMethod yX1_init : Cond) ∈ lw_all := lw_in 582 (by decide +kernel)
theorem q_540 : (.code yX1_init cX1_init 5 none : Cond) ∈ lw_all := lw_in 583 (by decide +kernel)
theorem q_541 : (.methodLink RX1 3 objectInit : Cond) ∈ lw_all := lw_in 584 (by decide +kernel)
theorem q_542 : (.fieldLink RX1 15 "CandleDip$Order" "kind" "I" : Cond) ∈ lw_all := lw_in 585 (by decide +kernel)
theorem q_543 : (.fieldLink RX5 218 "CandleDip$Order" "kind" "I" : Cond) ∈ lw_all := lw_in 586 (by decide +kernel)
theorem q_544 : (.fieldLink RX1 18 "CandleDip$Order" "leastSize" "I" : Cond) ∈ lw_all := lw_in 587 (by decide +kernel)
theorem q_545 : (.fieldLink RX5 219 "CandleDip$Order" "leastSize" "I" : Cond) ∈ lw_all := lw_in 588 (by decide +kernel)
theorem q_546 : (.fieldLink RX1 21 "CandleDip$Order" "many" "I" : Cond) ∈ lw_all := lw_in 589 (by decide +kernel)
theorem q_547 : (.fieldLink RX5 222 "CandleDip$Order" "many" "I" : Cond) ∈ lw_all := lw_in 590 (by decide +kernel)
theorem q_548 : (.fieldLink RX1 24 "CandleDip$Order" "day" "I" : Cond) ∈ lw_all := lw_in 591 (by decide +kernel)
theorem q_549 : (.fieldLink RX5 234 "CandleDip$Order" "day" "I" : Cond) ∈ lw_all := lw_in 592 (by decide +kernel)
theorem q_550 : (.fieldLink RX1 9 "CandleDip$Order" "state" "I" : Cond) ∈ lw_all := lw_in 593 (by decide +kernel)
theorem q_551 : (.fieldLink RX5 228 "CandleDip$Order" "state" "I" : Cond) ∈ lw_all := lw_in 594 (by decide +kernel)
theorem q_563 : (.methodLink RL 125 yL_fill : Cond) ∈ lw_all := lw_in 606 (by decide +kernel)
theorem q_564 : (.static yL_fill : Cond) ∈ lw_all := lw_in 607 (by decide +kernel)
theorem q_565 : (.codeWith yL_fill cL_fill 4 (some .int) [(0, 9, 12, 23), (0, 9, 15, 15)] : Cond) ∈ lw_all := lw_in 608 (by decide +kernel)
theorem q_566 : (.methodLink RL 54 yX5_fill : Cond) ∈ lw_all := lw_in 609 (by decide +kernel)
theorem q_567 : (.instanceMethod yX5_fill : Cond) ∈ lw_all := lw_in 610 (by decide +kernel)
theorem q_568 : (.selects RX5 yX5_fill yX5_fill : Cond) ∈ lw_all := lw_in 611 (by decide +kernel)
theorem q_569 : (.code yX5_fill cX5_fill 3 (some .int) : Cond) ∈ lw_all := lw_in 612 (by decide +kernel)
theorem q_571 : (.methodLink RX5 225 yX2_take : Cond) ∈ lw_all := lw_in 614 (by decide +kernel)
theorem q_572 : (.instanceMethod yX2_take : Cond) ∈ lw_all := lw_in 615 (by decide +kernel)
theorem q_573 : (.selects RX2 yX2_take yX2_take : Cond) ∈ lw_all := lw_in 616 (by decide +kernel)
theorem q_574 : (.code yX2_take cX2_take 7 none : Cond) ∈ lw_all := lw_in 617 (by decide +kernel)
theorem q_575 : (.methodLink RX2 27 Lib.Math.min.name : Cond) ∈ lw_all := lw_in 618 (by decide +kernel)
theorem q_576 : (.methodLink RX2 32 yX2_put : Cond) ∈ lw_all := lw_in 619 (by decide +kernel)
theorem q_577 : (.methodLink RL 128 yL_order : Cond) ∈ lw_all := lw_in 620 (by decide +kernel)
theorem q_578 : (.static yL_order : Cond) ∈ lw_all := lw_in 621 (by decide +kernel)
theorem q_579 : (.codeWith yL_order cL_order 5 (some .int) [(0, 10, 13, 23)] : Cond) ∈ lw_all := lw_in 622 (by decide +kernel)
theorem q_580 : (.methodLink RL 57 yX5_order : Cond) ∈ lw_all := lw_in 623 (by decide +kernel)
theorem q_581 : (.methodLink RL 131 yL_pass : Cond) ∈ lw_all := lw_in 624 (by decide +kernel)
theorem q_582 : (.static yL_pass : Cond) ∈ lw_all := lw_in 625 (by decide +kernel)
theorem q_583 : (.codeWith yL_pass cL_pass 4 (some .int) [(0, 9, 12, 13)] : Cond) ∈ lw_all := lw_in 626 (by decide +kernel)
theorem q_584 : (.methodLink RL 60 yX5_pass : Cond) ∈ lw_all := lw_in 627 (by decide +kernel)
theorem q_585 : (.instanceMethod yX5_pass : Cond) ∈ lw_all := lw_in 628 (by decide +kernel)
theorem q_586 : (.selects RX5 yX5_pass yX5_pass : Cond) ∈ lw_all := lw_in 629 (by decide +kernel)
theorem q_587 : (.code yX5_pass cX5_pass 3 (some .int) : Cond) ∈ lw_all := lw_in 630 (by decide +kernel)
theorem q_589 : (.methodLink RL 134 yL_count : Cond) ∈ lw_all := lw_in 632 (by decide +kernel)
theorem q_590 : (.static yL_count : Cond) ∈ lw_all := lw_in 633 (by decide +kernel)
theorem q_591 : (.codeWith yL_count cL_count 4 (some .int) [(0, 9, 12, 23)] : Cond) ∈ lw_all := lw_in 634 (by decide +kernel)
theorem q_592 : (.methodLink RL 63 yX5_count : Cond) ∈ lw_all := lw_in 635 (by decide +kernel)
theorem q_593 : (.methodLink RL 137 yL_would : Cond) ∈ lw_all := lw_in 636 (by decide +kernel)
theorem q_594 : (.static yL_would : Cond) ∈ lw_all := lw_in 637 (by decide +kernel)
theorem q_595 : (.codeWith yL_would cL_would 5 (some .int) [(0, 10, 13, 23), (0, 10, 17, 13), (0, 10, 21, 15)] : Cond) ∈ lw_all := lw_in 638 (by decide +kernel)
theorem q_596 : (.methodLink RL 66 yX5_would : Cond) ∈ lw_all := lw_in 639 (by decide +kernel)
theorem q_597 : (.instanceMethod yX5_would : Cond) ∈ lw_all := lw_in 640 (by decide +kernel)
theorem q_598 : (.selects RX5 yX5_would yX5_would : Cond) ∈ lw_all := lw_in 641 (by decide +kernel)
theorem q_599 : (.code yX5_would cX5_would 4 (some .int) : Cond) ∈ lw_all := lw_in 642 (by decide +kernel)
theorem q_602 : (.methodLink RX5 253 yX3_thicknessAfter : Cond) ∈ lw_all := lw_in 645 (by decide +kernel)
theorem q_603 : (.instanceMethod yX3_thicknessAfter : Cond) ∈ lw_all := lw_in 646 (by decide +kernel)
theorem q_604 : (.selects RX3 yX3_thicknessAfter yX3_thicknessAfter : Cond) ∈ lw_all := lw_in 647 (by decide +kernel)
theorem q_605 : (.code yX3_thicknessAfter cX3_thicknessAfter 5 (some .int) : Cond) ∈ lw_all := lw_in 648 (by decide +kernel)
theorem q_606 : (.methodLink RX3 27 yX3_begin : Cond) ∈ lw_all := lw_in 649 (by decide +kernel)
theorem q_608 : (.instanceMethod yX3_begin : Cond) ∈ lw_all := lw_in 651 (by decide +kernel)
theorem q_609 : (.code yX3_begin cX3_begin 3 none : Cond) ∈ lw_all := lw_in 652 (by decide +kernel)
theorem q_610 : (.methodLink RX3 51 yX0_copyFrom : Cond) ∈ lw_all := lw_in 653 (by decide +kernel)
theorem q_611 : (.instanceMethod yX0_copyFrom : Cond) ∈ lw_all := lw_in 654 (by decide +kernel)
theorem q_612 : (.selects RX0 yX0_copyFrom yX0_copyFrom : Cond) ∈ lw_all := lw_in 655 (by decide +kernel)
theorem q_613 : (.code yX0_copyFrom cX0_copyFrom 2 none : Cond) ∈ lw_all := lw_in 656 (by decide +kernel)
theorem q_614 : (.methodLink RX3 55 yX4_copyFrom : Cond) ∈ lw_all := lw_in 657 (by decide +kernel)
theorem q_615 : (.instanceMethod yX4_copyFrom : Cond) ∈ lw_all := lw_in 658 (by decide +kernel)
theorem q_616 : (.selects RX4 yX4_copyFrom yX4_copyFrom : Cond) ∈ lw_all := lw_in 659 (by decide +kernel)
theorem q_617 : (.code yX4_copyFrom cX4_copyFrom 2 none : Cond) ∈ lw_all := lw_in 660 (by decide +kernel)
theorem q_618 : (.methodLink RX3 31 yX3_tryDip : Cond) ∈ lw_all := lw_in 661 (by decide +kernel)
theorem q_620 : (.instanceMethod yX3_tryDip : Cond) ∈ lw_all := lw_in 663 (by decide +kernel)
theorem q_621 : (.code yX3_tryDip cX3_tryDip 1 (some .boolean) : Cond) ∈ lw_all := lw_in 664 (by decide +kernel)
theorem q_622 : (.methodLink RX3 58 yX0_canBeDipped : Cond) ∈ lw_all := lw_in 665 (by decide +kernel)
theorem q_623 : (.methodLink RX3 62 yX0_immerse : Cond) ∈ lw_all := lw_in 666 (by decide +kernel)
theorem q_624 : (.methodLink RX3 65 yX4_burn : Cond) ∈ lw_all := lw_in 667 (by decide +kernel)
theorem q_625 : (.methodLink RL 140 yL_dipsTo : Cond) ∈ lw_all := lw_in 668 (by decide +kernel)
theorem q_626 : (.static yL_dipsTo : Cond) ∈ lw_all := lw_in 669 (by decide +kernel)
theorem q_627 : (.codeWith yL_dipsTo cL_dipsTo 6 (some .int) [(0, 12, 15, 23), (0, 12, 19, 13), (0, 12, 23, 15)] : Cond) ∈ lw_all := lw_in 670 (by decide +kernel)
theorem q_628 : (.methodLink RL 69 yX5_dipsTo : Cond) ∈ lw_all := lw_in 671 (by decide +kernel)
theorem q_629 : (.instanceMethod yX5_dipsTo : Cond) ∈ lw_all := lw_in 672 (by decide +kernel)
theorem q_630 : (.selects RX5 yX5_dipsTo yX5_dipsTo : Cond) ∈ lw_all := lw_in 673 (by decide +kernel)
theorem q_631 : (.code yX5_dipsTo cX5_dipsTo 5 (some .int) : Cond) ∈ lw_all := lw_in 674 (by decide +kernel)
theorem q_633 : (.methodLink RX5 259 yX3_dipsNeeded : Cond) ∈ lw_all := lw_in 676 (by decide +kernel)
theorem q_634 : (.instanceMethod yX3_dipsNeeded : Cond) ∈ lw_all := lw_in 677 (by decide +kernel)
theorem q_635 : (.selects RX3 yX3_dipsNeeded yX3_dipsNeeded : Cond) ∈ lw_all := lw_in 678 (by decide +kernel)
theorem q_636 : (.code yX3_dipsNeeded cX3_dipsNeeded 6 (some .int) : Cond) ∈ lw_all := lw_in 679 (by decide +kernel)
theorem q_637 : (.methodLink RX3 39 yX0_size : Cond) ∈ lw_all := lw_in 680 (by decide +kernel)
theorem q_638 : (.methodLink RX3 43 yX3_letRest : Cond) ∈ lw_all := lw_in 681 (by decide +kernel)
theorem q_640 : (.instanceMethod yX3_letRest : Cond) ∈ lw_all := lw_in 683 (by decide +kernel)
theorem q_641 : (.code yX3_letRest cX3_letRest 3 none : Cond) ∈ lw_all := lw_in 684 (by decide +kernel)
theorem q_642 : (.methodLink RX3 68 yX0_cool : Cond) ∈ lw_all := lw_in 685 (by decide +kernel)
theorem q_643 : (.methodLink RL 144 yL_bestRest : Cond) ∈ lw_all := lw_in 686 (by decide +kernel)
theorem q_644 : (.static yL_bestRest : Cond) ∈ lw_all := lw_in 687 (by decide +kernel)
theorem q_645 : (.codeWith yL_bestRest cL_bestRest 5 (some .int) [(0, 10, 13, 23), (0, 10, 17, 13), (0, 10, 21, 15)] : Cond) ∈ lw_all := lw_in 688 (by decide +kernel)
theorem q_646 : (.methodLink RL 73 yX5_bestRest : Cond) ∈ lw_all := lw_in 689 (by decide +kernel)
theorem q_647 : (.instanceMethod yX5_bestRest : Cond) ∈ lw_all := lw_in 690 (by decide +kernel)
theorem q_648 : (.selects RX5 yX5_bestRest yX5_bestRest : Cond) ∈ lw_all := lw_in 691 (by decide +kernel)
theorem q_649 : (.code yX5_bestRest cX5_bestRest 4 (some .int) : Cond) ∈ lw_all := lw_in 692 (by decide +kernel)
theorem q_651 : (.methodLink RX5 265 yX3_quickestRest : Cond) ∈ lw_all := lw_in 694 (by decide +kernel)
theorem q_652 : (.instanceMethod yX3_quickestRest : Cond) ∈ lw_all := lw_in 695 (by decide +kernel)
theorem q_653 : (.selects RX3 yX3_quickestRest yX3_quickestRest : Cond) ∈ lw_all := lw_in 696 (by decide +kernel)
theorem q_654 : (.code yX3_quickestRest cX3_quickestRest 9 (some .int) : Cond) ∈ lw_all := lw_in 697 (by decide +kernel)
theorem q_655 : (.methodLink RX3 47 yX3_dipsNeeded : Cond) ∈ lw_all := lw_in 698 (by decide +kernel)
theorem q_656 : (.classLink RL 77 RX6 : Cond) ∈ lw_all := lw_in 699 (by decide +kernel)
theorem q_657 : (.instantiable RX6 14 : Cond) ∈ lw_all := lw_in 700 (by decide +kernel)
theorem q_658 : (.methodLink RL 79 yX6_init : Cond) ∈ lw_all := lw_in 701 (by decide +kernel)
theorem q_659 : (.instanceMethod yX6_init : Cond) ∈ lw_all := lw_in 702 (by decide +kernel)
theorem q_660 : (.code yX6_init cX6_init 1 none : Cond) ∈ lw_all := lw_in 703 (by decide +kernel)
theorem q_661 : (.methodLink RX6 1 objectInit : Cond) ∈ lw_all := lw_in 704 (by decide +kernel)
theorem q_662 : (.fieldLink RX6 30 "CandleDipModel" "thrown" "I" : Cond) ∈ lw_all := lw_in 705 (by decide +kernel)
theorem q_663 : (.fieldLink RX6 44 "CandleDipModel" "wax" "I" : Cond) ∈ lw_all := lw_in 706 (by decide +kernel)
theorem q_664 : (.fieldLink RX6 7 "CandleDipModel" "heat" "I" : Cond) ∈ lw_all := lw_in 707 (by decide +kernel)
theorem q_665 : (.fieldLink RX6 47 "CandleDipModel" "level" "I" : Cond) ∈ lw_all := lw_in 708 (by decide +kernel)
theorem q_666 : (.fieldLink RX6 33 "CandleDipModel" "frames" "I" : Cond) ∈ lw_all := lw_in 709 (by decide +kernel)
theorem q_667 : (.fieldLink RX6 13 "CandleDipModel" "table" "[I" : Cond) ∈ lw_all := lw_in 710 (by decide +kernel)
theorem q_668 : (.fieldLink RX6 17 "CandleDipModel" "store" "[I" : Cond) ∈ lw_all := lw_in 711 (by decide +kernel)
theorem q_669 : (.fieldLink RX6 97 "CandleDipModel" "orders" "I" : Cond) ∈ lw_all := lw_in 712 (by decide +kernel)
theorem q_670 : (.fieldLink RX6 20 "CandleDipModel" "orderTable" "[I" : Cond) ∈ lw_all := lw_in 713 (by decide +kernel)
theorem q_671 : (.fieldLink RX6 94 "CandleDipModel" "quarter" "I" : Cond) ∈ lw_all := lw_in 714 (by decide +kernel)
theorem q_672 : (.fieldLink RX6 116 "CandleDipModel" "dips" "I" : Cond) ∈ lw_all := lw_in 715 (by decide +kernel)
theorem q_673 : (.fieldLink RX6 125 "CandleDipModel" "away" "I" : Cond) ∈ lw_all := lw_in 716 (by decide +kernel)
theorem q_674 : (.fieldLink RX6 23 "CandleDipModel" "it" "[I" : Cond) ∈ lw_all := lw_in 717 (by decide +kernel)
theorem q_675 : (.fieldLink RX6 26 "CandleDipModel" "chosen" "[Z" : Cond) ∈ lw_all := lw_in 718 (by decide +kernel)
theorem q_705 : (.arrayClass .boolean : Cond) ∈ lw_all := lw_in 748 (by decide +kernel)
theorem q_706 : (.methodLink RL 86 yX6_thrown : Cond) ∈ lw_all := lw_in 749 (by decide +kernel)
theorem q_707 : (.instanceMethod yX6_thrown : Cond) ∈ lw_all := lw_in 750 (by decide +kernel)
theorem q_708 : (.selects RX6 yX6_thrown yX6_thrown : Cond) ∈ lw_all := lw_in 751 (by decide +kernel)
theorem q_709 : (.code yX6_thrown cX6_thrown 1 (some .int) : Cond) ∈ lw_all := lw_in 752 (by decide +kernel)
theorem q_710 : (.methodLink RL 85 yX6_melt : Cond) ∈ lw_all := lw_in 753 (by decide +kernel)
theorem q_711 : (.instanceMethod yX6_melt : Cond) ∈ lw_all := lw_in 754 (by decide +kernel)
theorem q_712 : (.selects RX6 yX6_melt yX6_melt : Cond) ∈ lw_all := lw_in 755 (by decide +kernel)
theorem q_713 : (.code yX6_melt cX6_melt 2 (some .int) : Cond) ∈ lw_all := lw_in 756 (by decide +kernel)
theorem q_714 : (.methodLink RX6 36 yX6_isIn : Cond) ∈ lw_all := lw_in 757 (by decide +kernel)
theorem q_715 : (.static yX6_isIn : Cond) ∈ lw_all := lw_in 758 (by decide +kernel)
theorem q_716 : (.code yX6_isIn cX6_isIn 3 (some .boolean) : Cond) ∈ lw_all := lw_in 759 (by decide +kernel)
theorem q_717 : (.methodLink RX6 40 yX6_fail : Cond) ∈ lw_all := lw_in 760 (by decide +kernel)
theorem q_719 : (.instanceMethod yX6_fail : Cond) ∈ lw_all := lw_in 762 (by decide +kernel)
theorem q_720 : (.code yX6_fail cX6_fail 2 (some .int) : Cond) ∈ lw_all := lw_in 763 (by decide +kernel)
theorem q_721 : (.methodLink RL 92 yX6_setFire : Cond) ∈ lw_all := lw_in 764 (by decide +kernel)
theorem q_722 : (.instanceMethod yX6_setFire : Cond) ∈ lw_all := lw_in 765 (by decide +kernel)
theorem q_723 : (.selects RX6 yX6_setFire yX6_setFire : Cond) ∈ lw_all := lw_in 766 (by decide +kernel)
theorem q_724 : (.code yX6_setFire cX6_setFire 3 (some .int) : Cond) ∈ lw_all := lw_in 767 (by decide +kernel)
theorem q_725 : (.methodLink RL 95 yX6_vat : Cond) ∈ lw_all := lw_in 768 (by decide +kernel)
theorem q_726 : (.instanceMethod yX6_vat : Cond) ∈ lw_all := lw_in 769 (by decide +kernel)
theorem q_727 : (.selects RX6 yX6_vat yX6_vat : Cond) ∈ lw_all := lw_in 770 (by decide +kernel)
theorem q_728 : (.code yX6_vat cX6_vat 2 (some .int) : Cond) ∈ lw_all := lw_in 771 (by decide +kernel)
theorem q_729 : (.methodLink RX6 50 yX6_vatTold : Cond) ∈ lw_all := lw_in 772 (by decide +kernel)
theorem q_731 : (.instanceMethod yX6_vatTold : Cond) ∈ lw_all := lw_in 774 (by decide +kernel)
theorem q_732 : (.code yX6_vatTold cX6_vatTold 2 (some .int) : Cond) ∈ lw_all := lw_in 775 (by decide +kernel)
theorem q_733 : (.methodLink RL 99 yX6_addFrame : Cond) ∈ lw_all := lw_in 776 (by decide +kernel)
theorem q_734 : (.instanceMethod yX6_addFrame : Cond) ∈ lw_all := lw_in 777 (by decide +kernel)
theorem q_735 : (.selects RX6 yX6_addFrame yX6_addFrame : Cond) ∈ lw_all := lw_in 778 (by decide +kernel)
theorem q_736 : (.code yX6_addFrame cX6_addFrame 4 (some .int) : Cond) ∈ lw_all := lw_in 779 (by decide +kernel)
theorem q_737 : (.methodLink RX6 53 arraycopyName : Cond) ∈ lw_all := lw_in 780 (by decide +kernel)
theorem q_738 : (.static arraycopyName : Cond) ∈ lw_all := lw_in 781 (by decide +kernel)
theorem q_739 : (.native arraycopyName : Cond) ∈ lw_all := lw_in 782 (by decide +kernel)
theorem q_740 : (.methodLink RL 102 yX6_hang : Cond) ∈ lw_all := lw_in 783 (by decide +kernel)
theorem q_741 : (.instanceMethod yX6_hang : Cond) ∈ lw_all := lw_in 784 (by decide +kernel)
theorem q_742 : (.selects RX6 yX6_hang yX6_hang : Cond) ∈ lw_all := lw_in 785 (by decide +kernel)
theorem q_743 : (.code yX6_hang cX6_hang 4 (some .int) : Cond) ∈ lw_all := lw_in 786 (by decide +kernel)
theorem q_744 : (.methodLink RX6 63 yX6_isFrame : Cond) ∈ lw_all := lw_in 787 (by decide +kernel)
theorem q_746 : (.instanceMethod yX6_isFrame : Cond) ∈ lw_all := lw_in 789 (by decide +kernel)
theorem q_747 : (.code yX6_isFrame cX6_isFrame 2 (some .boolean) : Cond) ∈ lw_all := lw_in 790 (by decide +kernel)
theorem q_748 : (.methodLink RX6 67 yX6_at : Cond) ∈ lw_all := lw_in 791 (by decide +kernel)
theorem q_750 : (.instanceMethod yX6_at : Cond) ∈ lw_all := lw_in 793 (by decide +kernel)
theorem q_751 : (.code yX6_at cX6_at 3 (some .int) : Cond) ∈ lw_all := lw_in 794 (by decide +kernel)
theorem q_752 : (.methodLink RX6 59 yX6_fr : Cond) ∈ lw_all := lw_in 795 (by decide +kernel)
theorem q_754 : (.instanceMethod yX6_fr : Cond) ∈ lw_all := lw_in 797 (by decide +kernel)
theorem q_755 : (.code yX6_fr cX6_fr 3 (some .int) : Cond) ∈ lw_all := lw_in 798 (by decide +kernel)
theorem q_756 : (.methodLink RX6 70 yX6_set : Cond) ∈ lw_all := lw_in 799 (by decide +kernel)
theorem q_758 : (.instanceMethod yX6_set : Cond) ∈ lw_all := lw_in 801 (by decide +kernel)
theorem q_759 : (.code yX6_set cX6_set 4 none : Cond) ∈ lw_all := lw_in 802 (by decide +kernel)
theorem q_760 : (.methodLink RL 105 yX6_layAside : Cond) ∈ lw_all := lw_in 803 (by decide +kernel)
theorem q_761 : (.instanceMethod yX6_layAside : Cond) ∈ lw_all := lw_in 804 (by decide +kernel)
theorem q_762 : (.selects RX6 yX6_layAside yX6_layAside : Cond) ∈ lw_all := lw_in 805 (by decide +kernel)
theorem q_763 : (.code yX6_layAside cX6_layAside 3 (some .int) : Cond) ∈ lw_all := lw_in 806 (by decide +kernel)
theorem q_764 : (.methodLink RL 108 yX6_dip : Cond) ∈ lw_all := lw_in 807 (by decide +kernel)
theorem q_765 : (.instanceMethod yX6_dip : Cond) ∈ lw_all := lw_in 808 (by decide +kernel)
theorem q_766 : (.selects RX6 yX6_dip yX6_dip : Cond) ∈ lw_all := lw_in 809 (by decide +kernel)
theorem q_767 : (.code yX6_dip cX6_dip 2 (some .int) : Cond) ∈ lw_all := lw_in 810 (by decide +kernel)
theorem q_768 : (.methodLink RX6 103 yX6_take : Cond) ∈ lw_all := lw_in 811 (by decide +kernel)
theorem q_770 : (.instanceMethod yX6_take : Cond) ∈ lw_all := lw_in 813 (by decide +kernel)
theorem q_771 : (.code yX6_take cX6_take 2 none : Cond) ∈ lw_all := lw_in 814 (by decide +kernel)
theorem q_772 : (.methodLink RX6 107 yX6_hangs : Cond) ∈ lw_all := lw_in 815 (by decide +kernel)
theorem q_774 : (.instanceMethod yX6_hangs : Cond) ∈ lw_all := lw_in 817 (by decide +kernel)
theorem q_775 : (.code yX6_hangs cX6_hangs 2 (some .boolean) : Cond) ∈ lw_all := lw_in 818 (by decide +kernel)
theorem q_776 : (.methodLink RX6 110 yX6_can : Cond) ∈ lw_all := lw_in 819 (by decide +kernel)
theorem q_778 : (.instanceMethod yX6_can : Cond) ∈ lw_all := lw_in 821 (by decide +kernel)
theorem q_779 : (.code yX6_can cX6_can 2 (some .boolean) : Cond) ∈ lw_all := lw_in 822 (by decide +kernel)
theorem q_780 : (.methodLink RX6 79 yX6_grows : Cond) ∈ lw_all := lw_in 823 (by decide +kernel)
theorem q_782 : (.instanceMethod yX6_grows : Cond) ∈ lw_all := lw_in 825 (by decide +kernel)
theorem q_783 : (.code yX6_grows cX6_grows 3 (some .int) : Cond) ∈ lw_all := lw_in 826 (by decide +kernel)
theorem q_784 : (.methodLink RX6 74 Lib.Math.min.name : Cond) ∈ lw_all := lw_in 827 (by decide +kernel)
theorem q_785 : (.methodLink RX6 82 yX6_waxOf : Cond) ∈ lw_all := lw_in 828 (by decide +kernel)
theorem q_787 : (.instanceMethod yX6_waxOf : Cond) ∈ lw_all := lw_in 830 (by decide +kernel)
theorem q_788 : (.code yX6_waxOf cX6_waxOf 3 (some .int) : Cond) ∈ lw_all := lw_in 831 (by decide +kernel)
theorem q_789 : (.methodLink RX6 113 yX6_dipIt : Cond) ∈ lw_all := lw_in 832 (by decide +kernel)
theorem q_791 : (.instanceMethod yX6_dipIt : Cond) ∈ lw_all := lw_in 834 (by decide +kernel)
theorem q_792 : (.code yX6_dipIt cX6_dipIt 3 none : Cond) ∈ lw_all := lw_in 835 (by decide +kernel)
theorem q_793 : (.methodLink RX6 119 yX6_quarterOn : Cond) ∈ lw_all := lw_in 836 (by decide +kernel)
theorem q_795 : (.instanceMethod yX6_quarterOn : Cond) ∈ lw_all := lw_in 838 (by decide +kernel)
theorem q_796 : (.code yX6_quarterOn cX6_quarterOn 3 none : Cond) ∈ lw_all := lw_in 839 (by decide +kernel)
theorem q_797 : (.methodLink RX6 88 yX6_heatBehind : Cond) ∈ lw_all := lw_in 840 (by decide +kernel)
theorem q_799 : (.instanceMethod yX6_heatBehind : Cond) ∈ lw_all := lw_in 842 (by decide +kernel)
theorem q_800 : (.code yX6_heatBehind cX6_heatBehind 3 (some .int) : Cond) ∈ lw_all := lw_in 843 (by decide +kernel)
theorem q_801 : (.methodLink RX6 85 Lib.Math.max.name : Cond) ∈ lw_all := lw_in 844 (by decide +kernel)
theorem q_802 : (.methodLink RX6 91 yX6_cools : Cond) ∈ lw_all := lw_in 845 (by decide +kernel)
theorem q_804 : (.instanceMethod yX6_cools : Cond) ∈ lw_all := lw_in 847 (by decide +kernel)
theorem q_805 : (.code yX6_cools cX6_cools 2 (some .int) : Cond) ∈ lw_all := lw_in 848 (by decide +kernel)
theorem q_806 : (.methodLink RX6 100 yX6_or : Cond) ∈ lw_all := lw_in 849 (by decide +kernel)
theorem q_808 : (.instanceMethod yX6_or : Cond) ∈ lw_all := lw_in 851 (by decide +kernel)
theorem q_809 : (.code yX6_or cX6_or 3 (some .int) : Cond) ∈ lw_all := lw_in 852 (by decide +kernel)
theorem q_810 : (.methodLink RL 111 yX6_cutOff : Cond) ∈ lw_all := lw_in 853 (by decide +kernel)
theorem q_811 : (.instanceMethod yX6_cutOff : Cond) ∈ lw_all := lw_in 854 (by decide +kernel)
theorem q_812 : (.selects RX6 yX6_cutOff yX6_cutOff : Cond) ∈ lw_all := lw_in 855 (by decide +kernel)
theorem q_813 : (.code yX6_cutOff cX6_cutOff 3 (some .int) : Cond) ∈ lw_all := lw_in 856 (by decide +kernel)
theorem q_814 : (.methodLink RX6 122 yX6_size : Cond) ∈ lw_all := lw_in 857 (by decide +kernel)
theorem q_815 : (.static yX6_size : Cond) ∈ lw_all := lw_in 858 (by decide +kernel)
theorem q_816 : (.code yX6_size cX6_size 2 (some .int) : Cond) ∈ lw_all := lw_in 859 (by decide +kernel)
theorem q_817 : (.methodLink RL 114 yX6_frame : Cond) ∈ lw_all := lw_in 860 (by decide +kernel)
theorem q_818 : (.instanceMethod yX6_frame : Cond) ∈ lw_all := lw_in 861 (by decide +kernel)
theorem q_819 : (.selects RX6 yX6_frame yX6_frame : Cond) ∈ lw_all := lw_in 862 (by decide +kernel)
theorem q_820 : (.code yX6_frame cX6_frame 3 (some .int) : Cond) ∈ lw_all := lw_in 863 (by decide +kernel)
theorem q_821 : (.methodLink RX6 128 yX6_frameTold : Cond) ∈ lw_all := lw_in 864 (by decide +kernel)
theorem q_823 : (.instanceMethod yX6_frameTold : Cond) ∈ lw_all := lw_in 866 (by decide +kernel)
theorem q_824 : (.code yX6_frameTold cX6_frameTold 3 (some .int) : Cond) ∈ lw_all := lw_in 867 (by decide +kernel)
theorem q_825 : (.methodLink RL 117 yX6_hook : Cond) ∈ lw_all := lw_in 868 (by decide +kernel)
theorem q_826 : (.instanceMethod yX6_hook : Cond) ∈ lw_all := lw_in 869 (by decide +kernel)
theorem q_827 : (.selects RX6 yX6_hook yX6_hook : Cond) ∈ lw_all := lw_in 870 (by decide +kernel)
theorem q_828 : (.code yX6_hook cX6_hook 2 (some .int) : Cond) ∈ lw_all := lw_in 871 (by decide +kernel)
theorem q_829 : (.methodLink RL 120 yX6_store : Cond) ∈ lw_all := lw_in 872 (by decide +kernel)
theorem q_830 : (.instanceMethod yX6_store : Cond) ∈ lw_all := lw_in 873 (by decide +kernel)
theorem q_831 : (.selects RX6 yX6_store yX6_store : Cond) ∈ lw_all := lw_in 874 (by decide +kernel)
theorem q_832 : (.code yX6_store cX6_store 3 (some .int) : Cond) ∈ lw_all := lw_in 875 (by decide +kernel)
theorem q_833 : (.methodLink RL 124 yX6_addOrder : Cond) ∈ lw_all := lw_in 876 (by decide +kernel)
theorem q_834 : (.instanceMethod yX6_addOrder : Cond) ∈ lw_all := lw_in 877 (by decide +kernel)
theorem q_835 : (.selects RX6 yX6_addOrder yX6_addOrder : Cond) ∈ lw_all := lw_in 878 (by decide +kernel)
theorem q_836 : (.code yX6_addOrder cX6_addOrder 6 (some .int) : Cond) ∈ lw_all := lw_in 879 (by decide +kernel)
theorem q_837 : (.methodLink RL 127 yX6_fill : Cond) ∈ lw_all := lw_in 880 (by decide +kernel)
theorem q_838 : (.instanceMethod yX6_fill : Cond) ∈ lw_all := lw_in 881 (by decide +kernel)
theorem q_839 : (.selects RX6 yX6_fill yX6_fill : Cond) ∈ lw_all := lw_in 882 (by decide +kernel)
theorem q_840 : (.code yX6_fill cX6_fill 6 (some .int) : Cond) ∈ lw_all := lw_in 883 (by decide +kernel)
theorem q_841 : (.methodLink RX6 134 yX6_canFill : Cond) ∈ lw_all := lw_in 884 (by decide +kernel)
theorem q_843 : (.instanceMethod yX6_canFill : Cond) ∈ lw_all := lw_in 886 (by decide +kernel)
theorem q_844 : (.code yX6_canFill cX6_canFill 2 (some .boolean) : Cond) ∈ lw_all := lw_in 887 (by decide +kernel)
theorem q_845 : (.methodLink RX6 131 yX6_enough : Cond) ∈ lw_all := lw_in 888 (by decide +kernel)
theorem q_847 : (.instanceMethod yX6_enough : Cond) ∈ lw_all := lw_in 890 (by decide +kernel)
theorem q_848 : (.code yX6_enough cX6_enough 5 (some .int) : Cond) ∈ lw_all := lw_in 891 (by decide +kernel)
theorem q_849 : (.methodLink RX6 137 yX6_inStore : Cond) ∈ lw_all := lw_in 892 (by decide +kernel)
theorem q_851 : (.instanceMethod yX6_inStore : Cond) ∈ lw_all := lw_in 894 (by decide +kernel)
theorem q_852 : (.code yX6_inStore cX6_inStore 6 (some .int) : Cond) ∈ lw_all := lw_in 895 (by decide +kernel)
theorem q_853 : (.methodLink RL 130 yX6_order : Cond) ∈ lw_all := lw_in 896 (by decide +kernel)
theorem q_854 : (.instanceMethod yX6_order : Cond) ∈ lw_all := lw_in 897 (by decide +kernel)
theorem q_855 : (.selects RX6 yX6_order yX6_order : Cond) ∈ lw_all := lw_in 898 (by decide +kernel)
theorem q_856 : (.code yX6_order cX6_order 3 (some .int) : Cond) ∈ lw_all := lw_in 899 (by decide +kernel)
theorem q_857 : (.methodLink RX6 141 yX6_orderTold : Cond) ∈ lw_all := lw_in 900 (by decide +kernel)
theorem q_859 : (.instanceMethod yX6_orderTold : Cond) ∈ lw_all := lw_in 902 (by decide +kernel)
theorem q_860 : (.code yX6_orderTold cX6_orderTold 3 (some .int) : Cond) ∈ lw_all := lw_in 903 (by decide +kernel)
theorem q_861 : (.methodLink RL 133 yX6_pass : Cond) ∈ lw_all := lw_in 904 (by decide +kernel)
theorem q_862 : (.instanceMethod yX6_pass : Cond) ∈ lw_all := lw_in 905 (by decide +kernel)
theorem q_863 : (.selects RX6 yX6_pass yX6_pass : Cond) ∈ lw_all := lw_in 906 (by decide +kernel)
theorem q_864 : (.code yX6_pass cX6_pass 3 (some .int) : Cond) ∈ lw_all := lw_in 907 (by decide +kernel)
theorem q_865 : (.methodLink RL 136 yX6_count : Cond) ∈ lw_all := lw_in 908 (by decide +kernel)
theorem q_866 : (.instanceMethod yX6_count : Cond) ∈ lw_all := lw_in 909 (by decide +kernel)
theorem q_867 : (.selects RX6 yX6_count yX6_count : Cond) ∈ lw_all := lw_in 910 (by decide +kernel)
theorem q_868 : (.code yX6_count cX6_count 2 (some .int) : Cond) ∈ lw_all := lw_in 911 (by decide +kernel)
theorem q_869 : (.methodLink RX6 147 yX6_counted : Cond) ∈ lw_all := lw_in 912 (by decide +kernel)
theorem q_871 : (.instanceMethod yX6_counted : Cond) ∈ lw_all := lw_in 914 (by decide +kernel)
theorem q_872 : (.code yX6_counted cX6_counted 4 (some .int) : Cond) ∈ lw_all := lw_in 915 (by decide +kernel)
theorem q_873 : (.methodLink RX6 144 yX6_with : Cond) ∈ lw_all := lw_in 916 (by decide +kernel)
theorem q_875 : (.instanceMethod yX6_with : Cond) ∈ lw_all := lw_in 918 (by decide +kernel)
theorem q_876 : (.code yX6_with cX6_with 4 (some .int) : Cond) ∈ lw_all := lw_in 919 (by decide +kernel)
theorem q_877 : (.methodLink RL 139 yX6_would : Cond) ∈ lw_all := lw_in 920 (by decide +kernel)
theorem q_878 : (.instanceMethod yX6_would : Cond) ∈ lw_all := lw_in 921 (by decide +kernel)
theorem q_879 : (.selects RX6 yX6_would yX6_would : Cond) ∈ lw_all := lw_in 922 (by decide +kernel)
theorem q_880 : (.code yX6_would cX6_would 4 (some .int) : Cond) ∈ lw_all := lw_in 923 (by decide +kernel)
theorem q_881 : (.methodLink RL 143 yX6_dipsTo : Cond) ∈ lw_all := lw_in 924 (by decide +kernel)
theorem q_882 : (.instanceMethod yX6_dipsTo : Cond) ∈ lw_all := lw_in 925 (by decide +kernel)
theorem q_883 : (.selects RX6 yX6_dipsTo yX6_dipsTo : Cond) ∈ lw_all := lw_in 926 (by decide +kernel)
theorem q_884 : (.code yX6_dipsTo cX6_dipsTo 4 (some .int) : Cond) ∈ lw_all := lw_in 927 (by decide +kernel)
theorem q_885 : (.methodLink RX6 150 yX6_needs : Cond) ∈ lw_all := lw_in 928 (by decide +kernel)
theorem q_887 : (.instanceMethod yX6_needs : Cond) ∈ lw_all := lw_in 930 (by decide +kernel)
theorem q_888 : (.code yX6_needs cX6_needs 6 (some .int) : Cond) ∈ lw_all := lw_in 931 (by decide +kernel)
theorem q_889 : (.methodLink RL 146 yX6_bestRest : Cond) ∈ lw_all := lw_in 932 (by decide +kernel)
theorem q_890 : (.instanceMethod yX6_bestRest : Cond) ∈ lw_all := lw_in 933 (by decide +kernel)
theorem q_891 : (.selects RX6 yX6_bestRest yX6_bestRest : Cond) ∈ lw_all := lw_in 934 (by decide +kernel)
theorem q_892 : (.code yX6_bestRest cX6_bestRest 8 (some .int) : Cond) ∈ lw_all := lw_in 935 (by decide +kernel)
theorem q_893 : (.methodLink RL 150 yX6_advise : Cond) ∈ lw_all := lw_in 936 (by decide +kernel)
theorem q_894 : (.instanceMethod yX6_advise : Cond) ∈ lw_all := lw_in 937 (by decide +kernel)
theorem q_895 : (.selects RX6 yX6_advise yX6_advise : Cond) ∈ lw_all := lw_in 938 (by decide +kernel)
theorem q_896 : (.code yX6_advise cX6_advise 4 (some .int) : Cond) ∈ lw_all := lw_in 939 (by decide +kernel)
theorem q_897 : (.methodLink RL 154 yX6_possible : Cond) ∈ lw_all := lw_in 940 (by decide +kernel)
theorem q_898 : (.instanceMethod yX6_possible : Cond) ∈ lw_all := lw_in 941 (by decide +kernel)
theorem q_899 : (.selects RX6 yX6_possible yX6_possible : Cond) ∈ lw_all := lw_in 942 (by decide +kernel)
theorem q_900 : (.code yX6_possible cX6_possible 3 (some .int) : Cond) ∈ lw_all := lw_in 943 (by decide +kernel)
theorem q_901 : (.methodLink RX6 154 yX6_possibleOf : Cond) ∈ lw_all := lw_in 944 (by decide +kernel)
theorem q_903 : (.instanceMethod yX6_possibleOf : Cond) ∈ lw_all := lw_in 946 (by decide +kernel)
theorem q_904 : (.code yX6_possibleOf cX6_possibleOf 7 (some .int) : Cond) ∈ lw_all := lw_in 947 (by decide +kernel)
theorem q_905 : (.methodLink RL 159 yX6_mean : Cond) ∈ lw_all := lw_in 948 (by decide +kernel)
theorem q_906 : (.instanceMethod yX6_mean : Cond) ∈ lw_all := lw_in 949 (by decide +kernel)
theorem q_907 : (.selects RX6 yX6_mean yX6_mean : Cond) ∈ lw_all := lw_in 950 (by decide +kernel)
theorem q_908 : (.code yX6_mean cX6_mean 4 (some .double) : Cond) ∈ lw_all := lw_in 951 (by decide +kernel)
theorem q_909 : (.methodLink RL 164 yX6_digest : Cond) ∈ lw_all := lw_in 952 (by decide +kernel)
theorem q_910 : (.instanceMethod yX6_digest : Cond) ∈ lw_all := lw_in 953 (by decide +kernel)
theorem q_911 : (.selects RX6 yX6_digest yX6_digest : Cond) ∈ lw_all := lw_in 954 (by decide +kernel)
theorem q_912 : (.code yX6_digest cX6_digest 5 (some .long) : Cond) ∈ lw_all := lw_in 955 (by decide +kernel)
theorem q_913 : (.constantLong RX6 157 613 : Cond) ∈ lw_all := lw_in 956 (by decide +kernel)
theorem q_914 : (.constantLong RX6 159 31 : Cond) ∈ lw_all := lw_in 957 (by decide +kernel)
theorem q_915 : (.arrayClass .long : Cond) ∈ lw_all := lw_in 958 (by decide +kernel)
theorem inX0 : ∀ w ∈ wsX00, w ∈ lw_all := lw_good (by decide +kernel)
theorem inX1 : ∀ w ∈ wsX10, w ∈ lw_all := lw_good (by decide +kernel)
theorem inX2 : ∀ w ∈ wsX20, w ∈ lw_all := lw_good (by decide +kernel)
theorem inX3 : ∀ w ∈ wsX30, w ∈ lw_all := lw_good (by decide +kernel)
theorem inX4 : ∀ w ∈ wsX40, w ∈ lw_all := lw_good (by decide +kernel)
theorem inX5 : ∀ w ∈ wsX50, w ∈ lw_all := lw_good (by decide +kernel)
theorem inX6 : ∀ w ∈ wsX60, w ∈ lw_all := lw_good (by decide +kernel)
def mDec : List MethodName := [⟨"java/lang/RuntimeException", "<init>", "()V"⟩, ⟨"java/lang/RuntimeException", "<init>", "(Ljava/lang/String;)V"⟩, ⟨"java/lang/Exception", "<init>", "()V"⟩, ⟨"java/lang/Exception", "<init>", "(Ljava/lang/String;)V"⟩, ⟨"java/lang/Throwable", "<init>", "()V"⟩, ⟨"java/lang/Throwable", "<init>", "(Ljava/lang/String;)V"⟩]
theorem lw_x_iae : ∀ w ∈ (vx_atS RX5 54 "java/lang/IllegalArgumentException" ["java/lang/RuntimeException", "java/lang/Exception"]).filter goodWord, w ∈ lw_all := fun w h => List.mem_filter.mpr ⟨(by decide +kernel : ∀ w ∈ (vx_atS RX5 54 "java/lang/IllegalArgumentException" ["java/lang/RuntimeException", "java/lang/Exception"]).filter goodWord, w ∈ lw_tbl) w h, (List.mem_filter.mp h).2⟩
theorem lw_n_iae : ∀ w ∈ (vx_atS RX5 54 "java/lang/IllegalArgumentException" ["java/lang/RuntimeException", "java/lang/Exception"]).filter (fun w => !goodWord w), w ∈ Cond.castable "java/lang/IllegalArgumentException" "java/lang/IllegalArgumentException" :: mDec.map Cond.declares := by decide +kernel
theorem lw_x_ise : ∀ w ∈ (vx_atS RX5 65 "java/lang/IllegalStateException" ["java/lang/RuntimeException", "java/lang/Exception"]).filter goodWord, w ∈ lw_all := fun w h => List.mem_filter.mpr ⟨(by decide +kernel : ∀ w ∈ (vx_atS RX5 65 "java/lang/IllegalStateException" ["java/lang/RuntimeException", "java/lang/Exception"]).filter goodWord, w ∈ lw_tbl) w h, (List.mem_filter.mp h).2⟩
theorem lw_n_ise : ∀ w ∈ (vx_atS RX5 65 "java/lang/IllegalStateException" ["java/lang/RuntimeException", "java/lang/Exception"]).filter (fun w => !goodWord w), w ∈ Cond.castable "java/lang/IllegalStateException" "java/lang/IllegalStateException" :: mDec.map Cond.declares := by decide +kernel
theorem lw_x_ioo : ∀ w ∈ (vx_atS RX5 86 "java/lang/IndexOutOfBoundsException" ["java/lang/RuntimeException", "java/lang/Exception"]).filter goodWord, w ∈ lw_all := fun w h => List.mem_filter.mpr ⟨(by decide +kernel : ∀ w ∈ (vx_atS RX5 86 "java/lang/IndexOutOfBoundsException" ["java/lang/RuntimeException", "java/lang/Exception"]).filter goodWord, w ∈ lw_tbl) w h, (List.mem_filter.mp h).2⟩
theorem lw_n_ioo : ∀ w ∈ (vx_atS RX5 86 "java/lang/IndexOutOfBoundsException" ["java/lang/RuntimeException", "java/lang/Exception"]).filter (fun w => !goodWord w), w ∈ Cond.castable "java/lang/IndexOutOfBoundsException" "java/lang/IndexOutOfBoundsException" :: mDec.map Cond.declares := by decide +kernel
end
section
theorem dX0_init_0 : decode cX0_init 0 = .ok (.aload_n 0, 1) := by decide +kernel
theorem dX0_init_1 : decode cX0_init 1 = .ok (.invokespecial 3, 3) := by decide +kernel
theorem dX0_init_4 : decode cX0_init 4 = .ok (.aload_n 0, 1) := by decide +kernel
theorem dX0_init_5 : decode cX0_init 5 = .ok (.iconst (-1), 1) := by decide +kernel
theorem dX0_init_6 : decode cX0_init 6 = .ok (.putfield 9, 3) := by decide +kernel
theorem dX0_init_9 : decode cX0_init 9 = .ok (.aload_n 0, 1) := by decide +kernel
theorem dX0_init_10 : decode cX0_init 10 = .ok (.iload_n 1, 1) := by decide +kernel
theorem dX0_init_11 : decode cX0_init 11 = .ok (.putfield 15, 3) := by decide +kernel
theorem dX0_init_14 : decode cX0_init 14 = .ok (.aload_n 0, 1) := by decide +kernel
theorem dX0_init_15 : decode cX0_init 15 = .ok (.iload_n 2, 1) := by decide +kernel
theorem dX0_init_16 : decode cX0_init 16 = .ok (.putfield 18, 3) := by decide +kernel
theorem dX0_init_19 : decode cX0_init 19 = .ok (.return_, 1) := by decide +kernel
theorem dX0_hangs_0 : decode cX0_hangs 0 = .ok (.aload_n 0, 1) := by decide +kernel
theorem dX0_hangs_1 : decode cX0_hangs 1 = .ok (.getfield 9, 3) := by decide +kernel
theorem dX0_hangs_4 : decode cX0_hangs 4 = .ok (.iconst (-1), 1) := by decide +kernel
theorem dX0_hangs_5 : decode cX0_hangs 5 = .ok (.if_icmp .eq 7, 3) := by decide +kernel
theorem dX0_hangs_8 : decode cX0_hangs 8 = .ok (.iconst 1, 1) := by decide +kernel
theorem dX0_hangs_9 : decode cX0_hangs 9 = .ok (.goto 4, 3) := by decide +kernel
theorem dX0_hangs_12 : decode cX0_hangs 12 = .ok (.iconst 0, 1) := by decide +kernel
theorem dX0_hangs_13 : decode cX0_hangs 13 = .ok (.ireturn, 1) := by decide +kernel
theorem dX0_isBare_0 : decode cX0_isBare 0 = .ok (.aload_n 0, 1) := by decide +kernel
theorem dX0_isBare_1 : decode cX0_isBare 1 = .ok (.getfield 21, 3) := by decide +kernel
theorem dX0_isBare_4 : decode cX0_isBare 4 = .ok (.ifCond .ne 7, 3) := by decide +kernel
theorem dX0_isBare_7 : decode cX0_isBare 7 = .ok (.iconst 1, 1) := by decide +kernel
theorem dX0_isBare_8 : decode cX0_isBare 8 = .ok (.goto 4, 3) := by decide +kernel
theorem dX0_isBare_11 : decode cX0_isBare 11 = .ok (.iconst 0, 1) := by decide +kernel
theorem dX0_isBare_12 : decode cX0_isBare 12 = .ok (.ireturn, 1) := by decide +kernel
theorem dX0_isTooWarmToCut_0 : decode cX0_isTooWarmToCut 0 = .ok (.aload_n 0, 1) := by decide +kernel
theorem dX0_isTooWarmToCut_1 : decode cX0_isTooWarmToCut 1 = .ok (.getfield 24, 3) := by decide +kernel
theorem dX0_isTooWarmToCut_4 : decode cX0_isTooWarmToCut 4 = .ok (.bipush 20, 2) := by decide +kernel
theorem dX0_isTooWarmToCut_6 : decode cX0_isTooWarmToCut 6 = .ok (.if_icmp .le 7, 3) := by decide +kernel
theorem dX0_isTooWarmToCut_9 : decode cX0_isTooWarmToCut 9 = .ok (.iconst 1, 1) := by decide +kernel
theorem dX0_isTooWarmToCut_10 : decode cX0_isTooWarmToCut 10 = .ok (.goto 4, 3) := by decide +kernel
theorem dX0_isTooWarmToCut_13 : decode cX0_isTooWarmToCut 13 = .ok (.iconst 0, 1) := by decide +kernel
theorem dX0_isTooWarmToCut_14 : decode cX0_isTooWarmToCut 14 = .ok (.ireturn, 1) := by decide +kernel
theorem dX0_meltsWhenDipped_0 : decode cX0_meltsWhenDipped 0 = .ok (.aload_n 0, 1) := by decide +kernel
theorem dX0_meltsWhenDipped_1 : decode cX0_meltsWhenDipped 1 = .ok (.getfield 24, 3) := by decide +kernel
theorem dX0_meltsWhenDipped_4 : decode cX0_meltsWhenDipped 4 = .ok (.bipush 70, 2) := by decide +kernel
theorem dX0_meltsWhenDipped_6 : decode cX0_meltsWhenDipped 6 = .ok (.if_icmp .le 7, 3) := by decide +kernel
theorem dX0_meltsWhenDipped_9 : decode cX0_meltsWhenDipped 9 = .ok (.iconst 1, 1) := by decide +kernel
theorem dX0_meltsWhenDipped_10 : decode cX0_meltsWhenDipped 10 = .ok (.goto 4, 3) := by decide +kernel
theorem dX0_meltsWhenDipped_13 : decode cX0_meltsWhenDipped 13 = .ok (.iconst 0, 1) := by decide +kernel
theorem dX0_meltsWhenDipped_14 : decode cX0_meltsWhenDipped 14 = .ok (.ireturn, 1) := by decide +kernel
theorem dX0_waxOf_0 : decode cX0_waxOf 0 = .ok (.iload_n 1, 1) := by decide +kernel
theorem dX0_waxOf_1 : decode cX0_waxOf 1 = .ok (.bipush 8, 2) := by decide +kernel
theorem dX0_waxOf_3 : decode cX0_waxOf 3 = .ok (.aload_n 0, 1) := by decide +kernel
theorem dX0_waxOf_4 : decode cX0_waxOf 4 = .ok (.getfield 15, 3) := by decide +kernel
theorem dX0_waxOf_7 : decode cX0_waxOf 7 = .ok (.iadd, 1) := by decide +kernel
theorem dX0_waxOf_8 : decode cX0_waxOf 8 = .ok (.imul, 1) := by decide +kernel
theorem dX0_waxOf_9 : decode cX0_waxOf 9 = .ok (.aload_n 0, 1) := by decide +kernel
theorem dX0_waxOf_10 : decode cX0_waxOf 10 = .ok (.getfield 18, 3) := by decide +kernel
theorem dX0_waxOf_13 : decode cX0_waxOf 13 = .ok (.imul, 1) := by decide +kernel
theorem dX0_waxOf_14 : decode cX0_waxOf 14 = .ok (.bipush 10, 2) := by decide +kernel
theorem dX0_waxOf_16 : decode cX0_waxOf 16 = .ok (.idiv, 1) := by decide +kernel
theorem dX0_waxOf_17 : decode cX0_waxOf 17 = .ok (.ireturn, 1) := by decide +kernel
theorem dX0_canBeDipped_0 : decode cX0_canBeDipped 0 = .ok (.aload_n 0, 1) := by decide +kernel
theorem dX0_canBeDipped_1 : decode cX0_canBeDipped 1 = .ok (.invokevirtual 27, 3) := by decide +kernel
theorem dX0_canBeDipped_4 : decode cX0_canBeDipped 4 = .ok (.ifCond .eq 33, 3) := by decide +kernel
theorem dX0_canBeDipped_7 : decode cX0_canBeDipped 7 = .ok (.aload_n 1, 1) := by decide +kernel
theorem dX0_canBeDipped_8 : decode cX0_canBeDipped 8 = .ok (.invokevirtual 31, 3) := by decide +kernel
theorem dX0_canBeDipped_11 : decode cX0_canBeDipped 11 = .ok (.ifCond .eq 26, 3) := by decide +kernel
theorem dX0_canBeDipped_14 : decode cX0_canBeDipped 14 = .ok (.aload_n 0, 1) := by decide +kernel
theorem dX0_canBeDipped_15 : decode cX0_canBeDipped 15 = .ok (.aload_n 0, 1) := by decide +kernel
theorem dX0_canBeDipped_16 : decode cX0_canBeDipped 16 = .ok (.aload_n 1, 1) := by decide +kernel
theorem dX0_canBeDipped_17 : decode cX0_canBeDipped 17 = .ok (.getfield 36, 3) := by decide +kernel
theorem dX0_canBeDipped_20 : decode cX0_canBeDipped 20 = .ok (.invokevirtual 39, 3) := by decide +kernel
theorem dX0_canBeDipped_23 : decode cX0_canBeDipped 23 = .ok (.invokevirtual 43, 3) := by decide +kernel
theorem dX0_canBeDipped_26 : decode cX0_canBeDipped 26 = .ok (.aload_n 1, 1) := by decide +kernel
theorem dX0_canBeDipped_27 : decode cX0_canBeDipped 27 = .ok (.getfield 46, 3) := by decide +kernel
theorem dX0_canBeDipped_30 : decode cX0_canBeDipped 30 = .ok (.if_icmp .gt 7, 3) := by decide +kernel
theorem dX0_canBeDipped_33 : decode cX0_canBeDipped 33 = .ok (.iconst 1, 1) := by decide +kernel
theorem dX0_canBeDipped_34 : decode cX0_canBeDipped 34 = .ok (.goto 4, 3) := by decide +kernel
theorem dX0_canBeDipped_37 : decode cX0_canBeDipped 37 = .ok (.iconst 0, 1) := by decide +kernel
theorem dX0_canBeDipped_38 : decode cX0_canBeDipped 38 = .ok (.ireturn, 1) := by decide +kernel
theorem dX0_gain_0 : decode cX0_gain 0 = .ok (.aload_n 0, 1) := by decide +kernel
theorem dX0_gain_1 : decode cX0_gain 1 = .ok (.invokevirtual 49, 3) := by decide +kernel
theorem dX0_gain_4 : decode cX0_gain 4 = .ok (.ifCond .eq 5, 3) := by decide +kernel
theorem dX0_gain_7 : decode cX0_gain 7 = .ok (.iconst 0, 1) := by decide +kernel
theorem dX0_gain_8 : decode cX0_gain 8 = .ok (.ireturn, 1) := by decide +kernel
theorem dX0_gain_9 : decode cX0_gain 9 = .ok (.bipush 12, 2) := by decide +kernel
theorem dX0_gain_11 : decode cX0_gain 11 = .ok (.iload_n 1, 1) := by decide +kernel
theorem dX0_gain_12 : decode cX0_gain 12 = .ok (.bipush 60, 2) := by decide +kernel
theorem dX0_gain_14 : decode cX0_gain 14 = .ok (.isub, 1) := by decide +kernel
theorem dX0_gain_15 : decode cX0_gain 15 = .ok (.bipush 8, 2) := by decide +kernel
theorem dX0_gain_17 : decode cX0_gain 17 = .ok (.idiv, 1) := by decide +kernel
theorem dX0_gain_18 : decode cX0_gain 18 = .ok (.isub, 1) := by decide +kernel
theorem dX0_gain_19 : decode cX0_gain 19 = .ok (.istore_n 2, 1) := by decide +kernel
theorem dX0_gain_20 : decode cX0_gain 20 = .ok (.aload_n 0, 1) := by decide +kernel
theorem dX0_gain_21 : decode cX0_gain 21 = .ok (.invokevirtual 52, 3) := by decide +kernel
theorem dX0_gain_24 : decode cX0_gain 24 = .ok (.ifCond .eq 6, 3) := by decide +kernel
theorem dX0_gain_27 : decode cX0_gain 27 = .ok (.iinc 2 4, 3) := by decide +kernel
theorem dX0_gain_30 : decode cX0_gain 30 = .ok (.aload_n 0, 1) := by decide +kernel
theorem dX0_gain_31 : decode cX0_gain 31 = .ok (.getfield 15, 3) := by decide +kernel
theorem dX0_gain_34 : decode cX0_gain 34 = .ok (.iconst 3, 1) := by decide +kernel
theorem dX0_gain_35 : decode cX0_gain 35 = .ok (.if_icmp .ne 6, 3) := by decide +kernel
theorem dX0_gain_38 : decode cX0_gain 38 = .ok (.iinc 2 (-3), 3) := by decide +kernel
theorem dX0_gain_41 : decode cX0_gain 41 = .ok (.iload_n 2, 1) := by decide +kernel
theorem dX0_gain_42 : decode cX0_gain 42 = .ok (.sipush 400, 3) := by decide +kernel
theorem dX0_gain_45 : decode cX0_gain 45 = .ok (.aload_n 0, 1) := by decide +kernel
theorem dX0_gain_46 : decode cX0_gain 46 = .ok (.getfield 21, 3) := by decide +kernel
theorem dX0_gain_49 : decode cX0_gain 49 = .ok (.isub, 1) := by decide +kernel
theorem dX0_gain_50 : decode cX0_gain 50 = .ok (.invokestatic 55, 3) := by decide +kernel
theorem dX0_gain_53 : decode cX0_gain 53 = .ok (.ireturn, 1) := by decide +kernel
theorem dX0_immerse_0 : decode cX0_immerse 0 = .ok (.aload_n 0, 1) := by decide +kernel
theorem dX0_immerse_1 : decode cX0_immerse 1 = .ok (.dup, 1) := by decide +kernel
theorem dX0_immerse_2 : decode cX0_immerse 2 = .ok (.getfield 61, 3) := by decide +kernel
theorem dX0_immerse_5 : decode cX0_immerse 5 = .ok (.iconst 1, 1) := by decide +kernel
theorem dX0_immerse_6 : decode cX0_immerse 6 = .ok (.iadd, 1) := by decide +kernel
theorem dX0_immerse_7 : decode cX0_immerse 7 = .ok (.putfield 61, 3) := by decide +kernel
theorem dX0_immerse_10 : decode cX0_immerse 10 = .ok (.aload_n 0, 1) := by decide +kernel
theorem dX0_immerse_11 : decode cX0_immerse 11 = .ok (.invokevirtual 49, 3) := by decide +kernel
theorem dX0_immerse_14 : decode cX0_immerse 14 = .ok (.ifCond .eq 14, 3) := by decide +kernel
theorem dX0_immerse_17 : decode cX0_immerse 17 = .ok (.aload_n 0, 1) := by decide +kernel
theorem dX0_immerse_18 : decode cX0_immerse 18 = .ok (.aload_n 1, 1) := by decide +kernel
theorem dX0_immerse_19 : decode cX0_immerse 19 = .ok (.getfield 36, 3) := by decide +kernel
theorem dX0_immerse_22 : decode cX0_immerse 22 = .ok (.invokevirtual 64, 3) := by decide +kernel
theorem dX0_immerse_25 : decode cX0_immerse 25 = .ok (.goto 8, 3) := by decide +kernel
theorem dX0_immerse_28 : decode cX0_immerse 28 = .ok (.aload_n 0, 1) := by decide +kernel
theorem dX0_immerse_29 : decode cX0_immerse 29 = .ok (.aload_n 1, 1) := by decide +kernel
theorem dX0_immerse_30 : decode cX0_immerse 30 = .ok (.invokevirtual 68, 3) := by decide +kernel
theorem dX0_immerse_33 : decode cX0_immerse 33 = .ok (.return_, 1) := by decide +kernel
theorem dX0_meltOff_0 : decode cX0_meltOff 0 = .ok (.aload_n 0, 1) := by decide +kernel
theorem dX0_meltOff_1 : decode cX0_meltOff 1 = .ok (.iconst 0, 1) := by decide +kernel
theorem dX0_meltOff_2 : decode cX0_meltOff 2 = .ok (.aload_n 0, 1) := by decide +kernel
theorem dX0_meltOff_3 : decode cX0_meltOff 3 = .ok (.getfield 21, 3) := by decide +kernel
theorem dX0_meltOff_6 : decode cX0_meltOff 6 = .ok (.iload_n 1, 1) := by decide +kernel
theorem dX0_meltOff_7 : decode cX0_meltOff 7 = .ok (.bipush 55, 2) := by decide +kernel
theorem dX0_meltOff_9 : decode cX0_meltOff 9 = .ok (.isub, 1) := by decide +kernel
theorem dX0_meltOff_10 : decode cX0_meltOff 10 = .ok (.iconst 5, 1) := by decide +kernel
theorem dX0_meltOff_11 : decode cX0_meltOff 11 = .ok (.idiv, 1) := by decide +kernel
theorem dX0_meltOff_12 : decode cX0_meltOff 12 = .ok (.isub, 1) := by decide +kernel
theorem dX0_meltOff_13 : decode cX0_meltOff 13 = .ok (.invokestatic 72, 3) := by decide +kernel
theorem dX0_meltOff_16 : decode cX0_meltOff 16 = .ok (.putfield 21, 3) := by decide +kernel
theorem dX0_meltOff_19 : decode cX0_meltOff 19 = .ok (.aload_n 0, 1) := by decide +kernel
theorem dX0_meltOff_20 : decode cX0_meltOff 20 = .ok (.invokevirtual 52, 3) := by decide +kernel
theorem dX0_meltOff_23 : decode cX0_meltOff 23 = .ok (.ifCond .eq 8, 3) := by decide +kernel
theorem dX0_meltOff_26 : decode cX0_meltOff 26 = .ok (.aload_n 0, 1) := by decide +kernel
theorem dX0_meltOff_27 : decode cX0_meltOff 27 = .ok (.iconst 0, 1) := by decide +kernel
theorem dX0_meltOff_28 : decode cX0_meltOff 28 = .ok (.putfield 75, 3) := by decide +kernel
theorem dX0_meltOff_31 : decode cX0_meltOff 31 = .ok (.aload_n 0, 1) := by decide +kernel
theorem dX0_meltOff_32 : decode cX0_meltOff 32 = .ok (.bipush 100, 2) := by decide +kernel
theorem dX0_meltOff_34 : decode cX0_meltOff 34 = .ok (.putfield 24, 3) := by decide +kernel
theorem dX0_meltOff_37 : decode cX0_meltOff 37 = .ok (.return_, 1) := by decide +kernel
theorem dX0_takeUp_0 : decode cX0_takeUp 0 = .ok (.aload_n 0, 1) := by decide +kernel
theorem dX0_takeUp_1 : decode cX0_takeUp 1 = .ok (.aload_n 1, 1) := by decide +kernel
theorem dX0_takeUp_2 : decode cX0_takeUp 2 = .ok (.getfield 36, 3) := by decide +kernel
theorem dX0_takeUp_5 : decode cX0_takeUp 5 = .ok (.invokevirtual 39, 3) := by decide +kernel
theorem dX0_takeUp_8 : decode cX0_takeUp 8 = .ok (.istore_n 2, 1) := by decide +kernel
theorem dX0_takeUp_9 : decode cX0_takeUp 9 = .ok (.aload_n 0, 1) := by decide +kernel
theorem dX0_takeUp_10 : decode cX0_takeUp 10 = .ok (.invokevirtual 52, 3) := by decide +kernel
theorem dX0_takeUp_13 : decode cX0_takeUp 13 = .ok (.ifCond .ne 17, 3) := by decide +kernel
theorem dX0_takeUp_16 : decode cX0_takeUp 16 = .ok (.aload_n 0, 1) := by decide +kernel
theorem dX0_takeUp_17 : decode cX0_takeUp 17 = .ok (.getfield 24, 3) := by decide +kernel
theorem dX0_takeUp_20 : decode cX0_takeUp 20 = .ok (.bipush 10, 2) := by decide +kernel
theorem dX0_takeUp_22 : decode cX0_takeUp 22 = .ok (.if_icmp .ge 8, 3) := by decide +kernel
theorem dX0_takeUp_25 : decode cX0_takeUp 25 = .ok (.aload_n 0, 1) := by decide +kernel
theorem dX0_takeUp_26 : decode cX0_takeUp 26 = .ok (.iconst 1, 1) := by decide +kernel
theorem dX0_takeUp_27 : decode cX0_takeUp 27 = .ok (.putfield 75, 3) := by decide +kernel
theorem dX0_takeUp_30 : decode cX0_takeUp 30 = .ok (.aload_n 1, 1) := by decide +kernel
theorem dX0_takeUp_31 : decode cX0_takeUp 31 = .ok (.dup, 1) := by decide +kernel
theorem dX0_takeUp_32 : decode cX0_takeUp 32 = .ok (.getfield 46, 3) := by decide +kernel
theorem dX0_takeUp_35 : decode cX0_takeUp 35 = .ok (.aload_n 0, 1) := by decide +kernel
theorem dX0_takeUp_36 : decode cX0_takeUp 36 = .ok (.iload_n 2, 1) := by decide +kernel
theorem dX0_takeUp_37 : decode cX0_takeUp 37 = .ok (.invokevirtual 43, 3) := by decide +kernel
theorem dX0_takeUp_40 : decode cX0_takeUp 40 = .ok (.isub, 1) := by decide +kernel
theorem dX0_takeUp_41 : decode cX0_takeUp 41 = .ok (.putfield 46, 3) := by decide +kernel
theorem dX0_takeUp_44 : decode cX0_takeUp 44 = .ok (.aload_n 0, 1) := by decide +kernel
theorem dX0_takeUp_45 : decode cX0_takeUp 45 = .ok (.dup, 1) := by decide +kernel
theorem dX0_takeUp_46 : decode cX0_takeUp 46 = .ok (.getfield 21, 3) := by decide +kernel
theorem dX0_takeUp_49 : decode cX0_takeUp 49 = .ok (.iload_n 2, 1) := by decide +kernel
theorem dX0_takeUp_50 : decode cX0_takeUp 50 = .ok (.iadd, 1) := by decide +kernel
theorem dX0_takeUp_51 : decode cX0_takeUp 51 = .ok (.putfield 21, 3) := by decide +kernel
theorem dX0_takeUp_54 : decode cX0_takeUp 54 = .ok (.aload_n 0, 1) := by decide +kernel
theorem dX0_takeUp_55 : decode cX0_takeUp 55 = .ok (.bipush 100, 2) := by decide +kernel
theorem dX0_takeUp_57 : decode cX0_takeUp 57 = .ok (.aload_n 0, 1) := by decide +kernel
theorem dX0_takeUp_58 : decode cX0_takeUp 58 = .ok (.getfield 24, 3) := by decide +kernel
theorem dX0_takeUp_61 : decode cX0_takeUp 61 = .ok (.aload_n 1, 1) := by decide +kernel
theorem dX0_takeUp_62 : decode cX0_takeUp 62 = .ok (.getfield 36, 3) := by decide +kernel
theorem dX0_takeUp_65 : decode cX0_takeUp 65 = .ok (.iadd, 1) := by decide +kernel
theorem dX0_takeUp_66 : decode cX0_takeUp 66 = .ok (.iconst 2, 1) := by decide +kernel
theorem dX0_takeUp_67 : decode cX0_takeUp 67 = .ok (.idiv, 1) := by decide +kernel
theorem dX0_takeUp_68 : decode cX0_takeUp 68 = .ok (.invokestatic 55, 3) := by decide +kernel
theorem dX0_takeUp_71 : decode cX0_takeUp 71 = .ok (.putfield 24, 3) := by decide +kernel
theorem dX0_takeUp_74 : decode cX0_takeUp 74 = .ok (.return_, 1) := by decide +kernel
theorem dX0_cool_0 : decode cX0_cool 0 = .ok (.aload_n 0, 1) := by decide +kernel
theorem dX0_cool_1 : decode cX0_cool 1 = .ok (.iconst 0, 1) := by decide +kernel
theorem dX0_cool_2 : decode cX0_cool 2 = .ok (.aload_n 0, 1) := by decide +kernel
theorem dX0_cool_3 : decode cX0_cool 3 = .ok (.getfield 24, 3) := by decide +kernel
theorem dX0_cool_6 : decode cX0_cool 6 = .ok (.aload_n 0, 1) := by decide +kernel
theorem dX0_cool_7 : decode cX0_cool 7 = .ok (.invokevirtual 79, 3) := by decide +kernel
theorem dX0_cool_10 : decode cX0_cool 10 = .ok (.isub, 1) := by decide +kernel
theorem dX0_cool_11 : decode cX0_cool 11 = .ok (.invokestatic 72, 3) := by decide +kernel
theorem dX0_cool_14 : decode cX0_cool 14 = .ok (.putfield 24, 3) := by decide +kernel
theorem dX0_cool_17 : decode cX0_cool 17 = .ok (.return_, 1) := by decide +kernel
theorem dX0_coolingOfPlace_0 : decode cX0_coolingOfPlace 0 = .ok (.aload_n 0, 1) := by decide +kernel
theorem dX0_coolingOfPlace_1 : decode cX0_coolingOfPlace 1 = .ok (.invokevirtual 27, 3) := by decide +kernel
theorem dX0_coolingOfPlace_4 : decode cX0_coolingOfPlace 4 = .ok (.ifCond .ne 5, 3) := by decide +kernel
theorem dX0_coolingOfPlace_7 : decode cX0_coolingOfPlace 7 = .ok (.iconst 3, 1) := by decide +kernel
theorem dX0_coolingOfPlace_8 : decode cX0_coolingOfPlace 8 = .ok (.ireturn, 1) := by decide +kernel
theorem dX0_coolingOfPlace_9 : decode cX0_coolingOfPlace 9 = .ok (.aload_n 0, 1) := by decide +kernel
theorem dX0_coolingOfPlace_10 : decode cX0_coolingOfPlace 10 = .ok (.getfield 9, 3) := by decide +kernel
theorem dX0_coolingOfPlace_13 : decode cX0_coolingOfPlace 13 = .ok (.bipush 6, 2) := by decide +kernel
theorem dX0_coolingOfPlace_15 : decode cX0_coolingOfPlace 15 = .ok (.if_icmp .ge 8, 3) := by decide +kernel
theorem dX0_coolingOfPlace_18 : decode cX0_coolingOfPlace 18 = .ok (.bipush 12, 2) := by decide +kernel
theorem dX0_coolingOfPlace_20 : decode cX0_coolingOfPlace 20 = .ok (.goto 5, 3) := by decide +kernel
theorem dX0_coolingOfPlace_23 : decode cX0_coolingOfPlace 23 = .ok (.bipush 6, 2) := by decide +kernel
theorem dX0_coolingOfPlace_25 : decode cX0_coolingOfPlace 25 = .ok (.ireturn, 1) := by decide +kernel
theorem dX0_size_0 : decode cX0_size 0 = .ok (.bipush 9, 2) := by decide +kernel
theorem dX0_size_2 : decode cX0_size 2 = .ok (.aload_n 0, 1) := by decide +kernel
theorem dX0_size_3 : decode cX0_size 3 = .ok (.getfield 21, 3) := by decide +kernel
theorem dX0_size_6 : decode cX0_size 6 = .ok (.aload_n 0, 1) := by decide +kernel
theorem dX0_size_7 : decode cX0_size 7 = .ok (.getfield 75, 3) := by decide +kernel
theorem dX0_size_10 : decode cX0_size 10 = .ok (.ifCond .eq 8, 3) := by decide +kernel
theorem dX0_size_13 : decode cX0_size 13 = .ok (.bipush 80, 2) := by decide +kernel
theorem dX0_size_15 : decode cX0_size 15 = .ok (.goto 5, 3) := by decide +kernel
theorem dX0_size_18 : decode cX0_size 18 = .ok (.bipush 40, 2) := by decide +kernel
theorem dX0_size_20 : decode cX0_size 20 = .ok (.idiv, 1) := by decide +kernel
theorem dX0_size_21 : decode cX0_size 21 = .ok (.invokestatic 55, 3) := by decide +kernel
theorem dX0_size_24 : decode cX0_size 24 = .ok (.ireturn, 1) := by decide +kernel
theorem dX0_renewWicks_0 : decode cX0_renewWicks 0 = .ok (.aload_n 0, 1) := by decide +kernel
theorem dX0_renewWicks_1 : decode cX0_renewWicks 1 = .ok (.iconst 0, 1) := by decide +kernel
theorem dX0_renewWicks_2 : decode cX0_renewWicks 2 = .ok (.putfield 21, 3) := by decide +kernel
theorem dX0_renewWicks_5 : decode cX0_renewWicks 5 = .ok (.aload_n 0, 1) := by decide +kernel
theorem dX0_renewWicks_6 : decode cX0_renewWicks 6 = .ok (.iconst 0, 1) := by decide +kernel
theorem dX0_renewWicks_7 : decode cX0_renewWicks 7 = .ok (.putfield 24, 3) := by decide +kernel
theorem dX0_renewWicks_10 : decode cX0_renewWicks 10 = .ok (.aload_n 0, 1) := by decide +kernel
theorem dX0_renewWicks_11 : decode cX0_renewWicks 11 = .ok (.iconst 0, 1) := by decide +kernel
theorem dX0_renewWicks_12 : decode cX0_renewWicks 12 = .ok (.putfield 75, 3) := by decide +kernel
theorem dX0_renewWicks_15 : decode cX0_renewWicks 15 = .ok (.aload_n 0, 1) := by decide +kernel
theorem dX0_renewWicks_16 : decode cX0_renewWicks 16 = .ok (.iconst 0, 1) := by decide +kernel
theorem dX0_renewWicks_17 : decode cX0_renewWicks 17 = .ok (.putfield 61, 3) := by decide +kernel
theorem dX0_renewWicks_20 : decode cX0_renewWicks 20 = .ok (.return_, 1) := by decide +kernel
theorem dX0_copyFrom_0 : decode cX0_copyFrom 0 = .ok (.aload_n 0, 1) := by decide +kernel
theorem dX0_copyFrom_1 : decode cX0_copyFrom 1 = .ok (.aload_n 1, 1) := by decide +kernel
theorem dX0_copyFrom_2 : decode cX0_copyFrom 2 = .ok (.getfield 15, 3) := by decide +kernel
theorem dX0_copyFrom_5 : decode cX0_copyFrom 5 = .ok (.putfield 15, 3) := by decide +kernel
theorem dX0_copyFrom_8 : decode cX0_copyFrom 8 = .ok (.aload_n 0, 1) := by decide +kernel
theorem dX0_copyFrom_9 : decode cX0_copyFrom 9 = .ok (.aload_n 1, 1) := by decide +kernel
theorem dX0_copyFrom_10 : decode cX0_copyFrom 10 = .ok (.getfield 18, 3) := by decide +kernel
theorem dX0_copyFrom_13 : decode cX0_copyFrom 13 = .ok (.putfield 18, 3) := by decide +kernel
theorem dX0_copyFrom_16 : decode cX0_copyFrom 16 = .ok (.aload_n 0, 1) := by decide +kernel
theorem dX0_copyFrom_17 : decode cX0_copyFrom 17 = .ok (.aload_n 1, 1) := by decide +kernel
theorem dX0_copyFrom_18 : decode cX0_copyFrom 18 = .ok (.getfield 21, 3) := by decide +kernel
theorem dX0_copyFrom_21 : decode cX0_copyFrom 21 = .ok (.putfield 21, 3) := by decide +kernel
theorem dX0_copyFrom_24 : decode cX0_copyFrom 24 = .ok (.aload_n 0, 1) := by decide +kernel
theorem dX0_copyFrom_25 : decode cX0_copyFrom 25 = .ok (.aload_n 1, 1) := by decide +kernel
theorem dX0_copyFrom_26 : decode cX0_copyFrom 26 = .ok (.getfield 24, 3) := by decide +kernel
theorem dX0_copyFrom_29 : decode cX0_copyFrom 29 = .ok (.putfield 24, 3) := by decide +kernel
theorem dX0_copyFrom_32 : decode cX0_copyFrom 32 = .ok (.aload_n 0, 1) := by decide +kernel
theorem dX0_copyFrom_33 : decode cX0_copyFrom 33 = .ok (.aload_n 1, 1) := by decide +kernel
theorem dX0_copyFrom_34 : decode cX0_copyFrom 34 = .ok (.getfield 75, 3) := by decide +kernel
theorem dX0_copyFrom_37 : decode cX0_copyFrom 37 = .ok (.putfield 75, 3) := by decide +kernel
theorem dX0_copyFrom_40 : decode cX0_copyFrom 40 = .ok (.aload_n 0, 1) := by decide +kernel
theorem dX0_copyFrom_41 : decode cX0_copyFrom 41 = .ok (.aload_n 1, 1) := by decide +kernel
theorem dX0_copyFrom_42 : decode cX0_copyFrom 42 = .ok (.getfield 9, 3) := by decide +kernel
theorem dX0_copyFrom_45 : decode cX0_copyFrom 45 = .ok (.putfield 9, 3) := by decide +kernel
theorem dX0_copyFrom_48 : decode cX0_copyFrom 48 = .ok (.aload_n 0, 1) := by decide +kernel
theorem dX0_copyFrom_49 : decode cX0_copyFrom 49 = .ok (.aload_n 1, 1) := by decide +kernel
theorem dX0_copyFrom_50 : decode cX0_copyFrom 50 = .ok (.getfield 61, 3) := by decide +kernel
theorem dX0_copyFrom_53 : decode cX0_copyFrom 53 = .ok (.putfield 61, 3) := by decide +kernel
theorem dX0_copyFrom_56 : decode cX0_copyFrom 56 = .ok (.return_, 1) := by decide +kernel
theorem dX1_init_0 : decode cX1_init 0 = .ok (.aload_n 0, 1) := by decide +kernel
theorem dX1_init_1 : decode cX1_init 1 = .ok (.invokespecial 3, 3) := by decide +kernel
theorem dX1_init_4 : decode cX1_init 4 = .ok (.aload_n 0, 1) := by decide +kernel
theorem dX1_init_5 : decode cX1_init 5 = .ok (.iconst 0, 1) := by decide +kernel
theorem dX1_init_6 : decode cX1_init 6 = .ok (.putfield 9, 3) := by decide +kernel
theorem dX1_init_9 : decode cX1_init 9 = .ok (.aload_n 0, 1) := by decide +kernel
theorem dX1_init_10 : decode cX1_init 10 = .ok (.iload_n 1, 1) := by decide +kernel
theorem dX1_init_11 : decode cX1_init 11 = .ok (.putfield 15, 3) := by decide +kernel
theorem dX1_init_14 : decode cX1_init 14 = .ok (.aload_n 0, 1) := by decide +kernel
theorem dX1_init_15 : decode cX1_init 15 = .ok (.iload_n 2, 1) := by decide +kernel
theorem dX1_init_16 : decode cX1_init 16 = .ok (.putfield 18, 3) := by decide +kernel
theorem dX1_init_19 : decode cX1_init 19 = .ok (.aload_n 0, 1) := by decide +kernel
theorem dX1_init_20 : decode cX1_init 20 = .ok (.iload_n 3, 1) := by decide +kernel
theorem dX1_init_21 : decode cX1_init 21 = .ok (.putfield 21, 3) := by decide +kernel
theorem dX1_init_24 : decode cX1_init 24 = .ok (.aload_n 0, 1) := by decide +kernel
theorem dX1_init_25 : decode cX1_init 25 = .ok (.iload 4, 2) := by decide +kernel
theorem dX1_init_27 : decode cX1_init 27 = .ok (.putfield 24, 3) := by decide +kernel
theorem dX1_init_30 : decode cX1_init 30 = .ok (.return_, 1) := by decide +kernel
theorem dX1_isOpenFor_0 : decode cX1_isOpenFor 0 = .ok (.aload_n 0, 1) := by decide +kernel
theorem dX1_isOpenFor_1 : decode cX1_isOpenFor 1 = .ok (.getfield 9, 3) := by decide +kernel
theorem dX1_isOpenFor_4 : decode cX1_isOpenFor 4 = .ok (.ifCond .ne 23, 3) := by decide +kernel
theorem dX1_isOpenFor_7 : decode cX1_isOpenFor 7 = .ok (.aload_n 0, 1) := by decide +kernel
theorem dX1_isOpenFor_8 : decode cX1_isOpenFor 8 = .ok (.getfield 15, 3) := by decide +kernel
theorem dX1_isOpenFor_11 : decode cX1_isOpenFor 11 = .ok (.iload_n 1, 1) := by decide +kernel
theorem dX1_isOpenFor_12 : decode cX1_isOpenFor 12 = .ok (.if_icmp .ne 15, 3) := by decide +kernel
theorem dX1_isOpenFor_15 : decode cX1_isOpenFor 15 = .ok (.aload_n 0, 1) := by decide +kernel
theorem dX1_isOpenFor_16 : decode cX1_isOpenFor 16 = .ok (.getfield 18, 3) := by decide +kernel
theorem dX1_isOpenFor_19 : decode cX1_isOpenFor 19 = .ok (.iload_n 2, 1) := by decide +kernel
theorem dX1_isOpenFor_20 : decode cX1_isOpenFor 20 = .ok (.if_icmp .ne 7, 3) := by decide +kernel
theorem dX1_isOpenFor_23 : decode cX1_isOpenFor 23 = .ok (.iconst 1, 1) := by decide +kernel
theorem dX1_isOpenFor_24 : decode cX1_isOpenFor 24 = .ok (.goto 4, 3) := by decide +kernel
theorem dX1_isOpenFor_27 : decode cX1_isOpenFor 27 = .ok (.iconst 0, 1) := by decide +kernel
theorem dX1_isOpenFor_28 : decode cX1_isOpenFor 28 = .ok (.ireturn, 1) := by decide +kernel
theorem dX1_canBeFilled_0 : decode cX1_canBeFilled 0 = .ok (.aload_n 0, 1) := by decide +kernel
theorem dX1_canBeFilled_1 : decode cX1_canBeFilled 1 = .ok (.getfield 9, 3) := by decide +kernel
theorem dX1_canBeFilled_4 : decode cX1_canBeFilled 4 = .ok (.iconst 1, 1) := by decide +kernel
theorem dX1_canBeFilled_5 : decode cX1_canBeFilled 5 = .ok (.if_icmp .eq 26, 3) := by decide +kernel
theorem dX1_canBeFilled_8 : decode cX1_canBeFilled 8 = .ok (.aload_n 1, 1) := by decide +kernel
theorem dX1_canBeFilled_9 : decode cX1_canBeFilled 9 = .ok (.aload_n 0, 1) := by decide +kernel
theorem dX1_canBeFilled_10 : decode cX1_canBeFilled 10 = .ok (.getfield 15, 3) := by decide +kernel
theorem dX1_canBeFilled_13 : decode cX1_canBeFilled 13 = .ok (.aload_n 0, 1) := by decide +kernel
theorem dX1_canBeFilled_14 : decode cX1_canBeFilled 14 = .ok (.getfield 18, 3) := by decide +kernel
theorem dX1_canBeFilled_17 : decode cX1_canBeFilled 17 = .ok (.invokevirtual 27, 3) := by decide +kernel
theorem dX1_canBeFilled_20 : decode cX1_canBeFilled 20 = .ok (.aload_n 0, 1) := by decide +kernel
theorem dX1_canBeFilled_21 : decode cX1_canBeFilled 21 = .ok (.getfield 21, 3) := by decide +kernel
theorem dX1_canBeFilled_24 : decode cX1_canBeFilled 24 = .ok (.if_icmp .lt 7, 3) := by decide +kernel
theorem dX1_canBeFilled_27 : decode cX1_canBeFilled 27 = .ok (.iconst 1, 1) := by decide +kernel
theorem dX1_canBeFilled_28 : decode cX1_canBeFilled 28 = .ok (.goto 4, 3) := by decide +kernel
theorem dX1_canBeFilled_31 : decode cX1_canBeFilled 31 = .ok (.iconst 0, 1) := by decide +kernel
theorem dX1_canBeFilled_32 : decode cX1_canBeFilled 32 = .ok (.ireturn, 1) := by decide +kernel
theorem dX2_init_0 : decode cX2_init 0 = .ok (.aload_n 0, 1) := by decide +kernel
theorem dX2_init_1 : decode cX2_init 1 = .ok (.invokespecial 3, 3) := by decide +kernel
theorem dX2_init_4 : decode cX2_init 4 = .ok (.aload_n 0, 1) := by decide +kernel
theorem dX2_init_5 : decode cX2_init 5 = .ok (.bipush 36, 2) := by decide +kernel
theorem dX2_init_7 : decode cX2_init 7 = .ok (.newarray .int, 2) := by decide +kernel
theorem dX2_init_9 : decode cX2_init 9 = .ok (.putfield 9, 3) := by decide +kernel
theorem dX2_init_12 : decode cX2_init 12 = .ok (.return_, 1) := by decide +kernel
theorem dX2_hasShelf_0 : decode cX2_hasShelf 0 = .ok (.iload_n 0, 1) := by decide +kernel
theorem dX2_hasShelf_1 : decode cX2_hasShelf 1 = .ok (.iconst 0, 1) := by decide +kernel
theorem dX2_hasShelf_2 : decode cX2_hasShelf 2 = .ok (.iconst 3, 1) := by decide +kernel
theorem dX2_hasShelf_3 : decode cX2_hasShelf 3 = .ok (.invokestatic 15, 3) := by decide +kernel
theorem dX2_hasShelf_6 : decode cX2_hasShelf 6 = .ok (.ifCond .eq 17, 3) := by decide +kernel
theorem dX2_hasShelf_9 : decode cX2_hasShelf 9 = .ok (.iload_n 1, 1) := by decide +kernel
theorem dX2_hasShelf_10 : decode cX2_hasShelf 10 = .ok (.iconst 1, 1) := by decide +kernel
theorem dX2_hasShelf_11 : decode cX2_hasShelf 11 = .ok (.bipush 9, 2) := by decide +kernel
theorem dX2_hasShelf_13 : decode cX2_hasShelf 13 = .ok (.invokestatic 15, 3) := by decide +kernel
theorem dX2_hasShelf_16 : decode cX2_hasShelf 16 = .ok (.ifCond .eq 7, 3) := by decide +kernel
theorem dX2_hasShelf_19 : decode cX2_hasShelf 19 = .ok (.iconst 1, 1) := by decide +kernel
theorem dX2_hasShelf_20 : decode cX2_hasShelf 20 = .ok (.goto 4, 3) := by decide +kernel
theorem dX2_hasShelf_23 : decode cX2_hasShelf 23 = .ok (.iconst 0, 1) := by decide +kernel
theorem dX2_hasShelf_24 : decode cX2_hasShelf 24 = .ok (.ireturn, 1) := by decide +kernel
theorem dX2_amount_0 : decode cX2_amount 0 = .ok (.iload_n 1, 1) := by decide +kernel
theorem dX2_amount_1 : decode cX2_amount 1 = .ok (.iload_n 2, 1) := by decide +kernel
theorem dX2_amount_2 : decode cX2_amount 2 = .ok (.invokestatic 19, 3) := by decide +kernel
theorem dX2_amount_5 : decode cX2_amount 5 = .ok (.ifCond .eq 19, 3) := by decide +kernel
theorem dX2_amount_8 : decode cX2_amount 8 = .ok (.aload_n 0, 1) := by decide +kernel
theorem dX2_amount_9 : decode cX2_amount 9 = .ok (.getfield 9, 3) := by decide +kernel
theorem dX2_amount_12 : decode cX2_amount 12 = .ok (.iload_n 1, 1) := by decide +kernel
theorem dX2_amount_13 : decode cX2_amount 13 = .ok (.bipush 9, 2) := by decide +kernel
theorem dX2_amount_15 : decode cX2_amount 15 = .ok (.imul, 1) := by decide +kernel
theorem dX2_amount_16 : decode cX2_amount 16 = .ok (.iload_n 2, 1) := by decide +kernel
theorem dX2_amount_17 : decode cX2_amount 17 = .ok (.iadd, 1) := by decide +kernel
theorem dX2_amount_18 : decode cX2_amount 18 = .ok (.iconst 1, 1) := by decide +kernel
theorem dX2_amount_19 : decode cX2_amount 19 = .ok (.isub, 1) := by decide +kernel
theorem dX2_amount_20 : decode cX2_amount 20 = .ok (.iaload, 1) := by decide +kernel
theorem dX2_amount_21 : decode cX2_amount 21 = .ok (.goto 4, 3) := by decide +kernel
theorem dX2_amount_24 : decode cX2_amount 24 = .ok (.iconst 0, 1) := by decide +kernel
theorem dX2_amount_25 : decode cX2_amount 25 = .ok (.ireturn, 1) := by decide +kernel
theorem dX2_amountFrom_0 : decode cX2_amountFrom 0 = .ok (.iconst 0, 1) := by decide +kernel
theorem dX2_amountFrom_1 : decode cX2_amountFrom 1 = .ok (.istore_n 3, 1) := by decide +kernel
theorem dX2_amountFrom_2 : decode cX2_amountFrom 2 = .ok (.iload_n 2, 1) := by decide +kernel
theorem dX2_amountFrom_3 : decode cX2_amountFrom 3 = .ok (.istore 4, 2) := by decide +kernel
theorem dX2_amountFrom_5 : decode cX2_amountFrom 5 = .ok (.iload 4, 2) := by decide +kernel
theorem dX2_amountFrom_7 : decode cX2_amountFrom 7 = .ok (.bipush 9, 2) := by decide +kernel
theorem dX2_amountFrom_9 : decode cX2_amountFrom 9 = .ok (.if_icmp .gt 19, 3) := by decide +kernel
theorem dX2_amountFrom_12 : decode cX2_amountFrom 12 = .ok (.iload_n 3, 1) := by decide +kernel
theorem dX2_amountFrom_13 : decode cX2_amountFrom 13 = .ok (.aload_n 0, 1) := by decide +kernel
theorem dX2_amountFrom_14 : decode cX2_amountFrom 14 = .ok (.iload_n 1, 1) := by decide +kernel
theorem dX2_amountFrom_15 : decode cX2_amountFrom 15 = .ok (.iload 4, 2) := by decide +kernel
theorem dX2_amountFrom_17 : decode cX2_amountFrom 17 = .ok (.invokevirtual 23, 3) := by decide +kernel
theorem dX2_amountFrom_20 : decode cX2_amountFrom 20 = .ok (.iadd, 1) := by decide +kernel
theorem dX2_amountFrom_21 : decode cX2_amountFrom 21 = .ok (.istore_n 3, 1) := by decide +kernel
theorem dX2_amountFrom_22 : decode cX2_amountFrom 22 = .ok (.iinc 4 1, 3) := by decide +kernel
theorem dX2_amountFrom_25 : decode cX2_amountFrom 25 = .ok (.goto (-20), 3) := by decide +kernel
theorem dX2_amountFrom_28 : decode cX2_amountFrom 28 = .ok (.iload_n 3, 1) := by decide +kernel
theorem dX2_amountFrom_29 : decode cX2_amountFrom 29 = .ok (.ireturn, 1) := by decide +kernel
theorem dX2_total_0 : decode cX2_total 0 = .ok (.iconst 0, 1) := by decide +kernel
theorem dX2_total_1 : decode cX2_total 1 = .ok (.istore_n 1, 1) := by decide +kernel
theorem dX2_total_2 : decode cX2_total 2 = .ok (.aload_n 0, 1) := by decide +kernel
theorem dX2_total_3 : decode cX2_total 3 = .ok (.getfield 9, 3) := by decide +kernel
theorem dX2_total_6 : decode cX2_total 6 = .ok (.astore_n 2, 1) := by decide +kernel
theorem dX2_total_7 : decode cX2_total 7 = .ok (.aload_n 2, 1) := by decide +kernel
theorem dX2_total_8 : decode cX2_total 8 = .ok (.arraylength, 1) := by decide +kernel
theorem dX2_total_9 : decode cX2_total 9 = .ok (.istore_n 3, 1) := by decide +kernel
theorem dX2_total_10 : decode cX2_total 10 = .ok (.iconst 0, 1) := by decide +kernel
theorem dX2_total_11 : decode cX2_total 11 = .ok (.istore 4, 2) := by decide +kernel
theorem dX2_total_13 : decode cX2_total 13 = .ok (.iload 4, 2) := by decide +kernel
theorem dX2_total_15 : decode cX2_total 15 = .ok (.iload_n 3, 1) := by decide +kernel
theorem dX2_total_16 : decode cX2_total 16 = .ok (.if_icmp .ge 20, 3) := by decide +kernel
theorem dX2_total_19 : decode cX2_total 19 = .ok (.aload_n 2, 1) := by decide +kernel
theorem dX2_total_20 : decode cX2_total 20 = .ok (.iload 4, 2) := by decide +kernel
theorem dX2_total_22 : decode cX2_total 22 = .ok (.iaload, 1) := by decide +kernel
theorem dX2_total_23 : decode cX2_total 23 = .ok (.istore 5, 2) := by decide +kernel
theorem dX2_total_25 : decode cX2_total 25 = .ok (.iload_n 1, 1) := by decide +kernel
theorem dX2_total_26 : decode cX2_total 26 = .ok (.iload 5, 2) := by decide +kernel
theorem dX2_total_28 : decode cX2_total 28 = .ok (.iadd, 1) := by decide +kernel
theorem dX2_total_29 : decode cX2_total 29 = .ok (.istore_n 1, 1) := by decide +kernel
theorem dX2_total_30 : decode cX2_total 30 = .ok (.iinc 4 1, 3) := by decide +kernel
theorem dX2_total_33 : decode cX2_total 33 = .ok (.goto (-20), 3) := by decide +kernel
theorem dX2_total_36 : decode cX2_total 36 = .ok (.iload_n 1, 1) := by decide +kernel
theorem dX2_total_37 : decode cX2_total 37 = .ok (.ireturn, 1) := by decide +kernel
theorem dX2_put_0 : decode cX2_put 0 = .ok (.iload_n 1, 1) := by decide +kernel
theorem dX2_put_1 : decode cX2_put 1 = .ok (.iload_n 2, 1) := by decide +kernel
theorem dX2_put_2 : decode cX2_put 2 = .ok (.invokestatic 19, 3) := by decide +kernel
theorem dX2_put_5 : decode cX2_put 5 = .ok (.ifCond .eq 20, 3) := by decide +kernel
theorem dX2_put_8 : decode cX2_put 8 = .ok (.aload_n 0, 1) := by decide +kernel
theorem dX2_put_9 : decode cX2_put 9 = .ok (.getfield 9, 3) := by decide +kernel
theorem dX2_put_12 : decode cX2_put 12 = .ok (.iload_n 1, 1) := by decide +kernel
theorem dX2_put_13 : decode cX2_put 13 = .ok (.bipush 9, 2) := by decide +kernel
theorem dX2_put_15 : decode cX2_put 15 = .ok (.imul, 1) := by decide +kernel
theorem dX2_put_16 : decode cX2_put 16 = .ok (.iload_n 2, 1) := by decide +kernel
theorem dX2_put_17 : decode cX2_put 17 = .ok (.iadd, 1) := by decide +kernel
theorem dX2_put_18 : decode cX2_put 18 = .ok (.iconst 1, 1) := by decide +kernel
theorem dX2_put_19 : decode cX2_put 19 = .ok (.isub, 1) := by decide +kernel
theorem dX2_put_20 : decode cX2_put 20 = .ok (.dup2, 1) := by decide +kernel
theorem dX2_put_21 : decode cX2_put 21 = .ok (.iaload, 1) := by decide +kernel
theorem dX2_put_22 : decode cX2_put 22 = .ok (.iload_n 3, 1) := by decide +kernel
theorem dX2_put_23 : decode cX2_put 23 = .ok (.iadd, 1) := by decide +kernel
theorem dX2_put_24 : decode cX2_put 24 = .ok (.iastore, 1) := by decide +kernel
theorem dX2_put_25 : decode cX2_put 25 = .ok (.return_, 1) := by decide +kernel
theorem dX2_take_0 : decode cX2_take 0 = .ok (.iload_n 3, 1) := by decide +kernel
theorem dX2_take_1 : decode cX2_take 1 = .ok (.istore 4, 2) := by decide +kernel
theorem dX2_take_3 : decode cX2_take 3 = .ok (.iload_n 2, 1) := by decide +kernel
theorem dX2_take_4 : decode cX2_take 4 = .ok (.istore 5, 2) := by decide +kernel
theorem dX2_take_6 : decode cX2_take 6 = .ok (.iload 5, 2) := by decide +kernel
theorem dX2_take_8 : decode cX2_take 8 = .ok (.bipush 9, 2) := by decide +kernel
theorem dX2_take_10 : decode cX2_take 10 = .ok (.if_icmp .gt 40, 3) := by decide +kernel
theorem dX2_take_13 : decode cX2_take 13 = .ok (.iload 4, 2) := by decide +kernel
theorem dX2_take_15 : decode cX2_take 15 = .ok (.aload_n 0, 1) := by decide +kernel
theorem dX2_take_16 : decode cX2_take 16 = .ok (.iload_n 1, 1) := by decide +kernel
theorem dX2_take_17 : decode cX2_take 17 = .ok (.iload 5, 2) := by decide +kernel
theorem dX2_take_19 : decode cX2_take 19 = .ok (.invokevirtual 23, 3) := by decide +kernel
theorem dX2_take_22 : decode cX2_take 22 = .ok (.invokestatic 27, 3) := by decide +kernel
theorem dX2_take_25 : decode cX2_take 25 = .ok (.istore 6, 2) := by decide +kernel
theorem dX2_take_27 : decode cX2_take 27 = .ok (.aload_n 0, 1) := by decide +kernel
theorem dX2_take_28 : decode cX2_take 28 = .ok (.iload_n 1, 1) := by decide +kernel
theorem dX2_take_29 : decode cX2_take 29 = .ok (.iload 5, 2) := by decide +kernel
theorem dX2_take_31 : decode cX2_take 31 = .ok (.iload 6, 2) := by decide +kernel
theorem dX2_take_33 : decode cX2_take 33 = .ok (.ineg, 1) := by decide +kernel
theorem dX2_take_34 : decode cX2_take 34 = .ok (.invokevirtual 32, 3) := by decide +kernel
theorem dX2_take_37 : decode cX2_take 37 = .ok (.iload 4, 2) := by decide +kernel
theorem dX2_take_39 : decode cX2_take 39 = .ok (.iload 6, 2) := by decide +kernel
theorem dX2_take_41 : decode cX2_take 41 = .ok (.isub, 1) := by decide +kernel
theorem dX2_take_42 : decode cX2_take 42 = .ok (.istore 4, 2) := by decide +kernel
theorem dX2_take_44 : decode cX2_take 44 = .ok (.iinc 5 1, 3) := by decide +kernel
theorem dX2_take_47 : decode cX2_take 47 = .ok (.goto (-41), 3) := by decide +kernel
theorem dX2_take_50 : decode cX2_take 50 = .ok (.return_, 1) := by decide +kernel
theorem dX3_init_0 : decode cX3_init 0 = .ok (.aload_n 0, 1) := by decide +kernel
theorem dX3_init_1 : decode cX3_init 1 = .ok (.invokespecial 3, 3) := by decide +kernel
theorem dX3_init_4 : decode cX3_init 4 = .ok (.aload_n 0, 1) := by decide +kernel
theorem dX3_init_5 : decode cX3_init 5 = .ok (.new 9, 3) := by decide +kernel
theorem dX3_init_8 : decode cX3_init 8 = .ok (.dup, 1) := by decide +kernel
theorem dX3_init_9 : decode cX3_init 9 = .ok (.iconst 0, 1) := by decide +kernel
theorem dX3_init_10 : decode cX3_init 10 = .ok (.iconst 1, 1) := by decide +kernel
theorem dX3_init_11 : decode cX3_init 11 = .ok (.invokespecial 11, 3) := by decide +kernel
theorem dX3_init_14 : decode cX3_init 14 = .ok (.putfield 14, 3) := by decide +kernel
theorem dX3_init_17 : decode cX3_init 17 = .ok (.aload_n 0, 1) := by decide +kernel
theorem dX3_init_18 : decode cX3_init 18 = .ok (.new 20, 3) := by decide +kernel
theorem dX3_init_21 : decode cX3_init 21 = .ok (.dup, 1) := by decide +kernel
theorem dX3_init_22 : decode cX3_init 22 = .ok (.invokespecial 22, 3) := by decide +kernel
theorem dX3_init_25 : decode cX3_init 25 = .ok (.putfield 23, 3) := by decide +kernel
theorem dX3_init_28 : decode cX3_init 28 = .ok (.return_, 1) := by decide +kernel
theorem dX3_thicknessAfter_0 : decode cX3_thicknessAfter 0 = .ok (.aload_n 0, 1) := by decide +kernel
theorem dX3_thicknessAfter_1 : decode cX3_thicknessAfter 1 = .ok (.aload_n 1, 1) := by decide +kernel
theorem dX3_thicknessAfter_2 : decode cX3_thicknessAfter 2 = .ok (.aload_n 2, 1) := by decide +kernel
theorem dX3_thicknessAfter_3 : decode cX3_thicknessAfter 3 = .ok (.invokevirtual 27, 3) := by decide +kernel
theorem dX3_thicknessAfter_6 : decode cX3_thicknessAfter 6 = .ok (.iconst 0, 1) := by decide +kernel
theorem dX3_thicknessAfter_7 : decode cX3_thicknessAfter 7 = .ok (.istore 4, 2) := by decide +kernel
theorem dX3_thicknessAfter_9 : decode cX3_thicknessAfter 9 = .ok (.iload 4, 2) := by decide +kernel
theorem dX3_thicknessAfter_11 : decode cX3_thicknessAfter 11 = .ok (.iload_n 3, 1) := by decide +kernel
theorem dX3_thicknessAfter_12 : decode cX3_thicknessAfter 12 = .ok (.if_icmp .ge 19, 3) := by decide +kernel
theorem dX3_thicknessAfter_15 : decode cX3_thicknessAfter 15 = .ok (.aload_n 0, 1) := by decide +kernel
theorem dX3_thicknessAfter_16 : decode cX3_thicknessAfter 16 = .ok (.invokevirtual 31, 3) := by decide +kernel
theorem dX3_thicknessAfter_19 : decode cX3_thicknessAfter 19 = .ok (.ifCond .ne 6, 3) := by decide +kernel
theorem dX3_thicknessAfter_22 : decode cX3_thicknessAfter 22 = .ok (.goto 9, 3) := by decide +kernel
theorem dX3_thicknessAfter_25 : decode cX3_thicknessAfter 25 = .ok (.iinc 4 1, 3) := by decide +kernel
theorem dX3_thicknessAfter_28 : decode cX3_thicknessAfter 28 = .ok (.goto (-19), 3) := by decide +kernel
theorem dX3_thicknessAfter_31 : decode cX3_thicknessAfter 31 = .ok (.aload_n 0, 1) := by decide +kernel
theorem dX3_thicknessAfter_32 : decode cX3_thicknessAfter 32 = .ok (.getfield 14, 3) := by decide +kernel
theorem dX3_thicknessAfter_35 : decode cX3_thicknessAfter 35 = .ok (.getfield 35, 3) := by decide +kernel
theorem dX3_thicknessAfter_38 : decode cX3_thicknessAfter 38 = .ok (.ireturn, 1) := by decide +kernel
theorem dX3_dipsNeeded_0 : decode cX3_dipsNeeded 0 = .ok (.aload_n 0, 1) := by decide +kernel
theorem dX3_dipsNeeded_1 : decode cX3_dipsNeeded 1 = .ok (.aload_n 1, 1) := by decide +kernel
theorem dX3_dipsNeeded_2 : decode cX3_dipsNeeded 2 = .ok (.aload_n 2, 1) := by decide +kernel
theorem dX3_dipsNeeded_3 : decode cX3_dipsNeeded 3 = .ok (.invokevirtual 27, 3) := by decide +kernel
theorem dX3_dipsNeeded_6 : decode cX3_dipsNeeded 6 = .ok (.aload_n 0, 1) := by decide +kernel
theorem dX3_dipsNeeded_7 : decode cX3_dipsNeeded 7 = .ok (.getfield 14, 3) := by decide +kernel
theorem dX3_dipsNeeded_10 : decode cX3_dipsNeeded 10 = .ok (.invokevirtual 39, 3) := by decide +kernel
theorem dX3_dipsNeeded_13 : decode cX3_dipsNeeded 13 = .ok (.iload 4, 2) := by decide +kernel
theorem dX3_dipsNeeded_15 : decode cX3_dipsNeeded 15 = .ok (.if_icmp .lt 5, 3) := by decide +kernel
theorem dX3_dipsNeeded_18 : decode cX3_dipsNeeded 18 = .ok (.iconst 0, 1) := by decide +kernel
theorem dX3_dipsNeeded_19 : decode cX3_dipsNeeded 19 = .ok (.ireturn, 1) := by decide +kernel
theorem dX3_dipsNeeded_20 : decode cX3_dipsNeeded 20 = .ok (.iconst 1, 1) := by decide +kernel
theorem dX3_dipsNeeded_21 : decode cX3_dipsNeeded 21 = .ok (.istore 5, 2) := by decide +kernel
theorem dX3_dipsNeeded_23 : decode cX3_dipsNeeded 23 = .ok (.iload 5, 2) := by decide +kernel
theorem dX3_dipsNeeded_25 : decode cX3_dipsNeeded 25 = .ok (.bipush 60, 2) := by decide +kernel
theorem dX3_dipsNeeded_27 : decode cX3_dipsNeeded 27 = .ok (.if_icmp .gt 38, 3) := by decide +kernel
theorem dX3_dipsNeeded_30 : decode cX3_dipsNeeded 30 = .ok (.aload_n 0, 1) := by decide +kernel
theorem dX3_dipsNeeded_31 : decode cX3_dipsNeeded 31 = .ok (.invokevirtual 31, 3) := by decide +kernel
theorem dX3_dipsNeeded_34 : decode cX3_dipsNeeded 34 = .ok (.ifCond .ne 5, 3) := by decide +kernel
theorem dX3_dipsNeeded_37 : decode cX3_dipsNeeded 37 = .ok (.iconst (-1), 1) := by decide +kernel
theorem dX3_dipsNeeded_38 : decode cX3_dipsNeeded 38 = .ok (.ireturn, 1) := by decide +kernel
theorem dX3_dipsNeeded_39 : decode cX3_dipsNeeded 39 = .ok (.aload_n 0, 1) := by decide +kernel
theorem dX3_dipsNeeded_40 : decode cX3_dipsNeeded 40 = .ok (.getfield 14, 3) := by decide +kernel
theorem dX3_dipsNeeded_43 : decode cX3_dipsNeeded 43 = .ok (.invokevirtual 39, 3) := by decide +kernel
theorem dX3_dipsNeeded_46 : decode cX3_dipsNeeded 46 = .ok (.iload 4, 2) := by decide +kernel
theorem dX3_dipsNeeded_48 : decode cX3_dipsNeeded 48 = .ok (.if_icmp .lt 6, 3) := by decide +kernel
theorem dX3_dipsNeeded_51 : decode cX3_dipsNeeded 51 = .ok (.iload 5, 2) := by decide +kernel
theorem dX3_dipsNeeded_53 : decode cX3_dipsNeeded 53 = .ok (.ireturn, 1) := by decide +kernel
theorem dX3_dipsNeeded_54 : decode cX3_dipsNeeded 54 = .ok (.aload_n 0, 1) := by decide +kernel
theorem dX3_dipsNeeded_55 : decode cX3_dipsNeeded 55 = .ok (.iload_n 3, 1) := by decide +kernel
theorem dX3_dipsNeeded_56 : decode cX3_dipsNeeded 56 = .ok (.invokevirtual 43, 3) := by decide +kernel
theorem dX3_dipsNeeded_59 : decode cX3_dipsNeeded 59 = .ok (.iinc 5 1, 3) := by decide +kernel
theorem dX3_dipsNeeded_62 : decode cX3_dipsNeeded 62 = .ok (.goto (-39), 3) := by decide +kernel
theorem dX3_dipsNeeded_65 : decode cX3_dipsNeeded 65 = .ok (.iconst (-1), 1) := by decide +kernel
theorem dX3_dipsNeeded_66 : decode cX3_dipsNeeded 66 = .ok (.ireturn, 1) := by decide +kernel
theorem dX3_quickestRest_0 : decode cX3_quickestRest 0 = .ok (.iconst (-1), 1) := by decide +kernel
theorem dX3_quickestRest_1 : decode cX3_quickestRest 1 = .ok (.istore 4, 2) := by decide +kernel
theorem dX3_quickestRest_3 : decode cX3_quickestRest 3 = .ok (.iconst 0, 1) := by decide +kernel
theorem dX3_quickestRest_4 : decode cX3_quickestRest 4 = .ok (.istore 5, 2) := by decide +kernel
theorem dX3_quickestRest_6 : decode cX3_quickestRest 6 = .ok (.iconst 0, 1) := by decide +kernel
theorem dX3_quickestRest_7 : decode cX3_quickestRest 7 = .ok (.istore 6, 2) := by decide +kernel
theorem dX3_quickestRest_9 : decode cX3_quickestRest 9 = .ok (.iload 6, 2) := by decide +kernel
theorem dX3_quickestRest_11 : decode cX3_quickestRest 11 = .ok (.bipush 20, 2) := by decide +kernel
theorem dX3_quickestRest_13 : decode cX3_quickestRest 13 = .ok (.if_icmp .gt 64, 3) := by decide +kernel
theorem dX3_quickestRest_16 : decode cX3_quickestRest 16 = .ok (.aload_n 0, 1) := by decide +kernel
theorem dX3_quickestRest_17 : decode cX3_quickestRest 17 = .ok (.aload_n 1, 1) := by decide +kernel
theorem dX3_quickestRest_18 : decode cX3_quickestRest 18 = .ok (.aload_n 2, 1) := by decide +kernel
theorem dX3_quickestRest_19 : decode cX3_quickestRest 19 = .ok (.iload 6, 2) := by decide +kernel
theorem dX3_quickestRest_21 : decode cX3_quickestRest 21 = .ok (.iload_n 3, 1) := by decide +kernel
theorem dX3_quickestRest_22 : decode cX3_quickestRest 22 = .ok (.invokevirtual 47, 3) := by decide +kernel
theorem dX3_quickestRest_25 : decode cX3_quickestRest 25 = .ok (.istore 7, 2) := by decide +kernel
theorem dX3_quickestRest_27 : decode cX3_quickestRest 27 = .ok (.iload 7, 2) := by decide +kernel
theorem dX3_quickestRest_29 : decode cX3_quickestRest 29 = .ok (.ifCond .ne 5, 3) := by decide +kernel
theorem dX3_quickestRest_32 : decode cX3_quickestRest 32 = .ok (.iconst 0, 1) := by decide +kernel
theorem dX3_quickestRest_33 : decode cX3_quickestRest 33 = .ok (.ireturn, 1) := by decide +kernel
theorem dX3_quickestRest_34 : decode cX3_quickestRest 34 = .ok (.iload 7, 2) := by decide +kernel
theorem dX3_quickestRest_36 : decode cX3_quickestRest 36 = .ok (.iload 7, 2) := by decide +kernel
theorem dX3_quickestRest_38 : decode cX3_quickestRest 38 = .ok (.iconst 1, 1) := by decide +kernel
theorem dX3_quickestRest_39 : decode cX3_quickestRest 39 = .ok (.isub, 1) := by decide +kernel
theorem dX3_quickestRest_40 : decode cX3_quickestRest 40 = .ok (.iload 6, 2) := by decide +kernel
theorem dX3_quickestRest_42 : decode cX3_quickestRest 42 = .ok (.imul, 1) := by decide +kernel
theorem dX3_quickestRest_43 : decode cX3_quickestRest 43 = .ok (.iadd, 1) := by decide +kernel
theorem dX3_quickestRest_44 : decode cX3_quickestRest 44 = .ok (.istore 8, 2) := by decide +kernel
theorem dX3_quickestRest_46 : decode cX3_quickestRest 46 = .ok (.iload 7, 2) := by decide +kernel
theorem dX3_quickestRest_48 : decode cX3_quickestRest 48 = .ok (.ifCond .le 23, 3) := by decide +kernel
theorem dX3_quickestRest_51 : decode cX3_quickestRest 51 = .ok (.iload 4, 2) := by decide +kernel
theorem dX3_quickestRest_53 : decode cX3_quickestRest 53 = .ok (.ifCond .lt 10, 3) := by decide +kernel
theorem dX3_quickestRest_56 : decode cX3_quickestRest 56 = .ok (.iload 8, 2) := by decide +kernel
theorem dX3_quickestRest_58 : decode cX3_quickestRest 58 = .ok (.iload 5, 2) := by decide +kernel
theorem dX3_quickestRest_60 : decode cX3_quickestRest 60 = .ok (.if_icmp .ge 11, 3) := by decide +kernel
theorem dX3_quickestRest_63 : decode cX3_quickestRest 63 = .ok (.iload 6, 2) := by decide +kernel
theorem dX3_quickestRest_65 : decode cX3_quickestRest 65 = .ok (.istore 4, 2) := by decide +kernel
theorem dX3_quickestRest_67 : decode cX3_quickestRest 67 = .ok (.iload 8, 2) := by decide +kernel
theorem dX3_quickestRest_69 : decode cX3_quickestRest 69 = .ok (.istore 5, 2) := by decide +kernel
theorem dX3_quickestRest_71 : decode cX3_quickestRest 71 = .ok (.iinc 6 1, 3) := by decide +kernel
theorem dX3_quickestRest_74 : decode cX3_quickestRest 74 = .ok (.goto (-65), 3) := by decide +kernel
theorem dX3_quickestRest_77 : decode cX3_quickestRest 77 = .ok (.iload 4, 2) := by decide +kernel
theorem dX3_quickestRest_79 : decode cX3_quickestRest 79 = .ok (.ireturn, 1) := by decide +kernel
theorem dX3_begin_0 : decode cX3_begin 0 = .ok (.aload_n 0, 1) := by decide +kernel
theorem dX3_begin_1 : decode cX3_begin 1 = .ok (.getfield 14, 3) := by decide +kernel
theorem dX3_begin_4 : decode cX3_begin 4 = .ok (.aload_n 1, 1) := by decide +kernel
theorem dX3_begin_5 : decode cX3_begin 5 = .ok (.invokevirtual 51, 3) := by decide +kernel
theorem dX3_begin_8 : decode cX3_begin 8 = .ok (.aload_n 0, 1) := by decide +kernel
theorem dX3_begin_9 : decode cX3_begin 9 = .ok (.getfield 23, 3) := by decide +kernel
theorem dX3_begin_12 : decode cX3_begin 12 = .ok (.aload_n 2, 1) := by decide +kernel
theorem dX3_begin_13 : decode cX3_begin 13 = .ok (.invokevirtual 55, 3) := by decide +kernel
theorem dX3_begin_16 : decode cX3_begin 16 = .ok (.return_, 1) := by decide +kernel
theorem dX3_tryDip_0 : decode cX3_tryDip 0 = .ok (.aload_n 0, 1) := by decide +kernel
theorem dX3_tryDip_1 : decode cX3_tryDip 1 = .ok (.getfield 14, 3) := by decide +kernel
theorem dX3_tryDip_4 : decode cX3_tryDip 4 = .ok (.aload_n 0, 1) := by decide +kernel
theorem dX3_tryDip_5 : decode cX3_tryDip 5 = .ok (.getfield 23, 3) := by decide +kernel
theorem dX3_tryDip_8 : decode cX3_tryDip 8 = .ok (.invokevirtual 58, 3) := by decide +kernel
theorem dX3_tryDip_11 : decode cX3_tryDip 11 = .ok (.ifCond .ne 5, 3) := by decide +kernel
theorem dX3_tryDip_14 : decode cX3_tryDip 14 = .ok (.iconst 0, 1) := by decide +kernel
theorem dX3_tryDip_15 : decode cX3_tryDip 15 = .ok (.ireturn, 1) := by decide +kernel
theorem dX3_tryDip_16 : decode cX3_tryDip 16 = .ok (.aload_n 0, 1) := by decide +kernel
theorem dX3_tryDip_17 : decode cX3_tryDip 17 = .ok (.getfield 14, 3) := by decide +kernel
theorem dX3_tryDip_20 : decode cX3_tryDip 20 = .ok (.aload_n 0, 1) := by decide +kernel
theorem dX3_tryDip_21 : decode cX3_tryDip 21 = .ok (.getfield 23, 3) := by decide +kernel
theorem dX3_tryDip_24 : decode cX3_tryDip 24 = .ok (.invokevirtual 62, 3) := by decide +kernel
theorem dX3_tryDip_27 : decode cX3_tryDip 27 = .ok (.aload_n 0, 1) := by decide +kernel
theorem dX3_tryDip_28 : decode cX3_tryDip 28 = .ok (.getfield 23, 3) := by decide +kernel
theorem dX3_tryDip_31 : decode cX3_tryDip 31 = .ok (.invokevirtual 65, 3) := by decide +kernel
theorem dX3_tryDip_34 : decode cX3_tryDip 34 = .ok (.iconst 1, 1) := by decide +kernel
theorem dX3_tryDip_35 : decode cX3_tryDip 35 = .ok (.ireturn, 1) := by decide +kernel
theorem dX3_letRest_0 : decode cX3_letRest 0 = .ok (.iconst 0, 1) := by decide +kernel
theorem dX3_letRest_1 : decode cX3_letRest 1 = .ok (.istore_n 2, 1) := by decide +kernel
theorem dX3_letRest_2 : decode cX3_letRest 2 = .ok (.iload_n 2, 1) := by decide +kernel
theorem dX3_letRest_3 : decode cX3_letRest 3 = .ok (.iload_n 1, 1) := by decide +kernel
theorem dX3_letRest_4 : decode cX3_letRest 4 = .ok (.if_icmp .ge 23, 3) := by decide +kernel
theorem dX3_letRest_7 : decode cX3_letRest 7 = .ok (.aload_n 0, 1) := by decide +kernel
theorem dX3_letRest_8 : decode cX3_letRest 8 = .ok (.getfield 23, 3) := by decide +kernel
theorem dX3_letRest_11 : decode cX3_letRest 11 = .ok (.invokevirtual 65, 3) := by decide +kernel
theorem dX3_letRest_14 : decode cX3_letRest 14 = .ok (.aload_n 0, 1) := by decide +kernel
theorem dX3_letRest_15 : decode cX3_letRest 15 = .ok (.getfield 14, 3) := by decide +kernel
theorem dX3_letRest_18 : decode cX3_letRest 18 = .ok (.invokevirtual 68, 3) := by decide +kernel
theorem dX3_letRest_21 : decode cX3_letRest 21 = .ok (.iinc 2 1, 3) := by decide +kernel
theorem dX3_letRest_24 : decode cX3_letRest 24 = .ok (.goto (-22), 3) := by decide +kernel
theorem dX3_letRest_27 : decode cX3_letRest 27 = .ok (.return_, 1) := by decide +kernel
theorem dX4_init_0 : decode cX4_init 0 = .ok (.aload_n 0, 1) := by decide +kernel
theorem dX4_init_1 : decode cX4_init 1 = .ok (.invokespecial 3, 3) := by decide +kernel
theorem dX4_init_4 : decode cX4_init 4 = .ok (.aload_n 0, 1) := by decide +kernel
theorem dX4_init_5 : decode cX4_init 5 = .ok (.bipush 20, 2) := by decide +kernel
theorem dX4_init_7 : decode cX4_init 7 = .ok (.putfield 9, 3) := by decide +kernel
theorem dX4_init_10 : decode cX4_init 10 = .ok (.return_, 1) := by decide +kernel
theorem dX4_isMelted_0 : decode cX4_isMelted 0 = .ok (.aload_n 0, 1) := by decide +kernel
theorem dX4_isMelted_1 : decode cX4_isMelted 1 = .ok (.getfield 9, 3) := by decide +kernel
theorem dX4_isMelted_4 : decode cX4_isMelted 4 = .ok (.bipush 60, 2) := by decide +kernel
theorem dX4_isMelted_6 : decode cX4_isMelted 6 = .ok (.if_icmp .lt 7, 3) := by decide +kernel
theorem dX4_isMelted_9 : decode cX4_isMelted 9 = .ok (.iconst 1, 1) := by decide +kernel
theorem dX4_isMelted_10 : decode cX4_isMelted 10 = .ok (.goto 4, 3) := by decide +kernel
theorem dX4_isMelted_13 : decode cX4_isMelted 13 = .ok (.iconst 0, 1) := by decide +kernel
theorem dX4_isMelted_14 : decode cX4_isMelted 14 = .ok (.ireturn, 1) := by decide +kernel
theorem dX4_throwIn_0 : decode cX4_throwIn 0 = .ok (.aload_n 0, 1) := by decide +kernel
theorem dX4_throwIn_1 : decode cX4_throwIn 1 = .ok (.getfield 15, 3) := by decide +kernel
theorem dX4_throwIn_4 : decode cX4_throwIn 4 = .ok (.iload_n 1, 1) := by decide +kernel
theorem dX4_throwIn_5 : decode cX4_throwIn 5 = .ok (.iadd, 1) := by decide +kernel
theorem dX4_throwIn_6 : decode cX4_throwIn 6 = .ok (.istore_n 2, 1) := by decide +kernel
theorem dX4_throwIn_7 : decode cX4_throwIn 7 = .ok (.iload_n 2, 1) := by decide +kernel
theorem dX4_throwIn_8 : decode cX4_throwIn 8 = .ok (.ifCond .le 23, 3) := by decide +kernel
theorem dX4_throwIn_11 : decode cX4_throwIn 11 = .ok (.aload_n 0, 1) := by decide +kernel
theorem dX4_throwIn_12 : decode cX4_throwIn 12 = .ok (.aload_n 0, 1) := by decide +kernel
theorem dX4_throwIn_13 : decode cX4_throwIn 13 = .ok (.getfield 9, 3) := by decide +kernel
theorem dX4_throwIn_16 : decode cX4_throwIn 16 = .ok (.aload_n 0, 1) := by decide +kernel
theorem dX4_throwIn_17 : decode cX4_throwIn 17 = .ok (.getfield 15, 3) := by decide +kernel
theorem dX4_throwIn_20 : decode cX4_throwIn 20 = .ok (.imul, 1) := by decide +kernel
theorem dX4_throwIn_21 : decode cX4_throwIn 21 = .ok (.bipush 20, 2) := by decide +kernel
theorem dX4_throwIn_23 : decode cX4_throwIn 23 = .ok (.iload_n 1, 1) := by decide +kernel
theorem dX4_throwIn_24 : decode cX4_throwIn 24 = .ok (.imul, 1) := by decide +kernel
theorem dX4_throwIn_25 : decode cX4_throwIn 25 = .ok (.iadd, 1) := by decide +kernel
theorem dX4_throwIn_26 : decode cX4_throwIn 26 = .ok (.iload_n 2, 1) := by decide +kernel
theorem dX4_throwIn_27 : decode cX4_throwIn 27 = .ok (.idiv, 1) := by decide +kernel
theorem dX4_throwIn_28 : decode cX4_throwIn 28 = .ok (.putfield 9, 3) := by decide +kernel
theorem dX4_throwIn_31 : decode cX4_throwIn 31 = .ok (.aload_n 0, 1) := by decide +kernel
theorem dX4_throwIn_32 : decode cX4_throwIn 32 = .ok (.iload_n 2, 1) := by decide +kernel
theorem dX4_throwIn_33 : decode cX4_throwIn 33 = .ok (.putfield 15, 3) := by decide +kernel
theorem dX4_throwIn_36 : decode cX4_throwIn 36 = .ok (.return_, 1) := by decide +kernel
theorem dX4_takeBack_0 : decode cX4_takeBack 0 = .ok (.aload_n 0, 1) := by decide +kernel
theorem dX4_takeBack_1 : decode cX4_takeBack 1 = .ok (.sipush 20000, 3) := by decide +kernel
theorem dX4_takeBack_4 : decode cX4_takeBack 4 = .ok (.aload_n 0, 1) := by decide +kernel
theorem dX4_takeBack_5 : decode cX4_takeBack 5 = .ok (.getfield 15, 3) := by decide +kernel
theorem dX4_takeBack_8 : decode cX4_takeBack 8 = .ok (.iload_n 1, 1) := by decide +kernel
theorem dX4_takeBack_9 : decode cX4_takeBack 9 = .ok (.iadd, 1) := by decide +kernel
theorem dX4_takeBack_10 : decode cX4_takeBack 10 = .ok (.invokestatic 18, 3) := by decide +kernel
theorem dX4_takeBack_13 : decode cX4_takeBack 13 = .ok (.putfield 15, 3) := by decide +kernel
theorem dX4_takeBack_16 : decode cX4_takeBack 16 = .ok (.return_, 1) := by decide +kernel
theorem dX4_burn_0 : decode cX4_burn 0 = .ok (.aload_n 0, 1) := by decide +kernel
theorem dX4_burn_1 : decode cX4_burn 1 = .ok (.getfield 9, 3) := by decide +kernel
theorem dX4_burn_4 : decode cX4_burn 4 = .ok (.bipush 6, 2) := by decide +kernel
theorem dX4_burn_6 : decode cX4_burn 6 = .ok (.aload_n 0, 1) := by decide +kernel
theorem dX4_burn_7 : decode cX4_burn 7 = .ok (.getfield 24, 3) := by decide +kernel
theorem dX4_burn_10 : decode cX4_burn 10 = .ok (.imul, 1) := by decide +kernel
theorem dX4_burn_11 : decode cX4_burn 11 = .ok (.iadd, 1) := by decide +kernel
theorem dX4_burn_12 : decode cX4_burn 12 = .ok (.istore_n 1, 1) := by decide +kernel
theorem dX4_burn_13 : decode cX4_burn 13 = .ok (.iload_n 1, 1) := by decide +kernel
theorem dX4_burn_14 : decode cX4_burn 14 = .ok (.iload_n 1, 1) := by decide +kernel
theorem dX4_burn_15 : decode cX4_burn 15 = .ok (.bipush 20, 2) := by decide +kernel
theorem dX4_burn_17 : decode cX4_burn 17 = .ok (.isub, 1) := by decide +kernel
theorem dX4_burn_18 : decode cX4_burn 18 = .ok (.bipush 10, 2) := by decide +kernel
theorem dX4_burn_20 : decode cX4_burn 20 = .ok (.idiv, 1) := by decide +kernel
theorem dX4_burn_21 : decode cX4_burn 21 = .ok (.isub, 1) := by decide +kernel
theorem dX4_burn_22 : decode cX4_burn 22 = .ok (.istore_n 2, 1) := by decide +kernel
theorem dX4_burn_23 : decode cX4_burn 23 = .ok (.aload_n 0, 1) := by decide +kernel
theorem dX4_burn_24 : decode cX4_burn 24 = .ok (.iconst 0, 1) := by decide +kernel
theorem dX4_burn_25 : decode cX4_burn 25 = .ok (.bipush 120, 2) := by decide +kernel
theorem dX4_burn_27 : decode cX4_burn 27 = .ok (.iload_n 2, 1) := by decide +kernel
theorem dX4_burn_28 : decode cX4_burn 28 = .ok (.invokestatic 18, 3) := by decide +kernel
theorem dX4_burn_31 : decode cX4_burn 31 = .ok (.invokestatic 27, 3) := by decide +kernel
theorem dX4_burn_34 : decode cX4_burn 34 = .ok (.putfield 9, 3) := by decide +kernel
theorem dX4_burn_37 : decode cX4_burn 37 = .ok (.return_, 1) := by decide +kernel
theorem dX4_copyFrom_0 : decode cX4_copyFrom 0 = .ok (.aload_n 0, 1) := by decide +kernel
theorem dX4_copyFrom_1 : decode cX4_copyFrom 1 = .ok (.aload_n 1, 1) := by decide +kernel
theorem dX4_copyFrom_2 : decode cX4_copyFrom 2 = .ok (.getfield 15, 3) := by decide +kernel
theorem dX4_copyFrom_5 : decode cX4_copyFrom 5 = .ok (.putfield 15, 3) := by decide +kernel
theorem dX4_copyFrom_8 : decode cX4_copyFrom 8 = .ok (.aload_n 0, 1) := by decide +kernel
theorem dX4_copyFrom_9 : decode cX4_copyFrom 9 = .ok (.aload_n 1, 1) := by decide +kernel
theorem dX4_copyFrom_10 : decode cX4_copyFrom 10 = .ok (.getfield 9, 3) := by decide +kernel
theorem dX4_copyFrom_13 : decode cX4_copyFrom 13 = .ok (.putfield 9, 3) := by decide +kernel
theorem dX4_copyFrom_16 : decode cX4_copyFrom 16 = .ok (.aload_n 0, 1) := by decide +kernel
theorem dX4_copyFrom_17 : decode cX4_copyFrom 17 = .ok (.aload_n 1, 1) := by decide +kernel
theorem dX4_copyFrom_18 : decode cX4_copyFrom 18 = .ok (.getfield 24, 3) := by decide +kernel
theorem dX4_copyFrom_21 : decode cX4_copyFrom 21 = .ok (.putfield 24, 3) := by decide +kernel
theorem dX4_copyFrom_24 : decode cX4_copyFrom 24 = .ok (.return_, 1) := by decide +kernel
theorem dX5_init_0 : decode cX5_init 0 = .ok (.aload_n 0, 1) := by decide +kernel
theorem dX5_init_1 : decode cX5_init 1 = .ok (.invokespecial 1, 3) := by decide +kernel
theorem dX5_init_4 : decode cX5_init 4 = .ok (.aload_n 0, 1) := by decide +kernel
theorem dX5_init_5 : decode cX5_init 5 = .ok (.new 7, 3) := by decide +kernel
theorem dX5_init_8 : decode cX5_init 8 = .ok (.dup, 1) := by decide +kernel
theorem dX5_init_9 : decode cX5_init 9 = .ok (.invokespecial 9, 3) := by decide +kernel
theorem dX5_init_12 : decode cX5_init 12 = .ok (.putfield 10, 3) := by decide +kernel
theorem dX5_init_15 : decode cX5_init 15 = .ok (.aload_n 0, 1) := by decide +kernel
theorem dX5_init_16 : decode cX5_init 16 = .ok (.bipush 12, 2) := by decide +kernel
theorem dX5_init_18 : decode cX5_init 18 = .ok (.anewarray 16, 3) := by decide +kernel
theorem dX5_init_21 : decode cX5_init 21 = .ok (.putfield 18, 3) := by decide +kernel
theorem dX5_init_24 : decode cX5_init 24 = .ok (.aload_n 0, 1) := by decide +kernel
theorem dX5_init_25 : decode cX5_init 25 = .ok (.new 22, 3) := by decide +kernel
theorem dX5_init_28 : decode cX5_init 28 = .ok (.dup, 1) := by decide +kernel
theorem dX5_init_29 : decode cX5_init 29 = .ok (.invokespecial 24, 3) := by decide +kernel
theorem dX5_init_32 : decode cX5_init 32 = .ok (.putfield 25, 3) := by decide +kernel
theorem dX5_init_35 : decode cX5_init 35 = .ok (.aload_n 0, 1) := by decide +kernel
theorem dX5_init_36 : decode cX5_init 36 = .ok (.bipush 20, 2) := by decide +kernel
theorem dX5_init_38 : decode cX5_init 38 = .ok (.anewarray 29, 3) := by decide +kernel
theorem dX5_init_41 : decode cX5_init 41 = .ok (.putfield 31, 3) := by decide +kernel
theorem dX5_init_44 : decode cX5_init 44 = .ok (.aload_n 0, 1) := by decide +kernel
theorem dX5_init_45 : decode cX5_init 45 = .ok (.new 35, 3) := by decide +kernel
theorem dX5_init_48 : decode cX5_init 48 = .ok (.dup, 1) := by decide +kernel
theorem dX5_init_49 : decode cX5_init 49 = .ok (.invokespecial 37, 3) := by decide +kernel
theorem dX5_init_52 : decode cX5_init 52 = .ok (.putfield 38, 3) := by decide +kernel
theorem dX5_init_55 : decode cX5_init 55 = .ok (.aload_n 0, 1) := by decide +kernel
theorem dX5_init_56 : decode cX5_init 56 = .ok (.bipush 21, 2) := by decide +kernel
theorem dX5_init_58 : decode cX5_init 58 = .ok (.newarray .int, 2) := by decide +kernel
theorem dX5_init_60 : decode cX5_init 60 = .ok (.putfield 42, 3) := by decide +kernel
theorem dX5_init_63 : decode cX5_init 63 = .ok (.return_, 1) := by decide +kernel
theorem dX5_melt_0 : decode cX5_melt 0 = .ok (.iload_n 1, 1) := by decide +kernel
theorem dX5_melt_1 : decode cX5_melt 1 = .ok (.iconst 1, 1) := by decide +kernel
theorem dX5_melt_2 : decode cX5_melt 2 = .ok (.sipush 5000, 3) := by decide +kernel
theorem dX5_melt_5 : decode cX5_melt 5 = .ok (.invokestatic 46, 3) := by decide +kernel
theorem dX5_melt_8 : decode cX5_melt 8 = .ok (.ifCond .ne 13, 3) := by decide +kernel
theorem dX5_melt_11 : decode cX5_melt 11 = .ok (.new 50, 3) := by decide +kernel
theorem dX5_melt_14 : decode cX5_melt 14 = .ok (.dup, 1) := by decide +kernel
theorem dX5_melt_15 : decode cX5_melt 15 = .ok (.ldc 52, 2) := by decide +kernel
theorem dX5_melt_17 : decode cX5_melt 17 = .ok (.invokespecial 54, 3) := by decide +kernel
theorem dX5_melt_20 : decode cX5_melt 20 = .ok (.athrow, 1) := by decide +kernel
theorem dX5_melt_21 : decode cX5_melt 21 = .ok (.aload_n 0, 1) := by decide +kernel
theorem dX5_melt_22 : decode cX5_melt 22 = .ok (.getfield 10, 3) := by decide +kernel
theorem dX5_melt_25 : decode cX5_melt 25 = .ok (.getfield 57, 3) := by decide +kernel
theorem dX5_melt_28 : decode cX5_melt 28 = .ok (.iload_n 1, 1) := by decide +kernel
theorem dX5_melt_29 : decode cX5_melt 29 = .ok (.iadd, 1) := by decide +kernel
theorem dX5_melt_30 : decode cX5_melt 30 = .ok (.sipush 20000, 3) := by decide +kernel
theorem dX5_melt_33 : decode cX5_melt 33 = .ok (.if_icmp .le 13, 3) := by decide +kernel
theorem dX5_melt_36 : decode cX5_melt 36 = .ok (.new 61, 3) := by decide +kernel
theorem dX5_melt_39 : decode cX5_melt 39 = .ok (.dup, 1) := by decide +kernel
theorem dX5_melt_40 : decode cX5_melt 40 = .ok (.ldc 63, 2) := by decide +kernel
theorem dX5_melt_42 : decode cX5_melt 42 = .ok (.invokespecial 65, 3) := by decide +kernel
theorem dX5_melt_45 : decode cX5_melt 45 = .ok (.athrow, 1) := by decide +kernel
theorem dX5_melt_46 : decode cX5_melt 46 = .ok (.aload_n 0, 1) := by decide +kernel
theorem dX5_melt_47 : decode cX5_melt 47 = .ok (.getfield 10, 3) := by decide +kernel
theorem dX5_melt_50 : decode cX5_melt 50 = .ok (.iload_n 1, 1) := by decide +kernel
theorem dX5_melt_51 : decode cX5_melt 51 = .ok (.invokevirtual 66, 3) := by decide +kernel
theorem dX5_melt_54 : decode cX5_melt 54 = .ok (.aload_n 0, 1) := by decide +kernel
theorem dX5_melt_55 : decode cX5_melt 55 = .ok (.getfield 10, 3) := by decide +kernel
theorem dX5_melt_58 : decode cX5_melt 58 = .ok (.getfield 70, 3) := by decide +kernel
theorem dX5_melt_61 : decode cX5_melt 61 = .ok (.ireturn, 1) := by decide +kernel
theorem dX5_setFire_0 : decode cX5_setFire 0 = .ok (.iload_n 1, 1) := by decide +kernel
theorem dX5_setFire_1 : decode cX5_setFire 1 = .ok (.iconst 0, 1) := by decide +kernel
theorem dX5_setFire_2 : decode cX5_setFire 2 = .ok (.iconst 5, 1) := by decide +kernel
theorem dX5_setFire_3 : decode cX5_setFire 3 = .ok (.invokestatic 46, 3) := by decide +kernel
theorem dX5_setFire_6 : decode cX5_setFire 6 = .ok (.ifCond .ne 13, 3) := by decide +kernel
theorem dX5_setFire_9 : decode cX5_setFire 9 = .ok (.new 50, 3) := by decide +kernel
theorem dX5_setFire_12 : decode cX5_setFire 12 = .ok (.dup, 1) := by decide +kernel
theorem dX5_setFire_13 : decode cX5_setFire 13 = .ok (.ldc 73, 2) := by decide +kernel
theorem dX5_setFire_15 : decode cX5_setFire 15 = .ok (.invokespecial 54, 3) := by decide +kernel
theorem dX5_setFire_18 : decode cX5_setFire 18 = .ok (.athrow, 1) := by decide +kernel
theorem dX5_setFire_19 : decode cX5_setFire 19 = .ok (.aload_n 0, 1) := by decide +kernel
theorem dX5_setFire_20 : decode cX5_setFire 20 = .ok (.getfield 10, 3) := by decide +kernel
theorem dX5_setFire_23 : decode cX5_setFire 23 = .ok (.getfield 75, 3) := by decide +kernel
theorem dX5_setFire_26 : decode cX5_setFire 26 = .ok (.istore_n 2, 1) := by decide +kernel
theorem dX5_setFire_27 : decode cX5_setFire 27 = .ok (.aload_n 0, 1) := by decide +kernel
theorem dX5_setFire_28 : decode cX5_setFire 28 = .ok (.getfield 10, 3) := by decide +kernel
theorem dX5_setFire_31 : decode cX5_setFire 31 = .ok (.iload_n 1, 1) := by decide +kernel
theorem dX5_setFire_32 : decode cX5_setFire 32 = .ok (.putfield 75, 3) := by decide +kernel
theorem dX5_setFire_35 : decode cX5_setFire 35 = .ok (.iload_n 2, 1) := by decide +kernel
theorem dX5_setFire_36 : decode cX5_setFire 36 = .ok (.ireturn, 1) := by decide +kernel
theorem dX5_vat_0 : decode cX5_vat 0 = .ok (.iload_n 1, 1) := by decide +kernel
theorem dX5_vat_1 : decode cX5_vat 1 = .ok (.tableswitch 71 0 3 #[31, 39, 47, 55], 31) := by decide +kernel
theorem dX5_vat_32 : decode cX5_vat 32 = .ok (.aload_n 0, 1) := by decide +kernel
theorem dX5_vat_33 : decode cX5_vat 33 = .ok (.getfield 10, 3) := by decide +kernel
theorem dX5_vat_36 : decode cX5_vat 36 = .ok (.getfield 57, 3) := by decide +kernel
theorem dX5_vat_39 : decode cX5_vat 39 = .ok (.ireturn, 1) := by decide +kernel
theorem dX5_vat_40 : decode cX5_vat 40 = .ok (.aload_n 0, 1) := by decide +kernel
theorem dX5_vat_41 : decode cX5_vat 41 = .ok (.getfield 10, 3) := by decide +kernel
theorem dX5_vat_44 : decode cX5_vat 44 = .ok (.getfield 70, 3) := by decide +kernel
theorem dX5_vat_47 : decode cX5_vat 47 = .ok (.ireturn, 1) := by decide +kernel
theorem dX5_vat_48 : decode cX5_vat 48 = .ok (.aload_n 0, 1) := by decide +kernel
theorem dX5_vat_49 : decode cX5_vat 49 = .ok (.getfield 10, 3) := by decide +kernel
theorem dX5_vat_52 : decode cX5_vat 52 = .ok (.getfield 75, 3) := by decide +kernel
theorem dX5_vat_55 : decode cX5_vat 55 = .ok (.ireturn, 1) := by decide +kernel
theorem dX5_vat_56 : decode cX5_vat 56 = .ok (.aload_n 0, 1) := by decide +kernel
theorem dX5_vat_57 : decode cX5_vat 57 = .ok (.getfield 10, 3) := by decide +kernel
theorem dX5_vat_60 : decode cX5_vat 60 = .ok (.invokevirtual 78, 3) := by decide +kernel
theorem dX5_vat_63 : decode cX5_vat 63 = .ok (.ifCond .eq 7, 3) := by decide +kernel
theorem dX5_vat_66 : decode cX5_vat 66 = .ok (.iconst 1, 1) := by decide +kernel
theorem dX5_vat_67 : decode cX5_vat 67 = .ok (.goto 4, 3) := by decide +kernel
theorem dX5_vat_70 : decode cX5_vat 70 = .ok (.iconst 0, 1) := by decide +kernel
theorem dX5_vat_71 : decode cX5_vat 71 = .ok (.ireturn, 1) := by decide +kernel
theorem dX5_vat_72 : decode cX5_vat 72 = .ok (.new 82, 3) := by decide +kernel
theorem dX5_vat_75 : decode cX5_vat 75 = .ok (.dup, 1) := by decide +kernel
theorem dX5_vat_76 : decode cX5_vat 76 = .ok (.ldc 84, 2) := by decide +kernel
theorem dX5_vat_78 : decode cX5_vat 78 = .ok (.invokespecial 86, 3) := by decide +kernel
theorem dX5_vat_81 : decode cX5_vat 81 = .ok (.athrow, 1) := by decide +kernel
theorem dX5_addFrame_0 : decode cX5_addFrame 0 = .ok (.iload_n 1, 1) := by decide +kernel
theorem dX5_addFrame_1 : decode cX5_addFrame 1 = .ok (.iconst 0, 1) := by decide +kernel
theorem dX5_addFrame_2 : decode cX5_addFrame 2 = .ok (.iconst 3, 1) := by decide +kernel
theorem dX5_addFrame_3 : decode cX5_addFrame 3 = .ok (.invokestatic 46, 3) := by decide +kernel
theorem dX5_addFrame_6 : decode cX5_addFrame 6 = .ok (.ifCond .eq 13, 3) := by decide +kernel
theorem dX5_addFrame_9 : decode cX5_addFrame 9 = .ok (.iload_n 2, 1) := by decide +kernel
theorem dX5_addFrame_10 : decode cX5_addFrame 10 = .ok (.iconst 1, 1) := by decide +kernel
theorem dX5_addFrame_11 : decode cX5_addFrame 11 = .ok (.bipush 20, 2) := by decide +kernel
theorem dX5_addFrame_13 : decode cX5_addFrame 13 = .ok (.invokestatic 46, 3) := by decide +kernel
theorem dX5_addFrame_16 : decode cX5_addFrame 16 = .ok (.ifCond .ne 13, 3) := by decide +kernel
theorem dX5_addFrame_19 : decode cX5_addFrame 19 = .ok (.new 50, 3) := by decide +kernel
theorem dX5_addFrame_22 : decode cX5_addFrame 22 = .ok (.dup, 1) := by decide +kernel
theorem dX5_addFrame_23 : decode cX5_addFrame 23 = .ok (.ldc 87, 2) := by decide +kernel
theorem dX5_addFrame_25 : decode cX5_addFrame 25 = .ok (.invokespecial 54, 3) := by decide +kernel
theorem dX5_addFrame_28 : decode cX5_addFrame 28 = .ok (.athrow, 1) := by decide +kernel
theorem dX5_addFrame_29 : decode cX5_addFrame 29 = .ok (.aload_n 0, 1) := by decide +kernel
theorem dX5_addFrame_30 : decode cX5_addFrame 30 = .ok (.invokevirtual 89, 3) := by decide +kernel
theorem dX5_addFrame_33 : decode cX5_addFrame 33 = .ok (.istore_n 3, 1) := by decide +kernel
theorem dX5_addFrame_34 : decode cX5_addFrame 34 = .ok (.iload_n 3, 1) := by decide +kernel
theorem dX5_addFrame_35 : decode cX5_addFrame 35 = .ok (.aload_n 0, 1) := by decide +kernel
theorem dX5_addFrame_36 : decode cX5_addFrame 36 = .ok (.getfield 18, 3) := by decide +kernel
theorem dX5_addFrame_39 : decode cX5_addFrame 39 = .ok (.arraylength, 1) := by decide +kernel
theorem dX5_addFrame_40 : decode cX5_addFrame 40 = .ok (.if_icmp .lt 13, 3) := by decide +kernel
theorem dX5_addFrame_43 : decode cX5_addFrame 43 = .ok (.new 61, 3) := by decide +kernel
theorem dX5_addFrame_46 : decode cX5_addFrame 46 = .ok (.dup, 1) := by decide +kernel
theorem dX5_addFrame_47 : decode cX5_addFrame 47 = .ok (.ldc 93, 2) := by decide +kernel
theorem dX5_addFrame_49 : decode cX5_addFrame 49 = .ok (.invokespecial 65, 3) := by decide +kernel
theorem dX5_addFrame_52 : decode cX5_addFrame 52 = .ok (.athrow, 1) := by decide +kernel
theorem dX5_addFrame_53 : decode cX5_addFrame 53 = .ok (.aload_n 0, 1) := by decide +kernel
theorem dX5_addFrame_54 : decode cX5_addFrame 54 = .ok (.getfield 18, 3) := by decide +kernel
theorem dX5_addFrame_57 : decode cX5_addFrame 57 = .ok (.iload_n 3, 1) := by decide +kernel
theorem dX5_addFrame_58 : decode cX5_addFrame 58 = .ok (.new 16, 3) := by decide +kernel
theorem dX5_addFrame_61 : decode cX5_addFrame 61 = .ok (.dup, 1) := by decide +kernel
theorem dX5_addFrame_62 : decode cX5_addFrame 62 = .ok (.iload_n 1, 1) := by decide +kernel
theorem dX5_addFrame_63 : decode cX5_addFrame 63 = .ok (.iload_n 2, 1) := by decide +kernel
theorem dX5_addFrame_64 : decode cX5_addFrame 64 = .ok (.invokespecial 95, 3) := by decide +kernel
theorem dX5_addFrame_67 : decode cX5_addFrame 67 = .ok (.aastore, 1) := by decide +kernel
theorem dX5_addFrame_68 : decode cX5_addFrame 68 = .ok (.iload_n 3, 1) := by decide +kernel
theorem dX5_addFrame_69 : decode cX5_addFrame 69 = .ok (.ireturn, 1) := by decide +kernel
theorem dX5_hang_0 : decode cX5_hang 0 = .ok (.aload_n 0, 1) := by decide +kernel
theorem dX5_hang_1 : decode cX5_hang 1 = .ok (.iload_n 1, 1) := by decide +kernel
theorem dX5_hang_2 : decode cX5_hang 2 = .ok (.invokevirtual 98, 3) := by decide +kernel
theorem dX5_hang_5 : decode cX5_hang 5 = .ok (.astore_n 3, 1) := by decide +kernel
theorem dX5_hang_6 : decode cX5_hang 6 = .ok (.iload_n 2, 1) := by decide +kernel
theorem dX5_hang_7 : decode cX5_hang 7 = .ok (.iconst 0, 1) := by decide +kernel
theorem dX5_hang_8 : decode cX5_hang 8 = .ok (.bipush 11, 2) := by decide +kernel
theorem dX5_hang_10 : decode cX5_hang 10 = .ok (.invokestatic 46, 3) := by decide +kernel
theorem dX5_hang_13 : decode cX5_hang 13 = .ok (.ifCond .ne 13, 3) := by decide +kernel
theorem dX5_hang_16 : decode cX5_hang 16 = .ok (.new 50, 3) := by decide +kernel
theorem dX5_hang_19 : decode cX5_hang 19 = .ok (.dup, 1) := by decide +kernel
theorem dX5_hang_20 : decode cX5_hang 20 = .ok (.ldc 102, 2) := by decide +kernel
theorem dX5_hang_22 : decode cX5_hang 22 = .ok (.invokespecial 54, 3) := by decide +kernel
theorem dX5_hang_25 : decode cX5_hang 25 = .ok (.athrow, 1) := by decide +kernel
theorem dX5_hang_26 : decode cX5_hang 26 = .ok (.aload_n 0, 1) := by decide +kernel
theorem dX5_hang_27 : decode cX5_hang 27 = .ok (.iload_n 2, 1) := by decide +kernel
theorem dX5_hang_28 : decode cX5_hang 28 = .ok (.invokevirtual 104, 3) := by decide +kernel
theorem dX5_hang_31 : decode cX5_hang 31 = .ok (.istore 4, 2) := by decide +kernel
theorem dX5_hang_33 : decode cX5_hang 33 = .ok (.iload 4, 2) := by decide +kernel
theorem dX5_hang_35 : decode cX5_hang 35 = .ok (.ifCond .lt 19, 3) := by decide +kernel
theorem dX5_hang_38 : decode cX5_hang 38 = .ok (.iload 4, 2) := by decide +kernel
theorem dX5_hang_40 : decode cX5_hang 40 = .ok (.iload_n 1, 1) := by decide +kernel
theorem dX5_hang_41 : decode cX5_hang 41 = .ok (.if_icmp .eq 13, 3) := by decide +kernel
theorem dX5_hang_44 : decode cX5_hang 44 = .ok (.new 61, 3) := by decide +kernel
theorem dX5_hang_47 : decode cX5_hang 47 = .ok (.dup, 1) := by decide +kernel
theorem dX5_hang_48 : decode cX5_hang 48 = .ok (.ldc 108, 2) := by decide +kernel
theorem dX5_hang_50 : decode cX5_hang 50 = .ok (.invokespecial 65, 3) := by decide +kernel
theorem dX5_hang_53 : decode cX5_hang 53 = .ok (.athrow, 1) := by decide +kernel
theorem dX5_hang_54 : decode cX5_hang 54 = .ok (.aload_n 3, 1) := by decide +kernel
theorem dX5_hang_55 : decode cX5_hang 55 = .ok (.getfield 110, 3) := by decide +kernel
theorem dX5_hang_58 : decode cX5_hang 58 = .ok (.istore 5, 2) := by decide +kernel
theorem dX5_hang_60 : decode cX5_hang 60 = .ok (.aload_n 3, 1) := by decide +kernel
theorem dX5_hang_61 : decode cX5_hang 61 = .ok (.iload_n 2, 1) := by decide +kernel
theorem dX5_hang_62 : decode cX5_hang 62 = .ok (.putfield 110, 3) := by decide +kernel
theorem dX5_hang_65 : decode cX5_hang 65 = .ok (.iload 5, 2) := by decide +kernel
theorem dX5_hang_67 : decode cX5_hang 67 = .ok (.ireturn, 1) := by decide +kernel
theorem dX5_layAside_0 : decode cX5_layAside 0 = .ok (.aload_n 0, 1) := by decide +kernel
theorem dX5_layAside_1 : decode cX5_layAside 1 = .ok (.iload_n 1, 1) := by decide +kernel
theorem dX5_layAside_2 : decode cX5_layAside 2 = .ok (.invokevirtual 98, 3) := by decide +kernel
theorem dX5_layAside_5 : decode cX5_layAside 5 = .ok (.astore_n 2, 1) := by decide +kernel
theorem dX5_layAside_6 : decode cX5_layAside 6 = .ok (.aload_n 2, 1) := by decide +kernel
theorem dX5_layAside_7 : decode cX5_layAside 7 = .ok (.invokevirtual 113, 3) := by decide +kernel
theorem dX5_layAside_10 : decode cX5_layAside 10 = .ok (.ifCond .ne 13, 3) := by decide +kernel
theorem dX5_layAside_13 : decode cX5_layAside 13 = .ok (.new 61, 3) := by decide +kernel
theorem dX5_layAside_16 : decode cX5_layAside 16 = .ok (.dup, 1) := by decide +kernel
theorem dX5_layAside_17 : decode cX5_layAside 17 = .ok (.ldc 116, 2) := by decide +kernel
theorem dX5_layAside_19 : decode cX5_layAside 19 = .ok (.invokespecial 65, 3) := by decide +kernel
theorem dX5_layAside_22 : decode cX5_layAside 22 = .ok (.athrow, 1) := by decide +kernel
theorem dX5_layAside_23 : decode cX5_layAside 23 = .ok (.aload_n 2, 1) := by decide +kernel
theorem dX5_layAside_24 : decode cX5_layAside 24 = .ok (.getfield 110, 3) := by decide +kernel
theorem dX5_layAside_27 : decode cX5_layAside 27 = .ok (.istore_n 3, 1) := by decide +kernel
theorem dX5_layAside_28 : decode cX5_layAside 28 = .ok (.aload_n 2, 1) := by decide +kernel
theorem dX5_layAside_29 : decode cX5_layAside 29 = .ok (.iconst (-1), 1) := by decide +kernel
theorem dX5_layAside_30 : decode cX5_layAside 30 = .ok (.putfield 110, 3) := by decide +kernel
theorem dX5_layAside_33 : decode cX5_layAside 33 = .ok (.iload_n 3, 1) := by decide +kernel
theorem dX5_layAside_34 : decode cX5_layAside 34 = .ok (.ireturn, 1) := by decide +kernel
theorem dX5_dip_0 : decode cX5_dip 0 = .ok (.aload_n 0, 1) := by decide +kernel
theorem dX5_dip_1 : decode cX5_dip 1 = .ok (.iload_n 1, 1) := by decide +kernel
theorem dX5_dip_2 : decode cX5_dip 2 = .ok (.invokevirtual 98, 3) := by decide +kernel
theorem dX5_dip_5 : decode cX5_dip 5 = .ok (.astore_n 2, 1) := by decide +kernel
theorem dX5_dip_6 : decode cX5_dip 6 = .ok (.aload_n 2, 1) := by decide +kernel
theorem dX5_dip_7 : decode cX5_dip 7 = .ok (.aload_n 0, 1) := by decide +kernel
theorem dX5_dip_8 : decode cX5_dip 8 = .ok (.getfield 10, 3) := by decide +kernel
theorem dX5_dip_11 : decode cX5_dip 11 = .ok (.invokevirtual 118, 3) := by decide +kernel
theorem dX5_dip_14 : decode cX5_dip 14 = .ok (.ifCond .ne 13, 3) := by decide +kernel
theorem dX5_dip_17 : decode cX5_dip 17 = .ok (.new 61, 3) := by decide +kernel
theorem dX5_dip_20 : decode cX5_dip 20 = .ok (.dup, 1) := by decide +kernel
theorem dX5_dip_21 : decode cX5_dip 21 = .ok (.ldc 122, 2) := by decide +kernel
theorem dX5_dip_23 : decode cX5_dip 23 = .ok (.invokespecial 65, 3) := by decide +kernel
theorem dX5_dip_26 : decode cX5_dip 26 = .ok (.athrow, 1) := by decide +kernel
theorem dX5_dip_27 : decode cX5_dip 27 = .ok (.aload_n 2, 1) := by decide +kernel
theorem dX5_dip_28 : decode cX5_dip 28 = .ok (.aload_n 0, 1) := by decide +kernel
theorem dX5_dip_29 : decode cX5_dip 29 = .ok (.getfield 10, 3) := by decide +kernel
theorem dX5_dip_32 : decode cX5_dip 32 = .ok (.invokevirtual 124, 3) := by decide +kernel
theorem dX5_dip_35 : decode cX5_dip 35 = .ok (.aload_n 0, 1) := by decide +kernel
theorem dX5_dip_36 : decode cX5_dip 36 = .ok (.dup, 1) := by decide +kernel
theorem dX5_dip_37 : decode cX5_dip 37 = .ok (.getfield 128, 3) := by decide +kernel
theorem dX5_dip_40 : decode cX5_dip 40 = .ok (.iconst 1, 1) := by decide +kernel
theorem dX5_dip_41 : decode cX5_dip 41 = .ok (.iadd, 1) := by decide +kernel
theorem dX5_dip_42 : decode cX5_dip 42 = .ok (.putfield 128, 3) := by decide +kernel
theorem dX5_dip_45 : decode cX5_dip 45 = .ok (.aload_n 0, 1) := by decide +kernel
theorem dX5_dip_46 : decode cX5_dip 46 = .ok (.aload_n 2, 1) := by decide +kernel
theorem dX5_dip_47 : decode cX5_dip 47 = .ok (.invokevirtual 131, 3) := by decide +kernel
theorem dX5_dip_50 : decode cX5_dip 50 = .ok (.aload_n 2, 1) := by decide +kernel
theorem dX5_dip_51 : decode cX5_dip 51 = .ok (.getfield 135, 3) := by decide +kernel
theorem dX5_dip_54 : decode cX5_dip 54 = .ok (.ireturn, 1) := by decide +kernel
theorem dX5_cutOff_0 : decode cX5_cutOff 0 = .ok (.aload_n 0, 1) := by decide +kernel
theorem dX5_cutOff_1 : decode cX5_cutOff 1 = .ok (.iload_n 1, 1) := by decide +kernel
theorem dX5_cutOff_2 : decode cX5_cutOff 2 = .ok (.invokevirtual 98, 3) := by decide +kernel
theorem dX5_cutOff_5 : decode cX5_cutOff 5 = .ok (.astore_n 2, 1) := by decide +kernel
theorem dX5_cutOff_6 : decode cX5_cutOff 6 = .ok (.aload_n 2, 1) := by decide +kernel
theorem dX5_cutOff_7 : decode cX5_cutOff 7 = .ok (.invokevirtual 138, 3) := by decide +kernel
theorem dX5_cutOff_10 : decode cX5_cutOff 10 = .ok (.ifCond .ne 10, 3) := by decide +kernel
theorem dX5_cutOff_13 : decode cX5_cutOff 13 = .ok (.aload_n 2, 1) := by decide +kernel
theorem dX5_cutOff_14 : decode cX5_cutOff 14 = .ok (.invokevirtual 141, 3) := by decide +kernel
theorem dX5_cutOff_17 : decode cX5_cutOff 17 = .ok (.ifCond .eq 13, 3) := by decide +kernel
theorem dX5_cutOff_20 : decode cX5_cutOff 20 = .ok (.new 61, 3) := by decide +kernel
theorem dX5_cutOff_23 : decode cX5_cutOff 23 = .ok (.dup, 1) := by decide +kernel
theorem dX5_cutOff_24 : decode cX5_cutOff 24 = .ok (.ldc 144, 2) := by decide +kernel
theorem dX5_cutOff_26 : decode cX5_cutOff 26 = .ok (.invokespecial 65, 3) := by decide +kernel
theorem dX5_cutOff_29 : decode cX5_cutOff 29 = .ok (.athrow, 1) := by decide +kernel
theorem dX5_cutOff_30 : decode cX5_cutOff 30 = .ok (.aload_n 2, 1) := by decide +kernel
theorem dX5_cutOff_31 : decode cX5_cutOff 31 = .ok (.invokevirtual 146, 3) := by decide +kernel
theorem dX5_cutOff_34 : decode cX5_cutOff 34 = .ok (.istore_n 3, 1) := by decide +kernel
theorem dX5_cutOff_35 : decode cX5_cutOff 35 = .ok (.iload_n 3, 1) := by decide +kernel
theorem dX5_cutOff_36 : decode cX5_cutOff 36 = .ok (.ifCond .ne 34, 3) := by decide +kernel
theorem dX5_cutOff_39 : decode cX5_cutOff 39 = .ok (.aload_n 0, 1) := by decide +kernel
theorem dX5_cutOff_40 : decode cX5_cutOff 40 = .ok (.dup, 1) := by decide +kernel
theorem dX5_cutOff_41 : decode cX5_cutOff 41 = .ok (.getfield 149, 3) := by decide +kernel
theorem dX5_cutOff_44 : decode cX5_cutOff 44 = .ok (.aload_n 2, 1) := by decide +kernel
theorem dX5_cutOff_45 : decode cX5_cutOff 45 = .ok (.getfield 152, 3) := by decide +kernel
theorem dX5_cutOff_48 : decode cX5_cutOff 48 = .ok (.iadd, 1) := by decide +kernel
theorem dX5_cutOff_49 : decode cX5_cutOff 49 = .ok (.putfield 149, 3) := by decide +kernel
theorem dX5_cutOff_52 : decode cX5_cutOff 52 = .ok (.aload_n 0, 1) := by decide +kernel
theorem dX5_cutOff_53 : decode cX5_cutOff 53 = .ok (.getfield 10, 3) := by decide +kernel
theorem dX5_cutOff_56 : decode cX5_cutOff 56 = .ok (.aload_n 2, 1) := by decide +kernel
theorem dX5_cutOff_57 : decode cX5_cutOff 57 = .ok (.aload_n 2, 1) := by decide +kernel
theorem dX5_cutOff_58 : decode cX5_cutOff 58 = .ok (.getfield 135, 3) := by decide +kernel
theorem dX5_cutOff_61 : decode cX5_cutOff 61 = .ok (.invokevirtual 155, 3) := by decide +kernel
theorem dX5_cutOff_64 : decode cX5_cutOff 64 = .ok (.invokevirtual 158, 3) := by decide +kernel
theorem dX5_cutOff_67 : decode cX5_cutOff 67 = .ok (.goto 19, 3) := by decide +kernel
theorem dX5_cutOff_70 : decode cX5_cutOff 70 = .ok (.aload_n 0, 1) := by decide +kernel
theorem dX5_cutOff_71 : decode cX5_cutOff 71 = .ok (.getfield 25, 3) := by decide +kernel
theorem dX5_cutOff_74 : decode cX5_cutOff 74 = .ok (.aload_n 2, 1) := by decide +kernel
theorem dX5_cutOff_75 : decode cX5_cutOff 75 = .ok (.getfield 161, 3) := by decide +kernel
theorem dX5_cutOff_78 : decode cX5_cutOff 78 = .ok (.iload_n 3, 1) := by decide +kernel
theorem dX5_cutOff_79 : decode cX5_cutOff 79 = .ok (.aload_n 2, 1) := by decide +kernel
theorem dX5_cutOff_80 : decode cX5_cutOff 80 = .ok (.getfield 152, 3) := by decide +kernel
theorem dX5_cutOff_83 : decode cX5_cutOff 83 = .ok (.invokevirtual 164, 3) := by decide +kernel
theorem dX5_cutOff_86 : decode cX5_cutOff 86 = .ok (.aload_n 2, 1) := by decide +kernel
theorem dX5_cutOff_87 : decode cX5_cutOff 87 = .ok (.invokevirtual 168, 3) := by decide +kernel
theorem dX5_cutOff_90 : decode cX5_cutOff 90 = .ok (.iload_n 3, 1) := by decide +kernel
theorem dX5_cutOff_91 : decode cX5_cutOff 91 = .ok (.ireturn, 1) := by decide +kernel
theorem dX5_frame_0 : decode cX5_frame 0 = .ok (.aload_n 0, 1) := by decide +kernel
theorem dX5_frame_1 : decode cX5_frame 1 = .ok (.iload_n 1, 1) := by decide +kernel
theorem dX5_frame_2 : decode cX5_frame 2 = .ok (.invokevirtual 98, 3) := by decide +kernel
theorem dX5_frame_5 : decode cX5_frame 5 = .ok (.astore_n 3, 1) := by decide +kernel
theorem dX5_frame_6 : decode cX5_frame 6 = .ok (.iload_n 2, 1) := by decide +kernel
theorem dX5_frame_7 : decode cX5_frame 7 = .ok (.tableswitch 93 0 7 #[45, 50, 55, 60, 65, 78, 83, 88], 45) := by decide +kernel
theorem dX5_frame_52 : decode cX5_frame 52 = .ok (.aload_n 3, 1) := by decide +kernel
theorem dX5_frame_53 : decode cX5_frame 53 = .ok (.getfield 161, 3) := by decide +kernel
theorem dX5_frame_56 : decode cX5_frame 56 = .ok (.ireturn, 1) := by decide +kernel
theorem dX5_frame_57 : decode cX5_frame 57 = .ok (.aload_n 3, 1) := by decide +kernel
theorem dX5_frame_58 : decode cX5_frame 58 = .ok (.getfield 152, 3) := by decide +kernel
theorem dX5_frame_61 : decode cX5_frame 61 = .ok (.ireturn, 1) := by decide +kernel
theorem dX5_frame_62 : decode cX5_frame 62 = .ok (.aload_n 3, 1) := by decide +kernel
theorem dX5_frame_63 : decode cX5_frame 63 = .ok (.getfield 135, 3) := by decide +kernel
theorem dX5_frame_66 : decode cX5_frame 66 = .ok (.ireturn, 1) := by decide +kernel
theorem dX5_frame_67 : decode cX5_frame 67 = .ok (.aload_n 3, 1) := by decide +kernel
theorem dX5_frame_68 : decode cX5_frame 68 = .ok (.getfield 171, 3) := by decide +kernel
theorem dX5_frame_71 : decode cX5_frame 71 = .ok (.ireturn, 1) := by decide +kernel
theorem dX5_frame_72 : decode cX5_frame 72 = .ok (.aload_n 3, 1) := by decide +kernel
theorem dX5_frame_73 : decode cX5_frame 73 = .ok (.getfield 174, 3) := by decide +kernel
theorem dX5_frame_76 : decode cX5_frame 76 = .ok (.ifCond .eq 7, 3) := by decide +kernel
theorem dX5_frame_79 : decode cX5_frame 79 = .ok (.iconst 1, 1) := by decide +kernel
theorem dX5_frame_80 : decode cX5_frame 80 = .ok (.goto 4, 3) := by decide +kernel
theorem dX5_frame_83 : decode cX5_frame 83 = .ok (.iconst 0, 1) := by decide +kernel
theorem dX5_frame_84 : decode cX5_frame 84 = .ok (.ireturn, 1) := by decide +kernel
theorem dX5_frame_85 : decode cX5_frame 85 = .ok (.aload_n 3, 1) := by decide +kernel
theorem dX5_frame_86 : decode cX5_frame 86 = .ok (.getfield 110, 3) := by decide +kernel
theorem dX5_frame_89 : decode cX5_frame 89 = .ok (.ireturn, 1) := by decide +kernel
theorem dX5_frame_90 : decode cX5_frame 90 = .ok (.aload_n 3, 1) := by decide +kernel
theorem dX5_frame_91 : decode cX5_frame 91 = .ok (.getfield 178, 3) := by decide +kernel
theorem dX5_frame_94 : decode cX5_frame 94 = .ok (.ireturn, 1) := by decide +kernel
theorem dX5_frame_95 : decode cX5_frame 95 = .ok (.aload_n 3, 1) := by decide +kernel
theorem dX5_frame_96 : decode cX5_frame 96 = .ok (.invokevirtual 146, 3) := by decide +kernel
theorem dX5_frame_99 : decode cX5_frame 99 = .ok (.ireturn, 1) := by decide +kernel
theorem dX5_frame_100 : decode cX5_frame 100 = .ok (.new 82, 3) := by decide +kernel
theorem dX5_frame_103 : decode cX5_frame 103 = .ok (.dup, 1) := by decide +kernel
theorem dX5_frame_104 : decode cX5_frame 104 = .ok (.ldc 181, 2) := by decide +kernel
theorem dX5_frame_106 : decode cX5_frame 106 = .ok (.invokespecial 86, 3) := by decide +kernel
theorem dX5_frame_109 : decode cX5_frame 109 = .ok (.athrow, 1) := by decide +kernel
theorem dX5_hook_0 : decode cX5_hook 0 = .ok (.iload_n 1, 1) := by decide +kernel
theorem dX5_hook_1 : decode cX5_hook 1 = .ok (.iconst 0, 1) := by decide +kernel
theorem dX5_hook_2 : decode cX5_hook 2 = .ok (.bipush 11, 2) := by decide +kernel
theorem dX5_hook_4 : decode cX5_hook 4 = .ok (.invokestatic 46, 3) := by decide +kernel
theorem dX5_hook_7 : decode cX5_hook 7 = .ok (.ifCond .ne 13, 3) := by decide +kernel
theorem dX5_hook_10 : decode cX5_hook 10 = .ok (.new 82, 3) := by decide +kernel
theorem dX5_hook_13 : decode cX5_hook 13 = .ok (.dup, 1) := by decide +kernel
theorem dX5_hook_14 : decode cX5_hook 14 = .ok (.ldc 102, 2) := by decide +kernel
theorem dX5_hook_16 : decode cX5_hook 16 = .ok (.invokespecial 86, 3) := by decide +kernel
theorem dX5_hook_19 : decode cX5_hook 19 = .ok (.athrow, 1) := by decide +kernel
theorem dX5_hook_20 : decode cX5_hook 20 = .ok (.aload_n 0, 1) := by decide +kernel
theorem dX5_hook_21 : decode cX5_hook 21 = .ok (.iload_n 1, 1) := by decide +kernel
theorem dX5_hook_22 : decode cX5_hook 22 = .ok (.invokevirtual 104, 3) := by decide +kernel
theorem dX5_hook_25 : decode cX5_hook 25 = .ok (.ireturn, 1) := by decide +kernel
theorem dX5_store_0 : decode cX5_store 0 = .ok (.iload_n 1, 1) := by decide +kernel
theorem dX5_store_1 : decode cX5_store 1 = .ok (.iload_n 2, 1) := by decide +kernel
theorem dX5_store_2 : decode cX5_store 2 = .ok (.invokestatic 183, 3) := by decide +kernel
theorem dX5_store_5 : decode cX5_store 5 = .ok (.ifCond .ne 13, 3) := by decide +kernel
theorem dX5_store_8 : decode cX5_store 8 = .ok (.new 82, 3) := by decide +kernel
theorem dX5_store_11 : decode cX5_store 11 = .ok (.dup, 1) := by decide +kernel
theorem dX5_store_12 : decode cX5_store 12 = .ok (.ldc 187, 2) := by decide +kernel
theorem dX5_store_14 : decode cX5_store 14 = .ok (.invokespecial 86, 3) := by decide +kernel
theorem dX5_store_17 : decode cX5_store 17 = .ok (.athrow, 1) := by decide +kernel
theorem dX5_store_18 : decode cX5_store 18 = .ok (.aload_n 0, 1) := by decide +kernel
theorem dX5_store_19 : decode cX5_store 19 = .ok (.getfield 25, 3) := by decide +kernel
theorem dX5_store_22 : decode cX5_store 22 = .ok (.iload_n 1, 1) := by decide +kernel
theorem dX5_store_23 : decode cX5_store 23 = .ok (.iload_n 2, 1) := by decide +kernel
theorem dX5_store_24 : decode cX5_store 24 = .ok (.invokevirtual 189, 3) := by decide +kernel
theorem dX5_store_27 : decode cX5_store 27 = .ok (.ireturn, 1) := by decide +kernel
theorem dX5_addOrder_0 : decode cX5_addOrder 0 = .ok (.iload_n 1, 1) := by decide +kernel
theorem dX5_addOrder_1 : decode cX5_addOrder 1 = .ok (.iload_n 2, 1) := by decide +kernel
theorem dX5_addOrder_2 : decode cX5_addOrder 2 = .ok (.invokestatic 183, 3) := by decide +kernel
theorem dX5_addOrder_5 : decode cX5_addOrder 5 = .ok (.ifCond .ne 13, 3) := by decide +kernel
theorem dX5_addOrder_8 : decode cX5_addOrder 8 = .ok (.new 50, 3) := by decide +kernel
theorem dX5_addOrder_11 : decode cX5_addOrder 11 = .ok (.dup, 1) := by decide +kernel
theorem dX5_addOrder_12 : decode cX5_addOrder 12 = .ok (.ldc 187, 2) := by decide +kernel
theorem dX5_addOrder_14 : decode cX5_addOrder 14 = .ok (.invokespecial 54, 3) := by decide +kernel
theorem dX5_addOrder_17 : decode cX5_addOrder 17 = .ok (.athrow, 1) := by decide +kernel
theorem dX5_addOrder_18 : decode cX5_addOrder 18 = .ok (.iload_n 3, 1) := by decide +kernel
theorem dX5_addOrder_19 : decode cX5_addOrder 19 = .ok (.iconst 1, 1) := by decide +kernel
theorem dX5_addOrder_20 : decode cX5_addOrder 20 = .ok (.bipush 60, 2) := by decide +kernel
theorem dX5_addOrder_22 : decode cX5_addOrder 22 = .ok (.invokestatic 46, 3) := by decide +kernel
theorem dX5_addOrder_25 : decode cX5_addOrder 25 = .ok (.ifCond .ne 13, 3) := by decide +kernel
theorem dX5_addOrder_28 : decode cX5_addOrder 28 = .ok (.new 50, 3) := by decide +kernel
theorem dX5_addOrder_31 : decode cX5_addOrder 31 = .ok (.dup, 1) := by decide +kernel
theorem dX5_addOrder_32 : decode cX5_addOrder 32 = .ok (.ldc 193, 2) := by decide +kernel
theorem dX5_addOrder_34 : decode cX5_addOrder 34 = .ok (.invokespecial 54, 3) := by decide +kernel
theorem dX5_addOrder_37 : decode cX5_addOrder 37 = .ok (.athrow, 1) := by decide +kernel
theorem dX5_addOrder_38 : decode cX5_addOrder 38 = .ok (.iload 4, 2) := by decide +kernel
theorem dX5_addOrder_40 : decode cX5_addOrder 40 = .ok (.aload_n 0, 1) := by decide +kernel
theorem dX5_addOrder_41 : decode cX5_addOrder 41 = .ok (.getfield 195, 3) := by decide +kernel
theorem dX5_addOrder_44 : decode cX5_addOrder 44 = .ok (.bipush 40, 2) := by decide +kernel
theorem dX5_addOrder_46 : decode cX5_addOrder 46 = .ok (.idiv, 1) := by decide +kernel
theorem dX5_addOrder_47 : decode cX5_addOrder 47 = .ok (.sipush 1000, 3) := by decide +kernel
theorem dX5_addOrder_50 : decode cX5_addOrder 50 = .ok (.invokestatic 46, 3) := by decide +kernel
theorem dX5_addOrder_53 : decode cX5_addOrder 53 = .ok (.ifCond .ne 13, 3) := by decide +kernel
theorem dX5_addOrder_56 : decode cX5_addOrder 56 = .ok (.new 50, 3) := by decide +kernel
theorem dX5_addOrder_59 : decode cX5_addOrder 59 = .ok (.dup, 1) := by decide +kernel
theorem dX5_addOrder_60 : decode cX5_addOrder 60 = .ok (.ldc 198, 2) := by decide +kernel
theorem dX5_addOrder_62 : decode cX5_addOrder 62 = .ok (.invokespecial 54, 3) := by decide +kernel
theorem dX5_addOrder_65 : decode cX5_addOrder 65 = .ok (.athrow, 1) := by decide +kernel
theorem dX5_addOrder_66 : decode cX5_addOrder 66 = .ok (.aload_n 0, 1) := by decide +kernel
theorem dX5_addOrder_67 : decode cX5_addOrder 67 = .ok (.invokevirtual 200, 3) := by decide +kernel
theorem dX5_addOrder_70 : decode cX5_addOrder 70 = .ok (.istore 5, 2) := by decide +kernel
theorem dX5_addOrder_72 : decode cX5_addOrder 72 = .ok (.iload 5, 2) := by decide +kernel
theorem dX5_addOrder_74 : decode cX5_addOrder 74 = .ok (.aload_n 0, 1) := by decide +kernel
theorem dX5_addOrder_75 : decode cX5_addOrder 75 = .ok (.getfield 31, 3) := by decide +kernel
theorem dX5_addOrder_78 : decode cX5_addOrder 78 = .ok (.arraylength, 1) := by decide +kernel
theorem dX5_addOrder_79 : decode cX5_addOrder 79 = .ok (.if_icmp .lt 13, 3) := by decide +kernel
theorem dX5_addOrder_82 : decode cX5_addOrder 82 = .ok (.new 61, 3) := by decide +kernel
theorem dX5_addOrder_85 : decode cX5_addOrder 85 = .ok (.dup, 1) := by decide +kernel
theorem dX5_addOrder_86 : decode cX5_addOrder 86 = .ok (.ldc 203, 2) := by decide +kernel
theorem dX5_addOrder_88 : decode cX5_addOrder 88 = .ok (.invokespecial 65, 3) := by decide +kernel
theorem dX5_addOrder_91 : decode cX5_addOrder 91 = .ok (.athrow, 1) := by decide +kernel
theorem dX5_addOrder_92 : decode cX5_addOrder 92 = .ok (.aload_n 0, 1) := by decide +kernel
theorem dX5_addOrder_93 : decode cX5_addOrder 93 = .ok (.getfield 31, 3) := by decide +kernel
theorem dX5_addOrder_96 : decode cX5_addOrder 96 = .ok (.iload 5, 2) := by decide +kernel
theorem dX5_addOrder_98 : decode cX5_addOrder 98 = .ok (.new 29, 3) := by decide +kernel
theorem dX5_addOrder_101 : decode cX5_addOrder 101 = .ok (.dup, 1) := by decide +kernel
theorem dX5_addOrder_102 : decode cX5_addOrder 102 = .ok (.iload_n 1, 1) := by decide +kernel
theorem dX5_addOrder_103 : decode cX5_addOrder 103 = .ok (.iload_n 2, 1) := by decide +kernel
theorem dX5_addOrder_104 : decode cX5_addOrder 104 = .ok (.iload_n 3, 1) := by decide +kernel
theorem dX5_addOrder_105 : decode cX5_addOrder 105 = .ok (.iload 4, 2) := by decide +kernel
theorem dX5_addOrder_107 : decode cX5_addOrder 107 = .ok (.invokespecial 205, 3) := by decide +kernel
theorem dX5_addOrder_110 : decode cX5_addOrder 110 = .ok (.aastore, 1) := by decide +kernel
theorem dX5_addOrder_111 : decode cX5_addOrder 111 = .ok (.iload 5, 2) := by decide +kernel
theorem dX5_addOrder_113 : decode cX5_addOrder 113 = .ok (.ireturn, 1) := by decide +kernel
theorem dX5_fill_0 : decode cX5_fill 0 = .ok (.aload_n 0, 1) := by decide +kernel
theorem dX5_fill_1 : decode cX5_fill 1 = .ok (.iload_n 1, 1) := by decide +kernel
theorem dX5_fill_2 : decode cX5_fill 2 = .ok (.invokevirtual 208, 3) := by decide +kernel
theorem dX5_fill_5 : decode cX5_fill 5 = .ok (.astore_n 2, 1) := by decide +kernel
theorem dX5_fill_6 : decode cX5_fill 6 = .ok (.aload_n 2, 1) := by decide +kernel
theorem dX5_fill_7 : decode cX5_fill 7 = .ok (.aload_n 0, 1) := by decide +kernel
theorem dX5_fill_8 : decode cX5_fill 8 = .ok (.getfield 25, 3) := by decide +kernel
theorem dX5_fill_11 : decode cX5_fill 11 = .ok (.invokevirtual 212, 3) := by decide +kernel
theorem dX5_fill_14 : decode cX5_fill 14 = .ok (.ifCond .ne 13, 3) := by decide +kernel
theorem dX5_fill_17 : decode cX5_fill 17 = .ok (.new 61, 3) := by decide +kernel
theorem dX5_fill_20 : decode cX5_fill 20 = .ok (.dup, 1) := by decide +kernel
theorem dX5_fill_21 : decode cX5_fill 21 = .ok (.ldc 216, 2) := by decide +kernel
theorem dX5_fill_23 : decode cX5_fill 23 = .ok (.invokespecial 65, 3) := by decide +kernel
theorem dX5_fill_26 : decode cX5_fill 26 = .ok (.athrow, 1) := by decide +kernel
theorem dX5_fill_27 : decode cX5_fill 27 = .ok (.aload_n 0, 1) := by decide +kernel
theorem dX5_fill_28 : decode cX5_fill 28 = .ok (.getfield 25, 3) := by decide +kernel
theorem dX5_fill_31 : decode cX5_fill 31 = .ok (.aload_n 2, 1) := by decide +kernel
theorem dX5_fill_32 : decode cX5_fill 32 = .ok (.getfield 218, 3) := by decide +kernel
theorem dX5_fill_35 : decode cX5_fill 35 = .ok (.aload_n 2, 1) := by decide +kernel
theorem dX5_fill_36 : decode cX5_fill 36 = .ok (.getfield 219, 3) := by decide +kernel
theorem dX5_fill_39 : decode cX5_fill 39 = .ok (.aload_n 2, 1) := by decide +kernel
theorem dX5_fill_40 : decode cX5_fill 40 = .ok (.getfield 222, 3) := by decide +kernel
theorem dX5_fill_43 : decode cX5_fill 43 = .ok (.invokevirtual 225, 3) := by decide +kernel
theorem dX5_fill_46 : decode cX5_fill 46 = .ok (.aload_n 2, 1) := by decide +kernel
theorem dX5_fill_47 : decode cX5_fill 47 = .ok (.iconst 1, 1) := by decide +kernel
theorem dX5_fill_48 : decode cX5_fill 48 = .ok (.putfield 228, 3) := by decide +kernel
theorem dX5_fill_51 : decode cX5_fill 51 = .ok (.aload_n 0, 1) := by decide +kernel
theorem dX5_fill_52 : decode cX5_fill 52 = .ok (.getfield 25, 3) := by decide +kernel
theorem dX5_fill_55 : decode cX5_fill 55 = .ok (.invokevirtual 231, 3) := by decide +kernel
theorem dX5_fill_58 : decode cX5_fill 58 = .ok (.ireturn, 1) := by decide +kernel
theorem dX5_order_0 : decode cX5_order 0 = .ok (.aload_n 0, 1) := by decide +kernel
theorem dX5_order_1 : decode cX5_order 1 = .ok (.iload_n 1, 1) := by decide +kernel
theorem dX5_order_2 : decode cX5_order 2 = .ok (.invokevirtual 208, 3) := by decide +kernel
theorem dX5_order_5 : decode cX5_order 5 = .ok (.astore_n 3, 1) := by decide +kernel
theorem dX5_order_6 : decode cX5_order 6 = .ok (.iload_n 2, 1) := by decide +kernel
theorem dX5_order_7 : decode cX5_order 7 = .ok (.tableswitch 79 0 5 #[37, 42, 47, 52, 57, 62], 37) := by decide +kernel
theorem dX5_order_44 : decode cX5_order 44 = .ok (.aload_n 3, 1) := by decide +kernel
theorem dX5_order_45 : decode cX5_order 45 = .ok (.getfield 218, 3) := by decide +kernel
theorem dX5_order_48 : decode cX5_order 48 = .ok (.ireturn, 1) := by decide +kernel
theorem dX5_order_49 : decode cX5_order 49 = .ok (.aload_n 3, 1) := by decide +kernel
theorem dX5_order_50 : decode cX5_order 50 = .ok (.getfield 219, 3) := by decide +kernel
theorem dX5_order_53 : decode cX5_order 53 = .ok (.ireturn, 1) := by decide +kernel
theorem dX5_order_54 : decode cX5_order 54 = .ok (.aload_n 3, 1) := by decide +kernel
theorem dX5_order_55 : decode cX5_order 55 = .ok (.getfield 222, 3) := by decide +kernel
theorem dX5_order_58 : decode cX5_order 58 = .ok (.ireturn, 1) := by decide +kernel
theorem dX5_order_59 : decode cX5_order 59 = .ok (.aload_n 3, 1) := by decide +kernel
theorem dX5_order_60 : decode cX5_order 60 = .ok (.getfield 234, 3) := by decide +kernel
theorem dX5_order_63 : decode cX5_order 63 = .ok (.ireturn, 1) := by decide +kernel
theorem dX5_order_64 : decode cX5_order 64 = .ok (.aload_n 3, 1) := by decide +kernel
theorem dX5_order_65 : decode cX5_order 65 = .ok (.getfield 228, 3) := by decide +kernel
theorem dX5_order_68 : decode cX5_order 68 = .ok (.ireturn, 1) := by decide +kernel
theorem dX5_order_69 : decode cX5_order 69 = .ok (.aload_n 3, 1) := by decide +kernel
theorem dX5_order_70 : decode cX5_order 70 = .ok (.aload_n 0, 1) := by decide +kernel
theorem dX5_order_71 : decode cX5_order 71 = .ok (.getfield 25, 3) := by decide +kernel
theorem dX5_order_74 : decode cX5_order 74 = .ok (.invokevirtual 212, 3) := by decide +kernel
theorem dX5_order_77 : decode cX5_order 77 = .ok (.ifCond .eq 7, 3) := by decide +kernel
theorem dX5_order_80 : decode cX5_order 80 = .ok (.iconst 1, 1) := by decide +kernel
theorem dX5_order_81 : decode cX5_order 81 = .ok (.goto 4, 3) := by decide +kernel
theorem dX5_order_84 : decode cX5_order 84 = .ok (.iconst 0, 1) := by decide +kernel
theorem dX5_order_85 : decode cX5_order 85 = .ok (.ireturn, 1) := by decide +kernel
theorem dX5_order_86 : decode cX5_order 86 = .ok (.new 82, 3) := by decide +kernel
theorem dX5_order_89 : decode cX5_order 89 = .ok (.dup, 1) := by decide +kernel
theorem dX5_order_90 : decode cX5_order 90 = .ok (.ldc 237, 2) := by decide +kernel
theorem dX5_order_92 : decode cX5_order 92 = .ok (.invokespecial 86, 3) := by decide +kernel
theorem dX5_order_95 : decode cX5_order 95 = .ok (.athrow, 1) := by decide +kernel
theorem dX5_pass_0 : decode cX5_pass 0 = .ok (.iload_n 1, 1) := by decide +kernel
theorem dX5_pass_1 : decode cX5_pass 1 = .ok (.iconst 1, 1) := by decide +kernel
theorem dX5_pass_2 : decode cX5_pass 2 = .ok (.sipush 400, 3) := by decide +kernel
theorem dX5_pass_5 : decode cX5_pass 5 = .ok (.invokestatic 46, 3) := by decide +kernel
theorem dX5_pass_8 : decode cX5_pass 8 = .ok (.ifCond .ne 13, 3) := by decide +kernel
theorem dX5_pass_11 : decode cX5_pass 11 = .ok (.new 50, 3) := by decide +kernel
theorem dX5_pass_14 : decode cX5_pass 14 = .ok (.dup, 1) := by decide +kernel
theorem dX5_pass_15 : decode cX5_pass 15 = .ok (.ldc 239, 2) := by decide +kernel
theorem dX5_pass_17 : decode cX5_pass 17 = .ok (.invokespecial 54, 3) := by decide +kernel
theorem dX5_pass_20 : decode cX5_pass 20 = .ok (.athrow, 1) := by decide +kernel
theorem dX5_pass_21 : decode cX5_pass 21 = .ok (.iconst 0, 1) := by decide +kernel
theorem dX5_pass_22 : decode cX5_pass 22 = .ok (.istore_n 2, 1) := by decide +kernel
theorem dX5_pass_23 : decode cX5_pass 23 = .ok (.iload_n 2, 1) := by decide +kernel
theorem dX5_pass_24 : decode cX5_pass 24 = .ok (.iload_n 1, 1) := by decide +kernel
theorem dX5_pass_25 : decode cX5_pass 25 = .ok (.if_icmp .ge 14, 3) := by decide +kernel
theorem dX5_pass_28 : decode cX5_pass 28 = .ok (.aload_n 0, 1) := by decide +kernel
theorem dX5_pass_29 : decode cX5_pass 29 = .ok (.aconst_null, 1) := by decide +kernel
theorem dX5_pass_30 : decode cX5_pass 30 = .ok (.invokevirtual 131, 3) := by decide +kernel
theorem dX5_pass_33 : decode cX5_pass 33 = .ok (.iinc 2 1, 3) := by decide +kernel
theorem dX5_pass_36 : decode cX5_pass 36 = .ok (.goto (-13), 3) := by decide +kernel
theorem dX5_pass_39 : decode cX5_pass 39 = .ok (.aload_n 0, 1) := by decide +kernel
theorem dX5_pass_40 : decode cX5_pass 40 = .ok (.getfield 10, 3) := by decide +kernel
theorem dX5_pass_43 : decode cX5_pass 43 = .ok (.getfield 70, 3) := by decide +kernel
theorem dX5_pass_46 : decode cX5_pass 46 = .ok (.ireturn, 1) := by decide +kernel
theorem dX5_count_0 : decode cX5_count 0 = .ok (.iload_n 1, 1) := by decide +kernel
theorem dX5_count_1 : decode cX5_count 1 = .ok (.tableswitch 101 0 8 #[51, 56, 61, 66, 74, 79, 85, 91, 96], 51) := by decide +kernel
theorem dX5_count_52 : decode cX5_count 52 = .ok (.aload_n 0, 1) := by decide +kernel
theorem dX5_count_53 : decode cX5_count 53 = .ok (.getfield 195, 3) := by decide +kernel
theorem dX5_count_56 : decode cX5_count 56 = .ok (.ireturn, 1) := by decide +kernel
theorem dX5_count_57 : decode cX5_count 57 = .ok (.aload_n 0, 1) := by decide +kernel
theorem dX5_count_58 : decode cX5_count 58 = .ok (.invokevirtual 89, 3) := by decide +kernel
theorem dX5_count_61 : decode cX5_count 61 = .ok (.ireturn, 1) := by decide +kernel
theorem dX5_count_62 : decode cX5_count 62 = .ok (.aload_n 0, 1) := by decide +kernel
theorem dX5_count_63 : decode cX5_count 63 = .ok (.invokevirtual 241, 3) := by decide +kernel
theorem dX5_count_66 : decode cX5_count 66 = .ok (.ireturn, 1) := by decide +kernel
theorem dX5_count_67 : decode cX5_count 67 = .ok (.aload_n 0, 1) := by decide +kernel
theorem dX5_count_68 : decode cX5_count 68 = .ok (.getfield 25, 3) := by decide +kernel
theorem dX5_count_71 : decode cX5_count 71 = .ok (.invokevirtual 231, 3) := by decide +kernel
theorem dX5_count_74 : decode cX5_count 74 = .ok (.ireturn, 1) := by decide +kernel
theorem dX5_count_75 : decode cX5_count 75 = .ok (.aload_n 0, 1) := by decide +kernel
theorem dX5_count_76 : decode cX5_count 76 = .ok (.invokevirtual 200, 3) := by decide +kernel
theorem dX5_count_79 : decode cX5_count 79 = .ok (.ireturn, 1) := by decide +kernel
theorem dX5_count_80 : decode cX5_count 80 = .ok (.aload_n 0, 1) := by decide +kernel
theorem dX5_count_81 : decode cX5_count 81 = .ok (.iconst 1, 1) := by decide +kernel
theorem dX5_count_82 : decode cX5_count 82 = .ok (.invokevirtual 244, 3) := by decide +kernel
theorem dX5_count_85 : decode cX5_count 85 = .ok (.ireturn, 1) := by decide +kernel
theorem dX5_count_86 : decode cX5_count 86 = .ok (.aload_n 0, 1) := by decide +kernel
theorem dX5_count_87 : decode cX5_count 87 = .ok (.iconst 2, 1) := by decide +kernel
theorem dX5_count_88 : decode cX5_count 88 = .ok (.invokevirtual 244, 3) := by decide +kernel
theorem dX5_count_91 : decode cX5_count 91 = .ok (.ireturn, 1) := by decide +kernel
theorem dX5_count_92 : decode cX5_count 92 = .ok (.aload_n 0, 1) := by decide +kernel
theorem dX5_count_93 : decode cX5_count 93 = .ok (.getfield 128, 3) := by decide +kernel
theorem dX5_count_96 : decode cX5_count 96 = .ok (.ireturn, 1) := by decide +kernel
theorem dX5_count_97 : decode cX5_count 97 = .ok (.aload_n 0, 1) := by decide +kernel
theorem dX5_count_98 : decode cX5_count 98 = .ok (.getfield 149, 3) := by decide +kernel
theorem dX5_count_101 : decode cX5_count 101 = .ok (.ireturn, 1) := by decide +kernel
theorem dX5_count_102 : decode cX5_count 102 = .ok (.new 82, 3) := by decide +kernel
theorem dX5_count_105 : decode cX5_count 105 = .ok (.dup, 1) := by decide +kernel
theorem dX5_count_106 : decode cX5_count 106 = .ok (.ldc 247, 2) := by decide +kernel
theorem dX5_count_108 : decode cX5_count 108 = .ok (.invokespecial 86, 3) := by decide +kernel
theorem dX5_count_111 : decode cX5_count 111 = .ok (.athrow, 1) := by decide +kernel
theorem dX5_would_0 : decode cX5_would 0 = .ok (.aload_n 0, 1) := by decide +kernel
theorem dX5_would_1 : decode cX5_would 1 = .ok (.iload_n 1, 1) := by decide +kernel
theorem dX5_would_2 : decode cX5_would 2 = .ok (.invokevirtual 98, 3) := by decide +kernel
theorem dX5_would_5 : decode cX5_would 5 = .ok (.astore_n 3, 1) := by decide +kernel
theorem dX5_would_6 : decode cX5_would 6 = .ok (.iload_n 2, 1) := by decide +kernel
theorem dX5_would_7 : decode cX5_would 7 = .ok (.iconst 1, 1) := by decide +kernel
theorem dX5_would_8 : decode cX5_would 8 = .ok (.bipush 40, 2) := by decide +kernel
theorem dX5_would_10 : decode cX5_would 10 = .ok (.invokestatic 46, 3) := by decide +kernel
theorem dX5_would_13 : decode cX5_would 13 = .ok (.ifCond .ne 13, 3) := by decide +kernel
theorem dX5_would_16 : decode cX5_would 16 = .ok (.new 50, 3) := by decide +kernel
theorem dX5_would_19 : decode cX5_would 19 = .ok (.dup, 1) := by decide +kernel
theorem dX5_would_20 : decode cX5_would 20 = .ok (.ldc 249, 2) := by decide +kernel
theorem dX5_would_22 : decode cX5_would 22 = .ok (.invokespecial 54, 3) := by decide +kernel
theorem dX5_would_25 : decode cX5_would 25 = .ok (.athrow, 1) := by decide +kernel
theorem dX5_would_26 : decode cX5_would 26 = .ok (.aload_n 3, 1) := by decide +kernel
theorem dX5_would_27 : decode cX5_would 27 = .ok (.invokevirtual 113, 3) := by decide +kernel
theorem dX5_would_30 : decode cX5_would 30 = .ok (.ifCond .ne 13, 3) := by decide +kernel
theorem dX5_would_33 : decode cX5_would 33 = .ok (.new 61, 3) := by decide +kernel
theorem dX5_would_36 : decode cX5_would 36 = .ok (.dup, 1) := by decide +kernel
theorem dX5_would_37 : decode cX5_would 37 = .ok (.ldc 251, 2) := by decide +kernel
theorem dX5_would_39 : decode cX5_would 39 = .ok (.invokespecial 65, 3) := by decide +kernel
theorem dX5_would_42 : decode cX5_would 42 = .ok (.athrow, 1) := by decide +kernel
theorem dX5_would_43 : decode cX5_would 43 = .ok (.aload_n 0, 1) := by decide +kernel
theorem dX5_would_44 : decode cX5_would 44 = .ok (.getfield 38, 3) := by decide +kernel
theorem dX5_would_47 : decode cX5_would 47 = .ok (.aload_n 3, 1) := by decide +kernel
theorem dX5_would_48 : decode cX5_would 48 = .ok (.aload_n 0, 1) := by decide +kernel
theorem dX5_would_49 : decode cX5_would 49 = .ok (.getfield 10, 3) := by decide +kernel
theorem dX5_would_52 : decode cX5_would 52 = .ok (.iload_n 2, 1) := by decide +kernel
theorem dX5_would_53 : decode cX5_would 53 = .ok (.invokevirtual 253, 3) := by decide +kernel
theorem dX5_would_56 : decode cX5_would 56 = .ok (.ireturn, 1) := by decide +kernel
theorem dX5_dipsTo_0 : decode cX5_dipsTo 0 = .ok (.aload_n 0, 1) := by decide +kernel
theorem dX5_dipsTo_1 : decode cX5_dipsTo 1 = .ok (.iload_n 1, 1) := by decide +kernel
theorem dX5_dipsTo_2 : decode cX5_dipsTo 2 = .ok (.invokevirtual 98, 3) := by decide +kernel
theorem dX5_dipsTo_5 : decode cX5_dipsTo 5 = .ok (.astore 4, 2) := by decide +kernel
theorem dX5_dipsTo_7 : decode cX5_dipsTo 7 = .ok (.iload_n 2, 1) := by decide +kernel
theorem dX5_dipsTo_8 : decode cX5_dipsTo 8 = .ok (.iconst 0, 1) := by decide +kernel
theorem dX5_dipsTo_9 : decode cX5_dipsTo 9 = .ok (.bipush 20, 2) := by decide +kernel
theorem dX5_dipsTo_11 : decode cX5_dipsTo 11 = .ok (.invokestatic 46, 3) := by decide +kernel
theorem dX5_dipsTo_14 : decode cX5_dipsTo 14 = .ok (.ifCond .eq 13, 3) := by decide +kernel
theorem dX5_dipsTo_17 : decode cX5_dipsTo 17 = .ok (.iload_n 3, 1) := by decide +kernel
theorem dX5_dipsTo_18 : decode cX5_dipsTo 18 = .ok (.iconst 1, 1) := by decide +kernel
theorem dX5_dipsTo_19 : decode cX5_dipsTo 19 = .ok (.bipush 9, 2) := by decide +kernel
theorem dX5_dipsTo_21 : decode cX5_dipsTo 21 = .ok (.invokestatic 46, 3) := by decide +kernel
theorem dX5_dipsTo_24 : decode cX5_dipsTo 24 = .ok (.ifCond .ne 14, 3) := by decide +kernel
theorem dX5_dipsTo_27 : decode cX5_dipsTo 27 = .ok (.new 50, 3) := by decide +kernel
theorem dX5_dipsTo_30 : decode cX5_dipsTo 30 = .ok (.dup, 1) := by decide +kernel
theorem dX5_dipsTo_31 : decode cX5_dipsTo 31 = .ok (.ldc_w 257, 3) := by decide +kernel
theorem dX5_dipsTo_34 : decode cX5_dipsTo 34 = .ok (.invokespecial 54, 3) := by decide +kernel
theorem dX5_dipsTo_37 : decode cX5_dipsTo 37 = .ok (.athrow, 1) := by decide +kernel
theorem dX5_dipsTo_38 : decode cX5_dipsTo 38 = .ok (.aload 4, 2) := by decide +kernel
end
section
theorem dX5_dipsTo_40 : decode cX5_dipsTo 40 = .ok (.invokevirtual 113, 3) := by decide +kernel
theorem dX5_dipsTo_43 : decode cX5_dipsTo 43 = .ok (.ifCond .ne 13, 3) := by decide +kernel
theorem dX5_dipsTo_46 : decode cX5_dipsTo 46 = .ok (.new 61, 3) := by decide +kernel
theorem dX5_dipsTo_49 : decode cX5_dipsTo 49 = .ok (.dup, 1) := by decide +kernel
theorem dX5_dipsTo_50 : decode cX5_dipsTo 50 = .ok (.ldc 251, 2) := by decide +kernel
theorem dX5_dipsTo_52 : decode cX5_dipsTo 52 = .ok (.invokespecial 65, 3) := by decide +kernel
theorem dX5_dipsTo_55 : decode cX5_dipsTo 55 = .ok (.athrow, 1) := by decide +kernel
theorem dX5_dipsTo_56 : decode cX5_dipsTo 56 = .ok (.aload_n 0, 1) := by decide +kernel
theorem dX5_dipsTo_57 : decode cX5_dipsTo 57 = .ok (.getfield 38, 3) := by decide +kernel
theorem dX5_dipsTo_60 : decode cX5_dipsTo 60 = .ok (.aload 4, 2) := by decide +kernel
theorem dX5_dipsTo_62 : decode cX5_dipsTo 62 = .ok (.aload_n 0, 1) := by decide +kernel
theorem dX5_dipsTo_63 : decode cX5_dipsTo 63 = .ok (.getfield 10, 3) := by decide +kernel
theorem dX5_dipsTo_66 : decode cX5_dipsTo 66 = .ok (.iload_n 2, 1) := by decide +kernel
theorem dX5_dipsTo_67 : decode cX5_dipsTo 67 = .ok (.iload_n 3, 1) := by decide +kernel
theorem dX5_dipsTo_68 : decode cX5_dipsTo 68 = .ok (.invokevirtual 259, 3) := by decide +kernel
theorem dX5_dipsTo_71 : decode cX5_dipsTo 71 = .ok (.ireturn, 1) := by decide +kernel
theorem dX5_bestRest_0 : decode cX5_bestRest 0 = .ok (.aload_n 0, 1) := by decide +kernel
theorem dX5_bestRest_1 : decode cX5_bestRest 1 = .ok (.iload_n 1, 1) := by decide +kernel
theorem dX5_bestRest_2 : decode cX5_bestRest 2 = .ok (.invokevirtual 98, 3) := by decide +kernel
theorem dX5_bestRest_5 : decode cX5_bestRest 5 = .ok (.astore_n 3, 1) := by decide +kernel
theorem dX5_bestRest_6 : decode cX5_bestRest 6 = .ok (.iload_n 2, 1) := by decide +kernel
theorem dX5_bestRest_7 : decode cX5_bestRest 7 = .ok (.iconst 1, 1) := by decide +kernel
theorem dX5_bestRest_8 : decode cX5_bestRest 8 = .ok (.bipush 9, 2) := by decide +kernel
theorem dX5_bestRest_10 : decode cX5_bestRest 10 = .ok (.invokestatic 46, 3) := by decide +kernel
theorem dX5_bestRest_13 : decode cX5_bestRest 13 = .ok (.ifCond .ne 14, 3) := by decide +kernel
theorem dX5_bestRest_16 : decode cX5_bestRest 16 = .ok (.new 50, 3) := by decide +kernel
theorem dX5_bestRest_19 : decode cX5_bestRest 19 = .ok (.dup, 1) := by decide +kernel
theorem dX5_bestRest_20 : decode cX5_bestRest 20 = .ok (.ldc_w 263, 3) := by decide +kernel
theorem dX5_bestRest_23 : decode cX5_bestRest 23 = .ok (.invokespecial 54, 3) := by decide +kernel
theorem dX5_bestRest_26 : decode cX5_bestRest 26 = .ok (.athrow, 1) := by decide +kernel
theorem dX5_bestRest_27 : decode cX5_bestRest 27 = .ok (.aload_n 3, 1) := by decide +kernel
theorem dX5_bestRest_28 : decode cX5_bestRest 28 = .ok (.invokevirtual 113, 3) := by decide +kernel
theorem dX5_bestRest_31 : decode cX5_bestRest 31 = .ok (.ifCond .ne 13, 3) := by decide +kernel
theorem dX5_bestRest_34 : decode cX5_bestRest 34 = .ok (.new 61, 3) := by decide +kernel
theorem dX5_bestRest_37 : decode cX5_bestRest 37 = .ok (.dup, 1) := by decide +kernel
theorem dX5_bestRest_38 : decode cX5_bestRest 38 = .ok (.ldc 251, 2) := by decide +kernel
theorem dX5_bestRest_40 : decode cX5_bestRest 40 = .ok (.invokespecial 65, 3) := by decide +kernel
theorem dX5_bestRest_43 : decode cX5_bestRest 43 = .ok (.athrow, 1) := by decide +kernel
theorem dX5_bestRest_44 : decode cX5_bestRest 44 = .ok (.aload_n 0, 1) := by decide +kernel
theorem dX5_bestRest_45 : decode cX5_bestRest 45 = .ok (.getfield 38, 3) := by decide +kernel
theorem dX5_bestRest_48 : decode cX5_bestRest 48 = .ok (.aload_n 3, 1) := by decide +kernel
theorem dX5_bestRest_49 : decode cX5_bestRest 49 = .ok (.aload_n 0, 1) := by decide +kernel
theorem dX5_bestRest_50 : decode cX5_bestRest 50 = .ok (.getfield 10, 3) := by decide +kernel
theorem dX5_bestRest_53 : decode cX5_bestRest 53 = .ok (.iload_n 2, 1) := by decide +kernel
theorem dX5_bestRest_54 : decode cX5_bestRest 54 = .ok (.invokevirtual 265, 3) := by decide +kernel
theorem dX5_bestRest_57 : decode cX5_bestRest 57 = .ok (.ireturn, 1) := by decide +kernel
theorem dX5_advise_0 : decode cX5_advise 0 = .ok (.iconst (-1), 1) := by decide +kernel
theorem dX5_advise_1 : decode cX5_advise 1 = .ok (.istore_n 1, 1) := by decide +kernel
theorem dX5_advise_2 : decode cX5_advise 2 = .ok (.iconst 0, 1) := by decide +kernel
theorem dX5_advise_3 : decode cX5_advise 3 = .ok (.istore_n 2, 1) := by decide +kernel
theorem dX5_advise_4 : decode cX5_advise 4 = .ok (.iconst 0, 1) := by decide +kernel
theorem dX5_advise_5 : decode cX5_advise 5 = .ok (.istore_n 3, 1) := by decide +kernel
theorem dX5_advise_6 : decode cX5_advise 6 = .ok (.iload_n 3, 1) := by decide +kernel
theorem dX5_advise_7 : decode cX5_advise 7 = .ok (.aload_n 0, 1) := by decide +kernel
theorem dX5_advise_8 : decode cX5_advise 8 = .ok (.getfield 18, 3) := by decide +kernel
theorem dX5_advise_11 : decode cX5_advise 11 = .ok (.arraylength, 1) := by decide +kernel
theorem dX5_advise_12 : decode cX5_advise 12 = .ok (.if_icmp .ge 65, 3) := by decide +kernel
theorem dX5_advise_15 : decode cX5_advise 15 = .ok (.aload_n 0, 1) := by decide +kernel
theorem dX5_advise_16 : decode cX5_advise 16 = .ok (.getfield 18, 3) := by decide +kernel
theorem dX5_advise_19 : decode cX5_advise 19 = .ok (.iload_n 3, 1) := by decide +kernel
theorem dX5_advise_20 : decode cX5_advise 20 = .ok (.aaload, 1) := by decide +kernel
theorem dX5_advise_21 : decode cX5_advise 21 = .ok (.astore 4, 2) := by decide +kernel
theorem dX5_advise_23 : decode cX5_advise 23 = .ok (.aload 4, 2) := by decide +kernel
theorem dX5_advise_25 : decode cX5_advise 25 = .ok (.ifnull 46, 3) := by decide +kernel
theorem dX5_advise_28 : decode cX5_advise 28 = .ok (.aload 4, 2) := by decide +kernel
theorem dX5_advise_30 : decode cX5_advise 30 = .ok (.aload_n 0, 1) := by decide +kernel
theorem dX5_advise_31 : decode cX5_advise 31 = .ok (.getfield 10, 3) := by decide +kernel
theorem dX5_advise_34 : decode cX5_advise 34 = .ok (.invokevirtual 118, 3) := by decide +kernel
theorem dX5_advise_37 : decode cX5_advise 37 = .ok (.ifCond .eq 34, 3) := by decide +kernel
theorem dX5_advise_40 : decode cX5_advise 40 = .ok (.aload 4, 2) := by decide +kernel
theorem dX5_advise_42 : decode cX5_advise 42 = .ok (.aload_n 0, 1) := by decide +kernel
theorem dX5_advise_43 : decode cX5_advise 43 = .ok (.getfield 10, 3) := by decide +kernel
theorem dX5_advise_46 : decode cX5_advise 46 = .ok (.getfield 70, 3) := by decide +kernel
theorem dX5_advise_49 : decode cX5_advise 49 = .ok (.invokevirtual 268, 3) := by decide +kernel
theorem dX5_advise_52 : decode cX5_advise 52 = .ok (.iload_n 2, 1) := by decide +kernel
theorem dX5_advise_53 : decode cX5_advise 53 = .ok (.if_icmp .le 18, 3) := by decide +kernel
theorem dX5_advise_56 : decode cX5_advise 56 = .ok (.iload_n 3, 1) := by decide +kernel
theorem dX5_advise_57 : decode cX5_advise 57 = .ok (.istore_n 1, 1) := by decide +kernel
theorem dX5_advise_58 : decode cX5_advise 58 = .ok (.aload 4, 2) := by decide +kernel
theorem dX5_advise_60 : decode cX5_advise 60 = .ok (.aload_n 0, 1) := by decide +kernel
theorem dX5_advise_61 : decode cX5_advise 61 = .ok (.getfield 10, 3) := by decide +kernel
theorem dX5_advise_64 : decode cX5_advise 64 = .ok (.getfield 70, 3) := by decide +kernel
theorem dX5_advise_67 : decode cX5_advise 67 = .ok (.invokevirtual 268, 3) := by decide +kernel
theorem dX5_advise_70 : decode cX5_advise 70 = .ok (.istore_n 2, 1) := by decide +kernel
theorem dX5_advise_71 : decode cX5_advise 71 = .ok (.iinc 3 1, 3) := by decide +kernel
theorem dX5_advise_74 : decode cX5_advise 74 = .ok (.goto (-68), 3) := by decide +kernel
theorem dX5_advise_77 : decode cX5_advise 77 = .ok (.iload_n 1, 1) := by decide +kernel
theorem dX5_advise_78 : decode cX5_advise 78 = .ok (.ireturn, 1) := by decide +kernel
theorem dX5_possible_0 : decode cX5_possible 0 = .ok (.iconst 0, 1) := by decide +kernel
theorem dX5_possible_1 : decode cX5_possible 1 = .ok (.istore_n 1, 1) := by decide +kernel
theorem dX5_possible_2 : decode cX5_possible 2 = .ok (.iconst 0, 1) := by decide +kernel
theorem dX5_possible_3 : decode cX5_possible 3 = .ok (.istore_n 2, 1) := by decide +kernel
theorem dX5_possible_4 : decode cX5_possible 4 = .ok (.iload_n 2, 1) := by decide +kernel
theorem dX5_possible_5 : decode cX5_possible 5 = .ok (.iconst 4, 1) := by decide +kernel
theorem dX5_possible_6 : decode cX5_possible 6 = .ok (.if_icmp .ge 17, 3) := by decide +kernel
theorem dX5_possible_9 : decode cX5_possible 9 = .ok (.iload_n 1, 1) := by decide +kernel
theorem dX5_possible_10 : decode cX5_possible 10 = .ok (.aload_n 0, 1) := by decide +kernel
theorem dX5_possible_11 : decode cX5_possible 11 = .ok (.iload_n 2, 1) := by decide +kernel
theorem dX5_possible_12 : decode cX5_possible 12 = .ok (.invokevirtual 271, 3) := by decide +kernel
theorem dX5_possible_15 : decode cX5_possible 15 = .ok (.iadd, 1) := by decide +kernel
theorem dX5_possible_16 : decode cX5_possible 16 = .ok (.istore_n 1, 1) := by decide +kernel
theorem dX5_possible_17 : decode cX5_possible 17 = .ok (.iinc 2 1, 3) := by decide +kernel
theorem dX5_possible_20 : decode cX5_possible 20 = .ok (.goto (-16), 3) := by decide +kernel
theorem dX5_possible_23 : decode cX5_possible 23 = .ok (.iload_n 1, 1) := by decide +kernel
theorem dX5_possible_24 : decode cX5_possible 24 = .ok (.ireturn, 1) := by decide +kernel
theorem dX5_mean_0 : decode cX5_mean 0 = .ok (.iconst 0, 1) := by decide +kernel
theorem dX5_mean_1 : decode cX5_mean 1 = .ok (.istore_n 1, 1) := by decide +kernel
theorem dX5_mean_2 : decode cX5_mean 2 = .ok (.iconst 0, 1) := by decide +kernel
theorem dX5_mean_3 : decode cX5_mean 3 = .ok (.istore_n 2, 1) := by decide +kernel
theorem dX5_mean_4 : decode cX5_mean 4 = .ok (.aload_n 0, 1) := by decide +kernel
theorem dX5_mean_5 : decode cX5_mean 5 = .ok (.getfield 18, 3) := by decide +kernel
theorem dX5_mean_8 : decode cX5_mean 8 = .ok (.astore_n 3, 1) := by decide +kernel
theorem dX5_mean_9 : decode cX5_mean 9 = .ok (.aload_n 3, 1) := by decide +kernel
theorem dX5_mean_10 : decode cX5_mean 10 = .ok (.arraylength, 1) := by decide +kernel
theorem dX5_mean_11 : decode cX5_mean 11 = .ok (.istore 4, 2) := by decide +kernel
theorem dX5_mean_13 : decode cX5_mean 13 = .ok (.iconst 0, 1) := by decide +kernel
theorem dX5_mean_14 : decode cX5_mean 14 = .ok (.istore 5, 2) := by decide +kernel
theorem dX5_mean_16 : decode cX5_mean 16 = .ok (.iload 5, 2) := by decide +kernel
theorem dX5_mean_18 : decode cX5_mean 18 = .ok (.iload 4, 2) := by decide +kernel
theorem dX5_mean_20 : decode cX5_mean 20 = .ok (.if_icmp .ge 42, 3) := by decide +kernel
theorem dX5_mean_23 : decode cX5_mean 23 = .ok (.aload_n 3, 1) := by decide +kernel
theorem dX5_mean_24 : decode cX5_mean 24 = .ok (.iload 5, 2) := by decide +kernel
theorem dX5_mean_26 : decode cX5_mean 26 = .ok (.aaload, 1) := by decide +kernel
theorem dX5_mean_27 : decode cX5_mean 27 = .ok (.astore 6, 2) := by decide +kernel
theorem dX5_mean_29 : decode cX5_mean 29 = .ok (.aload 6, 2) := by decide +kernel
theorem dX5_mean_31 : decode cX5_mean 31 = .ok (.ifnull 25, 3) := by decide +kernel
theorem dX5_mean_34 : decode cX5_mean 34 = .ok (.iload_n 1, 1) := by decide +kernel
theorem dX5_mean_35 : decode cX5_mean 35 = .ok (.aload 6, 2) := by decide +kernel
theorem dX5_mean_37 : decode cX5_mean 37 = .ok (.getfield 135, 3) := by decide +kernel
theorem dX5_mean_40 : decode cX5_mean 40 = .ok (.aload 6, 2) := by decide +kernel
theorem dX5_mean_42 : decode cX5_mean 42 = .ok (.getfield 152, 3) := by decide +kernel
theorem dX5_mean_45 : decode cX5_mean 45 = .ok (.imul, 1) := by decide +kernel
theorem dX5_mean_46 : decode cX5_mean 46 = .ok (.iadd, 1) := by decide +kernel
theorem dX5_mean_47 : decode cX5_mean 47 = .ok (.istore_n 1, 1) := by decide +kernel
theorem dX5_mean_48 : decode cX5_mean 48 = .ok (.iload_n 2, 1) := by decide +kernel
theorem dX5_mean_49 : decode cX5_mean 49 = .ok (.aload 6, 2) := by decide +kernel
theorem dX5_mean_51 : decode cX5_mean 51 = .ok (.getfield 152, 3) := by decide +kernel
theorem dX5_mean_54 : decode cX5_mean 54 = .ok (.iadd, 1) := by decide +kernel
theorem dX5_mean_55 : decode cX5_mean 55 = .ok (.istore_n 2, 1) := by decide +kernel
theorem dX5_mean_56 : decode cX5_mean 56 = .ok (.iinc 5 1, 3) := by decide +kernel
theorem dX5_mean_59 : decode cX5_mean 59 = .ok (.goto (-43), 3) := by decide +kernel
theorem dX5_mean_62 : decode cX5_mean 62 = .ok (.iload_n 2, 1) := by decide +kernel
theorem dX5_mean_63 : decode cX5_mean 63 = .ok (.ifCond .le 11, 3) := by decide +kernel
theorem dX5_mean_66 : decode cX5_mean 66 = .ok (.iload_n 1, 1) := by decide +kernel
theorem dX5_mean_67 : decode cX5_mean 67 = .ok (.i2d, 1) := by decide +kernel
theorem dX5_mean_68 : decode cX5_mean 68 = .ok (.iload_n 2, 1) := by decide +kernel
theorem dX5_mean_69 : decode cX5_mean 69 = .ok (.i2d, 1) := by decide +kernel
theorem dX5_mean_70 : decode cX5_mean 70 = .ok (.ddiv, 1) := by decide +kernel
theorem dX5_mean_71 : decode cX5_mean 71 = .ok (.goto 4, 3) := by decide +kernel
theorem dX5_mean_74 : decode cX5_mean 74 = .ok (.dconst 0, 1) := by decide +kernel
theorem dX5_mean_75 : decode cX5_mean 75 = .ok (.dreturn, 1) := by decide +kernel
theorem dX5_digest_0 : decode cX5_digest 0 = .ok (.ldc2_w 274, 3) := by decide +kernel
theorem dX5_digest_3 : decode cX5_digest 3 = .ok (.lstore_n 1, 1) := by decide +kernel
theorem dX5_digest_4 : decode cX5_digest 4 = .ok (.iconst 0, 1) := by decide +kernel
theorem dX5_digest_5 : decode cX5_digest 5 = .ok (.istore_n 3, 1) := by decide +kernel
theorem dX5_digest_6 : decode cX5_digest 6 = .ok (.iload_n 3, 1) := by decide +kernel
theorem dX5_digest_7 : decode cX5_digest 7 = .ok (.bipush 8, 2) := by decide +kernel
theorem dX5_digest_9 : decode cX5_digest 9 = .ok (.if_icmp .gt 22, 3) := by decide +kernel
theorem dX5_digest_12 : decode cX5_digest 12 = .ok (.lload_n 1, 1) := by decide +kernel
theorem dX5_digest_13 : decode cX5_digest 13 = .ok (.ldc2_w 276, 3) := by decide +kernel
theorem dX5_digest_16 : decode cX5_digest 16 = .ok (.lmul, 1) := by decide +kernel
theorem dX5_digest_17 : decode cX5_digest 17 = .ok (.aload_n 0, 1) := by decide +kernel
theorem dX5_digest_18 : decode cX5_digest 18 = .ok (.iload_n 3, 1) := by decide +kernel
theorem dX5_digest_19 : decode cX5_digest 19 = .ok (.invokevirtual 278, 3) := by decide +kernel
theorem dX5_digest_22 : decode cX5_digest 22 = .ok (.i2l, 1) := by decide +kernel
theorem dX5_digest_23 : decode cX5_digest 23 = .ok (.ladd, 1) := by decide +kernel
theorem dX5_digest_24 : decode cX5_digest 24 = .ok (.lstore_n 1, 1) := by decide +kernel
theorem dX5_digest_25 : decode cX5_digest 25 = .ok (.iinc 3 1, 3) := by decide +kernel
theorem dX5_digest_28 : decode cX5_digest 28 = .ok (.goto (-22), 3) := by decide +kernel
theorem dX5_digest_31 : decode cX5_digest 31 = .ok (.iconst 0, 1) := by decide +kernel
theorem dX5_digest_32 : decode cX5_digest 32 = .ok (.istore_n 3, 1) := by decide +kernel
theorem dX5_digest_33 : decode cX5_digest 33 = .ok (.iload_n 3, 1) := by decide +kernel
theorem dX5_digest_34 : decode cX5_digest 34 = .ok (.iconst 3, 1) := by decide +kernel
theorem dX5_digest_35 : decode cX5_digest 35 = .ok (.if_icmp .gt 22, 3) := by decide +kernel
theorem dX5_digest_38 : decode cX5_digest 38 = .ok (.lload_n 1, 1) := by decide +kernel
theorem dX5_digest_39 : decode cX5_digest 39 = .ok (.ldc2_w 276, 3) := by decide +kernel
theorem dX5_digest_42 : decode cX5_digest 42 = .ok (.lmul, 1) := by decide +kernel
theorem dX5_digest_43 : decode cX5_digest 43 = .ok (.aload_n 0, 1) := by decide +kernel
theorem dX5_digest_44 : decode cX5_digest 44 = .ok (.iload_n 3, 1) := by decide +kernel
theorem dX5_digest_45 : decode cX5_digest 45 = .ok (.invokevirtual 281, 3) := by decide +kernel
theorem dX5_digest_48 : decode cX5_digest 48 = .ok (.i2l, 1) := by decide +kernel
theorem dX5_digest_49 : decode cX5_digest 49 = .ok (.ladd, 1) := by decide +kernel
theorem dX5_digest_50 : decode cX5_digest 50 = .ok (.lstore_n 1, 1) := by decide +kernel
theorem dX5_digest_51 : decode cX5_digest 51 = .ok (.iinc 3 1, 3) := by decide +kernel
theorem dX5_digest_54 : decode cX5_digest 54 = .ok (.goto (-21), 3) := by decide +kernel
theorem dX5_digest_57 : decode cX5_digest 57 = .ok (.iconst 0, 1) := by decide +kernel
theorem dX5_digest_58 : decode cX5_digest 58 = .ok (.istore_n 3, 1) := by decide +kernel
theorem dX5_digest_59 : decode cX5_digest 59 = .ok (.iload_n 3, 1) := by decide +kernel
theorem dX5_digest_60 : decode cX5_digest 60 = .ok (.aload_n 0, 1) := by decide +kernel
theorem dX5_digest_61 : decode cX5_digest 61 = .ok (.invokevirtual 89, 3) := by decide +kernel
theorem dX5_digest_64 : decode cX5_digest 64 = .ok (.if_icmp .ge 40, 3) := by decide +kernel
theorem dX5_digest_67 : decode cX5_digest 67 = .ok (.iconst 0, 1) := by decide +kernel
theorem dX5_digest_68 : decode cX5_digest 68 = .ok (.istore 4, 2) := by decide +kernel
theorem dX5_digest_70 : decode cX5_digest 70 = .ok (.iload 4, 2) := by decide +kernel
theorem dX5_digest_72 : decode cX5_digest 72 = .ok (.bipush 7, 2) := by decide +kernel
theorem dX5_digest_74 : decode cX5_digest 74 = .ok (.if_icmp .gt 24, 3) := by decide +kernel
theorem dX5_digest_77 : decode cX5_digest 77 = .ok (.lload_n 1, 1) := by decide +kernel
theorem dX5_digest_78 : decode cX5_digest 78 = .ok (.ldc2_w 276, 3) := by decide +kernel
theorem dX5_digest_81 : decode cX5_digest 81 = .ok (.lmul, 1) := by decide +kernel
theorem dX5_digest_82 : decode cX5_digest 82 = .ok (.aload_n 0, 1) := by decide +kernel
theorem dX5_digest_83 : decode cX5_digest 83 = .ok (.iload_n 3, 1) := by decide +kernel
theorem dX5_digest_84 : decode cX5_digest 84 = .ok (.iload 4, 2) := by decide +kernel
theorem dX5_digest_86 : decode cX5_digest 86 = .ok (.invokevirtual 283, 3) := by decide +kernel
theorem dX5_digest_89 : decode cX5_digest 89 = .ok (.i2l, 1) := by decide +kernel
theorem dX5_digest_90 : decode cX5_digest 90 = .ok (.ladd, 1) := by decide +kernel
theorem dX5_digest_91 : decode cX5_digest 91 = .ok (.lstore_n 1, 1) := by decide +kernel
theorem dX5_digest_92 : decode cX5_digest 92 = .ok (.iinc 4 1, 3) := by decide +kernel
theorem dX5_digest_95 : decode cX5_digest 95 = .ok (.goto (-25), 3) := by decide +kernel
theorem dX5_digest_98 : decode cX5_digest 98 = .ok (.iinc 3 1, 3) := by decide +kernel
theorem dX5_digest_101 : decode cX5_digest 101 = .ok (.goto (-42), 3) := by decide +kernel
theorem dX5_digest_104 : decode cX5_digest 104 = .ok (.iconst 0, 1) := by decide +kernel
theorem dX5_digest_105 : decode cX5_digest 105 = .ok (.istore_n 3, 1) := by decide +kernel
theorem dX5_digest_106 : decode cX5_digest 106 = .ok (.iload_n 3, 1) := by decide +kernel
theorem dX5_digest_107 : decode cX5_digest 107 = .ok (.iconst 4, 1) := by decide +kernel
theorem dX5_digest_108 : decode cX5_digest 108 = .ok (.if_icmp .ge 40, 3) := by decide +kernel
theorem dX5_digest_111 : decode cX5_digest 111 = .ok (.iconst 1, 1) := by decide +kernel
theorem dX5_digest_112 : decode cX5_digest 112 = .ok (.istore 4, 2) := by decide +kernel
theorem dX5_digest_114 : decode cX5_digest 114 = .ok (.iload 4, 2) := by decide +kernel
theorem dX5_digest_116 : decode cX5_digest 116 = .ok (.bipush 9, 2) := by decide +kernel
theorem dX5_digest_118 : decode cX5_digest 118 = .ok (.if_icmp .gt 24, 3) := by decide +kernel
theorem dX5_digest_121 : decode cX5_digest 121 = .ok (.lload_n 1, 1) := by decide +kernel
theorem dX5_digest_122 : decode cX5_digest 122 = .ok (.ldc2_w 276, 3) := by decide +kernel
theorem dX5_digest_125 : decode cX5_digest 125 = .ok (.lmul, 1) := by decide +kernel
theorem dX5_digest_126 : decode cX5_digest 126 = .ok (.aload_n 0, 1) := by decide +kernel
theorem dX5_digest_127 : decode cX5_digest 127 = .ok (.iload_n 3, 1) := by decide +kernel
theorem dX5_digest_128 : decode cX5_digest 128 = .ok (.iload 4, 2) := by decide +kernel
theorem dX5_digest_130 : decode cX5_digest 130 = .ok (.invokevirtual 286, 3) := by decide +kernel
theorem dX5_digest_133 : decode cX5_digest 133 = .ok (.i2l, 1) := by decide +kernel
theorem dX5_digest_134 : decode cX5_digest 134 = .ok (.ladd, 1) := by decide +kernel
theorem dX5_digest_135 : decode cX5_digest 135 = .ok (.lstore_n 1, 1) := by decide +kernel
theorem dX5_digest_136 : decode cX5_digest 136 = .ok (.iinc 4 1, 3) := by decide +kernel
theorem dX5_digest_139 : decode cX5_digest 139 = .ok (.goto (-25), 3) := by decide +kernel
theorem dX5_digest_142 : decode cX5_digest 142 = .ok (.iinc 3 1, 3) := by decide +kernel
theorem dX5_digest_145 : decode cX5_digest 145 = .ok (.goto (-39), 3) := by decide +kernel
theorem dX5_digest_148 : decode cX5_digest 148 = .ok (.iconst 0, 1) := by decide +kernel
theorem dX5_digest_149 : decode cX5_digest 149 = .ok (.istore_n 3, 1) := by decide +kernel
theorem dX5_digest_150 : decode cX5_digest 150 = .ok (.iload_n 3, 1) := by decide +kernel
theorem dX5_digest_151 : decode cX5_digest 151 = .ok (.aload_n 0, 1) := by decide +kernel
theorem dX5_digest_152 : decode cX5_digest 152 = .ok (.invokevirtual 200, 3) := by decide +kernel
theorem dX5_digest_155 : decode cX5_digest 155 = .ok (.if_icmp .ge 39, 3) := by decide +kernel
theorem dX5_digest_158 : decode cX5_digest 158 = .ok (.iconst 0, 1) := by decide +kernel
theorem dX5_digest_159 : decode cX5_digest 159 = .ok (.istore 4, 2) := by decide +kernel
theorem dX5_digest_161 : decode cX5_digest 161 = .ok (.iload 4, 2) := by decide +kernel
theorem dX5_digest_163 : decode cX5_digest 163 = .ok (.iconst 5, 1) := by decide +kernel
theorem dX5_digest_164 : decode cX5_digest 164 = .ok (.if_icmp .gt 24, 3) := by decide +kernel
theorem dX5_digest_167 : decode cX5_digest 167 = .ok (.lload_n 1, 1) := by decide +kernel
theorem dX5_digest_168 : decode cX5_digest 168 = .ok (.ldc2_w 276, 3) := by decide +kernel
theorem dX5_digest_171 : decode cX5_digest 171 = .ok (.lmul, 1) := by decide +kernel
theorem dX5_digest_172 : decode cX5_digest 172 = .ok (.aload_n 0, 1) := by decide +kernel
theorem dX5_digest_173 : decode cX5_digest 173 = .ok (.iload_n 3, 1) := by decide +kernel
theorem dX5_digest_174 : decode cX5_digest 174 = .ok (.iload 4, 2) := by decide +kernel
theorem dX5_digest_176 : decode cX5_digest 176 = .ok (.invokevirtual 288, 3) := by decide +kernel
theorem dX5_digest_179 : decode cX5_digest 179 = .ok (.i2l, 1) := by decide +kernel
theorem dX5_digest_180 : decode cX5_digest 180 = .ok (.ladd, 1) := by decide +kernel
theorem dX5_digest_181 : decode cX5_digest 181 = .ok (.lstore_n 1, 1) := by decide +kernel
theorem dX5_digest_182 : decode cX5_digest 182 = .ok (.iinc 4 1, 3) := by decide +kernel
theorem dX5_digest_185 : decode cX5_digest 185 = .ok (.goto (-24), 3) := by decide +kernel
theorem dX5_digest_188 : decode cX5_digest 188 = .ok (.iinc 3 1, 3) := by decide +kernel
theorem dX5_digest_191 : decode cX5_digest 191 = .ok (.goto (-41), 3) := by decide +kernel
theorem dX5_digest_194 : decode cX5_digest 194 = .ok (.lload_n 1, 1) := by decide +kernel
theorem dX5_digest_195 : decode cX5_digest 195 = .ok (.lreturn, 1) := by decide +kernel
theorem dX5_within_0 : decode cX5_within 0 = .ok (.iload_n 0, 1) := by decide +kernel
theorem dX5_within_1 : decode cX5_within 1 = .ok (.iload_n 1, 1) := by decide +kernel
theorem dX5_within_2 : decode cX5_within 2 = .ok (.if_icmp .lt 12, 3) := by decide +kernel
theorem dX5_within_5 : decode cX5_within 5 = .ok (.iload_n 0, 1) := by decide +kernel
theorem dX5_within_6 : decode cX5_within 6 = .ok (.iload_n 2, 1) := by decide +kernel
theorem dX5_within_7 : decode cX5_within 7 = .ok (.if_icmp .gt 7, 3) := by decide +kernel
theorem dX5_within_10 : decode cX5_within 10 = .ok (.iconst 1, 1) := by decide +kernel
theorem dX5_within_11 : decode cX5_within 11 = .ok (.goto 4, 3) := by decide +kernel
theorem dX5_within_14 : decode cX5_within 14 = .ok (.iconst 0, 1) := by decide +kernel
theorem dX5_within_15 : decode cX5_within 15 = .ok (.ireturn, 1) := by decide +kernel
theorem dX5_frameAt_0 : decode cX5_frameAt 0 = .ok (.iload_n 1, 1) := by decide +kernel
theorem dX5_frameAt_1 : decode cX5_frameAt 1 = .ok (.ifCond .lt 21, 3) := by decide +kernel
theorem dX5_frameAt_4 : decode cX5_frameAt 4 = .ok (.iload_n 1, 1) := by decide +kernel
theorem dX5_frameAt_5 : decode cX5_frameAt 5 = .ok (.aload_n 0, 1) := by decide +kernel
theorem dX5_frameAt_6 : decode cX5_frameAt 6 = .ok (.getfield 18, 3) := by decide +kernel
theorem dX5_frameAt_9 : decode cX5_frameAt 9 = .ok (.arraylength, 1) := by decide +kernel
theorem dX5_frameAt_10 : decode cX5_frameAt 10 = .ok (.if_icmp .ge 12, 3) := by decide +kernel
theorem dX5_frameAt_13 : decode cX5_frameAt 13 = .ok (.aload_n 0, 1) := by decide +kernel
theorem dX5_frameAt_14 : decode cX5_frameAt 14 = .ok (.getfield 18, 3) := by decide +kernel
theorem dX5_frameAt_17 : decode cX5_frameAt 17 = .ok (.iload_n 1, 1) := by decide +kernel
theorem dX5_frameAt_18 : decode cX5_frameAt 18 = .ok (.aaload, 1) := by decide +kernel
theorem dX5_frameAt_19 : decode cX5_frameAt 19 = .ok (.ifnonnull 14, 3) := by decide +kernel
theorem dX5_frameAt_22 : decode cX5_frameAt 22 = .ok (.new 82, 3) := by decide +kernel
theorem dX5_frameAt_25 : decode cX5_frameAt 25 = .ok (.dup, 1) := by decide +kernel
theorem dX5_frameAt_26 : decode cX5_frameAt 26 = .ok (.ldc_w 291, 3) := by decide +kernel
theorem dX5_frameAt_29 : decode cX5_frameAt 29 = .ok (.invokespecial 86, 3) := by decide +kernel
theorem dX5_frameAt_32 : decode cX5_frameAt 32 = .ok (.athrow, 1) := by decide +kernel
theorem dX5_frameAt_33 : decode cX5_frameAt 33 = .ok (.aload_n 0, 1) := by decide +kernel
theorem dX5_frameAt_34 : decode cX5_frameAt 34 = .ok (.getfield 18, 3) := by decide +kernel
theorem dX5_frameAt_37 : decode cX5_frameAt 37 = .ok (.iload_n 1, 1) := by decide +kernel
theorem dX5_frameAt_38 : decode cX5_frameAt 38 = .ok (.aaload, 1) := by decide +kernel
theorem dX5_frameAt_39 : decode cX5_frameAt 39 = .ok (.areturn, 1) := by decide +kernel
theorem dX5_orderAt_0 : decode cX5_orderAt 0 = .ok (.iload_n 1, 1) := by decide +kernel
theorem dX5_orderAt_1 : decode cX5_orderAt 1 = .ok (.ifCond .lt 21, 3) := by decide +kernel
theorem dX5_orderAt_4 : decode cX5_orderAt 4 = .ok (.iload_n 1, 1) := by decide +kernel
theorem dX5_orderAt_5 : decode cX5_orderAt 5 = .ok (.aload_n 0, 1) := by decide +kernel
theorem dX5_orderAt_6 : decode cX5_orderAt 6 = .ok (.getfield 31, 3) := by decide +kernel
theorem dX5_orderAt_9 : decode cX5_orderAt 9 = .ok (.arraylength, 1) := by decide +kernel
theorem dX5_orderAt_10 : decode cX5_orderAt 10 = .ok (.if_icmp .ge 12, 3) := by decide +kernel
theorem dX5_orderAt_13 : decode cX5_orderAt 13 = .ok (.aload_n 0, 1) := by decide +kernel
theorem dX5_orderAt_14 : decode cX5_orderAt 14 = .ok (.getfield 31, 3) := by decide +kernel
theorem dX5_orderAt_17 : decode cX5_orderAt 17 = .ok (.iload_n 1, 1) := by decide +kernel
theorem dX5_orderAt_18 : decode cX5_orderAt 18 = .ok (.aaload, 1) := by decide +kernel
theorem dX5_orderAt_19 : decode cX5_orderAt 19 = .ok (.ifnonnull 14, 3) := by decide +kernel
theorem dX5_orderAt_22 : decode cX5_orderAt 22 = .ok (.new 82, 3) := by decide +kernel
theorem dX5_orderAt_25 : decode cX5_orderAt 25 = .ok (.dup, 1) := by decide +kernel
theorem dX5_orderAt_26 : decode cX5_orderAt 26 = .ok (.ldc_w 293, 3) := by decide +kernel
theorem dX5_orderAt_29 : decode cX5_orderAt 29 = .ok (.invokespecial 86, 3) := by decide +kernel
theorem dX5_orderAt_32 : decode cX5_orderAt 32 = .ok (.athrow, 1) := by decide +kernel
theorem dX5_orderAt_33 : decode cX5_orderAt 33 = .ok (.aload_n 0, 1) := by decide +kernel
theorem dX5_orderAt_34 : decode cX5_orderAt 34 = .ok (.getfield 31, 3) := by decide +kernel
theorem dX5_orderAt_37 : decode cX5_orderAt 37 = .ok (.iload_n 1, 1) := by decide +kernel
theorem dX5_orderAt_38 : decode cX5_orderAt 38 = .ok (.aaload, 1) := by decide +kernel
theorem dX5_orderAt_39 : decode cX5_orderAt 39 = .ok (.areturn, 1) := by decide +kernel
theorem dX5_frameOn_0 : decode cX5_frameOn 0 = .ok (.iconst 0, 1) := by decide +kernel
theorem dX5_frameOn_1 : decode cX5_frameOn 1 = .ok (.istore_n 2, 1) := by decide +kernel
theorem dX5_frameOn_2 : decode cX5_frameOn 2 = .ok (.iload_n 2, 1) := by decide +kernel
theorem dX5_frameOn_3 : decode cX5_frameOn 3 = .ok (.aload_n 0, 1) := by decide +kernel
theorem dX5_frameOn_4 : decode cX5_frameOn 4 = .ok (.getfield 18, 3) := by decide +kernel
theorem dX5_frameOn_7 : decode cX5_frameOn 7 = .ok (.arraylength, 1) := by decide +kernel
theorem dX5_frameOn_8 : decode cX5_frameOn 8 = .ok (.if_icmp .ge 33, 3) := by decide +kernel
theorem dX5_frameOn_11 : decode cX5_frameOn 11 = .ok (.aload_n 0, 1) := by decide +kernel
theorem dX5_frameOn_12 : decode cX5_frameOn 12 = .ok (.getfield 18, 3) := by decide +kernel
theorem dX5_frameOn_15 : decode cX5_frameOn 15 = .ok (.iload_n 2, 1) := by decide +kernel
theorem dX5_frameOn_16 : decode cX5_frameOn 16 = .ok (.aaload, 1) := by decide +kernel
theorem dX5_frameOn_17 : decode cX5_frameOn 17 = .ok (.ifnull 18, 3) := by decide +kernel
theorem dX5_frameOn_20 : decode cX5_frameOn 20 = .ok (.aload_n 0, 1) := by decide +kernel
theorem dX5_frameOn_21 : decode cX5_frameOn 21 = .ok (.getfield 18, 3) := by decide +kernel
theorem dX5_frameOn_24 : decode cX5_frameOn 24 = .ok (.iload_n 2, 1) := by decide +kernel
theorem dX5_frameOn_25 : decode cX5_frameOn 25 = .ok (.aaload, 1) := by decide +kernel
theorem dX5_frameOn_26 : decode cX5_frameOn 26 = .ok (.getfield 110, 3) := by decide +kernel
theorem dX5_frameOn_29 : decode cX5_frameOn 29 = .ok (.iload_n 1, 1) := by decide +kernel
theorem dX5_frameOn_30 : decode cX5_frameOn 30 = .ok (.if_icmp .ne 5, 3) := by decide +kernel
theorem dX5_frameOn_33 : decode cX5_frameOn 33 = .ok (.iload_n 2, 1) := by decide +kernel
theorem dX5_frameOn_34 : decode cX5_frameOn 34 = .ok (.ireturn, 1) := by decide +kernel
theorem dX5_frameOn_35 : decode cX5_frameOn 35 = .ok (.iinc 2 1, 3) := by decide +kernel
theorem dX5_frameOn_38 : decode cX5_frameOn 38 = .ok (.goto (-36), 3) := by decide +kernel
theorem dX5_frameOn_41 : decode cX5_frameOn 41 = .ok (.iconst (-1), 1) := by decide +kernel
theorem dX5_frameOn_42 : decode cX5_frameOn 42 = .ok (.ireturn, 1) := by decide +kernel
theorem dX5_framesMade_0 : decode cX5_framesMade 0 = .ok (.iconst 0, 1) := by decide +kernel
theorem dX5_framesMade_1 : decode cX5_framesMade 1 = .ok (.istore_n 1, 1) := by decide +kernel
theorem dX5_framesMade_2 : decode cX5_framesMade 2 = .ok (.aload_n 0, 1) := by decide +kernel
theorem dX5_framesMade_3 : decode cX5_framesMade 3 = .ok (.getfield 18, 3) := by decide +kernel
theorem dX5_framesMade_6 : decode cX5_framesMade 6 = .ok (.astore_n 2, 1) := by decide +kernel
theorem dX5_framesMade_7 : decode cX5_framesMade 7 = .ok (.aload_n 2, 1) := by decide +kernel
theorem dX5_framesMade_8 : decode cX5_framesMade 8 = .ok (.arraylength, 1) := by decide +kernel
theorem dX5_framesMade_9 : decode cX5_framesMade 9 = .ok (.istore_n 3, 1) := by decide +kernel
theorem dX5_framesMade_10 : decode cX5_framesMade 10 = .ok (.iconst 0, 1) := by decide +kernel
theorem dX5_framesMade_11 : decode cX5_framesMade 11 = .ok (.istore 4, 2) := by decide +kernel
theorem dX5_framesMade_13 : decode cX5_framesMade 13 = .ok (.iload 4, 2) := by decide +kernel
theorem dX5_framesMade_15 : decode cX5_framesMade 15 = .ok (.iload_n 3, 1) := by decide +kernel
theorem dX5_framesMade_16 : decode cX5_framesMade 16 = .ok (.if_icmp .ge 23, 3) := by decide +kernel
theorem dX5_framesMade_19 : decode cX5_framesMade 19 = .ok (.aload_n 2, 1) := by decide +kernel
theorem dX5_framesMade_20 : decode cX5_framesMade 20 = .ok (.iload 4, 2) := by decide +kernel
theorem dX5_framesMade_22 : decode cX5_framesMade 22 = .ok (.aaload, 1) := by decide +kernel
theorem dX5_framesMade_23 : decode cX5_framesMade 23 = .ok (.astore 5, 2) := by decide +kernel
theorem dX5_framesMade_25 : decode cX5_framesMade 25 = .ok (.aload 5, 2) := by decide +kernel
theorem dX5_framesMade_27 : decode cX5_framesMade 27 = .ok (.ifnull 6, 3) := by decide +kernel
theorem dX5_framesMade_30 : decode cX5_framesMade 30 = .ok (.iinc 1 1, 3) := by decide +kernel
theorem dX5_framesMade_33 : decode cX5_framesMade 33 = .ok (.iinc 4 1, 3) := by decide +kernel
theorem dX5_framesMade_36 : decode cX5_framesMade 36 = .ok (.goto (-23), 3) := by decide +kernel
theorem dX5_framesMade_39 : decode cX5_framesMade 39 = .ok (.iload_n 1, 1) := by decide +kernel
theorem dX5_framesMade_40 : decode cX5_framesMade 40 = .ok (.ireturn, 1) := by decide +kernel
theorem dX5_framesHanging_0 : decode cX5_framesHanging 0 = .ok (.iconst 0, 1) := by decide +kernel
theorem dX5_framesHanging_1 : decode cX5_framesHanging 1 = .ok (.istore_n 1, 1) := by decide +kernel
theorem dX5_framesHanging_2 : decode cX5_framesHanging 2 = .ok (.aload_n 0, 1) := by decide +kernel
theorem dX5_framesHanging_3 : decode cX5_framesHanging 3 = .ok (.getfield 18, 3) := by decide +kernel
theorem dX5_framesHanging_6 : decode cX5_framesHanging 6 = .ok (.astore_n 2, 1) := by decide +kernel
theorem dX5_framesHanging_7 : decode cX5_framesHanging 7 = .ok (.aload_n 2, 1) := by decide +kernel
theorem dX5_framesHanging_8 : decode cX5_framesHanging 8 = .ok (.arraylength, 1) := by decide +kernel
theorem dX5_framesHanging_9 : decode cX5_framesHanging 9 = .ok (.istore_n 3, 1) := by decide +kernel
theorem dX5_framesHanging_10 : decode cX5_framesHanging 10 = .ok (.iconst 0, 1) := by decide +kernel
theorem dX5_framesHanging_11 : decode cX5_framesHanging 11 = .ok (.istore 4, 2) := by decide +kernel
theorem dX5_framesHanging_13 : decode cX5_framesHanging 13 = .ok (.iload 4, 2) := by decide +kernel
theorem dX5_framesHanging_15 : decode cX5_framesHanging 15 = .ok (.iload_n 3, 1) := by decide +kernel
theorem dX5_framesHanging_16 : decode cX5_framesHanging 16 = .ok (.if_icmp .ge 31, 3) := by decide +kernel
theorem dX5_framesHanging_19 : decode cX5_framesHanging 19 = .ok (.aload_n 2, 1) := by decide +kernel
theorem dX5_framesHanging_20 : decode cX5_framesHanging 20 = .ok (.iload 4, 2) := by decide +kernel
theorem dX5_framesHanging_22 : decode cX5_framesHanging 22 = .ok (.aaload, 1) := by decide +kernel
theorem dX5_framesHanging_23 : decode cX5_framesHanging 23 = .ok (.astore 5, 2) := by decide +kernel
theorem dX5_framesHanging_25 : decode cX5_framesHanging 25 = .ok (.aload 5, 2) := by decide +kernel
theorem dX5_framesHanging_27 : decode cX5_framesHanging 27 = .ok (.ifnull 14, 3) := by decide +kernel
theorem dX5_framesHanging_30 : decode cX5_framesHanging 30 = .ok (.aload 5, 2) := by decide +kernel
theorem dX5_framesHanging_32 : decode cX5_framesHanging 32 = .ok (.invokevirtual 113, 3) := by decide +kernel
theorem dX5_framesHanging_35 : decode cX5_framesHanging 35 = .ok (.ifCond .eq 6, 3) := by decide +kernel
theorem dX5_framesHanging_38 : decode cX5_framesHanging 38 = .ok (.iinc 1 1, 3) := by decide +kernel
theorem dX5_framesHanging_41 : decode cX5_framesHanging 41 = .ok (.iinc 4 1, 3) := by decide +kernel
theorem dX5_framesHanging_44 : decode cX5_framesHanging 44 = .ok (.goto (-31), 3) := by decide +kernel
theorem dX5_framesHanging_47 : decode cX5_framesHanging 47 = .ok (.iload_n 1, 1) := by decide +kernel
theorem dX5_framesHanging_48 : decode cX5_framesHanging 48 = .ok (.ireturn, 1) := by decide +kernel
theorem dX5_ordersTaken_0 : decode cX5_ordersTaken 0 = .ok (.iconst 0, 1) := by decide +kernel
theorem dX5_ordersTaken_1 : decode cX5_ordersTaken 1 = .ok (.istore_n 1, 1) := by decide +kernel
theorem dX5_ordersTaken_2 : decode cX5_ordersTaken 2 = .ok (.aload_n 0, 1) := by decide +kernel
theorem dX5_ordersTaken_3 : decode cX5_ordersTaken 3 = .ok (.getfield 31, 3) := by decide +kernel
theorem dX5_ordersTaken_6 : decode cX5_ordersTaken 6 = .ok (.astore_n 2, 1) := by decide +kernel
theorem dX5_ordersTaken_7 : decode cX5_ordersTaken 7 = .ok (.aload_n 2, 1) := by decide +kernel
theorem dX5_ordersTaken_8 : decode cX5_ordersTaken 8 = .ok (.arraylength, 1) := by decide +kernel
theorem dX5_ordersTaken_9 : decode cX5_ordersTaken 9 = .ok (.istore_n 3, 1) := by decide +kernel
theorem dX5_ordersTaken_10 : decode cX5_ordersTaken 10 = .ok (.iconst 0, 1) := by decide +kernel
theorem dX5_ordersTaken_11 : decode cX5_ordersTaken 11 = .ok (.istore 4, 2) := by decide +kernel
theorem dX5_ordersTaken_13 : decode cX5_ordersTaken 13 = .ok (.iload 4, 2) := by decide +kernel
theorem dX5_ordersTaken_15 : decode cX5_ordersTaken 15 = .ok (.iload_n 3, 1) := by decide +kernel
theorem dX5_ordersTaken_16 : decode cX5_ordersTaken 16 = .ok (.if_icmp .ge 23, 3) := by decide +kernel
theorem dX5_ordersTaken_19 : decode cX5_ordersTaken 19 = .ok (.aload_n 2, 1) := by decide +kernel
theorem dX5_ordersTaken_20 : decode cX5_ordersTaken 20 = .ok (.iload 4, 2) := by decide +kernel
theorem dX5_ordersTaken_22 : decode cX5_ordersTaken 22 = .ok (.aaload, 1) := by decide +kernel
theorem dX5_ordersTaken_23 : decode cX5_ordersTaken 23 = .ok (.astore 5, 2) := by decide +kernel
theorem dX5_ordersTaken_25 : decode cX5_ordersTaken 25 = .ok (.aload 5, 2) := by decide +kernel
theorem dX5_ordersTaken_27 : decode cX5_ordersTaken 27 = .ok (.ifnull 6, 3) := by decide +kernel
theorem dX5_ordersTaken_30 : decode cX5_ordersTaken 30 = .ok (.iinc 1 1, 3) := by decide +kernel
theorem dX5_ordersTaken_33 : decode cX5_ordersTaken 33 = .ok (.iinc 4 1, 3) := by decide +kernel
theorem dX5_ordersTaken_36 : decode cX5_ordersTaken 36 = .ok (.goto (-23), 3) := by decide +kernel
theorem dX5_ordersTaken_39 : decode cX5_ordersTaken 39 = .ok (.iload_n 1, 1) := by decide +kernel
theorem dX5_ordersTaken_40 : decode cX5_ordersTaken 40 = .ok (.ireturn, 1) := by decide +kernel
theorem dX5_ordersInState_0 : decode cX5_ordersInState 0 = .ok (.iconst 0, 1) := by decide +kernel
theorem dX5_ordersInState_1 : decode cX5_ordersInState 1 = .ok (.istore_n 2, 1) := by decide +kernel
theorem dX5_ordersInState_2 : decode cX5_ordersInState 2 = .ok (.aload_n 0, 1) := by decide +kernel
theorem dX5_ordersInState_3 : decode cX5_ordersInState 3 = .ok (.getfield 31, 3) := by decide +kernel
theorem dX5_ordersInState_6 : decode cX5_ordersInState 6 = .ok (.astore_n 3, 1) := by decide +kernel
theorem dX5_ordersInState_7 : decode cX5_ordersInState 7 = .ok (.aload_n 3, 1) := by decide +kernel
theorem dX5_ordersInState_8 : decode cX5_ordersInState 8 = .ok (.arraylength, 1) := by decide +kernel
theorem dX5_ordersInState_9 : decode cX5_ordersInState 9 = .ok (.istore 4, 2) := by decide +kernel
theorem dX5_ordersInState_11 : decode cX5_ordersInState 11 = .ok (.iconst 0, 1) := by decide +kernel
theorem dX5_ordersInState_12 : decode cX5_ordersInState 12 = .ok (.istore 5, 2) := by decide +kernel
theorem dX5_ordersInState_14 : decode cX5_ordersInState 14 = .ok (.iload 5, 2) := by decide +kernel
theorem dX5_ordersInState_16 : decode cX5_ordersInState 16 = .ok (.iload 4, 2) := by decide +kernel
theorem dX5_ordersInState_18 : decode cX5_ordersInState 18 = .ok (.if_icmp .ge 32, 3) := by decide +kernel
theorem dX5_ordersInState_21 : decode cX5_ordersInState 21 = .ok (.aload_n 3, 1) := by decide +kernel
theorem dX5_ordersInState_22 : decode cX5_ordersInState 22 = .ok (.iload 5, 2) := by decide +kernel
theorem dX5_ordersInState_24 : decode cX5_ordersInState 24 = .ok (.aaload, 1) := by decide +kernel
theorem dX5_ordersInState_25 : decode cX5_ordersInState 25 = .ok (.astore 6, 2) := by decide +kernel
theorem dX5_ordersInState_27 : decode cX5_ordersInState 27 = .ok (.aload 6, 2) := by decide +kernel
theorem dX5_ordersInState_29 : decode cX5_ordersInState 29 = .ok (.ifnull 15, 3) := by decide +kernel
theorem dX5_ordersInState_32 : decode cX5_ordersInState 32 = .ok (.aload 6, 2) := by decide +kernel
theorem dX5_ordersInState_34 : decode cX5_ordersInState 34 = .ok (.getfield 228, 3) := by decide +kernel
theorem dX5_ordersInState_37 : decode cX5_ordersInState 37 = .ok (.iload_n 1, 1) := by decide +kernel
theorem dX5_ordersInState_38 : decode cX5_ordersInState 38 = .ok (.if_icmp .ne 6, 3) := by decide +kernel
theorem dX5_ordersInState_41 : decode cX5_ordersInState 41 = .ok (.iinc 2 1, 3) := by decide +kernel
theorem dX5_ordersInState_44 : decode cX5_ordersInState 44 = .ok (.iinc 5 1, 3) := by decide +kernel
theorem dX5_ordersInState_47 : decode cX5_ordersInState 47 = .ok (.goto (-33), 3) := by decide +kernel
theorem dX5_ordersInState_50 : decode cX5_ordersInState 50 = .ok (.iload_n 2, 1) := by decide +kernel
theorem dX5_ordersInState_51 : decode cX5_ordersInState 51 = .ok (.ireturn, 1) := by decide +kernel
theorem dX5_letQuarterGo_0 : decode cX5_letQuarterGo 0 = .ok (.aload_n 0, 1) := by decide +kernel
theorem dX5_letQuarterGo_1 : decode cX5_letQuarterGo 1 = .ok (.getfield 10, 3) := by decide +kernel
theorem dX5_letQuarterGo_4 : decode cX5_letQuarterGo 4 = .ok (.invokevirtual 295, 3) := by decide +kernel
theorem dX5_letQuarterGo_7 : decode cX5_letQuarterGo 7 = .ok (.aload_n 0, 1) := by decide +kernel
theorem dX5_letQuarterGo_8 : decode cX5_letQuarterGo 8 = .ok (.getfield 18, 3) := by decide +kernel
theorem dX5_letQuarterGo_11 : decode cX5_letQuarterGo 11 = .ok (.astore_n 2, 1) := by decide +kernel
theorem dX5_letQuarterGo_12 : decode cX5_letQuarterGo 12 = .ok (.aload_n 2, 1) := by decide +kernel
theorem dX5_letQuarterGo_13 : decode cX5_letQuarterGo 13 = .ok (.arraylength, 1) := by decide +kernel
theorem dX5_letQuarterGo_14 : decode cX5_letQuarterGo 14 = .ok (.istore_n 3, 1) := by decide +kernel
theorem dX5_letQuarterGo_15 : decode cX5_letQuarterGo 15 = .ok (.iconst 0, 1) := by decide +kernel
theorem dX5_letQuarterGo_16 : decode cX5_letQuarterGo 16 = .ok (.istore 4, 2) := by decide +kernel
theorem dX5_letQuarterGo_18 : decode cX5_letQuarterGo 18 = .ok (.iload 4, 2) := by decide +kernel
theorem dX5_letQuarterGo_20 : decode cX5_letQuarterGo 20 = .ok (.iload_n 3, 1) := by decide +kernel
theorem dX5_letQuarterGo_21 : decode cX5_letQuarterGo 21 = .ok (.if_icmp .ge 31, 3) := by decide +kernel
theorem dX5_letQuarterGo_24 : decode cX5_letQuarterGo 24 = .ok (.aload_n 2, 1) := by decide +kernel
theorem dX5_letQuarterGo_25 : decode cX5_letQuarterGo 25 = .ok (.iload 4, 2) := by decide +kernel
theorem dX5_letQuarterGo_27 : decode cX5_letQuarterGo 27 = .ok (.aaload, 1) := by decide +kernel
theorem dX5_letQuarterGo_28 : decode cX5_letQuarterGo 28 = .ok (.astore 5, 2) := by decide +kernel
theorem dX5_letQuarterGo_30 : decode cX5_letQuarterGo 30 = .ok (.aload 5, 2) := by decide +kernel
theorem dX5_letQuarterGo_32 : decode cX5_letQuarterGo 32 = .ok (.ifnull 14, 3) := by decide +kernel
theorem dX5_letQuarterGo_35 : decode cX5_letQuarterGo 35 = .ok (.aload 5, 2) := by decide +kernel
theorem dX5_letQuarterGo_37 : decode cX5_letQuarterGo 37 = .ok (.aload_n 1, 1) := by decide +kernel
theorem dX5_letQuarterGo_38 : decode cX5_letQuarterGo 38 = .ok (.if_acmp .eq 8, 3) := by decide +kernel
theorem dX5_letQuarterGo_41 : decode cX5_letQuarterGo 41 = .ok (.aload 5, 2) := by decide +kernel
theorem dX5_letQuarterGo_43 : decode cX5_letQuarterGo 43 = .ok (.invokevirtual 298, 3) := by decide +kernel
theorem dX5_letQuarterGo_46 : decode cX5_letQuarterGo 46 = .ok (.iinc 4 1, 3) := by decide +kernel
theorem dX5_letQuarterGo_49 : decode cX5_letQuarterGo 49 = .ok (.goto (-31), 3) := by decide +kernel
theorem dX5_letQuarterGo_52 : decode cX5_letQuarterGo 52 = .ok (.aload_n 0, 1) := by decide +kernel
theorem dX5_letQuarterGo_53 : decode cX5_letQuarterGo 53 = .ok (.dup, 1) := by decide +kernel
theorem dX5_letQuarterGo_54 : decode cX5_letQuarterGo 54 = .ok (.getfield 195, 3) := by decide +kernel
theorem dX5_letQuarterGo_57 : decode cX5_letQuarterGo 57 = .ok (.iconst 1, 1) := by decide +kernel
theorem dX5_letQuarterGo_58 : decode cX5_letQuarterGo 58 = .ok (.iadd, 1) := by decide +kernel
theorem dX5_letQuarterGo_59 : decode cX5_letQuarterGo 59 = .ok (.putfield 195, 3) := by decide +kernel
theorem dX5_letQuarterGo_62 : decode cX5_letQuarterGo 62 = .ok (.aload_n 0, 1) := by decide +kernel
theorem dX5_letQuarterGo_63 : decode cX5_letQuarterGo 63 = .ok (.getfield 195, 3) := by decide +kernel
theorem dX5_letQuarterGo_66 : decode cX5_letQuarterGo 66 = .ok (.bipush 40, 2) := by decide +kernel
theorem dX5_letQuarterGo_68 : decode cX5_letQuarterGo 68 = .ok (.irem, 1) := by decide +kernel
theorem dX5_letQuarterGo_69 : decode cX5_letQuarterGo 69 = .ok (.ifCond .ne 16, 3) := by decide +kernel
theorem dX5_letQuarterGo_72 : decode cX5_letQuarterGo 72 = .ok (.aload_n 0, 1) := by decide +kernel
theorem dX5_letQuarterGo_73 : decode cX5_letQuarterGo 73 = .ok (.aload_n 0, 1) := by decide +kernel
theorem dX5_letQuarterGo_74 : decode cX5_letQuarterGo 74 = .ok (.getfield 195, 3) := by decide +kernel
theorem dX5_letQuarterGo_77 : decode cX5_letQuarterGo 77 = .ok (.bipush 40, 2) := by decide +kernel
theorem dX5_letQuarterGo_79 : decode cX5_letQuarterGo 79 = .ok (.idiv, 1) := by decide +kernel
theorem dX5_letQuarterGo_80 : decode cX5_letQuarterGo 80 = .ok (.iconst 1, 1) := by decide +kernel
theorem dX5_letQuarterGo_81 : decode cX5_letQuarterGo 81 = .ok (.isub, 1) := by decide +kernel
theorem dX5_letQuarterGo_82 : decode cX5_letQuarterGo 82 = .ok (.invokevirtual 301, 3) := by decide +kernel
theorem dX5_letQuarterGo_85 : decode cX5_letQuarterGo 85 = .ok (.return_, 1) := by decide +kernel
theorem dX5_endDay_0 : decode cX5_endDay 0 = .ok (.aload_n 0, 1) := by decide +kernel
theorem dX5_endDay_1 : decode cX5_endDay 1 = .ok (.getfield 31, 3) := by decide +kernel
theorem dX5_endDay_4 : decode cX5_endDay 4 = .ok (.astore_n 2, 1) := by decide +kernel
theorem dX5_endDay_5 : decode cX5_endDay 5 = .ok (.aload_n 2, 1) := by decide +kernel
theorem dX5_endDay_6 : decode cX5_endDay 6 = .ok (.arraylength, 1) := by decide +kernel
theorem dX5_endDay_7 : decode cX5_endDay 7 = .ok (.istore_n 3, 1) := by decide +kernel
theorem dX5_endDay_8 : decode cX5_endDay 8 = .ok (.iconst 0, 1) := by decide +kernel
theorem dX5_endDay_9 : decode cX5_endDay 9 = .ok (.istore 4, 2) := by decide +kernel
theorem dX5_endDay_11 : decode cX5_endDay 11 = .ok (.iload 4, 2) := by decide +kernel
theorem dX5_endDay_13 : decode cX5_endDay 13 = .ok (.iload_n 3, 1) := by decide +kernel
theorem dX5_endDay_14 : decode cX5_endDay 14 = .ok (.if_icmp .ge 43, 3) := by decide +kernel
theorem dX5_endDay_17 : decode cX5_endDay 17 = .ok (.aload_n 2, 1) := by decide +kernel
theorem dX5_endDay_18 : decode cX5_endDay 18 = .ok (.iload 4, 2) := by decide +kernel
theorem dX5_endDay_20 : decode cX5_endDay 20 = .ok (.aaload, 1) := by decide +kernel
theorem dX5_endDay_21 : decode cX5_endDay 21 = .ok (.astore 5, 2) := by decide +kernel
theorem dX5_endDay_23 : decode cX5_endDay 23 = .ok (.aload 5, 2) := by decide +kernel
theorem dX5_endDay_25 : decode cX5_endDay 25 = .ok (.ifnull 26, 3) := by decide +kernel
theorem dX5_endDay_28 : decode cX5_endDay 28 = .ok (.aload 5, 2) := by decide +kernel
theorem dX5_endDay_30 : decode cX5_endDay 30 = .ok (.getfield 228, 3) := by decide +kernel
theorem dX5_endDay_33 : decode cX5_endDay 33 = .ok (.ifCond .ne 18, 3) := by decide +kernel
theorem dX5_endDay_36 : decode cX5_endDay 36 = .ok (.aload 5, 2) := by decide +kernel
theorem dX5_endDay_38 : decode cX5_endDay 38 = .ok (.getfield 234, 3) := by decide +kernel
theorem dX5_endDay_41 : decode cX5_endDay 41 = .ok (.iload_n 1, 1) := by decide +kernel
theorem dX5_endDay_42 : decode cX5_endDay 42 = .ok (.if_icmp .gt 9, 3) := by decide +kernel
theorem dX5_endDay_45 : decode cX5_endDay 45 = .ok (.aload 5, 2) := by decide +kernel
theorem dX5_endDay_47 : decode cX5_endDay 47 = .ok (.iconst 2, 1) := by decide +kernel
theorem dX5_endDay_48 : decode cX5_endDay 48 = .ok (.putfield 228, 3) := by decide +kernel
theorem dX5_endDay_51 : decode cX5_endDay 51 = .ok (.iinc 4 1, 3) := by decide +kernel
theorem dX5_endDay_54 : decode cX5_endDay 54 = .ok (.goto (-43), 3) := by decide +kernel
theorem dX5_endDay_57 : decode cX5_endDay 57 = .ok (.return_, 1) := by decide +kernel
theorem dX5_possibleOfKind_0 : decode cX5_possibleOfKind 0 = .ok (.iconst 0, 1) := by decide +kernel
theorem dX5_possibleOfKind_1 : decode cX5_possibleOfKind 1 = .ok (.istore_n 2, 1) := by decide +kernel
theorem dX5_possibleOfKind_2 : decode cX5_possibleOfKind 2 = .ok (.bipush 9, 2) := by decide +kernel
theorem dX5_possibleOfKind_4 : decode cX5_possibleOfKind 4 = .ok (.istore_n 3, 1) := by decide +kernel
theorem dX5_possibleOfKind_5 : decode cX5_possibleOfKind 5 = .ok (.iload_n 3, 1) := by decide +kernel
theorem dX5_possibleOfKind_6 : decode cX5_possibleOfKind 6 = .ok (.iconst 1, 1) := by decide +kernel
theorem dX5_possibleOfKind_7 : decode cX5_possibleOfKind 7 = .ok (.if_icmp .lt 82, 3) := by decide +kernel
theorem dX5_possibleOfKind_10 : decode cX5_possibleOfKind 10 = .ok (.aload_n 0, 1) := by decide +kernel
theorem dX5_possibleOfKind_11 : decode cX5_possibleOfKind 11 = .ok (.getfield 25, 3) := by decide +kernel
theorem dX5_possibleOfKind_14 : decode cX5_possibleOfKind 14 = .ok (.iload_n 1, 1) := by decide +kernel
theorem dX5_possibleOfKind_15 : decode cX5_possibleOfKind 15 = .ok (.iload_n 3, 1) := by decide +kernel
theorem dX5_possibleOfKind_16 : decode cX5_possibleOfKind 16 = .ok (.invokevirtual 304, 3) := by decide +kernel
theorem dX5_possibleOfKind_19 : decode cX5_possibleOfKind 19 = .ok (.istore 4, 2) := by decide +kernel
theorem dX5_possibleOfKind_21 : decode cX5_possibleOfKind 21 = .ok (.aload_n 0, 1) := by decide +kernel
theorem dX5_possibleOfKind_22 : decode cX5_possibleOfKind 22 = .ok (.getfield 31, 3) := by decide +kernel
theorem dX5_possibleOfKind_25 : decode cX5_possibleOfKind 25 = .ok (.astore 5, 2) := by decide +kernel
theorem dX5_possibleOfKind_27 : decode cX5_possibleOfKind 27 = .ok (.aload 5, 2) := by decide +kernel
theorem dX5_possibleOfKind_29 : decode cX5_possibleOfKind 29 = .ok (.arraylength, 1) := by decide +kernel
theorem dX5_possibleOfKind_30 : decode cX5_possibleOfKind 30 = .ok (.istore 6, 2) := by decide +kernel
theorem dX5_possibleOfKind_32 : decode cX5_possibleOfKind 32 = .ok (.iconst 0, 1) := by decide +kernel
theorem dX5_possibleOfKind_33 : decode cX5_possibleOfKind 33 = .ok (.istore 7, 2) := by decide +kernel
theorem dX5_possibleOfKind_35 : decode cX5_possibleOfKind 35 = .ok (.iload 7, 2) := by decide +kernel
theorem dX5_possibleOfKind_37 : decode cX5_possibleOfKind 37 = .ok (.iload 6, 2) := by decide +kernel
theorem dX5_possibleOfKind_39 : decode cX5_possibleOfKind 39 = .ok (.if_icmp .ge 44, 3) := by decide +kernel
theorem dX5_possibleOfKind_42 : decode cX5_possibleOfKind 42 = .ok (.aload 5, 2) := by decide +kernel
theorem dX5_possibleOfKind_44 : decode cX5_possibleOfKind 44 = .ok (.iload 7, 2) := by decide +kernel
theorem dX5_possibleOfKind_46 : decode cX5_possibleOfKind 46 = .ok (.aaload, 1) := by decide +kernel
theorem dX5_possibleOfKind_47 : decode cX5_possibleOfKind 47 = .ok (.astore 8, 2) := by decide +kernel
theorem dX5_possibleOfKind_49 : decode cX5_possibleOfKind 49 = .ok (.aload 8, 2) := by decide +kernel
theorem dX5_possibleOfKind_51 : decode cX5_possibleOfKind 51 = .ok (.ifnull 26, 3) := by decide +kernel
theorem dX5_possibleOfKind_54 : decode cX5_possibleOfKind 54 = .ok (.aload 8, 2) := by decide +kernel
theorem dX5_possibleOfKind_56 : decode cX5_possibleOfKind 56 = .ok (.iload_n 1, 1) := by decide +kernel
theorem dX5_possibleOfKind_57 : decode cX5_possibleOfKind 57 = .ok (.iload_n 3, 1) := by decide +kernel
theorem dX5_possibleOfKind_58 : decode cX5_possibleOfKind 58 = .ok (.invokevirtual 307, 3) := by decide +kernel
theorem dX5_possibleOfKind_61 : decode cX5_possibleOfKind 61 = .ok (.ifCond .eq 16, 3) := by decide +kernel
theorem dX5_possibleOfKind_64 : decode cX5_possibleOfKind 64 = .ok (.aload_n 0, 1) := by decide +kernel
theorem dX5_possibleOfKind_65 : decode cX5_possibleOfKind 65 = .ok (.iload_n 2, 1) := by decide +kernel
theorem dX5_possibleOfKind_66 : decode cX5_possibleOfKind 66 = .ok (.aload 8, 2) := by decide +kernel
theorem dX5_possibleOfKind_68 : decode cX5_possibleOfKind 68 = .ok (.getfield 222, 3) := by decide +kernel
theorem dX5_possibleOfKind_71 : decode cX5_possibleOfKind 71 = .ok (.iload 4, 2) := by decide +kernel
theorem dX5_possibleOfKind_73 : decode cX5_possibleOfKind 73 = .ok (.invokevirtual 310, 3) := by decide +kernel
theorem dX5_possibleOfKind_76 : decode cX5_possibleOfKind 76 = .ok (.istore_n 2, 1) := by decide +kernel
theorem dX5_possibleOfKind_77 : decode cX5_possibleOfKind 77 = .ok (.iinc 7 1, 3) := by decide +kernel
theorem dX5_possibleOfKind_80 : decode cX5_possibleOfKind 80 = .ok (.goto (-45), 3) := by decide +kernel
theorem dX5_possibleOfKind_83 : decode cX5_possibleOfKind 83 = .ok (.iinc 3 (-1), 3) := by decide +kernel
theorem dX5_possibleOfKind_86 : decode cX5_possibleOfKind 86 = .ok (.goto (-81), 3) := by decide +kernel
theorem dX5_possibleOfKind_89 : decode cX5_possibleOfKind 89 = .ok (.iload_n 2, 1) := by decide +kernel
theorem dX5_possibleOfKind_90 : decode cX5_possibleOfKind 90 = .ok (.ireturn, 1) := by decide +kernel
theorem dX5_planOneMore_0 : decode cX5_planOneMore 0 = .ok (.iload_n 1, 1) := by decide +kernel
theorem dX5_planOneMore_1 : decode cX5_planOneMore 1 = .ok (.iconst 1, 1) := by decide +kernel
theorem dX5_planOneMore_2 : decode cX5_planOneMore 2 = .ok (.iadd, 1) := by decide +kernel
theorem dX5_planOneMore_3 : decode cX5_planOneMore 3 = .ok (.istore 4, 2) := by decide +kernel
theorem dX5_planOneMore_5 : decode cX5_planOneMore 5 = .ok (.iload_n 1, 1) := by decide +kernel
theorem dX5_planOneMore_6 : decode cX5_planOneMore 6 = .ok (.ifCond .lt 13, 3) := by decide +kernel
theorem dX5_planOneMore_9 : decode cX5_planOneMore 9 = .ok (.iload 4, 2) := by decide +kernel
theorem dX5_planOneMore_11 : decode cX5_planOneMore 11 = .ok (.aload_n 0, 1) := by decide +kernel
theorem dX5_planOneMore_12 : decode cX5_planOneMore 12 = .ok (.getfield 42, 3) := by decide +kernel
theorem dX5_planOneMore_15 : decode cX5_planOneMore 15 = .ok (.arraylength, 1) := by decide +kernel
theorem dX5_planOneMore_16 : decode cX5_planOneMore 16 = .ok (.if_icmp .lt 5, 3) := by decide +kernel
theorem dX5_planOneMore_19 : decode cX5_planOneMore 19 = .ok (.iload_n 1, 1) := by decide +kernel
theorem dX5_planOneMore_20 : decode cX5_planOneMore 20 = .ok (.ireturn, 1) := by decide +kernel
theorem dX5_planOneMore_21 : decode cX5_planOneMore 21 = .ok (.aload_n 0, 1) := by decide +kernel
theorem dX5_planOneMore_22 : decode cX5_planOneMore 22 = .ok (.getfield 42, 3) := by decide +kernel
theorem dX5_planOneMore_25 : decode cX5_planOneMore 25 = .ok (.iload 4, 2) := by decide +kernel
theorem dX5_planOneMore_27 : decode cX5_planOneMore 27 = .ok (.aload_n 0, 1) := by decide +kernel
theorem dX5_planOneMore_28 : decode cX5_planOneMore 28 = .ok (.getfield 42, 3) := by decide +kernel
theorem dX5_planOneMore_31 : decode cX5_planOneMore 31 = .ok (.iload_n 1, 1) := by decide +kernel
theorem dX5_planOneMore_32 : decode cX5_planOneMore 32 = .ok (.iaload, 1) := by decide +kernel
theorem dX5_planOneMore_33 : decode cX5_planOneMore 33 = .ok (.iload_n 2, 1) := by decide +kernel
theorem dX5_planOneMore_34 : decode cX5_planOneMore 34 = .ok (.iadd, 1) := by decide +kernel
theorem dX5_planOneMore_35 : decode cX5_planOneMore 35 = .ok (.iastore, 1) := by decide +kernel
theorem dX5_planOneMore_36 : decode cX5_planOneMore 36 = .ok (.iload_n 1, 1) := by decide +kernel
theorem dX5_planOneMore_37 : decode cX5_planOneMore 37 = .ok (.istore 5, 2) := by decide +kernel
theorem dX5_planOneMore_39 : decode cX5_planOneMore 39 = .ok (.iload 5, 2) := by decide +kernel
theorem dX5_planOneMore_41 : decode cX5_planOneMore 41 = .ok (.iconst 1, 1) := by decide +kernel
theorem dX5_planOneMore_42 : decode cX5_planOneMore 42 = .ok (.if_icmp .lt 37, 3) := by decide +kernel
theorem dX5_planOneMore_45 : decode cX5_planOneMore 45 = .ok (.aload_n 0, 1) := by decide +kernel
theorem dX5_planOneMore_46 : decode cX5_planOneMore 46 = .ok (.getfield 42, 3) := by decide +kernel
theorem dX5_planOneMore_49 : decode cX5_planOneMore 49 = .ok (.iload 5, 2) := by decide +kernel
theorem dX5_planOneMore_51 : decode cX5_planOneMore 51 = .ok (.aload_n 0, 1) := by decide +kernel
theorem dX5_planOneMore_52 : decode cX5_planOneMore 52 = .ok (.getfield 42, 3) := by decide +kernel
theorem dX5_planOneMore_55 : decode cX5_planOneMore 55 = .ok (.iload 5, 2) := by decide +kernel
theorem dX5_planOneMore_57 : decode cX5_planOneMore 57 = .ok (.iaload, 1) := by decide +kernel
theorem dX5_planOneMore_58 : decode cX5_planOneMore 58 = .ok (.aload_n 0, 1) := by decide +kernel
theorem dX5_planOneMore_59 : decode cX5_planOneMore 59 = .ok (.getfield 42, 3) := by decide +kernel
theorem dX5_planOneMore_62 : decode cX5_planOneMore 62 = .ok (.iload 5, 2) := by decide +kernel
theorem dX5_planOneMore_64 : decode cX5_planOneMore 64 = .ok (.iconst 1, 1) := by decide +kernel
theorem dX5_planOneMore_65 : decode cX5_planOneMore 65 = .ok (.isub, 1) := by decide +kernel
theorem dX5_planOneMore_66 : decode cX5_planOneMore 66 = .ok (.iaload, 1) := by decide +kernel
theorem dX5_planOneMore_67 : decode cX5_planOneMore 67 = .ok (.iload_n 2, 1) := by decide +kernel
theorem dX5_planOneMore_68 : decode cX5_planOneMore 68 = .ok (.iadd, 1) := by decide +kernel
theorem dX5_planOneMore_69 : decode cX5_planOneMore 69 = .ok (.invokestatic 314, 3) := by decide +kernel
theorem dX5_planOneMore_72 : decode cX5_planOneMore 72 = .ok (.iastore, 1) := by decide +kernel
theorem dX5_planOneMore_73 : decode cX5_planOneMore 73 = .ok (.iinc 5 (-1), 3) := by decide +kernel
theorem dX5_planOneMore_76 : decode cX5_planOneMore 76 = .ok (.goto (-37), 3) := by decide +kernel
theorem dX5_planOneMore_79 : decode cX5_planOneMore 79 = .ok (.aload_n 0, 1) := by decide +kernel
theorem dX5_planOneMore_80 : decode cX5_planOneMore 80 = .ok (.getfield 42, 3) := by decide +kernel
theorem dX5_planOneMore_83 : decode cX5_planOneMore 83 = .ok (.iload 4, 2) := by decide +kernel
theorem dX5_planOneMore_85 : decode cX5_planOneMore 85 = .ok (.iaload, 1) := by decide +kernel
theorem dX5_planOneMore_86 : decode cX5_planOneMore 86 = .ok (.iload_n 3, 1) := by decide +kernel
theorem dX5_planOneMore_87 : decode cX5_planOneMore 87 = .ok (.if_icmp .gt 8, 3) := by decide +kernel
theorem dX5_planOneMore_90 : decode cX5_planOneMore 90 = .ok (.iload 4, 2) := by decide +kernel
theorem dX5_planOneMore_92 : decode cX5_planOneMore 92 = .ok (.goto 4, 3) := by decide +kernel
theorem dX5_planOneMore_95 : decode cX5_planOneMore 95 = .ok (.iload_n 1, 1) := by decide +kernel
theorem dX5_planOneMore_96 : decode cX5_planOneMore 96 = .ok (.ireturn, 1) := by decide +kernel
theorem dX6_init_0 : decode cX6_init 0 = .ok (.aload_n 0, 1) := by decide +kernel
theorem dX6_init_1 : decode cX6_init 1 = .ok (.invokespecial 1, 3) := by decide +kernel
theorem dX6_init_4 : decode cX6_init 4 = .ok (.aload_n 0, 1) := by decide +kernel
theorem dX6_init_5 : decode cX6_init 5 = .ok (.bipush 20, 2) := by decide +kernel
theorem dX6_init_7 : decode cX6_init 7 = .ok (.putfield 7, 3) := by decide +kernel
theorem dX6_init_10 : decode cX6_init 10 = .ok (.aload_n 0, 1) := by decide +kernel
theorem dX6_init_11 : decode cX6_init 11 = .ok (.bipush 84, 2) := by decide +kernel
theorem dX6_init_13 : decode cX6_init 13 = .ok (.newarray .int, 2) := by decide +kernel
theorem dX6_init_15 : decode cX6_init 15 = .ok (.putfield 13, 3) := by decide +kernel
theorem dX6_init_18 : decode cX6_init 18 = .ok (.aload_n 0, 1) := by decide +kernel
theorem dX6_init_19 : decode cX6_init 19 = .ok (.bipush 40, 2) := by decide +kernel
theorem dX6_init_21 : decode cX6_init 21 = .ok (.newarray .int, 2) := by decide +kernel
theorem dX6_init_23 : decode cX6_init 23 = .ok (.putfield 17, 3) := by decide +kernel
theorem dX6_init_26 : decode cX6_init 26 = .ok (.aload_n 0, 1) := by decide +kernel
theorem dX6_init_27 : decode cX6_init 27 = .ok (.bipush 100, 2) := by decide +kernel
theorem dX6_init_29 : decode cX6_init 29 = .ok (.newarray .int, 2) := by decide +kernel
theorem dX6_init_31 : decode cX6_init 31 = .ok (.putfield 20, 3) := by decide +kernel
theorem dX6_init_34 : decode cX6_init 34 = .ok (.aload_n 0, 1) := by decide +kernel
theorem dX6_init_35 : decode cX6_init 35 = .ok (.iconst 5, 1) := by decide +kernel
theorem dX6_init_36 : decode cX6_init 36 = .ok (.newarray .int, 2) := by decide +kernel
theorem dX6_init_38 : decode cX6_init 38 = .ok (.putfield 23, 3) := by decide +kernel
theorem dX6_init_41 : decode cX6_init 41 = .ok (.aload_n 0, 1) := by decide +kernel
theorem dX6_init_42 : decode cX6_init 42 = .ok (.bipush 20, 2) := by decide +kernel
theorem dX6_init_44 : decode cX6_init 44 = .ok (.newarray .boolean, 2) := by decide +kernel
theorem dX6_init_46 : decode cX6_init 46 = .ok (.putfield 26, 3) := by decide +kernel
theorem dX6_init_49 : decode cX6_init 49 = .ok (.return_, 1) := by decide +kernel
theorem dX6_thrown_0 : decode cX6_thrown 0 = .ok (.aload_n 0, 1) := by decide +kernel
theorem dX6_thrown_1 : decode cX6_thrown 1 = .ok (.getfield 30, 3) := by decide +kernel
theorem dX6_thrown_4 : decode cX6_thrown 4 = .ok (.ireturn, 1) := by decide +kernel
theorem dX6_fail_0 : decode cX6_fail 0 = .ok (.aload_n 0, 1) := by decide +kernel
theorem dX6_fail_1 : decode cX6_fail 1 = .ok (.iload_n 1, 1) := by decide +kernel
theorem dX6_fail_2 : decode cX6_fail 2 = .ok (.putfield 30, 3) := by decide +kernel
theorem dX6_fail_5 : decode cX6_fail 5 = .ok (.iconst 0, 1) := by decide +kernel
theorem dX6_fail_6 : decode cX6_fail 6 = .ok (.ireturn, 1) := by decide +kernel
theorem dX6_isIn_0 : decode cX6_isIn 0 = .ok (.iload_n 0, 1) := by decide +kernel
theorem dX6_isIn_1 : decode cX6_isIn 1 = .ok (.iload_n 1, 1) := by decide +kernel
theorem dX6_isIn_2 : decode cX6_isIn 2 = .ok (.if_icmp .lt 12, 3) := by decide +kernel
theorem dX6_isIn_5 : decode cX6_isIn 5 = .ok (.iload_n 0, 1) := by decide +kernel
theorem dX6_isIn_6 : decode cX6_isIn 6 = .ok (.iload_n 2, 1) := by decide +kernel
theorem dX6_isIn_7 : decode cX6_isIn 7 = .ok (.if_icmp .gt 7, 3) := by decide +kernel
theorem dX6_isIn_10 : decode cX6_isIn 10 = .ok (.iconst 1, 1) := by decide +kernel
theorem dX6_isIn_11 : decode cX6_isIn 11 = .ok (.goto 4, 3) := by decide +kernel
theorem dX6_isIn_14 : decode cX6_isIn 14 = .ok (.iconst 0, 1) := by decide +kernel
theorem dX6_isIn_15 : decode cX6_isIn 15 = .ok (.ireturn, 1) := by decide +kernel
theorem dX6_isFrame_0 : decode cX6_isFrame 0 = .ok (.iload_n 1, 1) := by decide +kernel
theorem dX6_isFrame_1 : decode cX6_isFrame 1 = .ok (.iconst 0, 1) := by decide +kernel
theorem dX6_isFrame_2 : decode cX6_isFrame 2 = .ok (.aload_n 0, 1) := by decide +kernel
theorem dX6_isFrame_3 : decode cX6_isFrame 3 = .ok (.getfield 33, 3) := by decide +kernel
theorem dX6_isFrame_6 : decode cX6_isFrame 6 = .ok (.iconst 1, 1) := by decide +kernel
theorem dX6_isFrame_7 : decode cX6_isFrame 7 = .ok (.isub, 1) := by decide +kernel
theorem dX6_isFrame_8 : decode cX6_isFrame 8 = .ok (.invokestatic 36, 3) := by decide +kernel
theorem dX6_isFrame_11 : decode cX6_isFrame 11 = .ok (.ireturn, 1) := by decide +kernel
theorem dX6_fr_0 : decode cX6_fr 0 = .ok (.aload_n 0, 1) := by decide +kernel
theorem dX6_fr_1 : decode cX6_fr 1 = .ok (.getfield 13, 3) := by decide +kernel
theorem dX6_fr_4 : decode cX6_fr 4 = .ok (.bipush 7, 2) := by decide +kernel
theorem dX6_fr_6 : decode cX6_fr 6 = .ok (.iload_n 1, 1) := by decide +kernel
theorem dX6_fr_7 : decode cX6_fr 7 = .ok (.imul, 1) := by decide +kernel
theorem dX6_fr_8 : decode cX6_fr 8 = .ok (.iload_n 2, 1) := by decide +kernel
theorem dX6_fr_9 : decode cX6_fr 9 = .ok (.iadd, 1) := by decide +kernel
theorem dX6_fr_10 : decode cX6_fr 10 = .ok (.iaload, 1) := by decide +kernel
theorem dX6_fr_11 : decode cX6_fr 11 = .ok (.ireturn, 1) := by decide +kernel
theorem dX6_set_0 : decode cX6_set 0 = .ok (.aload_n 0, 1) := by decide +kernel
theorem dX6_set_1 : decode cX6_set 1 = .ok (.getfield 13, 3) := by decide +kernel
theorem dX6_set_4 : decode cX6_set 4 = .ok (.bipush 7, 2) := by decide +kernel
theorem dX6_set_6 : decode cX6_set 6 = .ok (.iload_n 1, 1) := by decide +kernel
theorem dX6_set_7 : decode cX6_set 7 = .ok (.imul, 1) := by decide +kernel
theorem dX6_set_8 : decode cX6_set 8 = .ok (.iload_n 2, 1) := by decide +kernel
theorem dX6_set_9 : decode cX6_set 9 = .ok (.iadd, 1) := by decide +kernel
theorem dX6_set_10 : decode cX6_set 10 = .ok (.iload_n 3, 1) := by decide +kernel
theorem dX6_set_11 : decode cX6_set 11 = .ok (.iastore, 1) := by decide +kernel
theorem dX6_set_12 : decode cX6_set 12 = .ok (.return_, 1) := by decide +kernel
theorem dX6_or_0 : decode cX6_or 0 = .ok (.aload_n 0, 1) := by decide +kernel
theorem dX6_or_1 : decode cX6_or 1 = .ok (.getfield 20, 3) := by decide +kernel
theorem dX6_or_4 : decode cX6_or 4 = .ok (.iconst 5, 1) := by decide +kernel
theorem dX6_or_5 : decode cX6_or 5 = .ok (.iload_n 1, 1) := by decide +kernel
theorem dX6_or_6 : decode cX6_or 6 = .ok (.imul, 1) := by decide +kernel
theorem dX6_or_7 : decode cX6_or 7 = .ok (.iload_n 2, 1) := by decide +kernel
theorem dX6_or_8 : decode cX6_or 8 = .ok (.iadd, 1) := by decide +kernel
theorem dX6_or_9 : decode cX6_or 9 = .ok (.iaload, 1) := by decide +kernel
theorem dX6_or_10 : decode cX6_or 10 = .ok (.ireturn, 1) := by decide +kernel
theorem dX6_melt_0 : decode cX6_melt 0 = .ok (.aload_n 0, 1) := by decide +kernel
theorem dX6_melt_1 : decode cX6_melt 1 = .ok (.iconst 0, 1) := by decide +kernel
theorem dX6_melt_2 : decode cX6_melt 2 = .ok (.putfield 30, 3) := by decide +kernel
theorem dX6_melt_5 : decode cX6_melt 5 = .ok (.iload_n 1, 1) := by decide +kernel
theorem dX6_melt_6 : decode cX6_melt 6 = .ok (.iconst 1, 1) := by decide +kernel
theorem dX6_melt_7 : decode cX6_melt 7 = .ok (.sipush 5000, 3) := by decide +kernel
theorem dX6_melt_10 : decode cX6_melt 10 = .ok (.invokestatic 36, 3) := by decide +kernel
theorem dX6_melt_13 : decode cX6_melt 13 = .ok (.ifCond .ne 9, 3) := by decide +kernel
theorem dX6_melt_16 : decode cX6_melt 16 = .ok (.aload_n 0, 1) := by decide +kernel
theorem dX6_melt_17 : decode cX6_melt 17 = .ok (.iconst 1, 1) := by decide +kernel
theorem dX6_melt_18 : decode cX6_melt 18 = .ok (.invokevirtual 40, 3) := by decide +kernel
theorem dX6_melt_21 : decode cX6_melt 21 = .ok (.ireturn, 1) := by decide +kernel
theorem dX6_melt_22 : decode cX6_melt 22 = .ok (.aload_n 0, 1) := by decide +kernel
theorem dX6_melt_23 : decode cX6_melt 23 = .ok (.getfield 44, 3) := by decide +kernel
theorem dX6_melt_26 : decode cX6_melt 26 = .ok (.iload_n 1, 1) := by decide +kernel
theorem dX6_melt_27 : decode cX6_melt 27 = .ok (.iadd, 1) := by decide +kernel
theorem dX6_melt_28 : decode cX6_melt 28 = .ok (.sipush 20000, 3) := by decide +kernel
theorem dX6_melt_31 : decode cX6_melt 31 = .ok (.if_icmp .le 9, 3) := by decide +kernel
theorem dX6_melt_34 : decode cX6_melt 34 = .ok (.aload_n 0, 1) := by decide +kernel
theorem dX6_melt_35 : decode cX6_melt 35 = .ok (.iconst 2, 1) := by decide +kernel
theorem dX6_melt_36 : decode cX6_melt 36 = .ok (.invokevirtual 40, 3) := by decide +kernel
theorem dX6_melt_39 : decode cX6_melt 39 = .ok (.ireturn, 1) := by decide +kernel
theorem dX6_melt_40 : decode cX6_melt 40 = .ok (.aload_n 0, 1) := by decide +kernel
theorem dX6_melt_41 : decode cX6_melt 41 = .ok (.aload_n 0, 1) := by decide +kernel
theorem dX6_melt_42 : decode cX6_melt 42 = .ok (.getfield 7, 3) := by decide +kernel
theorem dX6_melt_45 : decode cX6_melt 45 = .ok (.aload_n 0, 1) := by decide +kernel
theorem dX6_melt_46 : decode cX6_melt 46 = .ok (.getfield 44, 3) := by decide +kernel
theorem dX6_melt_49 : decode cX6_melt 49 = .ok (.imul, 1) := by decide +kernel
theorem dX6_melt_50 : decode cX6_melt 50 = .ok (.bipush 20, 2) := by decide +kernel
theorem dX6_melt_52 : decode cX6_melt 52 = .ok (.iload_n 1, 1) := by decide +kernel
theorem dX6_melt_53 : decode cX6_melt 53 = .ok (.imul, 1) := by decide +kernel
theorem dX6_melt_54 : decode cX6_melt 54 = .ok (.iadd, 1) := by decide +kernel
theorem dX6_melt_55 : decode cX6_melt 55 = .ok (.aload_n 0, 1) := by decide +kernel
theorem dX6_melt_56 : decode cX6_melt 56 = .ok (.getfield 44, 3) := by decide +kernel
theorem dX6_melt_59 : decode cX6_melt 59 = .ok (.iload_n 1, 1) := by decide +kernel
theorem dX6_melt_60 : decode cX6_melt 60 = .ok (.iadd, 1) := by decide +kernel
theorem dX6_melt_61 : decode cX6_melt 61 = .ok (.idiv, 1) := by decide +kernel
theorem dX6_melt_62 : decode cX6_melt 62 = .ok (.putfield 7, 3) := by decide +kernel
theorem dX6_melt_65 : decode cX6_melt 65 = .ok (.aload_n 0, 1) := by decide +kernel
theorem dX6_melt_66 : decode cX6_melt 66 = .ok (.dup, 1) := by decide +kernel
theorem dX6_melt_67 : decode cX6_melt 67 = .ok (.getfield 44, 3) := by decide +kernel
theorem dX6_melt_70 : decode cX6_melt 70 = .ok (.iload_n 1, 1) := by decide +kernel
theorem dX6_melt_71 : decode cX6_melt 71 = .ok (.iadd, 1) := by decide +kernel
theorem dX6_melt_72 : decode cX6_melt 72 = .ok (.putfield 44, 3) := by decide +kernel
theorem dX6_melt_75 : decode cX6_melt 75 = .ok (.aload_n 0, 1) := by decide +kernel
theorem dX6_melt_76 : decode cX6_melt 76 = .ok (.getfield 7, 3) := by decide +kernel
theorem dX6_melt_79 : decode cX6_melt 79 = .ok (.ireturn, 1) := by decide +kernel
theorem dX6_setFire_0 : decode cX6_setFire 0 = .ok (.aload_n 0, 1) := by decide +kernel
theorem dX6_setFire_1 : decode cX6_setFire 1 = .ok (.iconst 0, 1) := by decide +kernel
theorem dX6_setFire_2 : decode cX6_setFire 2 = .ok (.putfield 30, 3) := by decide +kernel
theorem dX6_setFire_5 : decode cX6_setFire 5 = .ok (.iload_n 1, 1) := by decide +kernel
theorem dX6_setFire_6 : decode cX6_setFire 6 = .ok (.iconst 0, 1) := by decide +kernel
theorem dX6_setFire_7 : decode cX6_setFire 7 = .ok (.iconst 5, 1) := by decide +kernel
theorem dX6_setFire_8 : decode cX6_setFire 8 = .ok (.invokestatic 36, 3) := by decide +kernel
theorem dX6_setFire_11 : decode cX6_setFire 11 = .ok (.ifCond .ne 9, 3) := by decide +kernel
theorem dX6_setFire_14 : decode cX6_setFire 14 = .ok (.aload_n 0, 1) := by decide +kernel
theorem dX6_setFire_15 : decode cX6_setFire 15 = .ok (.iconst 1, 1) := by decide +kernel
theorem dX6_setFire_16 : decode cX6_setFire 16 = .ok (.invokevirtual 40, 3) := by decide +kernel
theorem dX6_setFire_19 : decode cX6_setFire 19 = .ok (.ireturn, 1) := by decide +kernel
theorem dX6_setFire_20 : decode cX6_setFire 20 = .ok (.aload_n 0, 1) := by decide +kernel
theorem dX6_setFire_21 : decode cX6_setFire 21 = .ok (.getfield 47, 3) := by decide +kernel
theorem dX6_setFire_24 : decode cX6_setFire 24 = .ok (.istore_n 2, 1) := by decide +kernel
theorem dX6_setFire_25 : decode cX6_setFire 25 = .ok (.aload_n 0, 1) := by decide +kernel
theorem dX6_setFire_26 : decode cX6_setFire 26 = .ok (.iload_n 1, 1) := by decide +kernel
theorem dX6_setFire_27 : decode cX6_setFire 27 = .ok (.putfield 47, 3) := by decide +kernel
theorem dX6_setFire_30 : decode cX6_setFire 30 = .ok (.iload_n 2, 1) := by decide +kernel
theorem dX6_setFire_31 : decode cX6_setFire 31 = .ok (.ireturn, 1) := by decide +kernel
theorem dX6_vatTold_0 : decode cX6_vatTold 0 = .ok (.iload_n 1, 1) := by decide +kernel
theorem dX6_vatTold_1 : decode cX6_vatTold 1 = .ok (.ifCond .ne 10, 3) := by decide +kernel
theorem dX6_vatTold_4 : decode cX6_vatTold 4 = .ok (.aload_n 0, 1) := by decide +kernel
theorem dX6_vatTold_5 : decode cX6_vatTold 5 = .ok (.getfield 44, 3) := by decide +kernel
theorem dX6_vatTold_8 : decode cX6_vatTold 8 = .ok (.goto 41, 3) := by decide +kernel
theorem dX6_vatTold_11 : decode cX6_vatTold 11 = .ok (.iload_n 1, 1) := by decide +kernel
theorem dX6_vatTold_12 : decode cX6_vatTold 12 = .ok (.iconst 1, 1) := by decide +kernel
theorem dX6_vatTold_13 : decode cX6_vatTold 13 = .ok (.if_icmp .ne 10, 3) := by decide +kernel
theorem dX6_vatTold_16 : decode cX6_vatTold 16 = .ok (.aload_n 0, 1) := by decide +kernel
theorem dX6_vatTold_17 : decode cX6_vatTold 17 = .ok (.getfield 7, 3) := by decide +kernel
theorem dX6_vatTold_20 : decode cX6_vatTold 20 = .ok (.goto 29, 3) := by decide +kernel
theorem dX6_vatTold_23 : decode cX6_vatTold 23 = .ok (.iload_n 1, 1) := by decide +kernel
theorem dX6_vatTold_24 : decode cX6_vatTold 24 = .ok (.iconst 2, 1) := by decide +kernel
theorem dX6_vatTold_25 : decode cX6_vatTold 25 = .ok (.if_icmp .ne 10, 3) := by decide +kernel
theorem dX6_vatTold_28 : decode cX6_vatTold 28 = .ok (.aload_n 0, 1) := by decide +kernel
theorem dX6_vatTold_29 : decode cX6_vatTold 29 = .ok (.getfield 47, 3) := by decide +kernel
theorem dX6_vatTold_32 : decode cX6_vatTold 32 = .ok (.goto 17, 3) := by decide +kernel
theorem dX6_vatTold_35 : decode cX6_vatTold 35 = .ok (.aload_n 0, 1) := by decide +kernel
theorem dX6_vatTold_36 : decode cX6_vatTold 36 = .ok (.getfield 7, 3) := by decide +kernel
theorem dX6_vatTold_39 : decode cX6_vatTold 39 = .ok (.bipush 60, 2) := by decide +kernel
theorem dX6_vatTold_41 : decode cX6_vatTold 41 = .ok (.if_icmp .lt 7, 3) := by decide +kernel
theorem dX6_vatTold_44 : decode cX6_vatTold 44 = .ok (.iconst 1, 1) := by decide +kernel
theorem dX6_vatTold_45 : decode cX6_vatTold 45 = .ok (.goto 4, 3) := by decide +kernel
theorem dX6_vatTold_48 : decode cX6_vatTold 48 = .ok (.iconst 0, 1) := by decide +kernel
theorem dX6_vatTold_49 : decode cX6_vatTold 49 = .ok (.ireturn, 1) := by decide +kernel
theorem dX6_vat_0 : decode cX6_vat 0 = .ok (.aload_n 0, 1) := by decide +kernel
theorem dX6_vat_1 : decode cX6_vat 1 = .ok (.iconst 0, 1) := by decide +kernel
theorem dX6_vat_2 : decode cX6_vat 2 = .ok (.putfield 30, 3) := by decide +kernel
theorem dX6_vat_5 : decode cX6_vat 5 = .ok (.iload_n 1, 1) := by decide +kernel
theorem dX6_vat_6 : decode cX6_vat 6 = .ok (.iconst 0, 1) := by decide +kernel
theorem dX6_vat_7 : decode cX6_vat 7 = .ok (.iconst 3, 1) := by decide +kernel
theorem dX6_vat_8 : decode cX6_vat 8 = .ok (.invokestatic 36, 3) := by decide +kernel
theorem dX6_vat_11 : decode cX6_vat 11 = .ok (.ifCond .eq 11, 3) := by decide +kernel
theorem dX6_vat_14 : decode cX6_vat 14 = .ok (.aload_n 0, 1) := by decide +kernel
theorem dX6_vat_15 : decode cX6_vat 15 = .ok (.iload_n 1, 1) := by decide +kernel
theorem dX6_vat_16 : decode cX6_vat 16 = .ok (.invokevirtual 50, 3) := by decide +kernel
theorem dX6_vat_19 : decode cX6_vat 19 = .ok (.goto 8, 3) := by decide +kernel
theorem dX6_vat_22 : decode cX6_vat 22 = .ok (.aload_n 0, 1) := by decide +kernel
theorem dX6_vat_23 : decode cX6_vat 23 = .ok (.iconst 1, 1) := by decide +kernel
theorem dX6_vat_24 : decode cX6_vat 24 = .ok (.invokevirtual 40, 3) := by decide +kernel
theorem dX6_vat_27 : decode cX6_vat 27 = .ok (.ireturn, 1) := by decide +kernel
theorem dX6_addFrame_0 : decode cX6_addFrame 0 = .ok (.aload_n 0, 1) := by decide +kernel
theorem dX6_addFrame_1 : decode cX6_addFrame 1 = .ok (.iconst 0, 1) := by decide +kernel
theorem dX6_addFrame_2 : decode cX6_addFrame 2 = .ok (.putfield 30, 3) := by decide +kernel
theorem dX6_addFrame_5 : decode cX6_addFrame 5 = .ok (.iload_n 1, 1) := by decide +kernel
theorem dX6_addFrame_6 : decode cX6_addFrame 6 = .ok (.iconst 0, 1) := by decide +kernel
theorem dX6_addFrame_7 : decode cX6_addFrame 7 = .ok (.iconst 3, 1) := by decide +kernel
theorem dX6_addFrame_8 : decode cX6_addFrame 8 = .ok (.invokestatic 36, 3) := by decide +kernel
theorem dX6_addFrame_11 : decode cX6_addFrame 11 = .ok (.ifCond .eq 13, 3) := by decide +kernel
theorem dX6_addFrame_14 : decode cX6_addFrame 14 = .ok (.iload_n 2, 1) := by decide +kernel
theorem dX6_addFrame_15 : decode cX6_addFrame 15 = .ok (.iconst 1, 1) := by decide +kernel
theorem dX6_addFrame_16 : decode cX6_addFrame 16 = .ok (.bipush 20, 2) := by decide +kernel
theorem dX6_addFrame_18 : decode cX6_addFrame 18 = .ok (.invokestatic 36, 3) := by decide +kernel
theorem dX6_addFrame_21 : decode cX6_addFrame 21 = .ok (.ifCond .ne 9, 3) := by decide +kernel
theorem dX6_addFrame_24 : decode cX6_addFrame 24 = .ok (.aload_n 0, 1) := by decide +kernel
theorem dX6_addFrame_25 : decode cX6_addFrame 25 = .ok (.iconst 1, 1) := by decide +kernel
theorem dX6_addFrame_26 : decode cX6_addFrame 26 = .ok (.invokevirtual 40, 3) := by decide +kernel
theorem dX6_addFrame_29 : decode cX6_addFrame 29 = .ok (.ireturn, 1) := by decide +kernel
theorem dX6_addFrame_30 : decode cX6_addFrame 30 = .ok (.aload_n 0, 1) := by decide +kernel
theorem dX6_addFrame_31 : decode cX6_addFrame 31 = .ok (.getfield 33, 3) := by decide +kernel
theorem dX6_addFrame_34 : decode cX6_addFrame 34 = .ok (.bipush 12, 2) := by decide +kernel
theorem dX6_addFrame_36 : decode cX6_addFrame 36 = .ok (.if_icmp .ne 9, 3) := by decide +kernel
theorem dX6_addFrame_39 : decode cX6_addFrame 39 = .ok (.aload_n 0, 1) := by decide +kernel
theorem dX6_addFrame_40 : decode cX6_addFrame 40 = .ok (.iconst 2, 1) := by decide +kernel
theorem dX6_addFrame_41 : decode cX6_addFrame 41 = .ok (.invokevirtual 40, 3) := by decide +kernel
theorem dX6_addFrame_44 : decode cX6_addFrame 44 = .ok (.ireturn, 1) := by decide +kernel
theorem dX6_addFrame_45 : decode cX6_addFrame 45 = .ok (.bipush 7, 2) := by decide +kernel
theorem dX6_addFrame_47 : decode cX6_addFrame 47 = .ok (.newarray .int, 2) := by decide +kernel
theorem dX6_addFrame_49 : decode cX6_addFrame 49 = .ok (.dup, 1) := by decide +kernel
theorem dX6_addFrame_50 : decode cX6_addFrame 50 = .ok (.iconst 0, 1) := by decide +kernel
theorem dX6_addFrame_51 : decode cX6_addFrame 51 = .ok (.iload_n 1, 1) := by decide +kernel
theorem dX6_addFrame_52 : decode cX6_addFrame 52 = .ok (.iastore, 1) := by decide +kernel
theorem dX6_addFrame_53 : decode cX6_addFrame 53 = .ok (.dup, 1) := by decide +kernel
theorem dX6_addFrame_54 : decode cX6_addFrame 54 = .ok (.iconst 1, 1) := by decide +kernel
theorem dX6_addFrame_55 : decode cX6_addFrame 55 = .ok (.iload_n 2, 1) := by decide +kernel
theorem dX6_addFrame_56 : decode cX6_addFrame 56 = .ok (.iastore, 1) := by decide +kernel
theorem dX6_addFrame_57 : decode cX6_addFrame 57 = .ok (.dup, 1) := by decide +kernel
theorem dX6_addFrame_58 : decode cX6_addFrame 58 = .ok (.iconst 2, 1) := by decide +kernel
theorem dX6_addFrame_59 : decode cX6_addFrame 59 = .ok (.iconst 0, 1) := by decide +kernel
theorem dX6_addFrame_60 : decode cX6_addFrame 60 = .ok (.iastore, 1) := by decide +kernel
theorem dX6_addFrame_61 : decode cX6_addFrame 61 = .ok (.dup, 1) := by decide +kernel
theorem dX6_addFrame_62 : decode cX6_addFrame 62 = .ok (.iconst 3, 1) := by decide +kernel
theorem dX6_addFrame_63 : decode cX6_addFrame 63 = .ok (.iconst 0, 1) := by decide +kernel
theorem dX6_addFrame_64 : decode cX6_addFrame 64 = .ok (.iastore, 1) := by decide +kernel
theorem dX6_addFrame_65 : decode cX6_addFrame 65 = .ok (.dup, 1) := by decide +kernel
theorem dX6_addFrame_66 : decode cX6_addFrame 66 = .ok (.iconst 4, 1) := by decide +kernel
theorem dX6_addFrame_67 : decode cX6_addFrame 67 = .ok (.iconst 0, 1) := by decide +kernel
theorem dX6_addFrame_68 : decode cX6_addFrame 68 = .ok (.iastore, 1) := by decide +kernel
theorem dX6_addFrame_69 : decode cX6_addFrame 69 = .ok (.dup, 1) := by decide +kernel
theorem dX6_addFrame_70 : decode cX6_addFrame 70 = .ok (.iconst 5, 1) := by decide +kernel
theorem dX6_addFrame_71 : decode cX6_addFrame 71 = .ok (.iconst (-1), 1) := by decide +kernel
theorem dX6_addFrame_72 : decode cX6_addFrame 72 = .ok (.iastore, 1) := by decide +kernel
theorem dX6_addFrame_73 : decode cX6_addFrame 73 = .ok (.dup, 1) := by decide +kernel
theorem dX6_addFrame_74 : decode cX6_addFrame 74 = .ok (.bipush 6, 2) := by decide +kernel
theorem dX6_addFrame_76 : decode cX6_addFrame 76 = .ok (.iconst 0, 1) := by decide +kernel
theorem dX6_addFrame_77 : decode cX6_addFrame 77 = .ok (.iastore, 1) := by decide +kernel
theorem dX6_addFrame_78 : decode cX6_addFrame 78 = .ok (.astore_n 3, 1) := by decide +kernel
theorem dX6_addFrame_79 : decode cX6_addFrame 79 = .ok (.aload_n 3, 1) := by decide +kernel
theorem dX6_addFrame_80 : decode cX6_addFrame 80 = .ok (.iconst 0, 1) := by decide +kernel
theorem dX6_addFrame_81 : decode cX6_addFrame 81 = .ok (.aload_n 0, 1) := by decide +kernel
theorem dX6_addFrame_82 : decode cX6_addFrame 82 = .ok (.getfield 13, 3) := by decide +kernel
theorem dX6_addFrame_85 : decode cX6_addFrame 85 = .ok (.bipush 7, 2) := by decide +kernel
theorem dX6_addFrame_87 : decode cX6_addFrame 87 = .ok (.aload_n 0, 1) := by decide +kernel
theorem dX6_addFrame_88 : decode cX6_addFrame 88 = .ok (.getfield 33, 3) := by decide +kernel
theorem dX6_addFrame_91 : decode cX6_addFrame 91 = .ok (.imul, 1) := by decide +kernel
theorem dX6_addFrame_92 : decode cX6_addFrame 92 = .ok (.bipush 7, 2) := by decide +kernel
theorem dX6_addFrame_94 : decode cX6_addFrame 94 = .ok (.invokestatic 53, 3) := by decide +kernel
theorem dX6_addFrame_97 : decode cX6_addFrame 97 = .ok (.aload_n 0, 1) := by decide +kernel
theorem dX6_addFrame_98 : decode cX6_addFrame 98 = .ok (.dup, 1) := by decide +kernel
theorem dX6_addFrame_99 : decode cX6_addFrame 99 = .ok (.getfield 33, 3) := by decide +kernel
theorem dX6_addFrame_102 : decode cX6_addFrame 102 = .ok (.iconst 1, 1) := by decide +kernel
theorem dX6_addFrame_103 : decode cX6_addFrame 103 = .ok (.iadd, 1) := by decide +kernel
theorem dX6_addFrame_104 : decode cX6_addFrame 104 = .ok (.putfield 33, 3) := by decide +kernel
theorem dX6_addFrame_107 : decode cX6_addFrame 107 = .ok (.aload_n 0, 1) := by decide +kernel
theorem dX6_addFrame_108 : decode cX6_addFrame 108 = .ok (.getfield 33, 3) := by decide +kernel
theorem dX6_addFrame_111 : decode cX6_addFrame 111 = .ok (.iconst 1, 1) := by decide +kernel
theorem dX6_addFrame_112 : decode cX6_addFrame 112 = .ok (.isub, 1) := by decide +kernel
theorem dX6_addFrame_113 : decode cX6_addFrame 113 = .ok (.ireturn, 1) := by decide +kernel
theorem dX6_at_0 : decode cX6_at 0 = .ok (.iconst 0, 1) := by decide +kernel
theorem dX6_at_1 : decode cX6_at 1 = .ok (.istore_n 2, 1) := by decide +kernel
theorem dX6_at_2 : decode cX6_at 2 = .ok (.iload_n 2, 1) := by decide +kernel
theorem dX6_at_3 : decode cX6_at 3 = .ok (.aload_n 0, 1) := by decide +kernel
theorem dX6_at_4 : decode cX6_at 4 = .ok (.getfield 33, 3) := by decide +kernel
theorem dX6_at_7 : decode cX6_at 7 = .ok (.if_icmp .ge 21, 3) := by decide +kernel
theorem dX6_at_10 : decode cX6_at 10 = .ok (.aload_n 0, 1) := by decide +kernel
theorem dX6_at_11 : decode cX6_at 11 = .ok (.iload_n 2, 1) := by decide +kernel
theorem dX6_at_12 : decode cX6_at 12 = .ok (.iconst 5, 1) := by decide +kernel
theorem dX6_at_13 : decode cX6_at 13 = .ok (.invokevirtual 59, 3) := by decide +kernel
theorem dX6_at_16 : decode cX6_at 16 = .ok (.iload_n 1, 1) := by decide +kernel
theorem dX6_at_17 : decode cX6_at 17 = .ok (.if_icmp .ne 5, 3) := by decide +kernel
theorem dX6_at_20 : decode cX6_at 20 = .ok (.iload_n 2, 1) := by decide +kernel
theorem dX6_at_21 : decode cX6_at 21 = .ok (.ireturn, 1) := by decide +kernel
theorem dX6_at_22 : decode cX6_at 22 = .ok (.iinc 2 1, 3) := by decide +kernel
theorem dX6_at_25 : decode cX6_at 25 = .ok (.goto (-23), 3) := by decide +kernel
theorem dX6_at_28 : decode cX6_at 28 = .ok (.iconst (-1), 1) := by decide +kernel
theorem dX6_at_29 : decode cX6_at 29 = .ok (.ireturn, 1) := by decide +kernel
theorem dX6_hang_0 : decode cX6_hang 0 = .ok (.aload_n 0, 1) := by decide +kernel
theorem dX6_hang_1 : decode cX6_hang 1 = .ok (.iconst 0, 1) := by decide +kernel
theorem dX6_hang_2 : decode cX6_hang 2 = .ok (.putfield 30, 3) := by decide +kernel
theorem dX6_hang_5 : decode cX6_hang 5 = .ok (.aload_n 0, 1) := by decide +kernel
theorem dX6_hang_6 : decode cX6_hang 6 = .ok (.iload_n 1, 1) := by decide +kernel
theorem dX6_hang_7 : decode cX6_hang 7 = .ok (.invokevirtual 63, 3) := by decide +kernel
theorem dX6_hang_10 : decode cX6_hang 10 = .ok (.ifCond .ne 9, 3) := by decide +kernel
theorem dX6_hang_13 : decode cX6_hang 13 = .ok (.aload_n 0, 1) := by decide +kernel
theorem dX6_hang_14 : decode cX6_hang 14 = .ok (.iconst 1, 1) := by decide +kernel
theorem dX6_hang_15 : decode cX6_hang 15 = .ok (.invokevirtual 40, 3) := by decide +kernel
theorem dX6_hang_18 : decode cX6_hang 18 = .ok (.ireturn, 1) := by decide +kernel
theorem dX6_hang_19 : decode cX6_hang 19 = .ok (.iload_n 2, 1) := by decide +kernel
theorem dX6_hang_20 : decode cX6_hang 20 = .ok (.iconst 0, 1) := by decide +kernel
theorem dX6_hang_21 : decode cX6_hang 21 = .ok (.bipush 11, 2) := by decide +kernel
theorem dX6_hang_23 : decode cX6_hang 23 = .ok (.invokestatic 36, 3) := by decide +kernel
theorem dX6_hang_26 : decode cX6_hang 26 = .ok (.ifCond .ne 9, 3) := by decide +kernel
theorem dX6_hang_29 : decode cX6_hang 29 = .ok (.aload_n 0, 1) := by decide +kernel
theorem dX6_hang_30 : decode cX6_hang 30 = .ok (.iconst 2, 1) := by decide +kernel
theorem dX6_hang_31 : decode cX6_hang 31 = .ok (.invokevirtual 40, 3) := by decide +kernel
theorem dX6_hang_34 : decode cX6_hang 34 = .ok (.ireturn, 1) := by decide +kernel
theorem dX6_hang_35 : decode cX6_hang 35 = .ok (.aload_n 0, 1) := by decide +kernel
theorem dX6_hang_36 : decode cX6_hang 36 = .ok (.iload_n 2, 1) := by decide +kernel
theorem dX6_hang_37 : decode cX6_hang 37 = .ok (.invokevirtual 67, 3) := by decide +kernel
theorem dX6_hang_40 : decode cX6_hang 40 = .ok (.iconst (-1), 1) := by decide +kernel
theorem dX6_hang_41 : decode cX6_hang 41 = .ok (.if_icmp .eq 18, 3) := by decide +kernel
theorem dX6_hang_44 : decode cX6_hang 44 = .ok (.aload_n 0, 1) := by decide +kernel
theorem dX6_hang_45 : decode cX6_hang 45 = .ok (.iload_n 2, 1) := by decide +kernel
theorem dX6_hang_46 : decode cX6_hang 46 = .ok (.invokevirtual 67, 3) := by decide +kernel
theorem dX6_hang_49 : decode cX6_hang 49 = .ok (.iload_n 1, 1) := by decide +kernel
theorem dX6_hang_50 : decode cX6_hang 50 = .ok (.if_icmp .eq 9, 3) := by decide +kernel
theorem dX6_hang_53 : decode cX6_hang 53 = .ok (.aload_n 0, 1) := by decide +kernel
theorem dX6_hang_54 : decode cX6_hang 54 = .ok (.iconst 3, 1) := by decide +kernel
theorem dX6_hang_55 : decode cX6_hang 55 = .ok (.invokevirtual 40, 3) := by decide +kernel
theorem dX6_hang_58 : decode cX6_hang 58 = .ok (.ireturn, 1) := by decide +kernel
theorem dX6_hang_59 : decode cX6_hang 59 = .ok (.aload_n 0, 1) := by decide +kernel
theorem dX6_hang_60 : decode cX6_hang 60 = .ok (.iload_n 1, 1) := by decide +kernel
theorem dX6_hang_61 : decode cX6_hang 61 = .ok (.iconst 5, 1) := by decide +kernel
theorem dX6_hang_62 : decode cX6_hang 62 = .ok (.invokevirtual 59, 3) := by decide +kernel
theorem dX6_hang_65 : decode cX6_hang 65 = .ok (.istore_n 3, 1) := by decide +kernel
theorem dX6_hang_66 : decode cX6_hang 66 = .ok (.aload_n 0, 1) := by decide +kernel
theorem dX6_hang_67 : decode cX6_hang 67 = .ok (.iload_n 1, 1) := by decide +kernel
theorem dX6_hang_68 : decode cX6_hang 68 = .ok (.iconst 5, 1) := by decide +kernel
theorem dX6_hang_69 : decode cX6_hang 69 = .ok (.iload_n 2, 1) := by decide +kernel
theorem dX6_hang_70 : decode cX6_hang 70 = .ok (.invokevirtual 70, 3) := by decide +kernel
theorem dX6_hang_73 : decode cX6_hang 73 = .ok (.iload_n 3, 1) := by decide +kernel
theorem dX6_hang_74 : decode cX6_hang 74 = .ok (.ireturn, 1) := by decide +kernel
theorem dX6_layAside_0 : decode cX6_layAside 0 = .ok (.aload_n 0, 1) := by decide +kernel
theorem dX6_layAside_1 : decode cX6_layAside 1 = .ok (.iconst 0, 1) := by decide +kernel
theorem dX6_layAside_2 : decode cX6_layAside 2 = .ok (.putfield 30, 3) := by decide +kernel
theorem dX6_layAside_5 : decode cX6_layAside 5 = .ok (.aload_n 0, 1) := by decide +kernel
theorem dX6_layAside_6 : decode cX6_layAside 6 = .ok (.iload_n 1, 1) := by decide +kernel
theorem dX6_layAside_7 : decode cX6_layAside 7 = .ok (.invokevirtual 63, 3) := by decide +kernel
theorem dX6_layAside_10 : decode cX6_layAside 10 = .ok (.ifCond .ne 9, 3) := by decide +kernel
theorem dX6_layAside_13 : decode cX6_layAside 13 = .ok (.aload_n 0, 1) := by decide +kernel
theorem dX6_layAside_14 : decode cX6_layAside 14 = .ok (.iconst 1, 1) := by decide +kernel
theorem dX6_layAside_15 : decode cX6_layAside 15 = .ok (.invokevirtual 40, 3) := by decide +kernel
theorem dX6_layAside_18 : decode cX6_layAside 18 = .ok (.ireturn, 1) := by decide +kernel
theorem dX6_layAside_19 : decode cX6_layAside 19 = .ok (.aload_n 0, 1) := by decide +kernel
theorem dX6_layAside_20 : decode cX6_layAside 20 = .ok (.iload_n 1, 1) := by decide +kernel
theorem dX6_layAside_21 : decode cX6_layAside 21 = .ok (.iconst 5, 1) := by decide +kernel
theorem dX6_layAside_22 : decode cX6_layAside 22 = .ok (.invokevirtual 59, 3) := by decide +kernel
theorem dX6_layAside_25 : decode cX6_layAside 25 = .ok (.istore_n 2, 1) := by decide +kernel
theorem dX6_layAside_26 : decode cX6_layAside 26 = .ok (.iload_n 2, 1) := by decide +kernel
theorem dX6_layAside_27 : decode cX6_layAside 27 = .ok (.iconst (-1), 1) := by decide +kernel
theorem dX6_layAside_28 : decode cX6_layAside 28 = .ok (.if_icmp .ne 9, 3) := by decide +kernel
theorem dX6_layAside_31 : decode cX6_layAside 31 = .ok (.aload_n 0, 1) := by decide +kernel
theorem dX6_layAside_32 : decode cX6_layAside 32 = .ok (.iconst 2, 1) := by decide +kernel
theorem dX6_layAside_33 : decode cX6_layAside 33 = .ok (.invokevirtual 40, 3) := by decide +kernel
theorem dX6_layAside_36 : decode cX6_layAside 36 = .ok (.ireturn, 1) := by decide +kernel
theorem dX6_layAside_37 : decode cX6_layAside 37 = .ok (.aload_n 0, 1) := by decide +kernel
theorem dX6_layAside_38 : decode cX6_layAside 38 = .ok (.iload_n 1, 1) := by decide +kernel
theorem dX6_layAside_39 : decode cX6_layAside 39 = .ok (.iconst 5, 1) := by decide +kernel
theorem dX6_layAside_40 : decode cX6_layAside 40 = .ok (.iconst (-1), 1) := by decide +kernel
theorem dX6_layAside_41 : decode cX6_layAside 41 = .ok (.invokevirtual 70, 3) := by decide +kernel
theorem dX6_layAside_44 : decode cX6_layAside 44 = .ok (.iload_n 2, 1) := by decide +kernel
theorem dX6_layAside_45 : decode cX6_layAside 45 = .ok (.ireturn, 1) := by decide +kernel
theorem dX6_take_0 : decode cX6_take 0 = .ok (.aload_n 0, 1) := by decide +kernel
theorem dX6_take_1 : decode cX6_take 1 = .ok (.getfield 23, 3) := by decide +kernel
theorem dX6_take_4 : decode cX6_take 4 = .ok (.iconst 0, 1) := by decide +kernel
theorem dX6_take_5 : decode cX6_take 5 = .ok (.aload_n 0, 1) := by decide +kernel
theorem dX6_take_6 : decode cX6_take 6 = .ok (.getfield 44, 3) := by decide +kernel
theorem dX6_take_9 : decode cX6_take 9 = .ok (.iastore, 1) := by decide +kernel
theorem dX6_take_10 : decode cX6_take 10 = .ok (.aload_n 0, 1) := by decide +kernel
theorem dX6_take_11 : decode cX6_take 11 = .ok (.getfield 23, 3) := by decide +kernel
theorem dX6_take_14 : decode cX6_take 14 = .ok (.iconst 1, 1) := by decide +kernel
theorem dX6_take_15 : decode cX6_take 15 = .ok (.aload_n 0, 1) := by decide +kernel
theorem dX6_take_16 : decode cX6_take 16 = .ok (.getfield 7, 3) := by decide +kernel
theorem dX6_take_19 : decode cX6_take 19 = .ok (.iastore, 1) := by decide +kernel
theorem dX6_take_20 : decode cX6_take 20 = .ok (.aload_n 0, 1) := by decide +kernel
theorem dX6_take_21 : decode cX6_take 21 = .ok (.getfield 23, 3) := by decide +kernel
theorem dX6_take_24 : decode cX6_take 24 = .ok (.iconst 2, 1) := by decide +kernel
theorem dX6_take_25 : decode cX6_take 25 = .ok (.aload_n 0, 1) := by decide +kernel
theorem dX6_take_26 : decode cX6_take 26 = .ok (.iload_n 1, 1) := by decide +kernel
theorem dX6_take_27 : decode cX6_take 27 = .ok (.iconst 2, 1) := by decide +kernel
theorem dX6_take_28 : decode cX6_take 28 = .ok (.invokevirtual 59, 3) := by decide +kernel
theorem dX6_take_31 : decode cX6_take 31 = .ok (.iastore, 1) := by decide +kernel
theorem dX6_take_32 : decode cX6_take 32 = .ok (.aload_n 0, 1) := by decide +kernel
theorem dX6_take_33 : decode cX6_take 33 = .ok (.getfield 23, 3) := by decide +kernel
theorem dX6_take_36 : decode cX6_take 36 = .ok (.iconst 3, 1) := by decide +kernel
theorem dX6_take_37 : decode cX6_take 37 = .ok (.aload_n 0, 1) := by decide +kernel
theorem dX6_take_38 : decode cX6_take 38 = .ok (.iload_n 1, 1) := by decide +kernel
theorem dX6_take_39 : decode cX6_take 39 = .ok (.iconst 3, 1) := by decide +kernel
theorem dX6_take_40 : decode cX6_take 40 = .ok (.invokevirtual 59, 3) := by decide +kernel
theorem dX6_take_43 : decode cX6_take 43 = .ok (.iastore, 1) := by decide +kernel
theorem dX6_take_44 : decode cX6_take 44 = .ok (.aload_n 0, 1) := by decide +kernel
theorem dX6_take_45 : decode cX6_take 45 = .ok (.getfield 23, 3) := by decide +kernel
theorem dX6_take_48 : decode cX6_take 48 = .ok (.iconst 4, 1) := by decide +kernel
theorem dX6_take_49 : decode cX6_take 49 = .ok (.aload_n 0, 1) := by decide +kernel
theorem dX6_take_50 : decode cX6_take 50 = .ok (.iload_n 1, 1) := by decide +kernel
theorem dX6_take_51 : decode cX6_take 51 = .ok (.iconst 4, 1) := by decide +kernel
theorem dX6_take_52 : decode cX6_take 52 = .ok (.invokevirtual 59, 3) := by decide +kernel
theorem dX6_take_55 : decode cX6_take 55 = .ok (.iastore, 1) := by decide +kernel
theorem dX6_take_56 : decode cX6_take 56 = .ok (.return_, 1) := by decide +kernel
theorem dX6_grows_0 : decode cX6_grows 0 = .ok (.aload_n 0, 1) := by decide +kernel
theorem dX6_grows_1 : decode cX6_grows 1 = .ok (.getfield 23, 3) := by decide +kernel
theorem dX6_grows_4 : decode cX6_grows 4 = .ok (.iconst 3, 1) := by decide +kernel
theorem dX6_grows_5 : decode cX6_grows 5 = .ok (.iaload, 1) := by decide +kernel
theorem dX6_grows_6 : decode cX6_grows 6 = .ok (.bipush 70, 2) := by decide +kernel
theorem dX6_grows_8 : decode cX6_grows 8 = .ok (.if_icmp .le 25, 3) := by decide +kernel
theorem dX6_grows_11 : decode cX6_grows 11 = .ok (.aload_n 0, 1) := by decide +kernel
theorem dX6_grows_12 : decode cX6_grows 12 = .ok (.getfield 23, 3) := by decide +kernel
theorem dX6_grows_15 : decode cX6_grows 15 = .ok (.iconst 2, 1) := by decide +kernel
theorem dX6_grows_16 : decode cX6_grows 16 = .ok (.iaload, 1) := by decide +kernel
theorem dX6_grows_17 : decode cX6_grows 17 = .ok (.aload_n 0, 1) := by decide +kernel
theorem dX6_grows_18 : decode cX6_grows 18 = .ok (.getfield 23, 3) := by decide +kernel
theorem dX6_grows_21 : decode cX6_grows 21 = .ok (.iconst 1, 1) := by decide +kernel
theorem dX6_grows_22 : decode cX6_grows 22 = .ok (.iaload, 1) := by decide +kernel
theorem dX6_grows_23 : decode cX6_grows 23 = .ok (.bipush 55, 2) := by decide +kernel
theorem dX6_grows_25 : decode cX6_grows 25 = .ok (.isub, 1) := by decide +kernel
theorem dX6_grows_26 : decode cX6_grows 26 = .ok (.iconst 5, 1) := by decide +kernel
theorem dX6_grows_27 : decode cX6_grows 27 = .ok (.idiv, 1) := by decide +kernel
theorem dX6_grows_28 : decode cX6_grows 28 = .ok (.invokestatic 74, 3) := by decide +kernel
theorem dX6_grows_31 : decode cX6_grows 31 = .ok (.ineg, 1) := by decide +kernel
theorem dX6_grows_32 : decode cX6_grows 32 = .ok (.ireturn, 1) := by decide +kernel
theorem dX6_grows_33 : decode cX6_grows 33 = .ok (.bipush 12, 2) := by decide +kernel
theorem dX6_grows_35 : decode cX6_grows 35 = .ok (.aload_n 0, 1) := by decide +kernel
theorem dX6_grows_36 : decode cX6_grows 36 = .ok (.getfield 23, 3) := by decide +kernel
theorem dX6_grows_39 : decode cX6_grows 39 = .ok (.iconst 1, 1) := by decide +kernel
theorem dX6_grows_40 : decode cX6_grows 40 = .ok (.iaload, 1) := by decide +kernel
theorem dX6_grows_41 : decode cX6_grows 41 = .ok (.bipush 60, 2) := by decide +kernel
theorem dX6_grows_43 : decode cX6_grows 43 = .ok (.isub, 1) := by decide +kernel
theorem dX6_grows_44 : decode cX6_grows 44 = .ok (.bipush 8, 2) := by decide +kernel
theorem dX6_grows_46 : decode cX6_grows 46 = .ok (.idiv, 1) := by decide +kernel
theorem dX6_grows_47 : decode cX6_grows 47 = .ok (.isub, 1) := by decide +kernel
theorem dX6_grows_48 : decode cX6_grows 48 = .ok (.aload_n 0, 1) := by decide +kernel
theorem dX6_grows_49 : decode cX6_grows 49 = .ok (.getfield 23, 3) := by decide +kernel
theorem dX6_grows_52 : decode cX6_grows 52 = .ok (.iconst 2, 1) := by decide +kernel
theorem dX6_grows_53 : decode cX6_grows 53 = .ok (.iaload, 1) := by decide +kernel
theorem dX6_grows_54 : decode cX6_grows 54 = .ok (.ifCond .ne 7, 3) := by decide +kernel
theorem dX6_grows_57 : decode cX6_grows 57 = .ok (.iconst 4, 1) := by decide +kernel
theorem dX6_grows_58 : decode cX6_grows 58 = .ok (.goto 4, 3) := by decide +kernel
theorem dX6_grows_61 : decode cX6_grows 61 = .ok (.iconst 0, 1) := by decide +kernel
theorem dX6_grows_62 : decode cX6_grows 62 = .ok (.iadd, 1) := by decide +kernel
theorem dX6_grows_63 : decode cX6_grows 63 = .ok (.aload_n 0, 1) := by decide +kernel
theorem dX6_grows_64 : decode cX6_grows 64 = .ok (.iload_n 1, 1) := by decide +kernel
theorem dX6_grows_65 : decode cX6_grows 65 = .ok (.iconst 0, 1) := by decide +kernel
theorem dX6_grows_66 : decode cX6_grows 66 = .ok (.invokevirtual 59, 3) := by decide +kernel
theorem dX6_grows_69 : decode cX6_grows 69 = .ok (.iconst 3, 1) := by decide +kernel
theorem dX6_grows_70 : decode cX6_grows 70 = .ok (.if_icmp .ne 7, 3) := by decide +kernel
theorem dX6_grows_73 : decode cX6_grows 73 = .ok (.iconst 3, 1) := by decide +kernel
theorem dX6_grows_74 : decode cX6_grows 74 = .ok (.goto 4, 3) := by decide +kernel
theorem dX6_grows_77 : decode cX6_grows 77 = .ok (.iconst 0, 1) := by decide +kernel
theorem dX6_grows_78 : decode cX6_grows 78 = .ok (.isub, 1) := by decide +kernel
theorem dX6_grows_79 : decode cX6_grows 79 = .ok (.istore_n 2, 1) := by decide +kernel
theorem dX6_grows_80 : decode cX6_grows 80 = .ok (.iload_n 2, 1) := by decide +kernel
theorem dX6_grows_81 : decode cX6_grows 81 = .ok (.sipush 400, 3) := by decide +kernel
theorem dX6_grows_84 : decode cX6_grows 84 = .ok (.aload_n 0, 1) := by decide +kernel
theorem dX6_grows_85 : decode cX6_grows 85 = .ok (.getfield 23, 3) := by decide +kernel
theorem dX6_grows_88 : decode cX6_grows 88 = .ok (.iconst 2, 1) := by decide +kernel
theorem dX6_grows_89 : decode cX6_grows 89 = .ok (.iaload, 1) := by decide +kernel
theorem dX6_grows_90 : decode cX6_grows 90 = .ok (.isub, 1) := by decide +kernel
theorem dX6_grows_91 : decode cX6_grows 91 = .ok (.invokestatic 74, 3) := by decide +kernel
theorem dX6_grows_94 : decode cX6_grows 94 = .ok (.ireturn, 1) := by decide +kernel
theorem dX6_waxOf_0 : decode cX6_waxOf 0 = .ok (.iload_n 2, 1) := by decide +kernel
theorem dX6_waxOf_1 : decode cX6_waxOf 1 = .ok (.bipush 8, 2) := by decide +kernel
theorem dX6_waxOf_3 : decode cX6_waxOf 3 = .ok (.aload_n 0, 1) := by decide +kernel
theorem dX6_waxOf_4 : decode cX6_waxOf 4 = .ok (.iload_n 1, 1) := by decide +kernel
theorem dX6_waxOf_5 : decode cX6_waxOf 5 = .ok (.iconst 0, 1) := by decide +kernel
theorem dX6_waxOf_6 : decode cX6_waxOf 6 = .ok (.invokevirtual 59, 3) := by decide +kernel
theorem dX6_waxOf_9 : decode cX6_waxOf 9 = .ok (.iadd, 1) := by decide +kernel
theorem dX6_waxOf_10 : decode cX6_waxOf 10 = .ok (.imul, 1) := by decide +kernel
theorem dX6_waxOf_11 : decode cX6_waxOf 11 = .ok (.aload_n 0, 1) := by decide +kernel
theorem dX6_waxOf_12 : decode cX6_waxOf 12 = .ok (.iload_n 1, 1) := by decide +kernel
theorem dX6_waxOf_13 : decode cX6_waxOf 13 = .ok (.iconst 1, 1) := by decide +kernel
theorem dX6_waxOf_14 : decode cX6_waxOf 14 = .ok (.invokevirtual 59, 3) := by decide +kernel
theorem dX6_waxOf_17 : decode cX6_waxOf 17 = .ok (.imul, 1) := by decide +kernel
theorem dX6_waxOf_18 : decode cX6_waxOf 18 = .ok (.bipush 10, 2) := by decide +kernel
theorem dX6_waxOf_20 : decode cX6_waxOf 20 = .ok (.idiv, 1) := by decide +kernel
theorem dX6_waxOf_21 : decode cX6_waxOf 21 = .ok (.ireturn, 1) := by decide +kernel
theorem dX6_can_0 : decode cX6_can 0 = .ok (.aload_n 0, 1) := by decide +kernel
theorem dX6_can_1 : decode cX6_can 1 = .ok (.getfield 23, 3) := by decide +kernel
theorem dX6_can_4 : decode cX6_can 4 = .ok (.iconst 1, 1) := by decide +kernel
theorem dX6_can_5 : decode cX6_can 5 = .ok (.iaload, 1) := by decide +kernel
theorem dX6_can_6 : decode cX6_can 6 = .ok (.bipush 60, 2) := by decide +kernel
theorem dX6_can_8 : decode cX6_can 8 = .ok (.if_icmp .lt 37, 3) := by decide +kernel
theorem dX6_can_11 : decode cX6_can 11 = .ok (.aload_n 0, 1) := by decide +kernel
theorem dX6_can_12 : decode cX6_can 12 = .ok (.getfield 23, 3) := by decide +kernel
theorem dX6_can_15 : decode cX6_can 15 = .ok (.iconst 3, 1) := by decide +kernel
theorem dX6_can_16 : decode cX6_can 16 = .ok (.iaload, 1) := by decide +kernel
theorem dX6_can_17 : decode cX6_can 17 = .ok (.bipush 70, 2) := by decide +kernel
theorem dX6_can_19 : decode cX6_can 19 = .ok (.if_icmp .gt 22, 3) := by decide +kernel
theorem dX6_can_22 : decode cX6_can 22 = .ok (.aload_n 0, 1) := by decide +kernel
theorem dX6_can_23 : decode cX6_can 23 = .ok (.iload_n 1, 1) := by decide +kernel
theorem dX6_can_24 : decode cX6_can 24 = .ok (.aload_n 0, 1) := by decide +kernel
theorem dX6_can_25 : decode cX6_can 25 = .ok (.iload_n 1, 1) := by decide +kernel
theorem dX6_can_26 : decode cX6_can 26 = .ok (.invokevirtual 79, 3) := by decide +kernel
theorem dX6_can_29 : decode cX6_can 29 = .ok (.invokevirtual 82, 3) := by decide +kernel
theorem dX6_can_32 : decode cX6_can 32 = .ok (.aload_n 0, 1) := by decide +kernel
theorem dX6_can_33 : decode cX6_can 33 = .ok (.getfield 23, 3) := by decide +kernel
theorem dX6_can_36 : decode cX6_can 36 = .ok (.iconst 0, 1) := by decide +kernel
theorem dX6_can_37 : decode cX6_can 37 = .ok (.iaload, 1) := by decide +kernel
theorem dX6_can_38 : decode cX6_can 38 = .ok (.if_icmp .gt 7, 3) := by decide +kernel
theorem dX6_can_41 : decode cX6_can 41 = .ok (.iconst 1, 1) := by decide +kernel
theorem dX6_can_42 : decode cX6_can 42 = .ok (.goto 4, 3) := by decide +kernel
theorem dX6_can_45 : decode cX6_can 45 = .ok (.iconst 0, 1) := by decide +kernel
theorem dX6_can_46 : decode cX6_can 46 = .ok (.ireturn, 1) := by decide +kernel
theorem dX6_dipIt_0 : decode cX6_dipIt 0 = .ok (.aload_n 0, 1) := by decide +kernel
theorem dX6_dipIt_1 : decode cX6_dipIt 1 = .ok (.iload_n 1, 1) := by decide +kernel
theorem dX6_dipIt_2 : decode cX6_dipIt 2 = .ok (.invokevirtual 79, 3) := by decide +kernel
theorem dX6_dipIt_5 : decode cX6_dipIt 5 = .ok (.istore_n 2, 1) := by decide +kernel
theorem dX6_dipIt_6 : decode cX6_dipIt 6 = .ok (.aload_n 0, 1) := by decide +kernel
theorem dX6_dipIt_7 : decode cX6_dipIt 7 = .ok (.getfield 23, 3) := by decide +kernel
theorem dX6_dipIt_10 : decode cX6_dipIt 10 = .ok (.iconst 3, 1) := by decide +kernel
theorem dX6_dipIt_11 : decode cX6_dipIt 11 = .ok (.iaload, 1) := by decide +kernel
theorem dX6_dipIt_12 : decode cX6_dipIt 12 = .ok (.bipush 70, 2) := by decide +kernel
theorem dX6_dipIt_14 : decode cX6_dipIt 14 = .ok (.if_icmp .le 38, 3) := by decide +kernel
theorem dX6_dipIt_17 : decode cX6_dipIt 17 = .ok (.aload_n 0, 1) := by decide +kernel
theorem dX6_dipIt_18 : decode cX6_dipIt 18 = .ok (.getfield 23, 3) := by decide +kernel
theorem dX6_dipIt_21 : decode cX6_dipIt 21 = .ok (.iconst 2, 1) := by decide +kernel
theorem dX6_dipIt_22 : decode cX6_dipIt 22 = .ok (.dup2, 1) := by decide +kernel
theorem dX6_dipIt_23 : decode cX6_dipIt 23 = .ok (.iaload, 1) := by decide +kernel
theorem dX6_dipIt_24 : decode cX6_dipIt 24 = .ok (.iload_n 2, 1) := by decide +kernel
theorem dX6_dipIt_25 : decode cX6_dipIt 25 = .ok (.iadd, 1) := by decide +kernel
theorem dX6_dipIt_26 : decode cX6_dipIt 26 = .ok (.iastore, 1) := by decide +kernel
theorem dX6_dipIt_27 : decode cX6_dipIt 27 = .ok (.aload_n 0, 1) := by decide +kernel
theorem dX6_dipIt_28 : decode cX6_dipIt 28 = .ok (.getfield 23, 3) := by decide +kernel
theorem dX6_dipIt_31 : decode cX6_dipIt 31 = .ok (.iconst 2, 1) := by decide +kernel
theorem dX6_dipIt_32 : decode cX6_dipIt 32 = .ok (.iaload, 1) := by decide +kernel
theorem dX6_dipIt_33 : decode cX6_dipIt 33 = .ok (.ifCond .ne 10, 3) := by decide +kernel
theorem dX6_dipIt_36 : decode cX6_dipIt 36 = .ok (.aload_n 0, 1) := by decide +kernel
theorem dX6_dipIt_37 : decode cX6_dipIt 37 = .ok (.getfield 23, 3) := by decide +kernel
theorem dX6_dipIt_40 : decode cX6_dipIt 40 = .ok (.iconst 4, 1) := by decide +kernel
theorem dX6_dipIt_41 : decode cX6_dipIt 41 = .ok (.iconst 0, 1) := by decide +kernel
theorem dX6_dipIt_42 : decode cX6_dipIt 42 = .ok (.iastore, 1) := by decide +kernel
theorem dX6_dipIt_43 : decode cX6_dipIt 43 = .ok (.aload_n 0, 1) := by decide +kernel
theorem dX6_dipIt_44 : decode cX6_dipIt 44 = .ok (.getfield 23, 3) := by decide +kernel
theorem dX6_dipIt_47 : decode cX6_dipIt 47 = .ok (.iconst 3, 1) := by decide +kernel
theorem dX6_dipIt_48 : decode cX6_dipIt 48 = .ok (.bipush 100, 2) := by decide +kernel
theorem dX6_dipIt_50 : decode cX6_dipIt 50 = .ok (.iastore, 1) := by decide +kernel
theorem dX6_dipIt_51 : decode cX6_dipIt 51 = .ok (.return_, 1) := by decide +kernel
theorem dX6_dipIt_52 : decode cX6_dipIt 52 = .ok (.aload_n 0, 1) := by decide +kernel
theorem dX6_dipIt_53 : decode cX6_dipIt 53 = .ok (.getfield 23, 3) := by decide +kernel
theorem dX6_dipIt_56 : decode cX6_dipIt 56 = .ok (.iconst 2, 1) := by decide +kernel
theorem dX6_dipIt_57 : decode cX6_dipIt 57 = .ok (.iaload, 1) := by decide +kernel
theorem dX6_dipIt_58 : decode cX6_dipIt 58 = .ok (.ifCond .le 21, 3) := by decide +kernel
theorem dX6_dipIt_61 : decode cX6_dipIt 61 = .ok (.aload_n 0, 1) := by decide +kernel
theorem dX6_dipIt_62 : decode cX6_dipIt 62 = .ok (.getfield 23, 3) := by decide +kernel
theorem dX6_dipIt_65 : decode cX6_dipIt 65 = .ok (.iconst 3, 1) := by decide +kernel
theorem dX6_dipIt_66 : decode cX6_dipIt 66 = .ok (.iaload, 1) := by decide +kernel
theorem dX6_dipIt_67 : decode cX6_dipIt 67 = .ok (.bipush 10, 2) := by decide +kernel
theorem dX6_dipIt_69 : decode cX6_dipIt 69 = .ok (.if_icmp .ge 10, 3) := by decide +kernel
theorem dX6_dipIt_72 : decode cX6_dipIt 72 = .ok (.aload_n 0, 1) := by decide +kernel
theorem dX6_dipIt_73 : decode cX6_dipIt 73 = .ok (.getfield 23, 3) := by decide +kernel
theorem dX6_dipIt_76 : decode cX6_dipIt 76 = .ok (.iconst 4, 1) := by decide +kernel
theorem dX6_dipIt_77 : decode cX6_dipIt 77 = .ok (.iconst 1, 1) := by decide +kernel
theorem dX6_dipIt_78 : decode cX6_dipIt 78 = .ok (.iastore, 1) := by decide +kernel
theorem dX6_dipIt_79 : decode cX6_dipIt 79 = .ok (.aload_n 0, 1) := by decide +kernel
theorem dX6_dipIt_80 : decode cX6_dipIt 80 = .ok (.getfield 23, 3) := by decide +kernel
theorem dX6_dipIt_83 : decode cX6_dipIt 83 = .ok (.iconst 0, 1) := by decide +kernel
theorem dX6_dipIt_84 : decode cX6_dipIt 84 = .ok (.dup2, 1) := by decide +kernel
theorem dX6_dipIt_85 : decode cX6_dipIt 85 = .ok (.iaload, 1) := by decide +kernel
theorem dX6_dipIt_86 : decode cX6_dipIt 86 = .ok (.aload_n 0, 1) := by decide +kernel
theorem dX6_dipIt_87 : decode cX6_dipIt 87 = .ok (.iload_n 1, 1) := by decide +kernel
theorem dX6_dipIt_88 : decode cX6_dipIt 88 = .ok (.iload_n 2, 1) := by decide +kernel
theorem dX6_dipIt_89 : decode cX6_dipIt 89 = .ok (.invokevirtual 82, 3) := by decide +kernel
theorem dX6_dipIt_92 : decode cX6_dipIt 92 = .ok (.isub, 1) := by decide +kernel
theorem dX6_dipIt_93 : decode cX6_dipIt 93 = .ok (.iastore, 1) := by decide +kernel
theorem dX6_dipIt_94 : decode cX6_dipIt 94 = .ok (.aload_n 0, 1) := by decide +kernel
theorem dX6_dipIt_95 : decode cX6_dipIt 95 = .ok (.getfield 23, 3) := by decide +kernel
theorem dX6_dipIt_98 : decode cX6_dipIt 98 = .ok (.iconst 2, 1) := by decide +kernel
theorem dX6_dipIt_99 : decode cX6_dipIt 99 = .ok (.dup2, 1) := by decide +kernel
theorem dX6_dipIt_100 : decode cX6_dipIt 100 = .ok (.iaload, 1) := by decide +kernel
theorem dX6_dipIt_101 : decode cX6_dipIt 101 = .ok (.iload_n 2, 1) := by decide +kernel
theorem dX6_dipIt_102 : decode cX6_dipIt 102 = .ok (.iadd, 1) := by decide +kernel
theorem dX6_dipIt_103 : decode cX6_dipIt 103 = .ok (.iastore, 1) := by decide +kernel
theorem dX6_dipIt_104 : decode cX6_dipIt 104 = .ok (.aload_n 0, 1) := by decide +kernel
theorem dX6_dipIt_105 : decode cX6_dipIt 105 = .ok (.getfield 23, 3) := by decide +kernel
theorem dX6_dipIt_108 : decode cX6_dipIt 108 = .ok (.iconst 3, 1) := by decide +kernel
theorem dX6_dipIt_109 : decode cX6_dipIt 109 = .ok (.bipush 100, 2) := by decide +kernel
theorem dX6_dipIt_111 : decode cX6_dipIt 111 = .ok (.aload_n 0, 1) := by decide +kernel
theorem dX6_dipIt_112 : decode cX6_dipIt 112 = .ok (.getfield 23, 3) := by decide +kernel
theorem dX6_dipIt_115 : decode cX6_dipIt 115 = .ok (.iconst 3, 1) := by decide +kernel
theorem dX6_dipIt_116 : decode cX6_dipIt 116 = .ok (.iaload, 1) := by decide +kernel
theorem dX6_dipIt_117 : decode cX6_dipIt 117 = .ok (.aload_n 0, 1) := by decide +kernel
theorem dX6_dipIt_118 : decode cX6_dipIt 118 = .ok (.getfield 23, 3) := by decide +kernel
theorem dX6_dipIt_121 : decode cX6_dipIt 121 = .ok (.iconst 1, 1) := by decide +kernel
theorem dX6_dipIt_122 : decode cX6_dipIt 122 = .ok (.iaload, 1) := by decide +kernel
theorem dX6_dipIt_123 : decode cX6_dipIt 123 = .ok (.iadd, 1) := by decide +kernel
theorem dX6_dipIt_124 : decode cX6_dipIt 124 = .ok (.iconst 2, 1) := by decide +kernel
theorem dX6_dipIt_125 : decode cX6_dipIt 125 = .ok (.idiv, 1) := by decide +kernel
theorem dX6_dipIt_126 : decode cX6_dipIt 126 = .ok (.invokestatic 74, 3) := by decide +kernel
theorem dX6_dipIt_129 : decode cX6_dipIt 129 = .ok (.iastore, 1) := by decide +kernel
theorem dX6_dipIt_130 : decode cX6_dipIt 130 = .ok (.return_, 1) := by decide +kernel
theorem dX6_heatBehind_0 : decode cX6_heatBehind 0 = .ok (.iload_n 1, 1) := by decide +kernel
theorem dX6_heatBehind_1 : decode cX6_heatBehind 1 = .ok (.bipush 6, 2) := by decide +kernel
theorem dX6_heatBehind_3 : decode cX6_heatBehind 3 = .ok (.aload_n 0, 1) := by decide +kernel
theorem dX6_heatBehind_4 : decode cX6_heatBehind 4 = .ok (.getfield 47, 3) := by decide +kernel
theorem dX6_heatBehind_7 : decode cX6_heatBehind 7 = .ok (.imul, 1) := by decide +kernel
theorem dX6_heatBehind_8 : decode cX6_heatBehind 8 = .ok (.iadd, 1) := by decide +kernel
theorem dX6_heatBehind_9 : decode cX6_heatBehind 9 = .ok (.istore_n 2, 1) := by decide +kernel
theorem dX6_heatBehind_10 : decode cX6_heatBehind 10 = .ok (.iconst 0, 1) := by decide +kernel
theorem dX6_heatBehind_11 : decode cX6_heatBehind 11 = .ok (.bipush 120, 2) := by decide +kernel
theorem dX6_heatBehind_13 : decode cX6_heatBehind 13 = .ok (.iload_n 2, 1) := by decide +kernel
theorem dX6_heatBehind_14 : decode cX6_heatBehind 14 = .ok (.iload_n 2, 1) := by decide +kernel
theorem dX6_heatBehind_15 : decode cX6_heatBehind 15 = .ok (.bipush 20, 2) := by decide +kernel
theorem dX6_heatBehind_17 : decode cX6_heatBehind 17 = .ok (.isub, 1) := by decide +kernel
theorem dX6_heatBehind_18 : decode cX6_heatBehind 18 = .ok (.bipush 10, 2) := by decide +kernel
theorem dX6_heatBehind_20 : decode cX6_heatBehind 20 = .ok (.idiv, 1) := by decide +kernel
theorem dX6_heatBehind_21 : decode cX6_heatBehind 21 = .ok (.isub, 1) := by decide +kernel
theorem dX6_heatBehind_22 : decode cX6_heatBehind 22 = .ok (.invokestatic 74, 3) := by decide +kernel
theorem dX6_heatBehind_25 : decode cX6_heatBehind 25 = .ok (.invokestatic 85, 3) := by decide +kernel
theorem dX6_heatBehind_28 : decode cX6_heatBehind 28 = .ok (.ireturn, 1) := by decide +kernel
theorem dX6_cools_0 : decode cX6_cools 0 = .ok (.aload_n 0, 1) := by decide +kernel
theorem dX6_cools_1 : decode cX6_cools 1 = .ok (.iload_n 1, 1) := by decide +kernel
theorem dX6_cools_2 : decode cX6_cools 2 = .ok (.iconst 5, 1) := by decide +kernel
theorem dX6_cools_3 : decode cX6_cools 3 = .ok (.invokevirtual 59, 3) := by decide +kernel
theorem dX6_cools_6 : decode cX6_cools 6 = .ok (.iconst (-1), 1) := by decide +kernel
theorem dX6_cools_7 : decode cX6_cools 7 = .ok (.if_icmp .ne 7, 3) := by decide +kernel
theorem dX6_cools_10 : decode cX6_cools 10 = .ok (.iconst 3, 1) := by decide +kernel
theorem dX6_cools_11 : decode cX6_cools 11 = .ok (.goto 21, 3) := by decide +kernel
theorem dX6_cools_14 : decode cX6_cools 14 = .ok (.aload_n 0, 1) := by decide +kernel
theorem dX6_cools_15 : decode cX6_cools 15 = .ok (.iload_n 1, 1) := by decide +kernel
theorem dX6_cools_16 : decode cX6_cools 16 = .ok (.iconst 5, 1) := by decide +kernel
theorem dX6_cools_17 : decode cX6_cools 17 = .ok (.invokevirtual 59, 3) := by decide +kernel
theorem dX6_cools_20 : decode cX6_cools 20 = .ok (.bipush 6, 2) := by decide +kernel
theorem dX6_cools_22 : decode cX6_cools 22 = .ok (.if_icmp .ge 8, 3) := by decide +kernel
theorem dX6_cools_25 : decode cX6_cools 25 = .ok (.bipush 12, 2) := by decide +kernel
theorem dX6_cools_27 : decode cX6_cools 27 = .ok (.goto 5, 3) := by decide +kernel
theorem dX6_cools_30 : decode cX6_cools 30 = .ok (.bipush 6, 2) := by decide +kernel
theorem dX6_cools_32 : decode cX6_cools 32 = .ok (.ireturn, 1) := by decide +kernel
theorem dX6_quarterOn_0 : decode cX6_quarterOn 0 = .ok (.aload_n 0, 1) := by decide +kernel
theorem dX6_quarterOn_1 : decode cX6_quarterOn 1 = .ok (.aload_n 0, 1) := by decide +kernel
theorem dX6_quarterOn_2 : decode cX6_quarterOn 2 = .ok (.aload_n 0, 1) := by decide +kernel
theorem dX6_quarterOn_3 : decode cX6_quarterOn 3 = .ok (.getfield 7, 3) := by decide +kernel
theorem dX6_quarterOn_6 : decode cX6_quarterOn 6 = .ok (.invokevirtual 88, 3) := by decide +kernel
theorem dX6_quarterOn_9 : decode cX6_quarterOn 9 = .ok (.putfield 7, 3) := by decide +kernel
theorem dX6_quarterOn_12 : decode cX6_quarterOn 12 = .ok (.iconst 0, 1) := by decide +kernel
theorem dX6_quarterOn_13 : decode cX6_quarterOn 13 = .ok (.istore_n 2, 1) := by decide +kernel
end
section
theorem dX6_quarterOn_14 : decode cX6_quarterOn 14 = .ok (.iload_n 2, 1) := by decide +kernel
theorem dX6_quarterOn_15 : decode cX6_quarterOn 15 = .ok (.aload_n 0, 1) := by decide +kernel
theorem dX6_quarterOn_16 : decode cX6_quarterOn 16 = .ok (.getfield 33, 3) := by decide +kernel
theorem dX6_quarterOn_19 : decode cX6_quarterOn 19 = .ok (.if_icmp .ge 36, 3) := by decide +kernel
theorem dX6_quarterOn_22 : decode cX6_quarterOn 22 = .ok (.iload_n 2, 1) := by decide +kernel
theorem dX6_quarterOn_23 : decode cX6_quarterOn 23 = .ok (.iload_n 1, 1) := by decide +kernel
theorem dX6_quarterOn_24 : decode cX6_quarterOn 24 = .ok (.if_icmp .eq 25, 3) := by decide +kernel
theorem dX6_quarterOn_27 : decode cX6_quarterOn 27 = .ok (.aload_n 0, 1) := by decide +kernel
theorem dX6_quarterOn_28 : decode cX6_quarterOn 28 = .ok (.iload_n 2, 1) := by decide +kernel
theorem dX6_quarterOn_29 : decode cX6_quarterOn 29 = .ok (.iconst 3, 1) := by decide +kernel
theorem dX6_quarterOn_30 : decode cX6_quarterOn 30 = .ok (.iconst 0, 1) := by decide +kernel
theorem dX6_quarterOn_31 : decode cX6_quarterOn 31 = .ok (.aload_n 0, 1) := by decide +kernel
theorem dX6_quarterOn_32 : decode cX6_quarterOn 32 = .ok (.iload_n 2, 1) := by decide +kernel
theorem dX6_quarterOn_33 : decode cX6_quarterOn 33 = .ok (.iconst 3, 1) := by decide +kernel
theorem dX6_quarterOn_34 : decode cX6_quarterOn 34 = .ok (.invokevirtual 59, 3) := by decide +kernel
theorem dX6_quarterOn_37 : decode cX6_quarterOn 37 = .ok (.aload_n 0, 1) := by decide +kernel
theorem dX6_quarterOn_38 : decode cX6_quarterOn 38 = .ok (.iload_n 2, 1) := by decide +kernel
theorem dX6_quarterOn_39 : decode cX6_quarterOn 39 = .ok (.invokevirtual 91, 3) := by decide +kernel
theorem dX6_quarterOn_42 : decode cX6_quarterOn 42 = .ok (.isub, 1) := by decide +kernel
theorem dX6_quarterOn_43 : decode cX6_quarterOn 43 = .ok (.invokestatic 85, 3) := by decide +kernel
theorem dX6_quarterOn_46 : decode cX6_quarterOn 46 = .ok (.invokevirtual 70, 3) := by decide +kernel
theorem dX6_quarterOn_49 : decode cX6_quarterOn 49 = .ok (.iinc 2 1, 3) := by decide +kernel
theorem dX6_quarterOn_52 : decode cX6_quarterOn 52 = .ok (.goto (-38), 3) := by decide +kernel
theorem dX6_quarterOn_55 : decode cX6_quarterOn 55 = .ok (.aload_n 0, 1) := by decide +kernel
theorem dX6_quarterOn_56 : decode cX6_quarterOn 56 = .ok (.dup, 1) := by decide +kernel
theorem dX6_quarterOn_57 : decode cX6_quarterOn 57 = .ok (.getfield 94, 3) := by decide +kernel
theorem dX6_quarterOn_60 : decode cX6_quarterOn 60 = .ok (.iconst 1, 1) := by decide +kernel
theorem dX6_quarterOn_61 : decode cX6_quarterOn 61 = .ok (.iadd, 1) := by decide +kernel
theorem dX6_quarterOn_62 : decode cX6_quarterOn 62 = .ok (.putfield 94, 3) := by decide +kernel
theorem dX6_quarterOn_65 : decode cX6_quarterOn 65 = .ok (.aload_n 0, 1) := by decide +kernel
theorem dX6_quarterOn_66 : decode cX6_quarterOn 66 = .ok (.getfield 94, 3) := by decide +kernel
theorem dX6_quarterOn_69 : decode cX6_quarterOn 69 = .ok (.bipush 40, 2) := by decide +kernel
theorem dX6_quarterOn_71 : decode cX6_quarterOn 71 = .ok (.irem, 1) := by decide +kernel
theorem dX6_quarterOn_72 : decode cX6_quarterOn 72 = .ok (.ifCond .eq 4, 3) := by decide +kernel
theorem dX6_quarterOn_75 : decode cX6_quarterOn 75 = .ok (.return_, 1) := by decide +kernel
theorem dX6_quarterOn_76 : decode cX6_quarterOn 76 = .ok (.iconst 0, 1) := by decide +kernel
theorem dX6_quarterOn_77 : decode cX6_quarterOn 77 = .ok (.istore_n 2, 1) := by decide +kernel
theorem dX6_quarterOn_78 : decode cX6_quarterOn 78 = .ok (.iload_n 2, 1) := by decide +kernel
theorem dX6_quarterOn_79 : decode cX6_quarterOn 79 = .ok (.aload_n 0, 1) := by decide +kernel
theorem dX6_quarterOn_80 : decode cX6_quarterOn 80 = .ok (.getfield 97, 3) := by decide +kernel
theorem dX6_quarterOn_83 : decode cX6_quarterOn 83 = .ok (.if_icmp .ge 45, 3) := by decide +kernel
theorem dX6_quarterOn_86 : decode cX6_quarterOn 86 = .ok (.aload_n 0, 1) := by decide +kernel
theorem dX6_quarterOn_87 : decode cX6_quarterOn 87 = .ok (.iload_n 2, 1) := by decide +kernel
theorem dX6_quarterOn_88 : decode cX6_quarterOn 88 = .ok (.iconst 4, 1) := by decide +kernel
theorem dX6_quarterOn_89 : decode cX6_quarterOn 89 = .ok (.invokevirtual 100, 3) := by decide +kernel
theorem dX6_quarterOn_92 : decode cX6_quarterOn 92 = .ok (.ifCond .ne 30, 3) := by decide +kernel
theorem dX6_quarterOn_95 : decode cX6_quarterOn 95 = .ok (.aload_n 0, 1) := by decide +kernel
theorem dX6_quarterOn_96 : decode cX6_quarterOn 96 = .ok (.iload_n 2, 1) := by decide +kernel
theorem dX6_quarterOn_97 : decode cX6_quarterOn 97 = .ok (.iconst 3, 1) := by decide +kernel
theorem dX6_quarterOn_98 : decode cX6_quarterOn 98 = .ok (.invokevirtual 100, 3) := by decide +kernel
theorem dX6_quarterOn_101 : decode cX6_quarterOn 101 = .ok (.aload_n 0, 1) := by decide +kernel
theorem dX6_quarterOn_102 : decode cX6_quarterOn 102 = .ok (.getfield 94, 3) := by decide +kernel
theorem dX6_quarterOn_105 : decode cX6_quarterOn 105 = .ok (.bipush 40, 2) := by decide +kernel
theorem dX6_quarterOn_107 : decode cX6_quarterOn 107 = .ok (.idiv, 1) := by decide +kernel
theorem dX6_quarterOn_108 : decode cX6_quarterOn 108 = .ok (.if_icmp .ge 14, 3) := by decide +kernel
theorem dX6_quarterOn_111 : decode cX6_quarterOn 111 = .ok (.aload_n 0, 1) := by decide +kernel
theorem dX6_quarterOn_112 : decode cX6_quarterOn 112 = .ok (.getfield 20, 3) := by decide +kernel
theorem dX6_quarterOn_115 : decode cX6_quarterOn 115 = .ok (.iconst 5, 1) := by decide +kernel
theorem dX6_quarterOn_116 : decode cX6_quarterOn 116 = .ok (.iload_n 2, 1) := by decide +kernel
theorem dX6_quarterOn_117 : decode cX6_quarterOn 117 = .ok (.imul, 1) := by decide +kernel
theorem dX6_quarterOn_118 : decode cX6_quarterOn 118 = .ok (.iconst 4, 1) := by decide +kernel
theorem dX6_quarterOn_119 : decode cX6_quarterOn 119 = .ok (.iadd, 1) := by decide +kernel
theorem dX6_quarterOn_120 : decode cX6_quarterOn 120 = .ok (.iconst 2, 1) := by decide +kernel
theorem dX6_quarterOn_121 : decode cX6_quarterOn 121 = .ok (.iastore, 1) := by decide +kernel
theorem dX6_quarterOn_122 : decode cX6_quarterOn 122 = .ok (.iinc 2 1, 3) := by decide +kernel
theorem dX6_quarterOn_125 : decode cX6_quarterOn 125 = .ok (.goto (-47), 3) := by decide +kernel
theorem dX6_quarterOn_128 : decode cX6_quarterOn 128 = .ok (.return_, 1) := by decide +kernel
theorem dX6_hangs_0 : decode cX6_hangs 0 = .ok (.aload_n 0, 1) := by decide +kernel
theorem dX6_hangs_1 : decode cX6_hangs 1 = .ok (.iload_n 1, 1) := by decide +kernel
theorem dX6_hangs_2 : decode cX6_hangs 2 = .ok (.iconst 5, 1) := by decide +kernel
theorem dX6_hangs_3 : decode cX6_hangs 3 = .ok (.invokevirtual 59, 3) := by decide +kernel
theorem dX6_hangs_6 : decode cX6_hangs 6 = .ok (.iconst (-1), 1) := by decide +kernel
theorem dX6_hangs_7 : decode cX6_hangs 7 = .ok (.if_icmp .eq 7, 3) := by decide +kernel
theorem dX6_hangs_10 : decode cX6_hangs 10 = .ok (.iconst 1, 1) := by decide +kernel
theorem dX6_hangs_11 : decode cX6_hangs 11 = .ok (.goto 4, 3) := by decide +kernel
theorem dX6_hangs_14 : decode cX6_hangs 14 = .ok (.iconst 0, 1) := by decide +kernel
theorem dX6_hangs_15 : decode cX6_hangs 15 = .ok (.ireturn, 1) := by decide +kernel
theorem dX6_dip_0 : decode cX6_dip 0 = .ok (.aload_n 0, 1) := by decide +kernel
theorem dX6_dip_1 : decode cX6_dip 1 = .ok (.iconst 0, 1) := by decide +kernel
theorem dX6_dip_2 : decode cX6_dip 2 = .ok (.putfield 30, 3) := by decide +kernel
theorem dX6_dip_5 : decode cX6_dip 5 = .ok (.aload_n 0, 1) := by decide +kernel
theorem dX6_dip_6 : decode cX6_dip 6 = .ok (.iload_n 1, 1) := by decide +kernel
theorem dX6_dip_7 : decode cX6_dip 7 = .ok (.invokevirtual 63, 3) := by decide +kernel
theorem dX6_dip_10 : decode cX6_dip 10 = .ok (.ifCond .ne 9, 3) := by decide +kernel
theorem dX6_dip_13 : decode cX6_dip 13 = .ok (.aload_n 0, 1) := by decide +kernel
theorem dX6_dip_14 : decode cX6_dip 14 = .ok (.iconst 1, 1) := by decide +kernel
theorem dX6_dip_15 : decode cX6_dip 15 = .ok (.invokevirtual 40, 3) := by decide +kernel
theorem dX6_dip_18 : decode cX6_dip 18 = .ok (.ireturn, 1) := by decide +kernel
theorem dX6_dip_19 : decode cX6_dip 19 = .ok (.aload_n 0, 1) := by decide +kernel
theorem dX6_dip_20 : decode cX6_dip 20 = .ok (.iload_n 1, 1) := by decide +kernel
theorem dX6_dip_21 : decode cX6_dip 21 = .ok (.invokevirtual 103, 3) := by decide +kernel
theorem dX6_dip_24 : decode cX6_dip 24 = .ok (.aload_n 0, 1) := by decide +kernel
theorem dX6_dip_25 : decode cX6_dip 25 = .ok (.iload_n 1, 1) := by decide +kernel
theorem dX6_dip_26 : decode cX6_dip 26 = .ok (.invokevirtual 107, 3) := by decide +kernel
theorem dX6_dip_29 : decode cX6_dip 29 = .ok (.ifCond .eq 11, 3) := by decide +kernel
theorem dX6_dip_32 : decode cX6_dip 32 = .ok (.aload_n 0, 1) := by decide +kernel
theorem dX6_dip_33 : decode cX6_dip 33 = .ok (.iload_n 1, 1) := by decide +kernel
theorem dX6_dip_34 : decode cX6_dip 34 = .ok (.invokevirtual 110, 3) := by decide +kernel
theorem dX6_dip_37 : decode cX6_dip 37 = .ok (.ifCond .ne 9, 3) := by decide +kernel
theorem dX6_dip_40 : decode cX6_dip 40 = .ok (.aload_n 0, 1) := by decide +kernel
theorem dX6_dip_41 : decode cX6_dip 41 = .ok (.iconst 2, 1) := by decide +kernel
theorem dX6_dip_42 : decode cX6_dip 42 = .ok (.invokevirtual 40, 3) := by decide +kernel
theorem dX6_dip_45 : decode cX6_dip 45 = .ok (.ireturn, 1) := by decide +kernel
theorem dX6_dip_46 : decode cX6_dip 46 = .ok (.aload_n 0, 1) := by decide +kernel
theorem dX6_dip_47 : decode cX6_dip 47 = .ok (.iload_n 1, 1) := by decide +kernel
theorem dX6_dip_48 : decode cX6_dip 48 = .ok (.invokevirtual 113, 3) := by decide +kernel
theorem dX6_dip_51 : decode cX6_dip 51 = .ok (.aload_n 0, 1) := by decide +kernel
theorem dX6_dip_52 : decode cX6_dip 52 = .ok (.aload_n 0, 1) := by decide +kernel
theorem dX6_dip_53 : decode cX6_dip 53 = .ok (.getfield 23, 3) := by decide +kernel
theorem dX6_dip_56 : decode cX6_dip 56 = .ok (.iconst 0, 1) := by decide +kernel
theorem dX6_dip_57 : decode cX6_dip 57 = .ok (.iaload, 1) := by decide +kernel
theorem dX6_dip_58 : decode cX6_dip 58 = .ok (.putfield 44, 3) := by decide +kernel
theorem dX6_dip_61 : decode cX6_dip 61 = .ok (.aload_n 0, 1) := by decide +kernel
theorem dX6_dip_62 : decode cX6_dip 62 = .ok (.iload_n 1, 1) := by decide +kernel
theorem dX6_dip_63 : decode cX6_dip 63 = .ok (.iconst 2, 1) := by decide +kernel
theorem dX6_dip_64 : decode cX6_dip 64 = .ok (.aload_n 0, 1) := by decide +kernel
theorem dX6_dip_65 : decode cX6_dip 65 = .ok (.getfield 23, 3) := by decide +kernel
theorem dX6_dip_68 : decode cX6_dip 68 = .ok (.iconst 2, 1) := by decide +kernel
theorem dX6_dip_69 : decode cX6_dip 69 = .ok (.iaload, 1) := by decide +kernel
theorem dX6_dip_70 : decode cX6_dip 70 = .ok (.invokevirtual 70, 3) := by decide +kernel
theorem dX6_dip_73 : decode cX6_dip 73 = .ok (.aload_n 0, 1) := by decide +kernel
theorem dX6_dip_74 : decode cX6_dip 74 = .ok (.iload_n 1, 1) := by decide +kernel
theorem dX6_dip_75 : decode cX6_dip 75 = .ok (.iconst 3, 1) := by decide +kernel
theorem dX6_dip_76 : decode cX6_dip 76 = .ok (.aload_n 0, 1) := by decide +kernel
theorem dX6_dip_77 : decode cX6_dip 77 = .ok (.getfield 23, 3) := by decide +kernel
theorem dX6_dip_80 : decode cX6_dip 80 = .ok (.iconst 3, 1) := by decide +kernel
theorem dX6_dip_81 : decode cX6_dip 81 = .ok (.iaload, 1) := by decide +kernel
theorem dX6_dip_82 : decode cX6_dip 82 = .ok (.invokevirtual 70, 3) := by decide +kernel
theorem dX6_dip_85 : decode cX6_dip 85 = .ok (.aload_n 0, 1) := by decide +kernel
theorem dX6_dip_86 : decode cX6_dip 86 = .ok (.iload_n 1, 1) := by decide +kernel
theorem dX6_dip_87 : decode cX6_dip 87 = .ok (.iconst 4, 1) := by decide +kernel
theorem dX6_dip_88 : decode cX6_dip 88 = .ok (.aload_n 0, 1) := by decide +kernel
theorem dX6_dip_89 : decode cX6_dip 89 = .ok (.getfield 23, 3) := by decide +kernel
theorem dX6_dip_92 : decode cX6_dip 92 = .ok (.iconst 4, 1) := by decide +kernel
theorem dX6_dip_93 : decode cX6_dip 93 = .ok (.iaload, 1) := by decide +kernel
theorem dX6_dip_94 : decode cX6_dip 94 = .ok (.invokevirtual 70, 3) := by decide +kernel
theorem dX6_dip_97 : decode cX6_dip 97 = .ok (.aload_n 0, 1) := by decide +kernel
theorem dX6_dip_98 : decode cX6_dip 98 = .ok (.iload_n 1, 1) := by decide +kernel
theorem dX6_dip_99 : decode cX6_dip 99 = .ok (.bipush 6, 2) := by decide +kernel
theorem dX6_dip_101 : decode cX6_dip 101 = .ok (.aload_n 0, 1) := by decide +kernel
theorem dX6_dip_102 : decode cX6_dip 102 = .ok (.iload_n 1, 1) := by decide +kernel
theorem dX6_dip_103 : decode cX6_dip 103 = .ok (.bipush 6, 2) := by decide +kernel
theorem dX6_dip_105 : decode cX6_dip 105 = .ok (.invokevirtual 59, 3) := by decide +kernel
theorem dX6_dip_108 : decode cX6_dip 108 = .ok (.iconst 1, 1) := by decide +kernel
theorem dX6_dip_109 : decode cX6_dip 109 = .ok (.iadd, 1) := by decide +kernel
theorem dX6_dip_110 : decode cX6_dip 110 = .ok (.invokevirtual 70, 3) := by decide +kernel
theorem dX6_dip_113 : decode cX6_dip 113 = .ok (.aload_n 0, 1) := by decide +kernel
theorem dX6_dip_114 : decode cX6_dip 114 = .ok (.dup, 1) := by decide +kernel
theorem dX6_dip_115 : decode cX6_dip 115 = .ok (.getfield 116, 3) := by decide +kernel
theorem dX6_dip_118 : decode cX6_dip 118 = .ok (.iconst 1, 1) := by decide +kernel
theorem dX6_dip_119 : decode cX6_dip 119 = .ok (.iadd, 1) := by decide +kernel
theorem dX6_dip_120 : decode cX6_dip 120 = .ok (.putfield 116, 3) := by decide +kernel
theorem dX6_dip_123 : decode cX6_dip 123 = .ok (.aload_n 0, 1) := by decide +kernel
theorem dX6_dip_124 : decode cX6_dip 124 = .ok (.iload_n 1, 1) := by decide +kernel
theorem dX6_dip_125 : decode cX6_dip 125 = .ok (.invokevirtual 119, 3) := by decide +kernel
theorem dX6_dip_128 : decode cX6_dip 128 = .ok (.aload_n 0, 1) := by decide +kernel
theorem dX6_dip_129 : decode cX6_dip 129 = .ok (.iload_n 1, 1) := by decide +kernel
theorem dX6_dip_130 : decode cX6_dip 130 = .ok (.iconst 2, 1) := by decide +kernel
theorem dX6_dip_131 : decode cX6_dip 131 = .ok (.invokevirtual 59, 3) := by decide +kernel
theorem dX6_dip_134 : decode cX6_dip 134 = .ok (.ireturn, 1) := by decide +kernel
theorem dX6_size_0 : decode cX6_size 0 = .ok (.bipush 9, 2) := by decide +kernel
theorem dX6_size_2 : decode cX6_size 2 = .ok (.iload_n 0, 1) := by decide +kernel
theorem dX6_size_3 : decode cX6_size 3 = .ok (.iload_n 1, 1) := by decide +kernel
theorem dX6_size_4 : decode cX6_size 4 = .ok (.iconst 1, 1) := by decide +kernel
theorem dX6_size_5 : decode cX6_size 5 = .ok (.if_icmp .ne 8, 3) := by decide +kernel
theorem dX6_size_8 : decode cX6_size 8 = .ok (.bipush 80, 2) := by decide +kernel
theorem dX6_size_10 : decode cX6_size 10 = .ok (.goto 5, 3) := by decide +kernel
theorem dX6_size_13 : decode cX6_size 13 = .ok (.bipush 40, 2) := by decide +kernel
theorem dX6_size_15 : decode cX6_size 15 = .ok (.idiv, 1) := by decide +kernel
theorem dX6_size_16 : decode cX6_size 16 = .ok (.invokestatic 74, 3) := by decide +kernel
theorem dX6_size_19 : decode cX6_size 19 = .ok (.ireturn, 1) := by decide +kernel
theorem dX6_cutOff_0 : decode cX6_cutOff 0 = .ok (.aload_n 0, 1) := by decide +kernel
theorem dX6_cutOff_1 : decode cX6_cutOff 1 = .ok (.iconst 0, 1) := by decide +kernel
theorem dX6_cutOff_2 : decode cX6_cutOff 2 = .ok (.putfield 30, 3) := by decide +kernel
theorem dX6_cutOff_5 : decode cX6_cutOff 5 = .ok (.aload_n 0, 1) := by decide +kernel
theorem dX6_cutOff_6 : decode cX6_cutOff 6 = .ok (.iload_n 1, 1) := by decide +kernel
theorem dX6_cutOff_7 : decode cX6_cutOff 7 = .ok (.invokevirtual 63, 3) := by decide +kernel
theorem dX6_cutOff_10 : decode cX6_cutOff 10 = .ok (.ifCond .ne 9, 3) := by decide +kernel
theorem dX6_cutOff_13 : decode cX6_cutOff 13 = .ok (.aload_n 0, 1) := by decide +kernel
theorem dX6_cutOff_14 : decode cX6_cutOff 14 = .ok (.iconst 1, 1) := by decide +kernel
theorem dX6_cutOff_15 : decode cX6_cutOff 15 = .ok (.invokevirtual 40, 3) := by decide +kernel
theorem dX6_cutOff_18 : decode cX6_cutOff 18 = .ok (.ireturn, 1) := by decide +kernel
theorem dX6_cutOff_19 : decode cX6_cutOff 19 = .ok (.aload_n 0, 1) := by decide +kernel
theorem dX6_cutOff_20 : decode cX6_cutOff 20 = .ok (.iload_n 1, 1) := by decide +kernel
theorem dX6_cutOff_21 : decode cX6_cutOff 21 = .ok (.iconst 2, 1) := by decide +kernel
theorem dX6_cutOff_22 : decode cX6_cutOff 22 = .ok (.invokevirtual 59, 3) := by decide +kernel
theorem dX6_cutOff_25 : decode cX6_cutOff 25 = .ok (.ifCond .eq 14, 3) := by decide +kernel
theorem dX6_cutOff_28 : decode cX6_cutOff 28 = .ok (.aload_n 0, 1) := by decide +kernel
theorem dX6_cutOff_29 : decode cX6_cutOff 29 = .ok (.iload_n 1, 1) := by decide +kernel
theorem dX6_cutOff_30 : decode cX6_cutOff 30 = .ok (.iconst 3, 1) := by decide +kernel
theorem dX6_cutOff_31 : decode cX6_cutOff 31 = .ok (.invokevirtual 59, 3) := by decide +kernel
theorem dX6_cutOff_34 : decode cX6_cutOff 34 = .ok (.bipush 20, 2) := by decide +kernel
theorem dX6_cutOff_36 : decode cX6_cutOff 36 = .ok (.if_icmp .le 9, 3) := by decide +kernel
theorem dX6_cutOff_39 : decode cX6_cutOff 39 = .ok (.aload_n 0, 1) := by decide +kernel
theorem dX6_cutOff_40 : decode cX6_cutOff 40 = .ok (.iconst 2, 1) := by decide +kernel
theorem dX6_cutOff_41 : decode cX6_cutOff 41 = .ok (.invokevirtual 40, 3) := by decide +kernel
theorem dX6_cutOff_44 : decode cX6_cutOff 44 = .ok (.ireturn, 1) := by decide +kernel
theorem dX6_cutOff_45 : decode cX6_cutOff 45 = .ok (.aload_n 0, 1) := by decide +kernel
theorem dX6_cutOff_46 : decode cX6_cutOff 46 = .ok (.iload_n 1, 1) := by decide +kernel
theorem dX6_cutOff_47 : decode cX6_cutOff 47 = .ok (.iconst 2, 1) := by decide +kernel
theorem dX6_cutOff_48 : decode cX6_cutOff 48 = .ok (.invokevirtual 59, 3) := by decide +kernel
theorem dX6_cutOff_51 : decode cX6_cutOff 51 = .ok (.aload_n 0, 1) := by decide +kernel
theorem dX6_cutOff_52 : decode cX6_cutOff 52 = .ok (.iload_n 1, 1) := by decide +kernel
theorem dX6_cutOff_53 : decode cX6_cutOff 53 = .ok (.iconst 4, 1) := by decide +kernel
theorem dX6_cutOff_54 : decode cX6_cutOff 54 = .ok (.invokevirtual 59, 3) := by decide +kernel
theorem dX6_cutOff_57 : decode cX6_cutOff 57 = .ok (.invokestatic 122, 3) := by decide +kernel
theorem dX6_cutOff_60 : decode cX6_cutOff 60 = .ok (.istore_n 2, 1) := by decide +kernel
theorem dX6_cutOff_61 : decode cX6_cutOff 61 = .ok (.iload_n 2, 1) := by decide +kernel
theorem dX6_cutOff_62 : decode cX6_cutOff 62 = .ok (.ifCond .le 31, 3) := by decide +kernel
theorem dX6_cutOff_65 : decode cX6_cutOff 65 = .ok (.aload_n 0, 1) := by decide +kernel
theorem dX6_cutOff_66 : decode cX6_cutOff 66 = .ok (.getfield 17, 3) := by decide +kernel
theorem dX6_cutOff_69 : decode cX6_cutOff 69 = .ok (.bipush 10, 2) := by decide +kernel
theorem dX6_cutOff_71 : decode cX6_cutOff 71 = .ok (.aload_n 0, 1) := by decide +kernel
theorem dX6_cutOff_72 : decode cX6_cutOff 72 = .ok (.iload_n 1, 1) := by decide +kernel
theorem dX6_cutOff_73 : decode cX6_cutOff 73 = .ok (.iconst 0, 1) := by decide +kernel
theorem dX6_cutOff_74 : decode cX6_cutOff 74 = .ok (.invokevirtual 59, 3) := by decide +kernel
theorem dX6_cutOff_77 : decode cX6_cutOff 77 = .ok (.imul, 1) := by decide +kernel
theorem dX6_cutOff_78 : decode cX6_cutOff 78 = .ok (.iload_n 2, 1) := by decide +kernel
theorem dX6_cutOff_79 : decode cX6_cutOff 79 = .ok (.iadd, 1) := by decide +kernel
theorem dX6_cutOff_80 : decode cX6_cutOff 80 = .ok (.dup2, 1) := by decide +kernel
theorem dX6_cutOff_81 : decode cX6_cutOff 81 = .ok (.iaload, 1) := by decide +kernel
theorem dX6_cutOff_82 : decode cX6_cutOff 82 = .ok (.aload_n 0, 1) := by decide +kernel
theorem dX6_cutOff_83 : decode cX6_cutOff 83 = .ok (.iload_n 1, 1) := by decide +kernel
theorem dX6_cutOff_84 : decode cX6_cutOff 84 = .ok (.iconst 1, 1) := by decide +kernel
theorem dX6_cutOff_85 : decode cX6_cutOff 85 = .ok (.invokevirtual 59, 3) := by decide +kernel
theorem dX6_cutOff_88 : decode cX6_cutOff 88 = .ok (.iadd, 1) := by decide +kernel
theorem dX6_cutOff_89 : decode cX6_cutOff 89 = .ok (.iastore, 1) := by decide +kernel
theorem dX6_cutOff_90 : decode cX6_cutOff 90 = .ok (.goto 29, 3) := by decide +kernel
theorem dX6_cutOff_93 : decode cX6_cutOff 93 = .ok (.aload_n 0, 1) := by decide +kernel
theorem dX6_cutOff_94 : decode cX6_cutOff 94 = .ok (.sipush 20000, 3) := by decide +kernel
theorem dX6_cutOff_97 : decode cX6_cutOff 97 = .ok (.aload_n 0, 1) := by decide +kernel
theorem dX6_cutOff_98 : decode cX6_cutOff 98 = .ok (.getfield 44, 3) := by decide +kernel
theorem dX6_cutOff_101 : decode cX6_cutOff 101 = .ok (.aload_n 0, 1) := by decide +kernel
theorem dX6_cutOff_102 : decode cX6_cutOff 102 = .ok (.iload_n 1, 1) := by decide +kernel
theorem dX6_cutOff_103 : decode cX6_cutOff 103 = .ok (.aload_n 0, 1) := by decide +kernel
theorem dX6_cutOff_104 : decode cX6_cutOff 104 = .ok (.iload_n 1, 1) := by decide +kernel
theorem dX6_cutOff_105 : decode cX6_cutOff 105 = .ok (.iconst 2, 1) := by decide +kernel
theorem dX6_cutOff_106 : decode cX6_cutOff 106 = .ok (.invokevirtual 59, 3) := by decide +kernel
theorem dX6_cutOff_109 : decode cX6_cutOff 109 = .ok (.invokevirtual 82, 3) := by decide +kernel
theorem dX6_cutOff_112 : decode cX6_cutOff 112 = .ok (.iadd, 1) := by decide +kernel
theorem dX6_cutOff_113 : decode cX6_cutOff 113 = .ok (.invokestatic 74, 3) := by decide +kernel
theorem dX6_cutOff_116 : decode cX6_cutOff 116 = .ok (.putfield 44, 3) := by decide +kernel
theorem dX6_cutOff_119 : decode cX6_cutOff 119 = .ok (.aload_n 0, 1) := by decide +kernel
theorem dX6_cutOff_120 : decode cX6_cutOff 120 = .ok (.dup, 1) := by decide +kernel
theorem dX6_cutOff_121 : decode cX6_cutOff 121 = .ok (.getfield 125, 3) := by decide +kernel
theorem dX6_cutOff_124 : decode cX6_cutOff 124 = .ok (.iload_n 2, 1) := by decide +kernel
theorem dX6_cutOff_125 : decode cX6_cutOff 125 = .ok (.ifCond .le 7, 3) := by decide +kernel
theorem dX6_cutOff_128 : decode cX6_cutOff 128 = .ok (.iconst 0, 1) := by decide +kernel
theorem dX6_cutOff_129 : decode cX6_cutOff 129 = .ok (.goto 9, 3) := by decide +kernel
theorem dX6_cutOff_132 : decode cX6_cutOff 132 = .ok (.aload_n 0, 1) := by decide +kernel
theorem dX6_cutOff_133 : decode cX6_cutOff 133 = .ok (.iload_n 1, 1) := by decide +kernel
theorem dX6_cutOff_134 : decode cX6_cutOff 134 = .ok (.iconst 1, 1) := by decide +kernel
theorem dX6_cutOff_135 : decode cX6_cutOff 135 = .ok (.invokevirtual 59, 3) := by decide +kernel
theorem dX6_cutOff_138 : decode cX6_cutOff 138 = .ok (.iadd, 1) := by decide +kernel
theorem dX6_cutOff_139 : decode cX6_cutOff 139 = .ok (.putfield 125, 3) := by decide +kernel
theorem dX6_cutOff_142 : decode cX6_cutOff 142 = .ok (.aload_n 0, 1) := by decide +kernel
theorem dX6_cutOff_143 : decode cX6_cutOff 143 = .ok (.iload_n 1, 1) := by decide +kernel
theorem dX6_cutOff_144 : decode cX6_cutOff 144 = .ok (.iconst 2, 1) := by decide +kernel
theorem dX6_cutOff_145 : decode cX6_cutOff 145 = .ok (.iconst 0, 1) := by decide +kernel
theorem dX6_cutOff_146 : decode cX6_cutOff 146 = .ok (.invokevirtual 70, 3) := by decide +kernel
theorem dX6_cutOff_149 : decode cX6_cutOff 149 = .ok (.aload_n 0, 1) := by decide +kernel
theorem dX6_cutOff_150 : decode cX6_cutOff 150 = .ok (.iload_n 1, 1) := by decide +kernel
theorem dX6_cutOff_151 : decode cX6_cutOff 151 = .ok (.iconst 3, 1) := by decide +kernel
theorem dX6_cutOff_152 : decode cX6_cutOff 152 = .ok (.iconst 0, 1) := by decide +kernel
theorem dX6_cutOff_153 : decode cX6_cutOff 153 = .ok (.invokevirtual 70, 3) := by decide +kernel
theorem dX6_cutOff_156 : decode cX6_cutOff 156 = .ok (.aload_n 0, 1) := by decide +kernel
theorem dX6_cutOff_157 : decode cX6_cutOff 157 = .ok (.iload_n 1, 1) := by decide +kernel
theorem dX6_cutOff_158 : decode cX6_cutOff 158 = .ok (.iconst 4, 1) := by decide +kernel
theorem dX6_cutOff_159 : decode cX6_cutOff 159 = .ok (.iconst 0, 1) := by decide +kernel
theorem dX6_cutOff_160 : decode cX6_cutOff 160 = .ok (.invokevirtual 70, 3) := by decide +kernel
theorem dX6_cutOff_163 : decode cX6_cutOff 163 = .ok (.aload_n 0, 1) := by decide +kernel
theorem dX6_cutOff_164 : decode cX6_cutOff 164 = .ok (.iload_n 1, 1) := by decide +kernel
theorem dX6_cutOff_165 : decode cX6_cutOff 165 = .ok (.bipush 6, 2) := by decide +kernel
theorem dX6_cutOff_167 : decode cX6_cutOff 167 = .ok (.iconst 0, 1) := by decide +kernel
theorem dX6_cutOff_168 : decode cX6_cutOff 168 = .ok (.invokevirtual 70, 3) := by decide +kernel
theorem dX6_cutOff_171 : decode cX6_cutOff 171 = .ok (.iload_n 2, 1) := by decide +kernel
theorem dX6_cutOff_172 : decode cX6_cutOff 172 = .ok (.ireturn, 1) := by decide +kernel
theorem dX6_frameTold_0 : decode cX6_frameTold 0 = .ok (.iload_n 2, 1) := by decide +kernel
theorem dX6_frameTold_1 : decode cX6_frameTold 1 = .ok (.bipush 7, 2) := by decide +kernel
theorem dX6_frameTold_3 : decode cX6_frameTold 3 = .ok (.if_icmp .ge 12, 3) := by decide +kernel
theorem dX6_frameTold_6 : decode cX6_frameTold 6 = .ok (.aload_n 0, 1) := by decide +kernel
theorem dX6_frameTold_7 : decode cX6_frameTold 7 = .ok (.iload_n 1, 1) := by decide +kernel
theorem dX6_frameTold_8 : decode cX6_frameTold 8 = .ok (.iload_n 2, 1) := by decide +kernel
theorem dX6_frameTold_9 : decode cX6_frameTold 9 = .ok (.invokevirtual 59, 3) := by decide +kernel
theorem dX6_frameTold_12 : decode cX6_frameTold 12 = .ok (.goto 18, 3) := by decide +kernel
theorem dX6_frameTold_15 : decode cX6_frameTold 15 = .ok (.aload_n 0, 1) := by decide +kernel
theorem dX6_frameTold_16 : decode cX6_frameTold 16 = .ok (.iload_n 1, 1) := by decide +kernel
theorem dX6_frameTold_17 : decode cX6_frameTold 17 = .ok (.iconst 2, 1) := by decide +kernel
theorem dX6_frameTold_18 : decode cX6_frameTold 18 = .ok (.invokevirtual 59, 3) := by decide +kernel
theorem dX6_frameTold_21 : decode cX6_frameTold 21 = .ok (.aload_n 0, 1) := by decide +kernel
theorem dX6_frameTold_22 : decode cX6_frameTold 22 = .ok (.iload_n 1, 1) := by decide +kernel
theorem dX6_frameTold_23 : decode cX6_frameTold 23 = .ok (.iconst 4, 1) := by decide +kernel
theorem dX6_frameTold_24 : decode cX6_frameTold 24 = .ok (.invokevirtual 59, 3) := by decide +kernel
theorem dX6_frameTold_27 : decode cX6_frameTold 27 = .ok (.invokestatic 122, 3) := by decide +kernel
theorem dX6_frameTold_30 : decode cX6_frameTold 30 = .ok (.ireturn, 1) := by decide +kernel
theorem dX6_frame_0 : decode cX6_frame 0 = .ok (.aload_n 0, 1) := by decide +kernel
theorem dX6_frame_1 : decode cX6_frame 1 = .ok (.iconst 0, 1) := by decide +kernel
theorem dX6_frame_2 : decode cX6_frame 2 = .ok (.putfield 30, 3) := by decide +kernel
theorem dX6_frame_5 : decode cX6_frame 5 = .ok (.aload_n 0, 1) := by decide +kernel
theorem dX6_frame_6 : decode cX6_frame 6 = .ok (.iload_n 1, 1) := by decide +kernel
theorem dX6_frame_7 : decode cX6_frame 7 = .ok (.invokevirtual 63, 3) := by decide +kernel
theorem dX6_frame_10 : decode cX6_frame 10 = .ok (.ifCond .eq 22, 3) := by decide +kernel
theorem dX6_frame_13 : decode cX6_frame 13 = .ok (.iload_n 2, 1) := by decide +kernel
theorem dX6_frame_14 : decode cX6_frame 14 = .ok (.iconst 0, 1) := by decide +kernel
theorem dX6_frame_15 : decode cX6_frame 15 = .ok (.bipush 7, 2) := by decide +kernel
theorem dX6_frame_17 : decode cX6_frame 17 = .ok (.invokestatic 36, 3) := by decide +kernel
theorem dX6_frame_20 : decode cX6_frame 20 = .ok (.ifCond .eq 12, 3) := by decide +kernel
theorem dX6_frame_23 : decode cX6_frame 23 = .ok (.aload_n 0, 1) := by decide +kernel
theorem dX6_frame_24 : decode cX6_frame 24 = .ok (.iload_n 1, 1) := by decide +kernel
theorem dX6_frame_25 : decode cX6_frame 25 = .ok (.iload_n 2, 1) := by decide +kernel
theorem dX6_frame_26 : decode cX6_frame 26 = .ok (.invokevirtual 128, 3) := by decide +kernel
theorem dX6_frame_29 : decode cX6_frame 29 = .ok (.goto 8, 3) := by decide +kernel
theorem dX6_frame_32 : decode cX6_frame 32 = .ok (.aload_n 0, 1) := by decide +kernel
theorem dX6_frame_33 : decode cX6_frame 33 = .ok (.iconst 1, 1) := by decide +kernel
theorem dX6_frame_34 : decode cX6_frame 34 = .ok (.invokevirtual 40, 3) := by decide +kernel
theorem dX6_frame_37 : decode cX6_frame 37 = .ok (.ireturn, 1) := by decide +kernel
theorem dX6_hook_0 : decode cX6_hook 0 = .ok (.aload_n 0, 1) := by decide +kernel
theorem dX6_hook_1 : decode cX6_hook 1 = .ok (.iconst 0, 1) := by decide +kernel
theorem dX6_hook_2 : decode cX6_hook 2 = .ok (.putfield 30, 3) := by decide +kernel
theorem dX6_hook_5 : decode cX6_hook 5 = .ok (.iload_n 1, 1) := by decide +kernel
theorem dX6_hook_6 : decode cX6_hook 6 = .ok (.iconst 0, 1) := by decide +kernel
theorem dX6_hook_7 : decode cX6_hook 7 = .ok (.bipush 11, 2) := by decide +kernel
theorem dX6_hook_9 : decode cX6_hook 9 = .ok (.invokestatic 36, 3) := by decide +kernel
theorem dX6_hook_12 : decode cX6_hook 12 = .ok (.ifCond .eq 11, 3) := by decide +kernel
theorem dX6_hook_15 : decode cX6_hook 15 = .ok (.aload_n 0, 1) := by decide +kernel
theorem dX6_hook_16 : decode cX6_hook 16 = .ok (.iload_n 1, 1) := by decide +kernel
theorem dX6_hook_17 : decode cX6_hook 17 = .ok (.invokevirtual 67, 3) := by decide +kernel
theorem dX6_hook_20 : decode cX6_hook 20 = .ok (.goto 8, 3) := by decide +kernel
theorem dX6_hook_23 : decode cX6_hook 23 = .ok (.aload_n 0, 1) := by decide +kernel
theorem dX6_hook_24 : decode cX6_hook 24 = .ok (.iconst 1, 1) := by decide +kernel
theorem dX6_hook_25 : decode cX6_hook 25 = .ok (.invokevirtual 40, 3) := by decide +kernel
theorem dX6_hook_28 : decode cX6_hook 28 = .ok (.ireturn, 1) := by decide +kernel
theorem dX6_store_0 : decode cX6_store 0 = .ok (.aload_n 0, 1) := by decide +kernel
theorem dX6_store_1 : decode cX6_store 1 = .ok (.iconst 0, 1) := by decide +kernel
theorem dX6_store_2 : decode cX6_store 2 = .ok (.putfield 30, 3) := by decide +kernel
theorem dX6_store_5 : decode cX6_store 5 = .ok (.iload_n 1, 1) := by decide +kernel
theorem dX6_store_6 : decode cX6_store 6 = .ok (.iconst 0, 1) := by decide +kernel
theorem dX6_store_7 : decode cX6_store 7 = .ok (.iconst 3, 1) := by decide +kernel
theorem dX6_store_8 : decode cX6_store 8 = .ok (.invokestatic 36, 3) := by decide +kernel
theorem dX6_store_11 : decode cX6_store 11 = .ok (.ifCond .eq 27, 3) := by decide +kernel
theorem dX6_store_14 : decode cX6_store 14 = .ok (.iload_n 2, 1) := by decide +kernel
theorem dX6_store_15 : decode cX6_store 15 = .ok (.iconst 1, 1) := by decide +kernel
theorem dX6_store_16 : decode cX6_store 16 = .ok (.bipush 9, 2) := by decide +kernel
theorem dX6_store_18 : decode cX6_store 18 = .ok (.invokestatic 36, 3) := by decide +kernel
theorem dX6_store_21 : decode cX6_store 21 = .ok (.ifCond .eq 17, 3) := by decide +kernel
theorem dX6_store_24 : decode cX6_store 24 = .ok (.aload_n 0, 1) := by decide +kernel
theorem dX6_store_25 : decode cX6_store 25 = .ok (.getfield 17, 3) := by decide +kernel
theorem dX6_store_28 : decode cX6_store 28 = .ok (.bipush 10, 2) := by decide +kernel
theorem dX6_store_30 : decode cX6_store 30 = .ok (.iload_n 1, 1) := by decide +kernel
theorem dX6_store_31 : decode cX6_store 31 = .ok (.imul, 1) := by decide +kernel
theorem dX6_store_32 : decode cX6_store 32 = .ok (.iload_n 2, 1) := by decide +kernel
theorem dX6_store_33 : decode cX6_store 33 = .ok (.iadd, 1) := by decide +kernel
theorem dX6_store_34 : decode cX6_store 34 = .ok (.iaload, 1) := by decide +kernel
theorem dX6_store_35 : decode cX6_store 35 = .ok (.goto 8, 3) := by decide +kernel
theorem dX6_store_38 : decode cX6_store 38 = .ok (.aload_n 0, 1) := by decide +kernel
theorem dX6_store_39 : decode cX6_store 39 = .ok (.iconst 1, 1) := by decide +kernel
theorem dX6_store_40 : decode cX6_store 40 = .ok (.invokevirtual 40, 3) := by decide +kernel
theorem dX6_store_43 : decode cX6_store 43 = .ok (.ireturn, 1) := by decide +kernel
theorem dX6_enough_0 : decode cX6_enough 0 = .ok (.iconst 0, 1) := by decide +kernel
theorem dX6_enough_1 : decode cX6_enough 1 = .ok (.istore_n 3, 1) := by decide +kernel
theorem dX6_enough_2 : decode cX6_enough 2 = .ok (.iload_n 2, 1) := by decide +kernel
theorem dX6_enough_3 : decode cX6_enough 3 = .ok (.istore 4, 2) := by decide +kernel
theorem dX6_enough_5 : decode cX6_enough 5 = .ok (.iload 4, 2) := by decide +kernel
theorem dX6_enough_7 : decode cX6_enough 7 = .ok (.bipush 10, 2) := by decide +kernel
theorem dX6_enough_9 : decode cX6_enough 9 = .ok (.if_icmp .ge 24, 3) := by decide +kernel
theorem dX6_enough_12 : decode cX6_enough 12 = .ok (.iload_n 3, 1) := by decide +kernel
theorem dX6_enough_13 : decode cX6_enough 13 = .ok (.aload_n 0, 1) := by decide +kernel
theorem dX6_enough_14 : decode cX6_enough 14 = .ok (.getfield 17, 3) := by decide +kernel
theorem dX6_enough_17 : decode cX6_enough 17 = .ok (.bipush 10, 2) := by decide +kernel
theorem dX6_enough_19 : decode cX6_enough 19 = .ok (.iload_n 1, 1) := by decide +kernel
theorem dX6_enough_20 : decode cX6_enough 20 = .ok (.imul, 1) := by decide +kernel
theorem dX6_enough_21 : decode cX6_enough 21 = .ok (.iload 4, 2) := by decide +kernel
theorem dX6_enough_23 : decode cX6_enough 23 = .ok (.iadd, 1) := by decide +kernel
theorem dX6_enough_24 : decode cX6_enough 24 = .ok (.iaload, 1) := by decide +kernel
theorem dX6_enough_25 : decode cX6_enough 25 = .ok (.iadd, 1) := by decide +kernel
theorem dX6_enough_26 : decode cX6_enough 26 = .ok (.istore_n 3, 1) := by decide +kernel
theorem dX6_enough_27 : decode cX6_enough 27 = .ok (.iinc 4 1, 3) := by decide +kernel
theorem dX6_enough_30 : decode cX6_enough 30 = .ok (.goto (-25), 3) := by decide +kernel
theorem dX6_enough_33 : decode cX6_enough 33 = .ok (.iload_n 3, 1) := by decide +kernel
theorem dX6_enough_34 : decode cX6_enough 34 = .ok (.ireturn, 1) := by decide +kernel
theorem dX6_addOrder_0 : decode cX6_addOrder 0 = .ok (.aload_n 0, 1) := by decide +kernel
theorem dX6_addOrder_1 : decode cX6_addOrder 1 = .ok (.iconst 0, 1) := by decide +kernel
theorem dX6_addOrder_2 : decode cX6_addOrder 2 = .ok (.putfield 30, 3) := by decide +kernel
theorem dX6_addOrder_5 : decode cX6_addOrder 5 = .ok (.iload_n 1, 1) := by decide +kernel
theorem dX6_addOrder_6 : decode cX6_addOrder 6 = .ok (.iconst 0, 1) := by decide +kernel
theorem dX6_addOrder_7 : decode cX6_addOrder 7 = .ok (.iconst 3, 1) := by decide +kernel
theorem dX6_addOrder_8 : decode cX6_addOrder 8 = .ok (.invokestatic 36, 3) := by decide +kernel
theorem dX6_addOrder_11 : decode cX6_addOrder 11 = .ok (.ifCond .eq 41, 3) := by decide +kernel
theorem dX6_addOrder_14 : decode cX6_addOrder 14 = .ok (.iload_n 2, 1) := by decide +kernel
theorem dX6_addOrder_15 : decode cX6_addOrder 15 = .ok (.iconst 1, 1) := by decide +kernel
theorem dX6_addOrder_16 : decode cX6_addOrder 16 = .ok (.bipush 9, 2) := by decide +kernel
theorem dX6_addOrder_18 : decode cX6_addOrder 18 = .ok (.invokestatic 36, 3) := by decide +kernel
theorem dX6_addOrder_21 : decode cX6_addOrder 21 = .ok (.ifCond .eq 31, 3) := by decide +kernel
theorem dX6_addOrder_24 : decode cX6_addOrder 24 = .ok (.iload_n 3, 1) := by decide +kernel
theorem dX6_addOrder_25 : decode cX6_addOrder 25 = .ok (.iconst 1, 1) := by decide +kernel
theorem dX6_addOrder_26 : decode cX6_addOrder 26 = .ok (.bipush 60, 2) := by decide +kernel
theorem dX6_addOrder_28 : decode cX6_addOrder 28 = .ok (.invokestatic 36, 3) := by decide +kernel
theorem dX6_addOrder_31 : decode cX6_addOrder 31 = .ok (.ifCond .eq 21, 3) := by decide +kernel
theorem dX6_addOrder_34 : decode cX6_addOrder 34 = .ok (.iload 4, 2) := by decide +kernel
theorem dX6_addOrder_36 : decode cX6_addOrder 36 = .ok (.aload_n 0, 1) := by decide +kernel
theorem dX6_addOrder_37 : decode cX6_addOrder 37 = .ok (.getfield 94, 3) := by decide +kernel
theorem dX6_addOrder_40 : decode cX6_addOrder 40 = .ok (.bipush 40, 2) := by decide +kernel
theorem dX6_addOrder_42 : decode cX6_addOrder 42 = .ok (.idiv, 1) := by decide +kernel
theorem dX6_addOrder_43 : decode cX6_addOrder 43 = .ok (.sipush 1000, 3) := by decide +kernel
theorem dX6_addOrder_46 : decode cX6_addOrder 46 = .ok (.invokestatic 36, 3) := by decide +kernel
theorem dX6_addOrder_49 : decode cX6_addOrder 49 = .ok (.ifCond .ne 9, 3) := by decide +kernel
theorem dX6_addOrder_52 : decode cX6_addOrder 52 = .ok (.aload_n 0, 1) := by decide +kernel
theorem dX6_addOrder_53 : decode cX6_addOrder 53 = .ok (.iconst 1, 1) := by decide +kernel
theorem dX6_addOrder_54 : decode cX6_addOrder 54 = .ok (.invokevirtual 40, 3) := by decide +kernel
theorem dX6_addOrder_57 : decode cX6_addOrder 57 = .ok (.ireturn, 1) := by decide +kernel
theorem dX6_addOrder_58 : decode cX6_addOrder 58 = .ok (.aload_n 0, 1) := by decide +kernel
theorem dX6_addOrder_59 : decode cX6_addOrder 59 = .ok (.getfield 97, 3) := by decide +kernel
theorem dX6_addOrder_62 : decode cX6_addOrder 62 = .ok (.bipush 20, 2) := by decide +kernel
theorem dX6_addOrder_64 : decode cX6_addOrder 64 = .ok (.if_icmp .ne 9, 3) := by decide +kernel
theorem dX6_addOrder_67 : decode cX6_addOrder 67 = .ok (.aload_n 0, 1) := by decide +kernel
theorem dX6_addOrder_68 : decode cX6_addOrder 68 = .ok (.iconst 2, 1) := by decide +kernel
theorem dX6_addOrder_69 : decode cX6_addOrder 69 = .ok (.invokevirtual 40, 3) := by decide +kernel
theorem dX6_addOrder_72 : decode cX6_addOrder 72 = .ok (.ireturn, 1) := by decide +kernel
theorem dX6_addOrder_73 : decode cX6_addOrder 73 = .ok (.iconst 5, 1) := by decide +kernel
theorem dX6_addOrder_74 : decode cX6_addOrder 74 = .ok (.newarray .int, 2) := by decide +kernel
theorem dX6_addOrder_76 : decode cX6_addOrder 76 = .ok (.dup, 1) := by decide +kernel
theorem dX6_addOrder_77 : decode cX6_addOrder 77 = .ok (.iconst 0, 1) := by decide +kernel
theorem dX6_addOrder_78 : decode cX6_addOrder 78 = .ok (.iload_n 1, 1) := by decide +kernel
theorem dX6_addOrder_79 : decode cX6_addOrder 79 = .ok (.iastore, 1) := by decide +kernel
theorem dX6_addOrder_80 : decode cX6_addOrder 80 = .ok (.dup, 1) := by decide +kernel
theorem dX6_addOrder_81 : decode cX6_addOrder 81 = .ok (.iconst 1, 1) := by decide +kernel
theorem dX6_addOrder_82 : decode cX6_addOrder 82 = .ok (.iload_n 2, 1) := by decide +kernel
theorem dX6_addOrder_83 : decode cX6_addOrder 83 = .ok (.iastore, 1) := by decide +kernel
theorem dX6_addOrder_84 : decode cX6_addOrder 84 = .ok (.dup, 1) := by decide +kernel
theorem dX6_addOrder_85 : decode cX6_addOrder 85 = .ok (.iconst 2, 1) := by decide +kernel
theorem dX6_addOrder_86 : decode cX6_addOrder 86 = .ok (.iload_n 3, 1) := by decide +kernel
theorem dX6_addOrder_87 : decode cX6_addOrder 87 = .ok (.iastore, 1) := by decide +kernel
theorem dX6_addOrder_88 : decode cX6_addOrder 88 = .ok (.dup, 1) := by decide +kernel
theorem dX6_addOrder_89 : decode cX6_addOrder 89 = .ok (.iconst 3, 1) := by decide +kernel
theorem dX6_addOrder_90 : decode cX6_addOrder 90 = .ok (.iload 4, 2) := by decide +kernel
theorem dX6_addOrder_92 : decode cX6_addOrder 92 = .ok (.iastore, 1) := by decide +kernel
theorem dX6_addOrder_93 : decode cX6_addOrder 93 = .ok (.dup, 1) := by decide +kernel
theorem dX6_addOrder_94 : decode cX6_addOrder 94 = .ok (.iconst 4, 1) := by decide +kernel
theorem dX6_addOrder_95 : decode cX6_addOrder 95 = .ok (.iconst 0, 1) := by decide +kernel
theorem dX6_addOrder_96 : decode cX6_addOrder 96 = .ok (.iastore, 1) := by decide +kernel
theorem dX6_addOrder_97 : decode cX6_addOrder 97 = .ok (.astore 5, 2) := by decide +kernel
theorem dX6_addOrder_99 : decode cX6_addOrder 99 = .ok (.aload 5, 2) := by decide +kernel
theorem dX6_addOrder_101 : decode cX6_addOrder 101 = .ok (.iconst 0, 1) := by decide +kernel
theorem dX6_addOrder_102 : decode cX6_addOrder 102 = .ok (.aload_n 0, 1) := by decide +kernel
theorem dX6_addOrder_103 : decode cX6_addOrder 103 = .ok (.getfield 20, 3) := by decide +kernel
theorem dX6_addOrder_106 : decode cX6_addOrder 106 = .ok (.iconst 5, 1) := by decide +kernel
theorem dX6_addOrder_107 : decode cX6_addOrder 107 = .ok (.aload_n 0, 1) := by decide +kernel
theorem dX6_addOrder_108 : decode cX6_addOrder 108 = .ok (.getfield 97, 3) := by decide +kernel
theorem dX6_addOrder_111 : decode cX6_addOrder 111 = .ok (.imul, 1) := by decide +kernel
theorem dX6_addOrder_112 : decode cX6_addOrder 112 = .ok (.iconst 5, 1) := by decide +kernel
theorem dX6_addOrder_113 : decode cX6_addOrder 113 = .ok (.invokestatic 53, 3) := by decide +kernel
theorem dX6_addOrder_116 : decode cX6_addOrder 116 = .ok (.aload_n 0, 1) := by decide +kernel
theorem dX6_addOrder_117 : decode cX6_addOrder 117 = .ok (.dup, 1) := by decide +kernel
theorem dX6_addOrder_118 : decode cX6_addOrder 118 = .ok (.getfield 97, 3) := by decide +kernel
theorem dX6_addOrder_121 : decode cX6_addOrder 121 = .ok (.iconst 1, 1) := by decide +kernel
theorem dX6_addOrder_122 : decode cX6_addOrder 122 = .ok (.iadd, 1) := by decide +kernel
theorem dX6_addOrder_123 : decode cX6_addOrder 123 = .ok (.putfield 97, 3) := by decide +kernel
theorem dX6_addOrder_126 : decode cX6_addOrder 126 = .ok (.aload_n 0, 1) := by decide +kernel
theorem dX6_addOrder_127 : decode cX6_addOrder 127 = .ok (.getfield 97, 3) := by decide +kernel
theorem dX6_addOrder_130 : decode cX6_addOrder 130 = .ok (.iconst 1, 1) := by decide +kernel
theorem dX6_addOrder_131 : decode cX6_addOrder 131 = .ok (.isub, 1) := by decide +kernel
theorem dX6_addOrder_132 : decode cX6_addOrder 132 = .ok (.ireturn, 1) := by decide +kernel
theorem dX6_canFill_0 : decode cX6_canFill 0 = .ok (.aload_n 0, 1) := by decide +kernel
theorem dX6_canFill_1 : decode cX6_canFill 1 = .ok (.iload_n 1, 1) := by decide +kernel
theorem dX6_canFill_2 : decode cX6_canFill 2 = .ok (.iconst 4, 1) := by decide +kernel
theorem dX6_canFill_3 : decode cX6_canFill 3 = .ok (.invokevirtual 100, 3) := by decide +kernel
theorem dX6_canFill_6 : decode cX6_canFill 6 = .ok (.iconst 1, 1) := by decide +kernel
theorem dX6_canFill_7 : decode cX6_canFill 7 = .ok (.if_icmp .eq 32, 3) := by decide +kernel
theorem dX6_canFill_10 : decode cX6_canFill 10 = .ok (.aload_n 0, 1) := by decide +kernel
theorem dX6_canFill_11 : decode cX6_canFill 11 = .ok (.aload_n 0, 1) := by decide +kernel
theorem dX6_canFill_12 : decode cX6_canFill 12 = .ok (.iload_n 1, 1) := by decide +kernel
theorem dX6_canFill_13 : decode cX6_canFill 13 = .ok (.iconst 0, 1) := by decide +kernel
theorem dX6_canFill_14 : decode cX6_canFill 14 = .ok (.invokevirtual 100, 3) := by decide +kernel
theorem dX6_canFill_17 : decode cX6_canFill 17 = .ok (.aload_n 0, 1) := by decide +kernel
theorem dX6_canFill_18 : decode cX6_canFill 18 = .ok (.iload_n 1, 1) := by decide +kernel
theorem dX6_canFill_19 : decode cX6_canFill 19 = .ok (.iconst 1, 1) := by decide +kernel
theorem dX6_canFill_20 : decode cX6_canFill 20 = .ok (.invokevirtual 100, 3) := by decide +kernel
theorem dX6_canFill_23 : decode cX6_canFill 23 = .ok (.invokevirtual 131, 3) := by decide +kernel
theorem dX6_canFill_26 : decode cX6_canFill 26 = .ok (.aload_n 0, 1) := by decide +kernel
theorem dX6_canFill_27 : decode cX6_canFill 27 = .ok (.iload_n 1, 1) := by decide +kernel
theorem dX6_canFill_28 : decode cX6_canFill 28 = .ok (.iconst 2, 1) := by decide +kernel
theorem dX6_canFill_29 : decode cX6_canFill 29 = .ok (.invokevirtual 100, 3) := by decide +kernel
theorem dX6_canFill_32 : decode cX6_canFill 32 = .ok (.if_icmp .lt 7, 3) := by decide +kernel
theorem dX6_canFill_35 : decode cX6_canFill 35 = .ok (.iconst 1, 1) := by decide +kernel
theorem dX6_canFill_36 : decode cX6_canFill 36 = .ok (.goto 4, 3) := by decide +kernel
theorem dX6_canFill_39 : decode cX6_canFill 39 = .ok (.iconst 0, 1) := by decide +kernel
theorem dX6_canFill_40 : decode cX6_canFill 40 = .ok (.ireturn, 1) := by decide +kernel
theorem dX6_inStore_0 : decode cX6_inStore 0 = .ok (.iconst 0, 1) := by decide +kernel
theorem dX6_inStore_1 : decode cX6_inStore 1 = .ok (.istore_n 1, 1) := by decide +kernel
theorem dX6_inStore_2 : decode cX6_inStore 2 = .ok (.aload_n 0, 1) := by decide +kernel
theorem dX6_inStore_3 : decode cX6_inStore 3 = .ok (.getfield 17, 3) := by decide +kernel
theorem dX6_inStore_6 : decode cX6_inStore 6 = .ok (.astore_n 2, 1) := by decide +kernel
theorem dX6_inStore_7 : decode cX6_inStore 7 = .ok (.aload_n 2, 1) := by decide +kernel
theorem dX6_inStore_8 : decode cX6_inStore 8 = .ok (.arraylength, 1) := by decide +kernel
theorem dX6_inStore_9 : decode cX6_inStore 9 = .ok (.istore_n 3, 1) := by decide +kernel
theorem dX6_inStore_10 : decode cX6_inStore 10 = .ok (.iconst 0, 1) := by decide +kernel
theorem dX6_inStore_11 : decode cX6_inStore 11 = .ok (.istore 4, 2) := by decide +kernel
theorem dX6_inStore_13 : decode cX6_inStore 13 = .ok (.iload 4, 2) := by decide +kernel
theorem dX6_inStore_15 : decode cX6_inStore 15 = .ok (.iload_n 3, 1) := by decide +kernel
theorem dX6_inStore_16 : decode cX6_inStore 16 = .ok (.if_icmp .ge 20, 3) := by decide +kernel
theorem dX6_inStore_19 : decode cX6_inStore 19 = .ok (.aload_n 2, 1) := by decide +kernel
theorem dX6_inStore_20 : decode cX6_inStore 20 = .ok (.iload 4, 2) := by decide +kernel
theorem dX6_inStore_22 : decode cX6_inStore 22 = .ok (.iaload, 1) := by decide +kernel
theorem dX6_inStore_23 : decode cX6_inStore 23 = .ok (.istore 5, 2) := by decide +kernel
theorem dX6_inStore_25 : decode cX6_inStore 25 = .ok (.iload_n 1, 1) := by decide +kernel
theorem dX6_inStore_26 : decode cX6_inStore 26 = .ok (.iload 5, 2) := by decide +kernel
theorem dX6_inStore_28 : decode cX6_inStore 28 = .ok (.iadd, 1) := by decide +kernel
theorem dX6_inStore_29 : decode cX6_inStore 29 = .ok (.istore_n 1, 1) := by decide +kernel
theorem dX6_inStore_30 : decode cX6_inStore 30 = .ok (.iinc 4 1, 3) := by decide +kernel
theorem dX6_inStore_33 : decode cX6_inStore 33 = .ok (.goto (-20), 3) := by decide +kernel
theorem dX6_inStore_36 : decode cX6_inStore 36 = .ok (.iload_n 1, 1) := by decide +kernel
theorem dX6_inStore_37 : decode cX6_inStore 37 = .ok (.ireturn, 1) := by decide +kernel
theorem dX6_fill_0 : decode cX6_fill 0 = .ok (.aload_n 0, 1) := by decide +kernel
theorem dX6_fill_1 : decode cX6_fill 1 = .ok (.iconst 0, 1) := by decide +kernel
theorem dX6_fill_2 : decode cX6_fill 2 = .ok (.putfield 30, 3) := by decide +kernel
theorem dX6_fill_5 : decode cX6_fill 5 = .ok (.iload_n 1, 1) := by decide +kernel
theorem dX6_fill_6 : decode cX6_fill 6 = .ok (.iconst 0, 1) := by decide +kernel
theorem dX6_fill_7 : decode cX6_fill 7 = .ok (.aload_n 0, 1) := by decide +kernel
theorem dX6_fill_8 : decode cX6_fill 8 = .ok (.getfield 97, 3) := by decide +kernel
theorem dX6_fill_11 : decode cX6_fill 11 = .ok (.iconst 1, 1) := by decide +kernel
theorem dX6_fill_12 : decode cX6_fill 12 = .ok (.isub, 1) := by decide +kernel
theorem dX6_fill_13 : decode cX6_fill 13 = .ok (.invokestatic 36, 3) := by decide +kernel
theorem dX6_fill_16 : decode cX6_fill 16 = .ok (.ifCond .ne 9, 3) := by decide +kernel
theorem dX6_fill_19 : decode cX6_fill 19 = .ok (.aload_n 0, 1) := by decide +kernel
theorem dX6_fill_20 : decode cX6_fill 20 = .ok (.iconst 1, 1) := by decide +kernel
theorem dX6_fill_21 : decode cX6_fill 21 = .ok (.invokevirtual 40, 3) := by decide +kernel
theorem dX6_fill_24 : decode cX6_fill 24 = .ok (.ireturn, 1) := by decide +kernel
theorem dX6_fill_25 : decode cX6_fill 25 = .ok (.aload_n 0, 1) := by decide +kernel
theorem dX6_fill_26 : decode cX6_fill 26 = .ok (.iload_n 1, 1) := by decide +kernel
theorem dX6_fill_27 : decode cX6_fill 27 = .ok (.invokevirtual 134, 3) := by decide +kernel
theorem dX6_fill_30 : decode cX6_fill 30 = .ok (.ifCond .ne 9, 3) := by decide +kernel
theorem dX6_fill_33 : decode cX6_fill 33 = .ok (.aload_n 0, 1) := by decide +kernel
theorem dX6_fill_34 : decode cX6_fill 34 = .ok (.iconst 2, 1) := by decide +kernel
theorem dX6_fill_35 : decode cX6_fill 35 = .ok (.invokevirtual 40, 3) := by decide +kernel
theorem dX6_fill_38 : decode cX6_fill 38 = .ok (.ireturn, 1) := by decide +kernel
theorem dX6_fill_39 : decode cX6_fill 39 = .ok (.aload_n 0, 1) := by decide +kernel
theorem dX6_fill_40 : decode cX6_fill 40 = .ok (.iload_n 1, 1) := by decide +kernel
theorem dX6_fill_41 : decode cX6_fill 41 = .ok (.iconst 2, 1) := by decide +kernel
theorem dX6_fill_42 : decode cX6_fill 42 = .ok (.invokevirtual 100, 3) := by decide +kernel
theorem dX6_fill_45 : decode cX6_fill 45 = .ok (.istore_n 2, 1) := by decide +kernel
theorem dX6_fill_46 : decode cX6_fill 46 = .ok (.aload_n 0, 1) := by decide +kernel
theorem dX6_fill_47 : decode cX6_fill 47 = .ok (.iload_n 1, 1) := by decide +kernel
theorem dX6_fill_48 : decode cX6_fill 48 = .ok (.iconst 1, 1) := by decide +kernel
theorem dX6_fill_49 : decode cX6_fill 49 = .ok (.invokevirtual 100, 3) := by decide +kernel
theorem dX6_fill_52 : decode cX6_fill 52 = .ok (.istore_n 3, 1) := by decide +kernel
theorem dX6_fill_53 : decode cX6_fill 53 = .ok (.iload_n 2, 1) := by decide +kernel
theorem dX6_fill_54 : decode cX6_fill 54 = .ok (.ifCond .le 52, 3) := by decide +kernel
theorem dX6_fill_57 : decode cX6_fill 57 = .ok (.bipush 10, 2) := by decide +kernel
theorem dX6_fill_59 : decode cX6_fill 59 = .ok (.aload_n 0, 1) := by decide +kernel
theorem dX6_fill_60 : decode cX6_fill 60 = .ok (.iload_n 1, 1) := by decide +kernel
theorem dX6_fill_61 : decode cX6_fill 61 = .ok (.iconst 0, 1) := by decide +kernel
theorem dX6_fill_62 : decode cX6_fill 62 = .ok (.invokevirtual 100, 3) := by decide +kernel
theorem dX6_fill_65 : decode cX6_fill 65 = .ok (.imul, 1) := by decide +kernel
theorem dX6_fill_66 : decode cX6_fill 66 = .ok (.iload_n 3, 1) := by decide +kernel
theorem dX6_fill_67 : decode cX6_fill 67 = .ok (.iadd, 1) := by decide +kernel
theorem dX6_fill_68 : decode cX6_fill 68 = .ok (.istore 4, 2) := by decide +kernel
theorem dX6_fill_70 : decode cX6_fill 70 = .ok (.iload_n 2, 1) := by decide +kernel
theorem dX6_fill_71 : decode cX6_fill 71 = .ok (.aload_n 0, 1) := by decide +kernel
theorem dX6_fill_72 : decode cX6_fill 72 = .ok (.getfield 17, 3) := by decide +kernel
theorem dX6_fill_75 : decode cX6_fill 75 = .ok (.iload 4, 2) := by decide +kernel
theorem dX6_fill_77 : decode cX6_fill 77 = .ok (.iaload, 1) := by decide +kernel
theorem dX6_fill_78 : decode cX6_fill 78 = .ok (.invokestatic 74, 3) := by decide +kernel
theorem dX6_fill_81 : decode cX6_fill 81 = .ok (.istore 5, 2) := by decide +kernel
theorem dX6_fill_83 : decode cX6_fill 83 = .ok (.aload_n 0, 1) := by decide +kernel
theorem dX6_fill_84 : decode cX6_fill 84 = .ok (.getfield 17, 3) := by decide +kernel
theorem dX6_fill_87 : decode cX6_fill 87 = .ok (.iload 4, 2) := by decide +kernel
theorem dX6_fill_89 : decode cX6_fill 89 = .ok (.dup2, 1) := by decide +kernel
theorem dX6_fill_90 : decode cX6_fill 90 = .ok (.iaload, 1) := by decide +kernel
theorem dX6_fill_91 : decode cX6_fill 91 = .ok (.iload 5, 2) := by decide +kernel
theorem dX6_fill_93 : decode cX6_fill 93 = .ok (.isub, 1) := by decide +kernel
theorem dX6_fill_94 : decode cX6_fill 94 = .ok (.iastore, 1) := by decide +kernel
theorem dX6_fill_95 : decode cX6_fill 95 = .ok (.iload_n 2, 1) := by decide +kernel
theorem dX6_fill_96 : decode cX6_fill 96 = .ok (.iload 5, 2) := by decide +kernel
theorem dX6_fill_98 : decode cX6_fill 98 = .ok (.isub, 1) := by decide +kernel
theorem dX6_fill_99 : decode cX6_fill 99 = .ok (.istore_n 2, 1) := by decide +kernel
theorem dX6_fill_100 : decode cX6_fill 100 = .ok (.iinc 3 1, 3) := by decide +kernel
theorem dX6_fill_103 : decode cX6_fill 103 = .ok (.goto (-50), 3) := by decide +kernel
theorem dX6_fill_106 : decode cX6_fill 106 = .ok (.aload_n 0, 1) := by decide +kernel
theorem dX6_fill_107 : decode cX6_fill 107 = .ok (.getfield 20, 3) := by decide +kernel
theorem dX6_fill_110 : decode cX6_fill 110 = .ok (.iconst 5, 1) := by decide +kernel
theorem dX6_fill_111 : decode cX6_fill 111 = .ok (.iload_n 1, 1) := by decide +kernel
theorem dX6_fill_112 : decode cX6_fill 112 = .ok (.imul, 1) := by decide +kernel
theorem dX6_fill_113 : decode cX6_fill 113 = .ok (.iconst 4, 1) := by decide +kernel
theorem dX6_fill_114 : decode cX6_fill 114 = .ok (.iadd, 1) := by decide +kernel
theorem dX6_fill_115 : decode cX6_fill 115 = .ok (.iconst 1, 1) := by decide +kernel
theorem dX6_fill_116 : decode cX6_fill 116 = .ok (.iastore, 1) := by decide +kernel
theorem dX6_fill_117 : decode cX6_fill 117 = .ok (.aload_n 0, 1) := by decide +kernel
theorem dX6_fill_118 : decode cX6_fill 118 = .ok (.invokevirtual 137, 3) := by decide +kernel
theorem dX6_fill_121 : decode cX6_fill 121 = .ok (.ireturn, 1) := by decide +kernel
theorem dX6_orderTold_0 : decode cX6_orderTold 0 = .ok (.iload_n 2, 1) := by decide +kernel
theorem dX6_orderTold_1 : decode cX6_orderTold 1 = .ok (.iconst 5, 1) := by decide +kernel
theorem dX6_orderTold_2 : decode cX6_orderTold 2 = .ok (.if_icmp .ge 12, 3) := by decide +kernel
theorem dX6_orderTold_5 : decode cX6_orderTold 5 = .ok (.aload_n 0, 1) := by decide +kernel
theorem dX6_orderTold_6 : decode cX6_orderTold 6 = .ok (.iload_n 1, 1) := by decide +kernel
theorem dX6_orderTold_7 : decode cX6_orderTold 7 = .ok (.iload_n 2, 1) := by decide +kernel
theorem dX6_orderTold_8 : decode cX6_orderTold 8 = .ok (.invokevirtual 100, 3) := by decide +kernel
theorem dX6_orderTold_11 : decode cX6_orderTold 11 = .ok (.goto 16, 3) := by decide +kernel
theorem dX6_orderTold_14 : decode cX6_orderTold 14 = .ok (.aload_n 0, 1) := by decide +kernel
theorem dX6_orderTold_15 : decode cX6_orderTold 15 = .ok (.iload_n 1, 1) := by decide +kernel
theorem dX6_orderTold_16 : decode cX6_orderTold 16 = .ok (.invokevirtual 134, 3) := by decide +kernel
theorem dX6_orderTold_19 : decode cX6_orderTold 19 = .ok (.ifCond .eq 7, 3) := by decide +kernel
theorem dX6_orderTold_22 : decode cX6_orderTold 22 = .ok (.iconst 1, 1) := by decide +kernel
theorem dX6_orderTold_23 : decode cX6_orderTold 23 = .ok (.goto 4, 3) := by decide +kernel
theorem dX6_orderTold_26 : decode cX6_orderTold 26 = .ok (.iconst 0, 1) := by decide +kernel
theorem dX6_orderTold_27 : decode cX6_orderTold 27 = .ok (.ireturn, 1) := by decide +kernel
theorem dX6_order_0 : decode cX6_order 0 = .ok (.aload_n 0, 1) := by decide +kernel
theorem dX6_order_1 : decode cX6_order 1 = .ok (.iconst 0, 1) := by decide +kernel
theorem dX6_order_2 : decode cX6_order 2 = .ok (.putfield 30, 3) := by decide +kernel
theorem dX6_order_5 : decode cX6_order 5 = .ok (.iload_n 1, 1) := by decide +kernel
theorem dX6_order_6 : decode cX6_order 6 = .ok (.iconst 0, 1) := by decide +kernel
theorem dX6_order_7 : decode cX6_order 7 = .ok (.aload_n 0, 1) := by decide +kernel
theorem dX6_order_8 : decode cX6_order 8 = .ok (.getfield 97, 3) := by decide +kernel
theorem dX6_order_11 : decode cX6_order 11 = .ok (.iconst 1, 1) := by decide +kernel
theorem dX6_order_12 : decode cX6_order 12 = .ok (.isub, 1) := by decide +kernel
theorem dX6_order_13 : decode cX6_order 13 = .ok (.invokestatic 36, 3) := by decide +kernel
theorem dX6_order_16 : decode cX6_order 16 = .ok (.ifCond .eq 21, 3) := by decide +kernel
theorem dX6_order_19 : decode cX6_order 19 = .ok (.iload_n 2, 1) := by decide +kernel
theorem dX6_order_20 : decode cX6_order 20 = .ok (.iconst 0, 1) := by decide +kernel
theorem dX6_order_21 : decode cX6_order 21 = .ok (.iconst 5, 1) := by decide +kernel
theorem dX6_order_22 : decode cX6_order 22 = .ok (.invokestatic 36, 3) := by decide +kernel
theorem dX6_order_25 : decode cX6_order 25 = .ok (.ifCond .eq 12, 3) := by decide +kernel
theorem dX6_order_28 : decode cX6_order 28 = .ok (.aload_n 0, 1) := by decide +kernel
theorem dX6_order_29 : decode cX6_order 29 = .ok (.iload_n 1, 1) := by decide +kernel
theorem dX6_order_30 : decode cX6_order 30 = .ok (.iload_n 2, 1) := by decide +kernel
theorem dX6_order_31 : decode cX6_order 31 = .ok (.invokevirtual 141, 3) := by decide +kernel
theorem dX6_order_34 : decode cX6_order 34 = .ok (.goto 8, 3) := by decide +kernel
theorem dX6_order_37 : decode cX6_order 37 = .ok (.aload_n 0, 1) := by decide +kernel
theorem dX6_order_38 : decode cX6_order 38 = .ok (.iconst 1, 1) := by decide +kernel
theorem dX6_order_39 : decode cX6_order 39 = .ok (.invokevirtual 40, 3) := by decide +kernel
theorem dX6_order_42 : decode cX6_order 42 = .ok (.ireturn, 1) := by decide +kernel
theorem dX6_pass_0 : decode cX6_pass 0 = .ok (.aload_n 0, 1) := by decide +kernel
theorem dX6_pass_1 : decode cX6_pass 1 = .ok (.iconst 0, 1) := by decide +kernel
theorem dX6_pass_2 : decode cX6_pass 2 = .ok (.putfield 30, 3) := by decide +kernel
theorem dX6_pass_5 : decode cX6_pass 5 = .ok (.iload_n 1, 1) := by decide +kernel
theorem dX6_pass_6 : decode cX6_pass 6 = .ok (.iconst 1, 1) := by decide +kernel
theorem dX6_pass_7 : decode cX6_pass 7 = .ok (.sipush 400, 3) := by decide +kernel
theorem dX6_pass_10 : decode cX6_pass 10 = .ok (.invokestatic 36, 3) := by decide +kernel
theorem dX6_pass_13 : decode cX6_pass 13 = .ok (.ifCond .ne 9, 3) := by decide +kernel
theorem dX6_pass_16 : decode cX6_pass 16 = .ok (.aload_n 0, 1) := by decide +kernel
theorem dX6_pass_17 : decode cX6_pass 17 = .ok (.iconst 1, 1) := by decide +kernel
theorem dX6_pass_18 : decode cX6_pass 18 = .ok (.invokevirtual 40, 3) := by decide +kernel
theorem dX6_pass_21 : decode cX6_pass 21 = .ok (.ireturn, 1) := by decide +kernel
theorem dX6_pass_22 : decode cX6_pass 22 = .ok (.iconst 0, 1) := by decide +kernel
theorem dX6_pass_23 : decode cX6_pass 23 = .ok (.istore_n 2, 1) := by decide +kernel
theorem dX6_pass_24 : decode cX6_pass 24 = .ok (.iload_n 2, 1) := by decide +kernel
theorem dX6_pass_25 : decode cX6_pass 25 = .ok (.iload_n 1, 1) := by decide +kernel
theorem dX6_pass_26 : decode cX6_pass 26 = .ok (.if_icmp .ge 14, 3) := by decide +kernel
theorem dX6_pass_29 : decode cX6_pass 29 = .ok (.aload_n 0, 1) := by decide +kernel
theorem dX6_pass_30 : decode cX6_pass 30 = .ok (.iconst (-1), 1) := by decide +kernel
theorem dX6_pass_31 : decode cX6_pass 31 = .ok (.invokevirtual 119, 3) := by decide +kernel
theorem dX6_pass_34 : decode cX6_pass 34 = .ok (.iinc 2 1, 3) := by decide +kernel
theorem dX6_pass_37 : decode cX6_pass 37 = .ok (.goto (-13), 3) := by decide +kernel
theorem dX6_pass_40 : decode cX6_pass 40 = .ok (.aload_n 0, 1) := by decide +kernel
theorem dX6_pass_41 : decode cX6_pass 41 = .ok (.getfield 7, 3) := by decide +kernel
theorem dX6_pass_44 : decode cX6_pass 44 = .ok (.ireturn, 1) := by decide +kernel
theorem dX6_with_0 : decode cX6_with 0 = .ok (.iconst 0, 1) := by decide +kernel
theorem dX6_with_1 : decode cX6_with 1 = .ok (.istore_n 2, 1) := by decide +kernel
theorem dX6_with_2 : decode cX6_with 2 = .ok (.iconst 0, 1) := by decide +kernel
theorem dX6_with_3 : decode cX6_with 3 = .ok (.istore_n 3, 1) := by decide +kernel
theorem dX6_with_4 : decode cX6_with 4 = .ok (.iload_n 3, 1) := by decide +kernel
theorem dX6_with_5 : decode cX6_with 5 = .ok (.aload_n 0, 1) := by decide +kernel
theorem dX6_with_6 : decode cX6_with 6 = .ok (.getfield 97, 3) := by decide +kernel
theorem dX6_with_9 : decode cX6_with 9 = .ok (.if_icmp .ge 27, 3) := by decide +kernel
theorem dX6_with_12 : decode cX6_with 12 = .ok (.iload_n 2, 1) := by decide +kernel
theorem dX6_with_13 : decode cX6_with 13 = .ok (.aload_n 0, 1) := by decide +kernel
theorem dX6_with_14 : decode cX6_with 14 = .ok (.iload_n 3, 1) := by decide +kernel
theorem dX6_with_15 : decode cX6_with 15 = .ok (.iconst 4, 1) := by decide +kernel
theorem dX6_with_16 : decode cX6_with 16 = .ok (.invokevirtual 100, 3) := by decide +kernel
theorem dX6_with_19 : decode cX6_with 19 = .ok (.iload_n 1, 1) := by decide +kernel
theorem dX6_with_20 : decode cX6_with 20 = .ok (.if_icmp .ne 7, 3) := by decide +kernel
theorem dX6_with_23 : decode cX6_with 23 = .ok (.iconst 1, 1) := by decide +kernel
theorem dX6_with_24 : decode cX6_with 24 = .ok (.goto 4, 3) := by decide +kernel
theorem dX6_with_27 : decode cX6_with 27 = .ok (.iconst 0, 1) := by decide +kernel
theorem dX6_with_28 : decode cX6_with 28 = .ok (.iadd, 1) := by decide +kernel
theorem dX6_with_29 : decode cX6_with 29 = .ok (.istore_n 2, 1) := by decide +kernel
theorem dX6_with_30 : decode cX6_with 30 = .ok (.iinc 3 1, 3) := by decide +kernel
theorem dX6_with_33 : decode cX6_with 33 = .ok (.goto (-29), 3) := by decide +kernel
theorem dX6_with_36 : decode cX6_with 36 = .ok (.iload_n 2, 1) := by decide +kernel
theorem dX6_with_37 : decode cX6_with 37 = .ok (.ireturn, 1) := by decide +kernel
theorem dX6_counted_0 : decode cX6_counted 0 = .ok (.iconst 0, 1) := by decide +kernel
theorem dX6_counted_1 : decode cX6_counted 1 = .ok (.istore_n 2, 1) := by decide +kernel
theorem dX6_counted_2 : decode cX6_counted 2 = .ok (.iload_n 1, 1) := by decide +kernel
theorem dX6_counted_3 : decode cX6_counted 3 = .ok (.tableswitch 112 0 7 #[45, 50, 55, 89, 94, 99, 99, 107], 45) := by decide +kernel
theorem dX6_counted_48 : decode cX6_counted 48 = .ok (.aload_n 0, 1) := by decide +kernel
theorem dX6_counted_49 : decode cX6_counted 49 = .ok (.getfield 94, 3) := by decide +kernel
theorem dX6_counted_52 : decode cX6_counted 52 = .ok (.ireturn, 1) := by decide +kernel
theorem dX6_counted_53 : decode cX6_counted 53 = .ok (.aload_n 0, 1) := by decide +kernel
theorem dX6_counted_54 : decode cX6_counted 54 = .ok (.getfield 33, 3) := by decide +kernel
theorem dX6_counted_57 : decode cX6_counted 57 = .ok (.ireturn, 1) := by decide +kernel
theorem dX6_counted_58 : decode cX6_counted 58 = .ok (.iconst 0, 1) := by decide +kernel
theorem dX6_counted_59 : decode cX6_counted 59 = .ok (.istore_n 3, 1) := by decide +kernel
theorem dX6_counted_60 : decode cX6_counted 60 = .ok (.iload_n 3, 1) := by decide +kernel
theorem dX6_counted_61 : decode cX6_counted 61 = .ok (.aload_n 0, 1) := by decide +kernel
theorem dX6_counted_62 : decode cX6_counted 62 = .ok (.getfield 33, 3) := by decide +kernel
theorem dX6_counted_65 : decode cX6_counted 65 = .ok (.if_icmp .ge 25, 3) := by decide +kernel
theorem dX6_counted_68 : decode cX6_counted 68 = .ok (.iload_n 2, 1) := by decide +kernel
theorem dX6_counted_69 : decode cX6_counted 69 = .ok (.aload_n 0, 1) := by decide +kernel
theorem dX6_counted_70 : decode cX6_counted 70 = .ok (.iload_n 3, 1) := by decide +kernel
theorem dX6_counted_71 : decode cX6_counted 71 = .ok (.invokevirtual 107, 3) := by decide +kernel
theorem dX6_counted_74 : decode cX6_counted 74 = .ok (.ifCond .eq 7, 3) := by decide +kernel
theorem dX6_counted_77 : decode cX6_counted 77 = .ok (.iconst 1, 1) := by decide +kernel
theorem dX6_counted_78 : decode cX6_counted 78 = .ok (.goto 4, 3) := by decide +kernel
theorem dX6_counted_81 : decode cX6_counted 81 = .ok (.iconst 0, 1) := by decide +kernel
theorem dX6_counted_82 : decode cX6_counted 82 = .ok (.iadd, 1) := by decide +kernel
theorem dX6_counted_83 : decode cX6_counted 83 = .ok (.istore_n 2, 1) := by decide +kernel
theorem dX6_counted_84 : decode cX6_counted 84 = .ok (.iinc 3 1, 3) := by decide +kernel
theorem dX6_counted_87 : decode cX6_counted 87 = .ok (.goto (-27), 3) := by decide +kernel
theorem dX6_counted_90 : decode cX6_counted 90 = .ok (.iload_n 2, 1) := by decide +kernel
theorem dX6_counted_91 : decode cX6_counted 91 = .ok (.ireturn, 1) := by decide +kernel
theorem dX6_counted_92 : decode cX6_counted 92 = .ok (.aload_n 0, 1) := by decide +kernel
theorem dX6_counted_93 : decode cX6_counted 93 = .ok (.invokevirtual 137, 3) := by decide +kernel
theorem dX6_counted_96 : decode cX6_counted 96 = .ok (.ireturn, 1) := by decide +kernel
theorem dX6_counted_97 : decode cX6_counted 97 = .ok (.aload_n 0, 1) := by decide +kernel
theorem dX6_counted_98 : decode cX6_counted 98 = .ok (.getfield 97, 3) := by decide +kernel
theorem dX6_counted_101 : decode cX6_counted 101 = .ok (.ireturn, 1) := by decide +kernel
theorem dX6_counted_102 : decode cX6_counted 102 = .ok (.aload_n 0, 1) := by decide +kernel
theorem dX6_counted_103 : decode cX6_counted 103 = .ok (.iload_n 1, 1) := by decide +kernel
theorem dX6_counted_104 : decode cX6_counted 104 = .ok (.iconst 4, 1) := by decide +kernel
theorem dX6_counted_105 : decode cX6_counted 105 = .ok (.isub, 1) := by decide +kernel
theorem dX6_counted_106 : decode cX6_counted 106 = .ok (.invokevirtual 144, 3) := by decide +kernel
theorem dX6_counted_109 : decode cX6_counted 109 = .ok (.ireturn, 1) := by decide +kernel
theorem dX6_counted_110 : decode cX6_counted 110 = .ok (.aload_n 0, 1) := by decide +kernel
theorem dX6_counted_111 : decode cX6_counted 111 = .ok (.getfield 116, 3) := by decide +kernel
theorem dX6_counted_114 : decode cX6_counted 114 = .ok (.ireturn, 1) := by decide +kernel
theorem dX6_counted_115 : decode cX6_counted 115 = .ok (.aload_n 0, 1) := by decide +kernel
theorem dX6_counted_116 : decode cX6_counted 116 = .ok (.getfield 125, 3) := by decide +kernel
theorem dX6_counted_119 : decode cX6_counted 119 = .ok (.ireturn, 1) := by decide +kernel
theorem dX6_count_0 : decode cX6_count 0 = .ok (.aload_n 0, 1) := by decide +kernel
theorem dX6_count_1 : decode cX6_count 1 = .ok (.iconst 0, 1) := by decide +kernel
theorem dX6_count_2 : decode cX6_count 2 = .ok (.putfield 30, 3) := by decide +kernel
theorem dX6_count_5 : decode cX6_count 5 = .ok (.iload_n 1, 1) := by decide +kernel
theorem dX6_count_6 : decode cX6_count 6 = .ok (.iconst 0, 1) := by decide +kernel
theorem dX6_count_7 : decode cX6_count 7 = .ok (.bipush 8, 2) := by decide +kernel
theorem dX6_count_9 : decode cX6_count 9 = .ok (.invokestatic 36, 3) := by decide +kernel
theorem dX6_count_12 : decode cX6_count 12 = .ok (.ifCond .eq 11, 3) := by decide +kernel
theorem dX6_count_15 : decode cX6_count 15 = .ok (.aload_n 0, 1) := by decide +kernel
theorem dX6_count_16 : decode cX6_count 16 = .ok (.iload_n 1, 1) := by decide +kernel
theorem dX6_count_17 : decode cX6_count 17 = .ok (.invokevirtual 147, 3) := by decide +kernel
theorem dX6_count_20 : decode cX6_count 20 = .ok (.goto 8, 3) := by decide +kernel
theorem dX6_count_23 : decode cX6_count 23 = .ok (.aload_n 0, 1) := by decide +kernel
theorem dX6_count_24 : decode cX6_count 24 = .ok (.iconst 1, 1) := by decide +kernel
theorem dX6_count_25 : decode cX6_count 25 = .ok (.invokevirtual 40, 3) := by decide +kernel
theorem dX6_count_28 : decode cX6_count 28 = .ok (.ireturn, 1) := by decide +kernel
theorem dX6_would_0 : decode cX6_would 0 = .ok (.aload_n 0, 1) := by decide +kernel
theorem dX6_would_1 : decode cX6_would 1 = .ok (.iconst 0, 1) := by decide +kernel
theorem dX6_would_2 : decode cX6_would 2 = .ok (.putfield 30, 3) := by decide +kernel
theorem dX6_would_5 : decode cX6_would 5 = .ok (.aload_n 0, 1) := by decide +kernel
theorem dX6_would_6 : decode cX6_would 6 = .ok (.iload_n 1, 1) := by decide +kernel
theorem dX6_would_7 : decode cX6_would 7 = .ok (.invokevirtual 63, 3) := by decide +kernel
theorem dX6_would_10 : decode cX6_would 10 = .ok (.ifCond .ne 9, 3) := by decide +kernel
theorem dX6_would_13 : decode cX6_would 13 = .ok (.aload_n 0, 1) := by decide +kernel
theorem dX6_would_14 : decode cX6_would 14 = .ok (.iconst 1, 1) := by decide +kernel
theorem dX6_would_15 : decode cX6_would 15 = .ok (.invokevirtual 40, 3) := by decide +kernel
theorem dX6_would_18 : decode cX6_would 18 = .ok (.ireturn, 1) := by decide +kernel
theorem dX6_would_19 : decode cX6_would 19 = .ok (.iload_n 2, 1) := by decide +kernel
theorem dX6_would_20 : decode cX6_would 20 = .ok (.iconst 1, 1) := by decide +kernel
theorem dX6_would_21 : decode cX6_would 21 = .ok (.bipush 40, 2) := by decide +kernel
theorem dX6_would_23 : decode cX6_would 23 = .ok (.invokestatic 36, 3) := by decide +kernel
theorem dX6_would_26 : decode cX6_would 26 = .ok (.ifCond .ne 9, 3) := by decide +kernel
theorem dX6_would_29 : decode cX6_would 29 = .ok (.aload_n 0, 1) := by decide +kernel
theorem dX6_would_30 : decode cX6_would 30 = .ok (.iconst 2, 1) := by decide +kernel
theorem dX6_would_31 : decode cX6_would 31 = .ok (.invokevirtual 40, 3) := by decide +kernel
theorem dX6_would_34 : decode cX6_would 34 = .ok (.ireturn, 1) := by decide +kernel
theorem dX6_would_35 : decode cX6_would 35 = .ok (.aload_n 0, 1) := by decide +kernel
theorem dX6_would_36 : decode cX6_would 36 = .ok (.iload_n 1, 1) := by decide +kernel
theorem dX6_would_37 : decode cX6_would 37 = .ok (.invokevirtual 107, 3) := by decide +kernel
theorem dX6_would_40 : decode cX6_would 40 = .ok (.ifCond .ne 9, 3) := by decide +kernel
theorem dX6_would_43 : decode cX6_would 43 = .ok (.aload_n 0, 1) := by decide +kernel
theorem dX6_would_44 : decode cX6_would 44 = .ok (.iconst 3, 1) := by decide +kernel
theorem dX6_would_45 : decode cX6_would 45 = .ok (.invokevirtual 40, 3) := by decide +kernel
theorem dX6_would_48 : decode cX6_would 48 = .ok (.ireturn, 1) := by decide +kernel
theorem dX6_would_49 : decode cX6_would 49 = .ok (.aload_n 0, 1) := by decide +kernel
theorem dX6_would_50 : decode cX6_would 50 = .ok (.iload_n 1, 1) := by decide +kernel
theorem dX6_would_51 : decode cX6_would 51 = .ok (.invokevirtual 103, 3) := by decide +kernel
theorem dX6_would_54 : decode cX6_would 54 = .ok (.iconst 0, 1) := by decide +kernel
theorem dX6_would_55 : decode cX6_would 55 = .ok (.istore_n 3, 1) := by decide +kernel
theorem dX6_would_56 : decode cX6_would 56 = .ok (.iload_n 3, 1) := by decide +kernel
theorem dX6_would_57 : decode cX6_would 57 = .ok (.iload_n 2, 1) := by decide +kernel
theorem dX6_would_58 : decode cX6_would 58 = .ok (.if_icmp .ge 38, 3) := by decide +kernel
theorem dX6_would_61 : decode cX6_would 61 = .ok (.aload_n 0, 1) := by decide +kernel
theorem dX6_would_62 : decode cX6_would 62 = .ok (.iload_n 1, 1) := by decide +kernel
theorem dX6_would_63 : decode cX6_would 63 = .ok (.invokevirtual 110, 3) := by decide +kernel
theorem dX6_would_66 : decode cX6_would 66 = .ok (.ifCond .eq 30, 3) := by decide +kernel
theorem dX6_would_69 : decode cX6_would 69 = .ok (.aload_n 0, 1) := by decide +kernel
theorem dX6_would_70 : decode cX6_would 70 = .ok (.iload_n 1, 1) := by decide +kernel
theorem dX6_would_71 : decode cX6_would 71 = .ok (.invokevirtual 113, 3) := by decide +kernel
theorem dX6_would_74 : decode cX6_would 74 = .ok (.aload_n 0, 1) := by decide +kernel
theorem dX6_would_75 : decode cX6_would 75 = .ok (.getfield 23, 3) := by decide +kernel
theorem dX6_would_78 : decode cX6_would 78 = .ok (.iconst 1, 1) := by decide +kernel
theorem dX6_would_79 : decode cX6_would 79 = .ok (.aload_n 0, 1) := by decide +kernel
theorem dX6_would_80 : decode cX6_would 80 = .ok (.aload_n 0, 1) := by decide +kernel
theorem dX6_would_81 : decode cX6_would 81 = .ok (.getfield 23, 3) := by decide +kernel
theorem dX6_would_84 : decode cX6_would 84 = .ok (.iconst 1, 1) := by decide +kernel
theorem dX6_would_85 : decode cX6_would 85 = .ok (.iaload, 1) := by decide +kernel
theorem dX6_would_86 : decode cX6_would 86 = .ok (.invokevirtual 88, 3) := by decide +kernel
theorem dX6_would_89 : decode cX6_would 89 = .ok (.iastore, 1) := by decide +kernel
theorem dX6_would_90 : decode cX6_would 90 = .ok (.iinc 3 1, 3) := by decide +kernel
theorem dX6_would_93 : decode cX6_would 93 = .ok (.goto (-37), 3) := by decide +kernel
theorem dX6_would_96 : decode cX6_would 96 = .ok (.aload_n 0, 1) := by decide +kernel
theorem dX6_would_97 : decode cX6_would 97 = .ok (.getfield 23, 3) := by decide +kernel
theorem dX6_would_100 : decode cX6_would 100 = .ok (.iconst 2, 1) := by decide +kernel
theorem dX6_would_101 : decode cX6_would 101 = .ok (.iaload, 1) := by decide +kernel
theorem dX6_would_102 : decode cX6_would 102 = .ok (.ireturn, 1) := by decide +kernel
theorem dX6_needs_0 : decode cX6_needs 0 = .ok (.aload_n 0, 1) := by decide +kernel
theorem dX6_needs_1 : decode cX6_needs 1 = .ok (.iload_n 1, 1) := by decide +kernel
theorem dX6_needs_2 : decode cX6_needs 2 = .ok (.invokevirtual 103, 3) := by decide +kernel
theorem dX6_needs_5 : decode cX6_needs 5 = .ok (.aload_n 0, 1) := by decide +kernel
theorem dX6_needs_6 : decode cX6_needs 6 = .ok (.getfield 23, 3) := by decide +kernel
theorem dX6_needs_9 : decode cX6_needs 9 = .ok (.iconst 2, 1) := by decide +kernel
theorem dX6_needs_10 : decode cX6_needs 10 = .ok (.iaload, 1) := by decide +kernel
theorem dX6_needs_11 : decode cX6_needs 11 = .ok (.aload_n 0, 1) := by decide +kernel
theorem dX6_needs_12 : decode cX6_needs 12 = .ok (.getfield 23, 3) := by decide +kernel
theorem dX6_needs_15 : decode cX6_needs 15 = .ok (.iconst 4, 1) := by decide +kernel
theorem dX6_needs_16 : decode cX6_needs 16 = .ok (.iaload, 1) := by decide +kernel
theorem dX6_needs_17 : decode cX6_needs 17 = .ok (.invokestatic 122, 3) := by decide +kernel
theorem dX6_needs_20 : decode cX6_needs 20 = .ok (.iload_n 3, 1) := by decide +kernel
theorem dX6_needs_21 : decode cX6_needs 21 = .ok (.if_icmp .lt 5, 3) := by decide +kernel
theorem dX6_needs_24 : decode cX6_needs 24 = .ok (.iconst 0, 1) := by decide +kernel
theorem dX6_needs_25 : decode cX6_needs 25 = .ok (.ireturn, 1) := by decide +kernel
theorem dX6_needs_26 : decode cX6_needs 26 = .ok (.iconst 1, 1) := by decide +kernel
theorem dX6_needs_27 : decode cX6_needs 27 = .ok (.istore 4, 2) := by decide +kernel
theorem dX6_needs_29 : decode cX6_needs 29 = .ok (.iload 4, 2) := by decide +kernel
theorem dX6_needs_31 : decode cX6_needs 31 = .ok (.bipush 60, 2) := by decide +kernel
theorem dX6_needs_33 : decode cX6_needs 33 = .ok (.if_icmp .gt 115, 3) := by decide +kernel
theorem dX6_needs_36 : decode cX6_needs 36 = .ok (.aload_n 0, 1) := by decide +kernel
theorem dX6_needs_37 : decode cX6_needs 37 = .ok (.iload_n 1, 1) := by decide +kernel
theorem dX6_needs_38 : decode cX6_needs 38 = .ok (.invokevirtual 110, 3) := by decide +kernel
theorem dX6_needs_41 : decode cX6_needs 41 = .ok (.ifCond .ne 5, 3) := by decide +kernel
theorem dX6_needs_44 : decode cX6_needs 44 = .ok (.iconst (-1), 1) := by decide +kernel
theorem dX6_needs_45 : decode cX6_needs 45 = .ok (.ireturn, 1) := by decide +kernel
theorem dX6_needs_46 : decode cX6_needs 46 = .ok (.aload_n 0, 1) := by decide +kernel
theorem dX6_needs_47 : decode cX6_needs 47 = .ok (.iload_n 1, 1) := by decide +kernel
theorem dX6_needs_48 : decode cX6_needs 48 = .ok (.invokevirtual 113, 3) := by decide +kernel
theorem dX6_needs_51 : decode cX6_needs 51 = .ok (.aload_n 0, 1) := by decide +kernel
theorem dX6_needs_52 : decode cX6_needs 52 = .ok (.getfield 23, 3) := by decide +kernel
theorem dX6_needs_55 : decode cX6_needs 55 = .ok (.iconst 2, 1) := by decide +kernel
theorem dX6_needs_56 : decode cX6_needs 56 = .ok (.iaload, 1) := by decide +kernel
theorem dX6_needs_57 : decode cX6_needs 57 = .ok (.aload_n 0, 1) := by decide +kernel
theorem dX6_needs_58 : decode cX6_needs 58 = .ok (.getfield 23, 3) := by decide +kernel
theorem dX6_needs_61 : decode cX6_needs 61 = .ok (.iconst 4, 1) := by decide +kernel
theorem dX6_needs_62 : decode cX6_needs 62 = .ok (.iaload, 1) := by decide +kernel
theorem dX6_needs_63 : decode cX6_needs 63 = .ok (.invokestatic 122, 3) := by decide +kernel
theorem dX6_needs_66 : decode cX6_needs 66 = .ok (.iload_n 3, 1) := by decide +kernel
theorem dX6_needs_67 : decode cX6_needs 67 = .ok (.if_icmp .lt 6, 3) := by decide +kernel
theorem dX6_needs_70 : decode cX6_needs 70 = .ok (.iload 4, 2) := by decide +kernel
theorem dX6_needs_72 : decode cX6_needs 72 = .ok (.ireturn, 1) := by decide +kernel
theorem dX6_needs_73 : decode cX6_needs 73 = .ok (.aload_n 0, 1) := by decide +kernel
theorem dX6_needs_74 : decode cX6_needs 74 = .ok (.getfield 23, 3) := by decide +kernel
theorem dX6_needs_77 : decode cX6_needs 77 = .ok (.iconst 1, 1) := by decide +kernel
theorem dX6_needs_78 : decode cX6_needs 78 = .ok (.aload_n 0, 1) := by decide +kernel
theorem dX6_needs_79 : decode cX6_needs 79 = .ok (.aload_n 0, 1) := by decide +kernel
theorem dX6_needs_80 : decode cX6_needs 80 = .ok (.getfield 23, 3) := by decide +kernel
theorem dX6_needs_83 : decode cX6_needs 83 = .ok (.iconst 1, 1) := by decide +kernel
theorem dX6_needs_84 : decode cX6_needs 84 = .ok (.iaload, 1) := by decide +kernel
theorem dX6_needs_85 : decode cX6_needs 85 = .ok (.invokevirtual 88, 3) := by decide +kernel
theorem dX6_needs_88 : decode cX6_needs 88 = .ok (.iastore, 1) := by decide +kernel
theorem dX6_needs_89 : decode cX6_needs 89 = .ok (.iconst 0, 1) := by decide +kernel
theorem dX6_needs_90 : decode cX6_needs 90 = .ok (.istore 5, 2) := by decide +kernel
theorem dX6_needs_92 : decode cX6_needs 92 = .ok (.iload 5, 2) := by decide +kernel
theorem dX6_needs_94 : decode cX6_needs 94 = .ok (.iload_n 2, 1) := by decide +kernel
theorem dX6_needs_95 : decode cX6_needs 95 = .ok (.if_icmp .ge 47, 3) := by decide +kernel
theorem dX6_needs_98 : decode cX6_needs 98 = .ok (.aload_n 0, 1) := by decide +kernel
theorem dX6_needs_99 : decode cX6_needs 99 = .ok (.getfield 23, 3) := by decide +kernel
theorem dX6_needs_102 : decode cX6_needs 102 = .ok (.iconst 1, 1) := by decide +kernel
theorem dX6_needs_103 : decode cX6_needs 103 = .ok (.aload_n 0, 1) := by decide +kernel
theorem dX6_needs_104 : decode cX6_needs 104 = .ok (.aload_n 0, 1) := by decide +kernel
theorem dX6_needs_105 : decode cX6_needs 105 = .ok (.getfield 23, 3) := by decide +kernel
theorem dX6_needs_108 : decode cX6_needs 108 = .ok (.iconst 1, 1) := by decide +kernel
theorem dX6_needs_109 : decode cX6_needs 109 = .ok (.iaload, 1) := by decide +kernel
theorem dX6_needs_110 : decode cX6_needs 110 = .ok (.invokevirtual 88, 3) := by decide +kernel
theorem dX6_needs_113 : decode cX6_needs 113 = .ok (.iastore, 1) := by decide +kernel
theorem dX6_needs_114 : decode cX6_needs 114 = .ok (.aload_n 0, 1) := by decide +kernel
theorem dX6_needs_115 : decode cX6_needs 115 = .ok (.getfield 23, 3) := by decide +kernel
theorem dX6_needs_118 : decode cX6_needs 118 = .ok (.iconst 3, 1) := by decide +kernel
theorem dX6_needs_119 : decode cX6_needs 119 = .ok (.iconst 0, 1) := by decide +kernel
theorem dX6_needs_120 : decode cX6_needs 120 = .ok (.aload_n 0, 1) := by decide +kernel
theorem dX6_needs_121 : decode cX6_needs 121 = .ok (.getfield 23, 3) := by decide +kernel
theorem dX6_needs_124 : decode cX6_needs 124 = .ok (.iconst 3, 1) := by decide +kernel
theorem dX6_needs_125 : decode cX6_needs 125 = .ok (.iaload, 1) := by decide +kernel
theorem dX6_needs_126 : decode cX6_needs 126 = .ok (.aload_n 0, 1) := by decide +kernel
theorem dX6_needs_127 : decode cX6_needs 127 = .ok (.iload_n 1, 1) := by decide +kernel
theorem dX6_needs_128 : decode cX6_needs 128 = .ok (.invokevirtual 91, 3) := by decide +kernel
theorem dX6_needs_131 : decode cX6_needs 131 = .ok (.isub, 1) := by decide +kernel
theorem dX6_needs_132 : decode cX6_needs 132 = .ok (.invokestatic 85, 3) := by decide +kernel
theorem dX6_needs_135 : decode cX6_needs 135 = .ok (.iastore, 1) := by decide +kernel
theorem dX6_needs_136 : decode cX6_needs 136 = .ok (.iinc 5 1, 3) := by decide +kernel
theorem dX6_needs_139 : decode cX6_needs 139 = .ok (.goto (-47), 3) := by decide +kernel
theorem dX6_needs_142 : decode cX6_needs 142 = .ok (.iinc 4 1, 3) := by decide +kernel
theorem dX6_needs_145 : decode cX6_needs 145 = .ok (.goto (-116), 3) := by decide +kernel
theorem dX6_needs_148 : decode cX6_needs 148 = .ok (.iconst (-1), 1) := by decide +kernel
theorem dX6_needs_149 : decode cX6_needs 149 = .ok (.ireturn, 1) := by decide +kernel
theorem dX6_dipsTo_0 : decode cX6_dipsTo 0 = .ok (.aload_n 0, 1) := by decide +kernel
theorem dX6_dipsTo_1 : decode cX6_dipsTo 1 = .ok (.iconst 0, 1) := by decide +kernel
theorem dX6_dipsTo_2 : decode cX6_dipsTo 2 = .ok (.putfield 30, 3) := by decide +kernel
theorem dX6_dipsTo_5 : decode cX6_dipsTo 5 = .ok (.aload_n 0, 1) := by decide +kernel
theorem dX6_dipsTo_6 : decode cX6_dipsTo 6 = .ok (.iload_n 1, 1) := by decide +kernel
theorem dX6_dipsTo_7 : decode cX6_dipsTo 7 = .ok (.invokevirtual 63, 3) := by decide +kernel
theorem dX6_dipsTo_10 : decode cX6_dipsTo 10 = .ok (.ifCond .ne 9, 3) := by decide +kernel
theorem dX6_dipsTo_13 : decode cX6_dipsTo 13 = .ok (.aload_n 0, 1) := by decide +kernel
theorem dX6_dipsTo_14 : decode cX6_dipsTo 14 = .ok (.iconst 1, 1) := by decide +kernel
theorem dX6_dipsTo_15 : decode cX6_dipsTo 15 = .ok (.invokevirtual 40, 3) := by decide +kernel
theorem dX6_dipsTo_18 : decode cX6_dipsTo 18 = .ok (.ireturn, 1) := by decide +kernel
theorem dX6_dipsTo_19 : decode cX6_dipsTo 19 = .ok (.iload_n 2, 1) := by decide +kernel
theorem dX6_dipsTo_20 : decode cX6_dipsTo 20 = .ok (.iconst 0, 1) := by decide +kernel
theorem dX6_dipsTo_21 : decode cX6_dipsTo 21 = .ok (.bipush 20, 2) := by decide +kernel
theorem dX6_dipsTo_23 : decode cX6_dipsTo 23 = .ok (.invokestatic 36, 3) := by decide +kernel
theorem dX6_dipsTo_26 : decode cX6_dipsTo 26 = .ok (.ifCond .eq 13, 3) := by decide +kernel
theorem dX6_dipsTo_29 : decode cX6_dipsTo 29 = .ok (.iload_n 3, 1) := by decide +kernel
theorem dX6_dipsTo_30 : decode cX6_dipsTo 30 = .ok (.iconst 1, 1) := by decide +kernel
theorem dX6_dipsTo_31 : decode cX6_dipsTo 31 = .ok (.bipush 9, 2) := by decide +kernel
theorem dX6_dipsTo_33 : decode cX6_dipsTo 33 = .ok (.invokestatic 36, 3) := by decide +kernel
theorem dX6_dipsTo_36 : decode cX6_dipsTo 36 = .ok (.ifCond .ne 9, 3) := by decide +kernel
theorem dX6_dipsTo_39 : decode cX6_dipsTo 39 = .ok (.aload_n 0, 1) := by decide +kernel
theorem dX6_dipsTo_40 : decode cX6_dipsTo 40 = .ok (.iconst 2, 1) := by decide +kernel
theorem dX6_dipsTo_41 : decode cX6_dipsTo 41 = .ok (.invokevirtual 40, 3) := by decide +kernel
theorem dX6_dipsTo_44 : decode cX6_dipsTo 44 = .ok (.ireturn, 1) := by decide +kernel
theorem dX6_dipsTo_45 : decode cX6_dipsTo 45 = .ok (.aload_n 0, 1) := by decide +kernel
theorem dX6_dipsTo_46 : decode cX6_dipsTo 46 = .ok (.iload_n 1, 1) := by decide +kernel
theorem dX6_dipsTo_47 : decode cX6_dipsTo 47 = .ok (.invokevirtual 107, 3) := by decide +kernel
theorem dX6_dipsTo_50 : decode cX6_dipsTo 50 = .ok (.ifCond .eq 13, 3) := by decide +kernel
theorem dX6_dipsTo_53 : decode cX6_dipsTo 53 = .ok (.aload_n 0, 1) := by decide +kernel
theorem dX6_dipsTo_54 : decode cX6_dipsTo 54 = .ok (.iload_n 1, 1) := by decide +kernel
theorem dX6_dipsTo_55 : decode cX6_dipsTo 55 = .ok (.iload_n 2, 1) := by decide +kernel
theorem dX6_dipsTo_56 : decode cX6_dipsTo 56 = .ok (.iload_n 3, 1) := by decide +kernel
theorem dX6_dipsTo_57 : decode cX6_dipsTo 57 = .ok (.invokevirtual 150, 3) := by decide +kernel
theorem dX6_dipsTo_60 : decode cX6_dipsTo 60 = .ok (.goto 8, 3) := by decide +kernel
theorem dX6_dipsTo_63 : decode cX6_dipsTo 63 = .ok (.aload_n 0, 1) := by decide +kernel
theorem dX6_dipsTo_64 : decode cX6_dipsTo 64 = .ok (.iconst 3, 1) := by decide +kernel
theorem dX6_dipsTo_65 : decode cX6_dipsTo 65 = .ok (.invokevirtual 40, 3) := by decide +kernel
theorem dX6_dipsTo_68 : decode cX6_dipsTo 68 = .ok (.ireturn, 1) := by decide +kernel
theorem dX6_bestRest_0 : decode cX6_bestRest 0 = .ok (.aload_n 0, 1) := by decide +kernel
theorem dX6_bestRest_1 : decode cX6_bestRest 1 = .ok (.iconst 0, 1) := by decide +kernel
theorem dX6_bestRest_2 : decode cX6_bestRest 2 = .ok (.putfield 30, 3) := by decide +kernel
theorem dX6_bestRest_5 : decode cX6_bestRest 5 = .ok (.aload_n 0, 1) := by decide +kernel
theorem dX6_bestRest_6 : decode cX6_bestRest 6 = .ok (.iload_n 1, 1) := by decide +kernel
theorem dX6_bestRest_7 : decode cX6_bestRest 7 = .ok (.invokevirtual 63, 3) := by decide +kernel
theorem dX6_bestRest_10 : decode cX6_bestRest 10 = .ok (.ifCond .ne 9, 3) := by decide +kernel
theorem dX6_bestRest_13 : decode cX6_bestRest 13 = .ok (.aload_n 0, 1) := by decide +kernel
theorem dX6_bestRest_14 : decode cX6_bestRest 14 = .ok (.iconst 1, 1) := by decide +kernel
theorem dX6_bestRest_15 : decode cX6_bestRest 15 = .ok (.invokevirtual 40, 3) := by decide +kernel
theorem dX6_bestRest_18 : decode cX6_bestRest 18 = .ok (.ireturn, 1) := by decide +kernel
theorem dX6_bestRest_19 : decode cX6_bestRest 19 = .ok (.iload_n 2, 1) := by decide +kernel
theorem dX6_bestRest_20 : decode cX6_bestRest 20 = .ok (.iconst 1, 1) := by decide +kernel
theorem dX6_bestRest_21 : decode cX6_bestRest 21 = .ok (.bipush 9, 2) := by decide +kernel
theorem dX6_bestRest_23 : decode cX6_bestRest 23 = .ok (.invokestatic 36, 3) := by decide +kernel
theorem dX6_bestRest_26 : decode cX6_bestRest 26 = .ok (.ifCond .ne 9, 3) := by decide +kernel
theorem dX6_bestRest_29 : decode cX6_bestRest 29 = .ok (.aload_n 0, 1) := by decide +kernel
theorem dX6_bestRest_30 : decode cX6_bestRest 30 = .ok (.iconst 2, 1) := by decide +kernel
theorem dX6_bestRest_31 : decode cX6_bestRest 31 = .ok (.invokevirtual 40, 3) := by decide +kernel
theorem dX6_bestRest_34 : decode cX6_bestRest 34 = .ok (.ireturn, 1) := by decide +kernel
theorem dX6_bestRest_35 : decode cX6_bestRest 35 = .ok (.aload_n 0, 1) := by decide +kernel
theorem dX6_bestRest_36 : decode cX6_bestRest 36 = .ok (.iload_n 1, 1) := by decide +kernel
theorem dX6_bestRest_37 : decode cX6_bestRest 37 = .ok (.invokevirtual 107, 3) := by decide +kernel
theorem dX6_bestRest_40 : decode cX6_bestRest 40 = .ok (.ifCond .ne 9, 3) := by decide +kernel
theorem dX6_bestRest_43 : decode cX6_bestRest 43 = .ok (.aload_n 0, 1) := by decide +kernel
theorem dX6_bestRest_44 : decode cX6_bestRest 44 = .ok (.iconst 3, 1) := by decide +kernel
theorem dX6_bestRest_45 : decode cX6_bestRest 45 = .ok (.invokevirtual 40, 3) := by decide +kernel
theorem dX6_bestRest_48 : decode cX6_bestRest 48 = .ok (.ireturn, 1) := by decide +kernel
theorem dX6_bestRest_49 : decode cX6_bestRest 49 = .ok (.iconst (-1), 1) := by decide +kernel
theorem dX6_bestRest_50 : decode cX6_bestRest 50 = .ok (.istore_n 3, 1) := by decide +kernel
theorem dX6_bestRest_51 : decode cX6_bestRest 51 = .ok (.iconst 0, 1) := by decide +kernel
theorem dX6_bestRest_52 : decode cX6_bestRest 52 = .ok (.istore 4, 2) := by decide +kernel
theorem dX6_bestRest_54 : decode cX6_bestRest 54 = .ok (.bipush 20, 2) := by decide +kernel
theorem dX6_bestRest_56 : decode cX6_bestRest 56 = .ok (.istore 5, 2) := by decide +kernel
theorem dX6_bestRest_58 : decode cX6_bestRest 58 = .ok (.iload 5, 2) := by decide +kernel
theorem dX6_bestRest_60 : decode cX6_bestRest 60 = .ok (.ifCond .lt 66, 3) := by decide +kernel
theorem dX6_bestRest_63 : decode cX6_bestRest 63 = .ok (.aload_n 0, 1) := by decide +kernel
theorem dX6_bestRest_64 : decode cX6_bestRest 64 = .ok (.iload_n 1, 1) := by decide +kernel
theorem dX6_bestRest_65 : decode cX6_bestRest 65 = .ok (.iload 5, 2) := by decide +kernel
theorem dX6_bestRest_67 : decode cX6_bestRest 67 = .ok (.iload_n 2, 1) := by decide +kernel
theorem dX6_bestRest_68 : decode cX6_bestRest 68 = .ok (.invokevirtual 150, 3) := by decide +kernel
theorem dX6_bestRest_71 : decode cX6_bestRest 71 = .ok (.istore 6, 2) := by decide +kernel
theorem dX6_bestRest_73 : decode cX6_bestRest 73 = .ok (.iload 6, 2) := by decide +kernel
theorem dX6_bestRest_75 : decode cX6_bestRest 75 = .ok (.ifCond .ne 5, 3) := by decide +kernel
theorem dX6_bestRest_78 : decode cX6_bestRest 78 = .ok (.iconst 0, 1) := by decide +kernel
theorem dX6_bestRest_79 : decode cX6_bestRest 79 = .ok (.ireturn, 1) := by decide +kernel
theorem dX6_bestRest_80 : decode cX6_bestRest 80 = .ok (.iload 6, 2) := by decide +kernel
theorem dX6_bestRest_82 : decode cX6_bestRest 82 = .ok (.iload 5, 2) := by decide +kernel
theorem dX6_bestRest_84 : decode cX6_bestRest 84 = .ok (.iload 6, 2) := by decide +kernel
theorem dX6_bestRest_86 : decode cX6_bestRest 86 = .ok (.iconst 1, 1) := by decide +kernel
theorem dX6_bestRest_87 : decode cX6_bestRest 87 = .ok (.isub, 1) := by decide +kernel
theorem dX6_bestRest_88 : decode cX6_bestRest 88 = .ok (.imul, 1) := by decide +kernel
theorem dX6_bestRest_89 : decode cX6_bestRest 89 = .ok (.iadd, 1) := by decide +kernel
theorem dX6_bestRest_90 : decode cX6_bestRest 90 = .ok (.istore 7, 2) := by decide +kernel
theorem dX6_bestRest_92 : decode cX6_bestRest 92 = .ok (.iload 6, 2) := by decide +kernel
theorem dX6_bestRest_94 : decode cX6_bestRest 94 = .ok (.iconst (-1), 1) := by decide +kernel
theorem dX6_bestRest_95 : decode cX6_bestRest 95 = .ok (.if_icmp .eq 25, 3) := by decide +kernel
theorem dX6_bestRest_98 : decode cX6_bestRest 98 = .ok (.iload_n 3, 1) := by decide +kernel
theorem dX6_bestRest_99 : decode cX6_bestRest 99 = .ok (.iconst (-1), 1) := by decide +kernel
theorem dX6_bestRest_100 : decode cX6_bestRest 100 = .ok (.if_icmp .eq 13, 3) := by decide +kernel
theorem dX6_bestRest_103 : decode cX6_bestRest 103 = .ok (.iload 7, 2) := by decide +kernel
theorem dX6_bestRest_105 : decode cX6_bestRest 105 = .ok (.iload 4, 2) := by decide +kernel
theorem dX6_bestRest_107 : decode cX6_bestRest 107 = .ok (.if_icmp .le 6, 3) := by decide +kernel
theorem dX6_bestRest_110 : decode cX6_bestRest 110 = .ok (.goto 10, 3) := by decide +kernel
theorem dX6_bestRest_113 : decode cX6_bestRest 113 = .ok (.iload 5, 2) := by decide +kernel
theorem dX6_bestRest_115 : decode cX6_bestRest 115 = .ok (.istore_n 3, 1) := by decide +kernel
theorem dX6_bestRest_116 : decode cX6_bestRest 116 = .ok (.iload 7, 2) := by decide +kernel
theorem dX6_bestRest_118 : decode cX6_bestRest 118 = .ok (.istore 4, 2) := by decide +kernel
theorem dX6_bestRest_120 : decode cX6_bestRest 120 = .ok (.iinc 5 (-1), 3) := by decide +kernel
theorem dX6_bestRest_123 : decode cX6_bestRest 123 = .ok (.goto (-65), 3) := by decide +kernel
theorem dX6_bestRest_126 : decode cX6_bestRest 126 = .ok (.iload_n 3, 1) := by decide +kernel
theorem dX6_bestRest_127 : decode cX6_bestRest 127 = .ok (.ireturn, 1) := by decide +kernel
theorem dX6_advise_0 : decode cX6_advise 0 = .ok (.aload_n 0, 1) := by decide +kernel
theorem dX6_advise_1 : decode cX6_advise 1 = .ok (.iconst 0, 1) := by decide +kernel
theorem dX6_advise_2 : decode cX6_advise 2 = .ok (.putfield 30, 3) := by decide +kernel
theorem dX6_advise_5 : decode cX6_advise 5 = .ok (.iconst (-1), 1) := by decide +kernel
theorem dX6_advise_6 : decode cX6_advise 6 = .ok (.istore_n 1, 1) := by decide +kernel
theorem dX6_advise_7 : decode cX6_advise 7 = .ok (.iconst 0, 1) := by decide +kernel
theorem dX6_advise_8 : decode cX6_advise 8 = .ok (.istore_n 2, 1) := by decide +kernel
theorem dX6_advise_9 : decode cX6_advise 9 = .ok (.iconst 0, 1) := by decide +kernel
theorem dX6_advise_10 : decode cX6_advise 10 = .ok (.istore_n 3, 1) := by decide +kernel
theorem dX6_advise_11 : decode cX6_advise 11 = .ok (.iload_n 3, 1) := by decide +kernel
theorem dX6_advise_12 : decode cX6_advise 12 = .ok (.aload_n 0, 1) := by decide +kernel
theorem dX6_advise_13 : decode cX6_advise 13 = .ok (.getfield 33, 3) := by decide +kernel
theorem dX6_advise_16 : decode cX6_advise 16 = .ok (.if_icmp .ge 50, 3) := by decide +kernel
theorem dX6_advise_19 : decode cX6_advise 19 = .ok (.aload_n 0, 1) := by decide +kernel
theorem dX6_advise_20 : decode cX6_advise 20 = .ok (.iload_n 3, 1) := by decide +kernel
theorem dX6_advise_21 : decode cX6_advise 21 = .ok (.invokevirtual 103, 3) := by decide +kernel
theorem dX6_advise_24 : decode cX6_advise 24 = .ok (.aload_n 0, 1) := by decide +kernel
theorem dX6_advise_25 : decode cX6_advise 25 = .ok (.iload_n 3, 1) := by decide +kernel
theorem dX6_advise_26 : decode cX6_advise 26 = .ok (.invokevirtual 107, 3) := by decide +kernel
theorem dX6_advise_29 : decode cX6_advise 29 = .ok (.ifCond .eq 31, 3) := by decide +kernel
theorem dX6_advise_32 : decode cX6_advise 32 = .ok (.aload_n 0, 1) := by decide +kernel
theorem dX6_advise_33 : decode cX6_advise 33 = .ok (.iload_n 3, 1) := by decide +kernel
theorem dX6_advise_34 : decode cX6_advise 34 = .ok (.invokevirtual 110, 3) := by decide +kernel
theorem dX6_advise_37 : decode cX6_advise 37 = .ok (.ifCond .eq 23, 3) := by decide +kernel
theorem dX6_advise_40 : decode cX6_advise 40 = .ok (.aload_n 0, 1) := by decide +kernel
theorem dX6_advise_41 : decode cX6_advise 41 = .ok (.iload_n 3, 1) := by decide +kernel
theorem dX6_advise_42 : decode cX6_advise 42 = .ok (.invokevirtual 79, 3) := by decide +kernel
theorem dX6_advise_45 : decode cX6_advise 45 = .ok (.iload_n 2, 1) := by decide +kernel
theorem dX6_advise_46 : decode cX6_advise 46 = .ok (.if_icmp .gt 6, 3) := by decide +kernel
theorem dX6_advise_49 : decode cX6_advise 49 = .ok (.goto 11, 3) := by decide +kernel
theorem dX6_advise_52 : decode cX6_advise 52 = .ok (.iload_n 3, 1) := by decide +kernel
theorem dX6_advise_53 : decode cX6_advise 53 = .ok (.istore_n 1, 1) := by decide +kernel
theorem dX6_advise_54 : decode cX6_advise 54 = .ok (.aload_n 0, 1) := by decide +kernel
theorem dX6_advise_55 : decode cX6_advise 55 = .ok (.iload_n 3, 1) := by decide +kernel
theorem dX6_advise_56 : decode cX6_advise 56 = .ok (.invokevirtual 79, 3) := by decide +kernel
theorem dX6_advise_59 : decode cX6_advise 59 = .ok (.istore_n 2, 1) := by decide +kernel
theorem dX6_advise_60 : decode cX6_advise 60 = .ok (.iinc 3 1, 3) := by decide +kernel
theorem dX6_advise_63 : decode cX6_advise 63 = .ok (.goto (-52), 3) := by decide +kernel
theorem dX6_advise_66 : decode cX6_advise 66 = .ok (.iload_n 1, 1) := by decide +kernel
theorem dX6_advise_67 : decode cX6_advise 67 = .ok (.ireturn, 1) := by decide +kernel
theorem dX6_possibleOf_0 : decode cX6_possibleOf 0 = .ok (.iconst 0, 1) := by decide +kernel
theorem dX6_possibleOf_1 : decode cX6_possibleOf 1 = .ok (.istore_n 2, 1) := by decide +kernel
theorem dX6_possibleOf_2 : decode cX6_possibleOf 2 = .ok (.iconst 0, 1) := by decide +kernel
theorem dX6_possibleOf_3 : decode cX6_possibleOf 3 = .ok (.istore_n 3, 1) := by decide +kernel
theorem dX6_possibleOf_4 : decode cX6_possibleOf 4 = .ok (.iconst 0, 1) := by decide +kernel
theorem dX6_possibleOf_5 : decode cX6_possibleOf 5 = .ok (.istore 4, 2) := by decide +kernel
theorem dX6_possibleOf_7 : decode cX6_possibleOf 7 = .ok (.iload 4, 2) := by decide +kernel
theorem dX6_possibleOf_9 : decode cX6_possibleOf 9 = .ok (.aload_n 0, 1) := by decide +kernel
theorem dX6_possibleOf_10 : decode cX6_possibleOf 10 = .ok (.getfield 97, 3) := by decide +kernel
theorem dX6_possibleOf_13 : decode cX6_possibleOf 13 = .ok (.if_icmp .ge 17, 3) := by decide +kernel
theorem dX6_possibleOf_16 : decode cX6_possibleOf 16 = .ok (.aload_n 0, 1) := by decide +kernel
theorem dX6_possibleOf_17 : decode cX6_possibleOf 17 = .ok (.getfield 26, 3) := by decide +kernel
theorem dX6_possibleOf_20 : decode cX6_possibleOf 20 = .ok (.iload 4, 2) := by decide +kernel
theorem dX6_possibleOf_22 : decode cX6_possibleOf 22 = .ok (.iconst 0, 1) := by decide +kernel
theorem dX6_possibleOf_23 : decode cX6_possibleOf 23 = .ok (.bastore, 1) := by decide +kernel
theorem dX6_possibleOf_24 : decode cX6_possibleOf 24 = .ok (.iinc 4 1, 3) := by decide +kernel
theorem dX6_possibleOf_27 : decode cX6_possibleOf 27 = .ok (.goto (-20), 3) := by decide +kernel
theorem dX6_possibleOf_30 : decode cX6_possibleOf 30 = .ok (.bipush 9, 2) := by decide +kernel
theorem dX6_possibleOf_32 : decode cX6_possibleOf 32 = .ok (.istore 4, 2) := by decide +kernel
theorem dX6_possibleOf_34 : decode cX6_possibleOf 34 = .ok (.iload 4, 2) := by decide +kernel
theorem dX6_possibleOf_36 : decode cX6_possibleOf 36 = .ok (.ifCond .le 177, 3) := by decide +kernel
theorem dX6_possibleOf_39 : decode cX6_possibleOf 39 = .ok (.iconst 0, 1) := by decide +kernel
theorem dX6_possibleOf_40 : decode cX6_possibleOf 40 = .ok (.istore 5, 2) := by decide +kernel
theorem dX6_possibleOf_42 : decode cX6_possibleOf 42 = .ok (.iload 5, 2) := by decide +kernel
theorem dX6_possibleOf_44 : decode cX6_possibleOf 44 = .ok (.aload_n 0, 1) := by decide +kernel
theorem dX6_possibleOf_45 : decode cX6_possibleOf 45 = .ok (.getfield 97, 3) := by decide +kernel
theorem dX6_possibleOf_48 : decode cX6_possibleOf 48 = .ok (.if_icmp .ge 66, 3) := by decide +kernel
theorem dX6_possibleOf_51 : decode cX6_possibleOf 51 = .ok (.aload_n 0, 1) := by decide +kernel
theorem dX6_possibleOf_52 : decode cX6_possibleOf 52 = .ok (.iload 5, 2) := by decide +kernel
theorem dX6_possibleOf_54 : decode cX6_possibleOf 54 = .ok (.iconst 0, 1) := by decide +kernel
theorem dX6_possibleOf_55 : decode cX6_possibleOf 55 = .ok (.invokevirtual 100, 3) := by decide +kernel
theorem dX6_possibleOf_58 : decode cX6_possibleOf 58 = .ok (.iload_n 1, 1) := by decide +kernel
theorem dX6_possibleOf_59 : decode cX6_possibleOf 59 = .ok (.if_icmp .ne 49, 3) := by decide +kernel
theorem dX6_possibleOf_62 : decode cX6_possibleOf 62 = .ok (.aload_n 0, 1) := by decide +kernel
theorem dX6_possibleOf_63 : decode cX6_possibleOf 63 = .ok (.iload 5, 2) := by decide +kernel
theorem dX6_possibleOf_65 : decode cX6_possibleOf 65 = .ok (.iconst 4, 1) := by decide +kernel
theorem dX6_possibleOf_66 : decode cX6_possibleOf 66 = .ok (.invokevirtual 100, 3) := by decide +kernel
theorem dX6_possibleOf_69 : decode cX6_possibleOf 69 = .ok (.ifCond .ne 39, 3) := by decide +kernel
theorem dX6_possibleOf_72 : decode cX6_possibleOf 72 = .ok (.aload_n 0, 1) := by decide +kernel
theorem dX6_possibleOf_73 : decode cX6_possibleOf 73 = .ok (.iload 5, 2) := by decide +kernel
theorem dX6_possibleOf_75 : decode cX6_possibleOf 75 = .ok (.iconst 1, 1) := by decide +kernel
theorem dX6_possibleOf_76 : decode cX6_possibleOf 76 = .ok (.invokevirtual 100, 3) := by decide +kernel
theorem dX6_possibleOf_79 : decode cX6_possibleOf 79 = .ok (.iload 4, 2) := by decide +kernel
theorem dX6_possibleOf_81 : decode cX6_possibleOf 81 = .ok (.if_icmp .eq 6, 3) := by decide +kernel
theorem dX6_possibleOf_84 : decode cX6_possibleOf 84 = .ok (.goto 24, 3) := by decide +kernel
theorem dX6_possibleOf_87 : decode cX6_possibleOf 87 = .ok (.aload_n 0, 1) := by decide +kernel
theorem dX6_possibleOf_88 : decode cX6_possibleOf 88 = .ok (.getfield 26, 3) := by decide +kernel
theorem dX6_possibleOf_91 : decode cX6_possibleOf 91 = .ok (.iload 5, 2) := by decide +kernel
theorem dX6_possibleOf_93 : decode cX6_possibleOf 93 = .ok (.iconst 1, 1) := by decide +kernel
theorem dX6_possibleOf_94 : decode cX6_possibleOf 94 = .ok (.bastore, 1) := by decide +kernel
theorem dX6_possibleOf_95 : decode cX6_possibleOf 95 = .ok (.iload_n 2, 1) := by decide +kernel
theorem dX6_possibleOf_96 : decode cX6_possibleOf 96 = .ok (.aload_n 0, 1) := by decide +kernel
theorem dX6_possibleOf_97 : decode cX6_possibleOf 97 = .ok (.iload 5, 2) := by decide +kernel
theorem dX6_possibleOf_99 : decode cX6_possibleOf 99 = .ok (.iconst 2, 1) := by decide +kernel
theorem dX6_possibleOf_100 : decode cX6_possibleOf 100 = .ok (.invokevirtual 100, 3) := by decide +kernel
theorem dX6_possibleOf_103 : decode cX6_possibleOf 103 = .ok (.iadd, 1) := by decide +kernel
theorem dX6_possibleOf_104 : decode cX6_possibleOf 104 = .ok (.istore_n 2, 1) := by decide +kernel
theorem dX6_possibleOf_105 : decode cX6_possibleOf 105 = .ok (.iinc 3 1, 3) := by decide +kernel
theorem dX6_possibleOf_108 : decode cX6_possibleOf 108 = .ok (.iinc 5 1, 3) := by decide +kernel
theorem dX6_possibleOf_111 : decode cX6_possibleOf 111 = .ok (.goto (-69), 3) := by decide +kernel
theorem dX6_possibleOf_114 : decode cX6_possibleOf 114 = .ok (.iload_n 2, 1) := by decide +kernel
theorem dX6_possibleOf_115 : decode cX6_possibleOf 115 = .ok (.aload_n 0, 1) := by decide +kernel
theorem dX6_possibleOf_116 : decode cX6_possibleOf 116 = .ok (.iload_n 1, 1) := by decide +kernel
theorem dX6_possibleOf_117 : decode cX6_possibleOf 117 = .ok (.iload 4, 2) := by decide +kernel
theorem dX6_possibleOf_119 : decode cX6_possibleOf 119 = .ok (.invokevirtual 131, 3) := by decide +kernel
theorem dX6_possibleOf_122 : decode cX6_possibleOf 122 = .ok (.if_icmp .le 85, 3) := by decide +kernel
theorem dX6_possibleOf_125 : decode cX6_possibleOf 125 = .ok (.iconst (-1), 1) := by decide +kernel
theorem dX6_possibleOf_126 : decode cX6_possibleOf 126 = .ok (.istore 5, 2) := by decide +kernel
theorem dX6_possibleOf_128 : decode cX6_possibleOf 128 = .ok (.iconst 0, 1) := by decide +kernel
theorem dX6_possibleOf_129 : decode cX6_possibleOf 129 = .ok (.istore 6, 2) := by decide +kernel
theorem dX6_possibleOf_131 : decode cX6_possibleOf 131 = .ok (.iload 6, 2) := by decide +kernel
theorem dX6_possibleOf_133 : decode cX6_possibleOf 133 = .ok (.aload_n 0, 1) := by decide +kernel
theorem dX6_possibleOf_134 : decode cX6_possibleOf 134 = .ok (.getfield 97, 3) := by decide +kernel
theorem dX6_possibleOf_137 : decode cX6_possibleOf 137 = .ok (.if_icmp .ge 46, 3) := by decide +kernel
theorem dX6_possibleOf_140 : decode cX6_possibleOf 140 = .ok (.aload_n 0, 1) := by decide +kernel
theorem dX6_possibleOf_141 : decode cX6_possibleOf 141 = .ok (.getfield 26, 3) := by decide +kernel
theorem dX6_possibleOf_144 : decode cX6_possibleOf 144 = .ok (.iload 6, 2) := by decide +kernel
theorem dX6_possibleOf_146 : decode cX6_possibleOf 146 = .ok (.baload, 1) := by decide +kernel
theorem dX6_possibleOf_147 : decode cX6_possibleOf 147 = .ok (.ifCond .eq 30, 3) := by decide +kernel
theorem dX6_possibleOf_150 : decode cX6_possibleOf 150 = .ok (.iload 5, 2) := by decide +kernel
theorem dX6_possibleOf_152 : decode cX6_possibleOf 152 = .ok (.iconst (-1), 1) := by decide +kernel
theorem dX6_possibleOf_153 : decode cX6_possibleOf 153 = .ok (.if_icmp .eq 20, 3) := by decide +kernel
theorem dX6_possibleOf_156 : decode cX6_possibleOf 156 = .ok (.aload_n 0, 1) := by decide +kernel
theorem dX6_possibleOf_157 : decode cX6_possibleOf 157 = .ok (.iload 6, 2) := by decide +kernel
theorem dX6_possibleOf_159 : decode cX6_possibleOf 159 = .ok (.iconst 2, 1) := by decide +kernel
theorem dX6_possibleOf_160 : decode cX6_possibleOf 160 = .ok (.invokevirtual 100, 3) := by decide +kernel
theorem dX6_possibleOf_163 : decode cX6_possibleOf 163 = .ok (.aload_n 0, 1) := by decide +kernel
theorem dX6_possibleOf_164 : decode cX6_possibleOf 164 = .ok (.iload 5, 2) := by decide +kernel
theorem dX6_possibleOf_166 : decode cX6_possibleOf 166 = .ok (.iconst 2, 1) := by decide +kernel
theorem dX6_possibleOf_167 : decode cX6_possibleOf 167 = .ok (.invokevirtual 100, 3) := by decide +kernel
theorem dX6_possibleOf_170 : decode cX6_possibleOf 170 = .ok (.if_icmp .le 7, 3) := by decide +kernel
theorem dX6_possibleOf_173 : decode cX6_possibleOf 173 = .ok (.iload 6, 2) := by decide +kernel
theorem dX6_possibleOf_175 : decode cX6_possibleOf 175 = .ok (.istore 5, 2) := by decide +kernel
theorem dX6_possibleOf_177 : decode cX6_possibleOf 177 = .ok (.iinc 6 1, 3) := by decide +kernel
theorem dX6_possibleOf_180 : decode cX6_possibleOf 180 = .ok (.goto (-49), 3) := by decide +kernel
theorem dX6_possibleOf_183 : decode cX6_possibleOf 183 = .ok (.aload_n 0, 1) := by decide +kernel
theorem dX6_possibleOf_184 : decode cX6_possibleOf 184 = .ok (.getfield 26, 3) := by decide +kernel
theorem dX6_possibleOf_187 : decode cX6_possibleOf 187 = .ok (.iload 5, 2) := by decide +kernel
theorem dX6_possibleOf_189 : decode cX6_possibleOf 189 = .ok (.iconst 0, 1) := by decide +kernel
theorem dX6_possibleOf_190 : decode cX6_possibleOf 190 = .ok (.bastore, 1) := by decide +kernel
theorem dX6_possibleOf_191 : decode cX6_possibleOf 191 = .ok (.iload_n 2, 1) := by decide +kernel
theorem dX6_possibleOf_192 : decode cX6_possibleOf 192 = .ok (.aload_n 0, 1) := by decide +kernel
theorem dX6_possibleOf_193 : decode cX6_possibleOf 193 = .ok (.iload 5, 2) := by decide +kernel
theorem dX6_possibleOf_195 : decode cX6_possibleOf 195 = .ok (.iconst 2, 1) := by decide +kernel
theorem dX6_possibleOf_196 : decode cX6_possibleOf 196 = .ok (.invokevirtual 100, 3) := by decide +kernel
theorem dX6_possibleOf_199 : decode cX6_possibleOf 199 = .ok (.isub, 1) := by decide +kernel
theorem dX6_possibleOf_200 : decode cX6_possibleOf 200 = .ok (.istore_n 2, 1) := by decide +kernel
theorem dX6_possibleOf_201 : decode cX6_possibleOf 201 = .ok (.iinc 3 (-1), 3) := by decide +kernel
theorem dX6_possibleOf_204 : decode cX6_possibleOf 204 = .ok (.goto (-90), 3) := by decide +kernel
theorem dX6_possibleOf_207 : decode cX6_possibleOf 207 = .ok (.iinc 4 (-1), 3) := by decide +kernel
theorem dX6_possibleOf_210 : decode cX6_possibleOf 210 = .ok (.goto (-176), 3) := by decide +kernel
theorem dX6_possibleOf_213 : decode cX6_possibleOf 213 = .ok (.iload_n 3, 1) := by decide +kernel
theorem dX6_possibleOf_214 : decode cX6_possibleOf 214 = .ok (.ireturn, 1) := by decide +kernel
theorem dX6_possible_0 : decode cX6_possible 0 = .ok (.aload_n 0, 1) := by decide +kernel
theorem dX6_possible_1 : decode cX6_possible 1 = .ok (.iconst 0, 1) := by decide +kernel
theorem dX6_possible_2 : decode cX6_possible 2 = .ok (.putfield 30, 3) := by decide +kernel
theorem dX6_possible_5 : decode cX6_possible 5 = .ok (.iconst 0, 1) := by decide +kernel
theorem dX6_possible_6 : decode cX6_possible 6 = .ok (.istore_n 1, 1) := by decide +kernel
theorem dX6_possible_7 : decode cX6_possible 7 = .ok (.iconst 0, 1) := by decide +kernel
theorem dX6_possible_8 : decode cX6_possible 8 = .ok (.istore_n 2, 1) := by decide +kernel
theorem dX6_possible_9 : decode cX6_possible 9 = .ok (.iload_n 2, 1) := by decide +kernel
theorem dX6_possible_10 : decode cX6_possible 10 = .ok (.iconst 4, 1) := by decide +kernel
theorem dX6_possible_11 : decode cX6_possible 11 = .ok (.if_icmp .ge 17, 3) := by decide +kernel
theorem dX6_possible_14 : decode cX6_possible 14 = .ok (.iload_n 1, 1) := by decide +kernel
theorem dX6_possible_15 : decode cX6_possible 15 = .ok (.aload_n 0, 1) := by decide +kernel
theorem dX6_possible_16 : decode cX6_possible 16 = .ok (.iload_n 2, 1) := by decide +kernel
theorem dX6_possible_17 : decode cX6_possible 17 = .ok (.invokevirtual 154, 3) := by decide +kernel
theorem dX6_possible_20 : decode cX6_possible 20 = .ok (.iadd, 1) := by decide +kernel
theorem dX6_possible_21 : decode cX6_possible 21 = .ok (.istore_n 1, 1) := by decide +kernel
theorem dX6_possible_22 : decode cX6_possible 22 = .ok (.iinc 2 1, 3) := by decide +kernel
theorem dX6_possible_25 : decode cX6_possible 25 = .ok (.goto (-16), 3) := by decide +kernel
theorem dX6_possible_28 : decode cX6_possible 28 = .ok (.iload_n 1, 1) := by decide +kernel
theorem dX6_possible_29 : decode cX6_possible 29 = .ok (.ireturn, 1) := by decide +kernel
theorem dX6_mean_0 : decode cX6_mean 0 = .ok (.aload_n 0, 1) := by decide +kernel
theorem dX6_mean_1 : decode cX6_mean 1 = .ok (.iconst 0, 1) := by decide +kernel
theorem dX6_mean_2 : decode cX6_mean 2 = .ok (.putfield 30, 3) := by decide +kernel
theorem dX6_mean_5 : decode cX6_mean 5 = .ok (.iconst 0, 1) := by decide +kernel
theorem dX6_mean_6 : decode cX6_mean 6 = .ok (.istore_n 1, 1) := by decide +kernel
theorem dX6_mean_7 : decode cX6_mean 7 = .ok (.iconst 0, 1) := by decide +kernel
theorem dX6_mean_8 : decode cX6_mean 8 = .ok (.istore_n 2, 1) := by decide +kernel
theorem dX6_mean_9 : decode cX6_mean 9 = .ok (.iconst 0, 1) := by decide +kernel
theorem dX6_mean_10 : decode cX6_mean 10 = .ok (.istore_n 3, 1) := by decide +kernel
theorem dX6_mean_11 : decode cX6_mean 11 = .ok (.iload_n 3, 1) := by decide +kernel
theorem dX6_mean_12 : decode cX6_mean 12 = .ok (.aload_n 0, 1) := by decide +kernel
theorem dX6_mean_13 : decode cX6_mean 13 = .ok (.getfield 33, 3) := by decide +kernel
theorem dX6_mean_16 : decode cX6_mean 16 = .ok (.if_icmp .ge 34, 3) := by decide +kernel
theorem dX6_mean_19 : decode cX6_mean 19 = .ok (.iload_n 1, 1) := by decide +kernel
theorem dX6_mean_20 : decode cX6_mean 20 = .ok (.aload_n 0, 1) := by decide +kernel
theorem dX6_mean_21 : decode cX6_mean 21 = .ok (.iload_n 3, 1) := by decide +kernel
theorem dX6_mean_22 : decode cX6_mean 22 = .ok (.iconst 2, 1) := by decide +kernel
theorem dX6_mean_23 : decode cX6_mean 23 = .ok (.invokevirtual 59, 3) := by decide +kernel
theorem dX6_mean_26 : decode cX6_mean 26 = .ok (.aload_n 0, 1) := by decide +kernel
theorem dX6_mean_27 : decode cX6_mean 27 = .ok (.iload_n 3, 1) := by decide +kernel
theorem dX6_mean_28 : decode cX6_mean 28 = .ok (.iconst 1, 1) := by decide +kernel
theorem dX6_mean_29 : decode cX6_mean 29 = .ok (.invokevirtual 59, 3) := by decide +kernel
theorem dX6_mean_32 : decode cX6_mean 32 = .ok (.imul, 1) := by decide +kernel
theorem dX6_mean_33 : decode cX6_mean 33 = .ok (.iadd, 1) := by decide +kernel
theorem dX6_mean_34 : decode cX6_mean 34 = .ok (.istore_n 1, 1) := by decide +kernel
theorem dX6_mean_35 : decode cX6_mean 35 = .ok (.iload_n 2, 1) := by decide +kernel
theorem dX6_mean_36 : decode cX6_mean 36 = .ok (.aload_n 0, 1) := by decide +kernel
theorem dX6_mean_37 : decode cX6_mean 37 = .ok (.iload_n 3, 1) := by decide +kernel
theorem dX6_mean_38 : decode cX6_mean 38 = .ok (.iconst 1, 1) := by decide +kernel
theorem dX6_mean_39 : decode cX6_mean 39 = .ok (.invokevirtual 59, 3) := by decide +kernel
theorem dX6_mean_42 : decode cX6_mean 42 = .ok (.iadd, 1) := by decide +kernel
theorem dX6_mean_43 : decode cX6_mean 43 = .ok (.istore_n 2, 1) := by decide +kernel
theorem dX6_mean_44 : decode cX6_mean 44 = .ok (.iinc 3 1, 3) := by decide +kernel
theorem dX6_mean_47 : decode cX6_mean 47 = .ok (.goto (-36), 3) := by decide +kernel
theorem dX6_mean_50 : decode cX6_mean 50 = .ok (.iload_n 2, 1) := by decide +kernel
theorem dX6_mean_51 : decode cX6_mean 51 = .ok (.ifCond .ne 7, 3) := by decide +kernel
theorem dX6_mean_54 : decode cX6_mean 54 = .ok (.dconst 0, 1) := by decide +kernel
theorem dX6_mean_55 : decode cX6_mean 55 = .ok (.goto 8, 3) := by decide +kernel
theorem dX6_mean_58 : decode cX6_mean 58 = .ok (.iload_n 1, 1) := by decide +kernel
theorem dX6_mean_59 : decode cX6_mean 59 = .ok (.i2d, 1) := by decide +kernel
theorem dX6_mean_60 : decode cX6_mean 60 = .ok (.iload_n 2, 1) := by decide +kernel
theorem dX6_mean_61 : decode cX6_mean 61 = .ok (.i2d, 1) := by decide +kernel
theorem dX6_mean_62 : decode cX6_mean 62 = .ok (.ddiv, 1) := by decide +kernel
theorem dX6_mean_63 : decode cX6_mean 63 = .ok (.dreturn, 1) := by decide +kernel
theorem dX6_digest_0 : decode cX6_digest 0 = .ok (.aload_n 0, 1) := by decide +kernel
theorem dX6_digest_1 : decode cX6_digest 1 = .ok (.iconst 0, 1) := by decide +kernel
theorem dX6_digest_2 : decode cX6_digest 2 = .ok (.putfield 30, 3) := by decide +kernel
theorem dX6_digest_5 : decode cX6_digest 5 = .ok (.ldc2_w 157, 3) := by decide +kernel
theorem dX6_digest_8 : decode cX6_digest 8 = .ok (.lstore_n 1, 1) := by decide +kernel
theorem dX6_digest_9 : decode cX6_digest 9 = .ok (.iconst 0, 1) := by decide +kernel
theorem dX6_digest_10 : decode cX6_digest 10 = .ok (.istore_n 3, 1) := by decide +kernel
theorem dX6_digest_11 : decode cX6_digest 11 = .ok (.iload_n 3, 1) := by decide +kernel
theorem dX6_digest_12 : decode cX6_digest 12 = .ok (.bipush 9, 2) := by decide +kernel
theorem dX6_digest_14 : decode cX6_digest 14 = .ok (.if_icmp .ge 22, 3) := by decide +kernel
theorem dX6_digest_17 : decode cX6_digest 17 = .ok (.lload_n 1, 1) := by decide +kernel
theorem dX6_digest_18 : decode cX6_digest 18 = .ok (.ldc2_w 159, 3) := by decide +kernel
theorem dX6_digest_21 : decode cX6_digest 21 = .ok (.lmul, 1) := by decide +kernel
theorem dX6_digest_22 : decode cX6_digest 22 = .ok (.aload_n 0, 1) := by decide +kernel
theorem dX6_digest_23 : decode cX6_digest 23 = .ok (.iload_n 3, 1) := by decide +kernel
theorem dX6_digest_24 : decode cX6_digest 24 = .ok (.invokevirtual 147, 3) := by decide +kernel
theorem dX6_digest_27 : decode cX6_digest 27 = .ok (.i2l, 1) := by decide +kernel
theorem dX6_digest_28 : decode cX6_digest 28 = .ok (.ladd, 1) := by decide +kernel
theorem dX6_digest_29 : decode cX6_digest 29 = .ok (.lstore_n 1, 1) := by decide +kernel
theorem dX6_digest_30 : decode cX6_digest 30 = .ok (.iinc 3 1, 3) := by decide +kernel
theorem dX6_digest_33 : decode cX6_digest 33 = .ok (.goto (-22), 3) := by decide +kernel
theorem dX6_digest_36 : decode cX6_digest 36 = .ok (.iconst 0, 1) := by decide +kernel
theorem dX6_digest_37 : decode cX6_digest 37 = .ok (.istore_n 3, 1) := by decide +kernel
theorem dX6_digest_38 : decode cX6_digest 38 = .ok (.iload_n 3, 1) := by decide +kernel
theorem dX6_digest_39 : decode cX6_digest 39 = .ok (.iconst 4, 1) := by decide +kernel
theorem dX6_digest_40 : decode cX6_digest 40 = .ok (.if_icmp .ge 22, 3) := by decide +kernel
theorem dX6_digest_43 : decode cX6_digest 43 = .ok (.lload_n 1, 1) := by decide +kernel
theorem dX6_digest_44 : decode cX6_digest 44 = .ok (.ldc2_w 159, 3) := by decide +kernel
theorem dX6_digest_47 : decode cX6_digest 47 = .ok (.lmul, 1) := by decide +kernel
theorem dX6_digest_48 : decode cX6_digest 48 = .ok (.aload_n 0, 1) := by decide +kernel
theorem dX6_digest_49 : decode cX6_digest 49 = .ok (.iload_n 3, 1) := by decide +kernel
theorem dX6_digest_50 : decode cX6_digest 50 = .ok (.invokevirtual 50, 3) := by decide +kernel
theorem dX6_digest_53 : decode cX6_digest 53 = .ok (.i2l, 1) := by decide +kernel
theorem dX6_digest_54 : decode cX6_digest 54 = .ok (.ladd, 1) := by decide +kernel
theorem dX6_digest_55 : decode cX6_digest 55 = .ok (.lstore_n 1, 1) := by decide +kernel
theorem dX6_digest_56 : decode cX6_digest 56 = .ok (.iinc 3 1, 3) := by decide +kernel
theorem dX6_digest_59 : decode cX6_digest 59 = .ok (.goto (-21), 3) := by decide +kernel
end
section
theorem dX6_digest_62 : decode cX6_digest 62 = .ok (.iconst 0, 1) := by decide +kernel
theorem dX6_digest_63 : decode cX6_digest 63 = .ok (.istore_n 3, 1) := by decide +kernel
theorem dX6_digest_64 : decode cX6_digest 64 = .ok (.iload_n 3, 1) := by decide +kernel
theorem dX6_digest_65 : decode cX6_digest 65 = .ok (.aload_n 0, 1) := by decide +kernel
theorem dX6_digest_66 : decode cX6_digest 66 = .ok (.getfield 33, 3) := by decide +kernel
theorem dX6_digest_69 : decode cX6_digest 69 = .ok (.if_icmp .ge 40, 3) := by decide +kernel
theorem dX6_digest_72 : decode cX6_digest 72 = .ok (.iconst 0, 1) := by decide +kernel
theorem dX6_digest_73 : decode cX6_digest 73 = .ok (.istore 4, 2) := by decide +kernel
theorem dX6_digest_75 : decode cX6_digest 75 = .ok (.iload 4, 2) := by decide +kernel
theorem dX6_digest_77 : decode cX6_digest 77 = .ok (.bipush 8, 2) := by decide +kernel
theorem dX6_digest_79 : decode cX6_digest 79 = .ok (.if_icmp .ge 24, 3) := by decide +kernel
theorem dX6_digest_82 : decode cX6_digest 82 = .ok (.lload_n 1, 1) := by decide +kernel
theorem dX6_digest_83 : decode cX6_digest 83 = .ok (.ldc2_w 159, 3) := by decide +kernel
theorem dX6_digest_86 : decode cX6_digest 86 = .ok (.lmul, 1) := by decide +kernel
theorem dX6_digest_87 : decode cX6_digest 87 = .ok (.aload_n 0, 1) := by decide +kernel
theorem dX6_digest_88 : decode cX6_digest 88 = .ok (.iload_n 3, 1) := by decide +kernel
theorem dX6_digest_89 : decode cX6_digest 89 = .ok (.iload 4, 2) := by decide +kernel
theorem dX6_digest_91 : decode cX6_digest 91 = .ok (.invokevirtual 128, 3) := by decide +kernel
theorem dX6_digest_94 : decode cX6_digest 94 = .ok (.i2l, 1) := by decide +kernel
theorem dX6_digest_95 : decode cX6_digest 95 = .ok (.ladd, 1) := by decide +kernel
theorem dX6_digest_96 : decode cX6_digest 96 = .ok (.lstore_n 1, 1) := by decide +kernel
theorem dX6_digest_97 : decode cX6_digest 97 = .ok (.iinc 4 1, 3) := by decide +kernel
theorem dX6_digest_100 : decode cX6_digest 100 = .ok (.goto (-25), 3) := by decide +kernel
theorem dX6_digest_103 : decode cX6_digest 103 = .ok (.iinc 3 1, 3) := by decide +kernel
theorem dX6_digest_106 : decode cX6_digest 106 = .ok (.goto (-42), 3) := by decide +kernel
theorem dX6_digest_109 : decode cX6_digest 109 = .ok (.iconst 0, 1) := by decide +kernel
theorem dX6_digest_110 : decode cX6_digest 110 = .ok (.istore_n 3, 1) := by decide +kernel
theorem dX6_digest_111 : decode cX6_digest 111 = .ok (.iload_n 3, 1) := by decide +kernel
theorem dX6_digest_112 : decode cX6_digest 112 = .ok (.iconst 4, 1) := by decide +kernel
theorem dX6_digest_113 : decode cX6_digest 113 = .ok (.if_icmp .ge 45, 3) := by decide +kernel
theorem dX6_digest_116 : decode cX6_digest 116 = .ok (.iconst 1, 1) := by decide +kernel
theorem dX6_digest_117 : decode cX6_digest 117 = .ok (.istore 4, 2) := by decide +kernel
theorem dX6_digest_119 : decode cX6_digest 119 = .ok (.iload 4, 2) := by decide +kernel
theorem dX6_digest_121 : decode cX6_digest 121 = .ok (.bipush 10, 2) := by decide +kernel
theorem dX6_digest_123 : decode cX6_digest 123 = .ok (.if_icmp .ge 29, 3) := by decide +kernel
theorem dX6_digest_126 : decode cX6_digest 126 = .ok (.lload_n 1, 1) := by decide +kernel
theorem dX6_digest_127 : decode cX6_digest 127 = .ok (.ldc2_w 159, 3) := by decide +kernel
theorem dX6_digest_130 : decode cX6_digest 130 = .ok (.lmul, 1) := by decide +kernel
theorem dX6_digest_131 : decode cX6_digest 131 = .ok (.aload_n 0, 1) := by decide +kernel
theorem dX6_digest_132 : decode cX6_digest 132 = .ok (.getfield 17, 3) := by decide +kernel
theorem dX6_digest_135 : decode cX6_digest 135 = .ok (.bipush 10, 2) := by decide +kernel
theorem dX6_digest_137 : decode cX6_digest 137 = .ok (.iload_n 3, 1) := by decide +kernel
theorem dX6_digest_138 : decode cX6_digest 138 = .ok (.imul, 1) := by decide +kernel
theorem dX6_digest_139 : decode cX6_digest 139 = .ok (.iload 4, 2) := by decide +kernel
theorem dX6_digest_141 : decode cX6_digest 141 = .ok (.iadd, 1) := by decide +kernel
theorem dX6_digest_142 : decode cX6_digest 142 = .ok (.iaload, 1) := by decide +kernel
theorem dX6_digest_143 : decode cX6_digest 143 = .ok (.i2l, 1) := by decide +kernel
theorem dX6_digest_144 : decode cX6_digest 144 = .ok (.ladd, 1) := by decide +kernel
theorem dX6_digest_145 : decode cX6_digest 145 = .ok (.lstore_n 1, 1) := by decide +kernel
theorem dX6_digest_146 : decode cX6_digest 146 = .ok (.iinc 4 1, 3) := by decide +kernel
theorem dX6_digest_149 : decode cX6_digest 149 = .ok (.goto (-30), 3) := by decide +kernel
theorem dX6_digest_152 : decode cX6_digest 152 = .ok (.iinc 3 1, 3) := by decide +kernel
theorem dX6_digest_155 : decode cX6_digest 155 = .ok (.goto (-44), 3) := by decide +kernel
theorem dX6_digest_158 : decode cX6_digest 158 = .ok (.iconst 0, 1) := by decide +kernel
theorem dX6_digest_159 : decode cX6_digest 159 = .ok (.istore_n 3, 1) := by decide +kernel
theorem dX6_digest_160 : decode cX6_digest 160 = .ok (.iload_n 3, 1) := by decide +kernel
theorem dX6_digest_161 : decode cX6_digest 161 = .ok (.aload_n 0, 1) := by decide +kernel
theorem dX6_digest_162 : decode cX6_digest 162 = .ok (.getfield 97, 3) := by decide +kernel
theorem dX6_digest_165 : decode cX6_digest 165 = .ok (.if_icmp .ge 40, 3) := by decide +kernel
theorem dX6_digest_168 : decode cX6_digest 168 = .ok (.iconst 0, 1) := by decide +kernel
theorem dX6_digest_169 : decode cX6_digest 169 = .ok (.istore 4, 2) := by decide +kernel
theorem dX6_digest_171 : decode cX6_digest 171 = .ok (.iload 4, 2) := by decide +kernel
theorem dX6_digest_173 : decode cX6_digest 173 = .ok (.bipush 6, 2) := by decide +kernel
theorem dX6_digest_175 : decode cX6_digest 175 = .ok (.if_icmp .ge 24, 3) := by decide +kernel
theorem dX6_digest_178 : decode cX6_digest 178 = .ok (.lload_n 1, 1) := by decide +kernel
theorem dX6_digest_179 : decode cX6_digest 179 = .ok (.ldc2_w 159, 3) := by decide +kernel
theorem dX6_digest_182 : decode cX6_digest 182 = .ok (.lmul, 1) := by decide +kernel
theorem dX6_digest_183 : decode cX6_digest 183 = .ok (.aload_n 0, 1) := by decide +kernel
theorem dX6_digest_184 : decode cX6_digest 184 = .ok (.iload_n 3, 1) := by decide +kernel
theorem dX6_digest_185 : decode cX6_digest 185 = .ok (.iload 4, 2) := by decide +kernel
theorem dX6_digest_187 : decode cX6_digest 187 = .ok (.invokevirtual 141, 3) := by decide +kernel
theorem dX6_digest_190 : decode cX6_digest 190 = .ok (.i2l, 1) := by decide +kernel
theorem dX6_digest_191 : decode cX6_digest 191 = .ok (.ladd, 1) := by decide +kernel
theorem dX6_digest_192 : decode cX6_digest 192 = .ok (.lstore_n 1, 1) := by decide +kernel
theorem dX6_digest_193 : decode cX6_digest 193 = .ok (.iinc 4 1, 3) := by decide +kernel
theorem dX6_digest_196 : decode cX6_digest 196 = .ok (.goto (-25), 3) := by decide +kernel
theorem dX6_digest_199 : decode cX6_digest 199 = .ok (.iinc 3 1, 3) := by decide +kernel
theorem dX6_digest_202 : decode cX6_digest 202 = .ok (.goto (-42), 3) := by decide +kernel
theorem dX6_digest_205 : decode cX6_digest 205 = .ok (.lload_n 1, 1) := by decide +kernel
theorem dX6_digest_206 : decode cX6_digest 206 = .ok (.lreturn, 1) := by decide +kernel
theorem dJ9_max_7cf53_0 : decode cJ9_max_7cf53 0 = .ok (.iload_n 0, 1) := by decide +kernel
theorem dJ9_max_7cf53_1 : decode cJ9_max_7cf53 1 = .ok (.iload_n 1, 1) := by decide +kernel
theorem dJ9_max_7cf53_2 : decode cJ9_max_7cf53 2 = .ok (.if_icmp .lt 7, 3) := by decide +kernel
theorem dJ9_max_7cf53_5 : decode cJ9_max_7cf53 5 = .ok (.iload_n 0, 1) := by decide +kernel
theorem dJ9_max_7cf53_6 : decode cJ9_max_7cf53 6 = .ok (.goto 4, 3) := by decide +kernel
theorem dJ9_max_7cf53_9 : decode cJ9_max_7cf53 9 = .ok (.iload_n 1, 1) := by decide +kernel
theorem dJ9_max_7cf53_10 : decode cJ9_max_7cf53 10 = .ok (.ireturn, 1) := by decide +kernel
theorem dJ9_min_7cf53_0 : decode cJ9_min_7cf53 0 = .ok (.iload_n 0, 1) := by decide +kernel
theorem dJ9_min_7cf53_1 : decode cJ9_min_7cf53 1 = .ok (.iload_n 1, 1) := by decide +kernel
theorem dJ9_min_7cf53_2 : decode cJ9_min_7cf53 2 = .ok (.if_icmp .gt 7, 3) := by decide +kernel
theorem dJ9_min_7cf53_5 : decode cJ9_min_7cf53 5 = .ok (.iload_n 0, 1) := by decide +kernel
theorem dJ9_min_7cf53_6 : decode cJ9_min_7cf53 6 = .ok (.goto 4, 3) := by decide +kernel
theorem dJ9_min_7cf53_9 : decode cJ9_min_7cf53 9 = .ok (.iload_n 1, 1) := by decide +kernel
theorem dJ9_min_7cf53_10 : decode cJ9_min_7cf53 10 = .ok (.ireturn, 1) := by decide +kernel
theorem dL_melt_0 : decode cL_melt 0 = .ok (.aload_n 2, 1) := by decide +kernel
theorem dL_melt_1 : decode cL_melt 1 = .ok (.iconst 0, 1) := by decide +kernel
theorem dL_melt_2 : decode cL_melt 2 = .ok (.aload_n 0, 1) := by decide +kernel
theorem dL_melt_3 : decode cL_melt 3 = .ok (.iload_n 1, 1) := by decide +kernel
theorem dL_melt_4 : decode cL_melt 4 = .ok (.invokevirtual 7, 3) := by decide +kernel
theorem dL_melt_7 : decode cL_melt 7 = .ok (.i2l, 1) := by decide +kernel
theorem dL_melt_8 : decode cL_melt 8 = .ok (.lastore, 1) := by decide +kernel
theorem dL_melt_9 : decode cL_melt 9 = .ok (.goto 9, 3) := by decide +kernel
theorem dL_melt_12 : decode cL_melt 12 = .ok (.astore_n 3, 1) := by decide +kernel
theorem dL_melt_13 : decode cL_melt 13 = .ok (.iconst 1, 1) := by decide +kernel
theorem dL_melt_14 : decode cL_melt 14 = .ok (.ireturn, 1) := by decide +kernel
theorem dL_melt_15 : decode cL_melt 15 = .ok (.astore_n 3, 1) := by decide +kernel
theorem dL_melt_16 : decode cL_melt 16 = .ok (.iconst 2, 1) := by decide +kernel
theorem dL_melt_17 : decode cL_melt 17 = .ok (.ireturn, 1) := by decide +kernel
theorem dL_melt_18 : decode cL_melt 18 = .ok (.iconst 0, 1) := by decide +kernel
theorem dL_melt_19 : decode cL_melt 19 = .ok (.ireturn, 1) := by decide +kernel
theorem dL_setFire_0 : decode cL_setFire 0 = .ok (.aload_n 2, 1) := by decide +kernel
theorem dL_setFire_1 : decode cL_setFire 1 = .ok (.iconst 0, 1) := by decide +kernel
theorem dL_setFire_2 : decode cL_setFire 2 = .ok (.aload_n 0, 1) := by decide +kernel
theorem dL_setFire_3 : decode cL_setFire 3 = .ok (.iload_n 1, 1) := by decide +kernel
theorem dL_setFire_4 : decode cL_setFire 4 = .ok (.invokevirtual 17, 3) := by decide +kernel
theorem dL_setFire_7 : decode cL_setFire 7 = .ok (.i2l, 1) := by decide +kernel
theorem dL_setFire_8 : decode cL_setFire 8 = .ok (.lastore, 1) := by decide +kernel
theorem dL_setFire_9 : decode cL_setFire 9 = .ok (.goto 6, 3) := by decide +kernel
theorem dL_setFire_12 : decode cL_setFire 12 = .ok (.astore_n 3, 1) := by decide +kernel
theorem dL_setFire_13 : decode cL_setFire 13 = .ok (.iconst 1, 1) := by decide +kernel
theorem dL_setFire_14 : decode cL_setFire 14 = .ok (.ireturn, 1) := by decide +kernel
theorem dL_setFire_15 : decode cL_setFire 15 = .ok (.iconst 0, 1) := by decide +kernel
theorem dL_setFire_16 : decode cL_setFire 16 = .ok (.ireturn, 1) := by decide +kernel
theorem dL_vat_0 : decode cL_vat 0 = .ok (.aload_n 2, 1) := by decide +kernel
theorem dL_vat_1 : decode cL_vat 1 = .ok (.iconst 0, 1) := by decide +kernel
theorem dL_vat_2 : decode cL_vat 2 = .ok (.aload_n 0, 1) := by decide +kernel
theorem dL_vat_3 : decode cL_vat 3 = .ok (.iload_n 1, 1) := by decide +kernel
theorem dL_vat_4 : decode cL_vat 4 = .ok (.invokevirtual 20, 3) := by decide +kernel
theorem dL_vat_7 : decode cL_vat 7 = .ok (.i2l, 1) := by decide +kernel
theorem dL_vat_8 : decode cL_vat 8 = .ok (.lastore, 1) := by decide +kernel
theorem dL_vat_9 : decode cL_vat 9 = .ok (.goto 6, 3) := by decide +kernel
theorem dL_vat_12 : decode cL_vat 12 = .ok (.astore_n 3, 1) := by decide +kernel
theorem dL_vat_13 : decode cL_vat 13 = .ok (.iconst 1, 1) := by decide +kernel
theorem dL_vat_14 : decode cL_vat 14 = .ok (.ireturn, 1) := by decide +kernel
theorem dL_vat_15 : decode cL_vat 15 = .ok (.iconst 0, 1) := by decide +kernel
theorem dL_vat_16 : decode cL_vat 16 = .ok (.ireturn, 1) := by decide +kernel
theorem dL_addFrame_0 : decode cL_addFrame 0 = .ok (.aload_n 3, 1) := by decide +kernel
theorem dL_addFrame_1 : decode cL_addFrame 1 = .ok (.iconst 0, 1) := by decide +kernel
theorem dL_addFrame_2 : decode cL_addFrame 2 = .ok (.aload_n 0, 1) := by decide +kernel
theorem dL_addFrame_3 : decode cL_addFrame 3 = .ok (.iload_n 1, 1) := by decide +kernel
theorem dL_addFrame_4 : decode cL_addFrame 4 = .ok (.iload_n 2, 1) := by decide +kernel
theorem dL_addFrame_5 : decode cL_addFrame 5 = .ok (.invokevirtual 25, 3) := by decide +kernel
theorem dL_addFrame_8 : decode cL_addFrame 8 = .ok (.i2l, 1) := by decide +kernel
theorem dL_addFrame_9 : decode cL_addFrame 9 = .ok (.lastore, 1) := by decide +kernel
theorem dL_addFrame_10 : decode cL_addFrame 10 = .ok (.goto 11, 3) := by decide +kernel
theorem dL_addFrame_13 : decode cL_addFrame 13 = .ok (.astore 4, 2) := by decide +kernel
theorem dL_addFrame_15 : decode cL_addFrame 15 = .ok (.iconst 1, 1) := by decide +kernel
theorem dL_addFrame_16 : decode cL_addFrame 16 = .ok (.ireturn, 1) := by decide +kernel
theorem dL_addFrame_17 : decode cL_addFrame 17 = .ok (.astore 4, 2) := by decide +kernel
theorem dL_addFrame_19 : decode cL_addFrame 19 = .ok (.iconst 2, 1) := by decide +kernel
theorem dL_addFrame_20 : decode cL_addFrame 20 = .ok (.ireturn, 1) := by decide +kernel
theorem dL_addFrame_21 : decode cL_addFrame 21 = .ok (.iconst 0, 1) := by decide +kernel
theorem dL_addFrame_22 : decode cL_addFrame 22 = .ok (.ireturn, 1) := by decide +kernel
theorem dL_hang_0 : decode cL_hang 0 = .ok (.aload_n 3, 1) := by decide +kernel
theorem dL_hang_1 : decode cL_hang 1 = .ok (.iconst 0, 1) := by decide +kernel
theorem dL_hang_2 : decode cL_hang 2 = .ok (.aload_n 0, 1) := by decide +kernel
theorem dL_hang_3 : decode cL_hang 3 = .ok (.iload_n 1, 1) := by decide +kernel
theorem dL_hang_4 : decode cL_hang 4 = .ok (.iload_n 2, 1) := by decide +kernel
theorem dL_hang_5 : decode cL_hang 5 = .ok (.invokevirtual 29, 3) := by decide +kernel
theorem dL_hang_8 : decode cL_hang 8 = .ok (.i2l, 1) := by decide +kernel
theorem dL_hang_9 : decode cL_hang 9 = .ok (.lastore, 1) := by decide +kernel
theorem dL_hang_10 : decode cL_hang 10 = .ok (.goto 15, 3) := by decide +kernel
theorem dL_hang_13 : decode cL_hang 13 = .ok (.astore 4, 2) := by decide +kernel
theorem dL_hang_15 : decode cL_hang 15 = .ok (.iconst 1, 1) := by decide +kernel
theorem dL_hang_16 : decode cL_hang 16 = .ok (.ireturn, 1) := by decide +kernel
theorem dL_hang_17 : decode cL_hang 17 = .ok (.astore 4, 2) := by decide +kernel
theorem dL_hang_19 : decode cL_hang 19 = .ok (.iconst 2, 1) := by decide +kernel
theorem dL_hang_20 : decode cL_hang 20 = .ok (.ireturn, 1) := by decide +kernel
theorem dL_hang_21 : decode cL_hang 21 = .ok (.astore 4, 2) := by decide +kernel
theorem dL_hang_23 : decode cL_hang 23 = .ok (.iconst 3, 1) := by decide +kernel
theorem dL_hang_24 : decode cL_hang 24 = .ok (.ireturn, 1) := by decide +kernel
theorem dL_hang_25 : decode cL_hang 25 = .ok (.iconst 0, 1) := by decide +kernel
theorem dL_hang_26 : decode cL_hang 26 = .ok (.ireturn, 1) := by decide +kernel
theorem dL_layAside_0 : decode cL_layAside 0 = .ok (.aload_n 2, 1) := by decide +kernel
theorem dL_layAside_1 : decode cL_layAside 1 = .ok (.iconst 0, 1) := by decide +kernel
theorem dL_layAside_2 : decode cL_layAside 2 = .ok (.aload_n 0, 1) := by decide +kernel
theorem dL_layAside_3 : decode cL_layAside 3 = .ok (.iload_n 1, 1) := by decide +kernel
theorem dL_layAside_4 : decode cL_layAside 4 = .ok (.invokevirtual 32, 3) := by decide +kernel
theorem dL_layAside_7 : decode cL_layAside 7 = .ok (.i2l, 1) := by decide +kernel
theorem dL_layAside_8 : decode cL_layAside 8 = .ok (.lastore, 1) := by decide +kernel
theorem dL_layAside_9 : decode cL_layAside 9 = .ok (.goto 9, 3) := by decide +kernel
theorem dL_layAside_12 : decode cL_layAside 12 = .ok (.astore_n 3, 1) := by decide +kernel
theorem dL_layAside_13 : decode cL_layAside 13 = .ok (.iconst 1, 1) := by decide +kernel
theorem dL_layAside_14 : decode cL_layAside 14 = .ok (.ireturn, 1) := by decide +kernel
theorem dL_layAside_15 : decode cL_layAside 15 = .ok (.astore_n 3, 1) := by decide +kernel
theorem dL_layAside_16 : decode cL_layAside 16 = .ok (.iconst 2, 1) := by decide +kernel
theorem dL_layAside_17 : decode cL_layAside 17 = .ok (.ireturn, 1) := by decide +kernel
theorem dL_layAside_18 : decode cL_layAside 18 = .ok (.iconst 0, 1) := by decide +kernel
theorem dL_layAside_19 : decode cL_layAside 19 = .ok (.ireturn, 1) := by decide +kernel
theorem dL_dip_0 : decode cL_dip 0 = .ok (.aload_n 2, 1) := by decide +kernel
theorem dL_dip_1 : decode cL_dip 1 = .ok (.iconst 0, 1) := by decide +kernel
theorem dL_dip_2 : decode cL_dip 2 = .ok (.aload_n 0, 1) := by decide +kernel
theorem dL_dip_3 : decode cL_dip 3 = .ok (.iload_n 1, 1) := by decide +kernel
theorem dL_dip_4 : decode cL_dip 4 = .ok (.invokevirtual 35, 3) := by decide +kernel
theorem dL_dip_7 : decode cL_dip 7 = .ok (.i2l, 1) := by decide +kernel
theorem dL_dip_8 : decode cL_dip 8 = .ok (.lastore, 1) := by decide +kernel
theorem dL_dip_9 : decode cL_dip 9 = .ok (.goto 9, 3) := by decide +kernel
theorem dL_dip_12 : decode cL_dip 12 = .ok (.astore_n 3, 1) := by decide +kernel
theorem dL_dip_13 : decode cL_dip 13 = .ok (.iconst 1, 1) := by decide +kernel
theorem dL_dip_14 : decode cL_dip 14 = .ok (.ireturn, 1) := by decide +kernel
theorem dL_dip_15 : decode cL_dip 15 = .ok (.astore_n 3, 1) := by decide +kernel
theorem dL_dip_16 : decode cL_dip 16 = .ok (.iconst 2, 1) := by decide +kernel
theorem dL_dip_17 : decode cL_dip 17 = .ok (.ireturn, 1) := by decide +kernel
theorem dL_dip_18 : decode cL_dip 18 = .ok (.iconst 0, 1) := by decide +kernel
theorem dL_dip_19 : decode cL_dip 19 = .ok (.ireturn, 1) := by decide +kernel
theorem dL_cutOff_0 : decode cL_cutOff 0 = .ok (.aload_n 2, 1) := by decide +kernel
theorem dL_cutOff_1 : decode cL_cutOff 1 = .ok (.iconst 0, 1) := by decide +kernel
theorem dL_cutOff_2 : decode cL_cutOff 2 = .ok (.aload_n 0, 1) := by decide +kernel
theorem dL_cutOff_3 : decode cL_cutOff 3 = .ok (.iload_n 1, 1) := by decide +kernel
theorem dL_cutOff_4 : decode cL_cutOff 4 = .ok (.invokevirtual 38, 3) := by decide +kernel
theorem dL_cutOff_7 : decode cL_cutOff 7 = .ok (.i2l, 1) := by decide +kernel
theorem dL_cutOff_8 : decode cL_cutOff 8 = .ok (.lastore, 1) := by decide +kernel
theorem dL_cutOff_9 : decode cL_cutOff 9 = .ok (.goto 9, 3) := by decide +kernel
theorem dL_cutOff_12 : decode cL_cutOff 12 = .ok (.astore_n 3, 1) := by decide +kernel
theorem dL_cutOff_13 : decode cL_cutOff 13 = .ok (.iconst 1, 1) := by decide +kernel
theorem dL_cutOff_14 : decode cL_cutOff 14 = .ok (.ireturn, 1) := by decide +kernel
theorem dL_cutOff_15 : decode cL_cutOff 15 = .ok (.astore_n 3, 1) := by decide +kernel
theorem dL_cutOff_16 : decode cL_cutOff 16 = .ok (.iconst 2, 1) := by decide +kernel
theorem dL_cutOff_17 : decode cL_cutOff 17 = .ok (.ireturn, 1) := by decide +kernel
theorem dL_cutOff_18 : decode cL_cutOff 18 = .ok (.iconst 0, 1) := by decide +kernel
theorem dL_cutOff_19 : decode cL_cutOff 19 = .ok (.ireturn, 1) := by decide +kernel
theorem dL_frame_0 : decode cL_frame 0 = .ok (.aload_n 3, 1) := by decide +kernel
theorem dL_frame_1 : decode cL_frame 1 = .ok (.iconst 0, 1) := by decide +kernel
theorem dL_frame_2 : decode cL_frame 2 = .ok (.aload_n 0, 1) := by decide +kernel
theorem dL_frame_3 : decode cL_frame 3 = .ok (.iload_n 1, 1) := by decide +kernel
theorem dL_frame_4 : decode cL_frame 4 = .ok (.iload_n 2, 1) := by decide +kernel
theorem dL_frame_5 : decode cL_frame 5 = .ok (.invokevirtual 41, 3) := by decide +kernel
theorem dL_frame_8 : decode cL_frame 8 = .ok (.i2l, 1) := by decide +kernel
theorem dL_frame_9 : decode cL_frame 9 = .ok (.lastore, 1) := by decide +kernel
theorem dL_frame_10 : decode cL_frame 10 = .ok (.goto 7, 3) := by decide +kernel
theorem dL_frame_13 : decode cL_frame 13 = .ok (.astore 4, 2) := by decide +kernel
theorem dL_frame_15 : decode cL_frame 15 = .ok (.iconst 1, 1) := by decide +kernel
theorem dL_frame_16 : decode cL_frame 16 = .ok (.ireturn, 1) := by decide +kernel
theorem dL_frame_17 : decode cL_frame 17 = .ok (.iconst 0, 1) := by decide +kernel
theorem dL_frame_18 : decode cL_frame 18 = .ok (.ireturn, 1) := by decide +kernel
theorem dL_hook_0 : decode cL_hook 0 = .ok (.aload_n 2, 1) := by decide +kernel
theorem dL_hook_1 : decode cL_hook 1 = .ok (.iconst 0, 1) := by decide +kernel
theorem dL_hook_2 : decode cL_hook 2 = .ok (.aload_n 0, 1) := by decide +kernel
theorem dL_hook_3 : decode cL_hook 3 = .ok (.iload_n 1, 1) := by decide +kernel
theorem dL_hook_4 : decode cL_hook 4 = .ok (.invokevirtual 44, 3) := by decide +kernel
theorem dL_hook_7 : decode cL_hook 7 = .ok (.i2l, 1) := by decide +kernel
theorem dL_hook_8 : decode cL_hook 8 = .ok (.lastore, 1) := by decide +kernel
theorem dL_hook_9 : decode cL_hook 9 = .ok (.goto 6, 3) := by decide +kernel
theorem dL_hook_12 : decode cL_hook 12 = .ok (.astore_n 3, 1) := by decide +kernel
theorem dL_hook_13 : decode cL_hook 13 = .ok (.iconst 1, 1) := by decide +kernel
theorem dL_hook_14 : decode cL_hook 14 = .ok (.ireturn, 1) := by decide +kernel
theorem dL_hook_15 : decode cL_hook 15 = .ok (.iconst 0, 1) := by decide +kernel
theorem dL_hook_16 : decode cL_hook 16 = .ok (.ireturn, 1) := by decide +kernel
theorem dL_store_0 : decode cL_store 0 = .ok (.aload_n 3, 1) := by decide +kernel
theorem dL_store_1 : decode cL_store 1 = .ok (.iconst 0, 1) := by decide +kernel
theorem dL_store_2 : decode cL_store 2 = .ok (.aload_n 0, 1) := by decide +kernel
theorem dL_store_3 : decode cL_store 3 = .ok (.iload_n 1, 1) := by decide +kernel
theorem dL_store_4 : decode cL_store 4 = .ok (.iload_n 2, 1) := by decide +kernel
theorem dL_store_5 : decode cL_store 5 = .ok (.invokevirtual 47, 3) := by decide +kernel
theorem dL_store_8 : decode cL_store 8 = .ok (.i2l, 1) := by decide +kernel
theorem dL_store_9 : decode cL_store 9 = .ok (.lastore, 1) := by decide +kernel
theorem dL_store_10 : decode cL_store 10 = .ok (.goto 7, 3) := by decide +kernel
theorem dL_store_13 : decode cL_store 13 = .ok (.astore 4, 2) := by decide +kernel
theorem dL_store_15 : decode cL_store 15 = .ok (.iconst 1, 1) := by decide +kernel
theorem dL_store_16 : decode cL_store 16 = .ok (.ireturn, 1) := by decide +kernel
theorem dL_store_17 : decode cL_store 17 = .ok (.iconst 0, 1) := by decide +kernel
theorem dL_store_18 : decode cL_store 18 = .ok (.ireturn, 1) := by decide +kernel
theorem dL_addOrder_0 : decode cL_addOrder 0 = .ok (.aload 5, 2) := by decide +kernel
theorem dL_addOrder_2 : decode cL_addOrder 2 = .ok (.iconst 0, 1) := by decide +kernel
theorem dL_addOrder_3 : decode cL_addOrder 3 = .ok (.aload_n 0, 1) := by decide +kernel
theorem dL_addOrder_4 : decode cL_addOrder 4 = .ok (.iload_n 1, 1) := by decide +kernel
theorem dL_addOrder_5 : decode cL_addOrder 5 = .ok (.iload_n 2, 1) := by decide +kernel
theorem dL_addOrder_6 : decode cL_addOrder 6 = .ok (.iload_n 3, 1) := by decide +kernel
theorem dL_addOrder_7 : decode cL_addOrder 7 = .ok (.iload 4, 2) := by decide +kernel
theorem dL_addOrder_9 : decode cL_addOrder 9 = .ok (.invokevirtual 50, 3) := by decide +kernel
theorem dL_addOrder_12 : decode cL_addOrder 12 = .ok (.i2l, 1) := by decide +kernel
theorem dL_addOrder_13 : decode cL_addOrder 13 = .ok (.lastore, 1) := by decide +kernel
theorem dL_addOrder_14 : decode cL_addOrder 14 = .ok (.goto 11, 3) := by decide +kernel
theorem dL_addOrder_17 : decode cL_addOrder 17 = .ok (.astore 6, 2) := by decide +kernel
theorem dL_addOrder_19 : decode cL_addOrder 19 = .ok (.iconst 1, 1) := by decide +kernel
theorem dL_addOrder_20 : decode cL_addOrder 20 = .ok (.ireturn, 1) := by decide +kernel
theorem dL_addOrder_21 : decode cL_addOrder 21 = .ok (.astore 6, 2) := by decide +kernel
theorem dL_addOrder_23 : decode cL_addOrder 23 = .ok (.iconst 2, 1) := by decide +kernel
theorem dL_addOrder_24 : decode cL_addOrder 24 = .ok (.ireturn, 1) := by decide +kernel
theorem dL_addOrder_25 : decode cL_addOrder 25 = .ok (.iconst 0, 1) := by decide +kernel
theorem dL_addOrder_26 : decode cL_addOrder 26 = .ok (.ireturn, 1) := by decide +kernel
theorem dL_fill_0 : decode cL_fill 0 = .ok (.aload_n 2, 1) := by decide +kernel
theorem dL_fill_1 : decode cL_fill 1 = .ok (.iconst 0, 1) := by decide +kernel
theorem dL_fill_2 : decode cL_fill 2 = .ok (.aload_n 0, 1) := by decide +kernel
theorem dL_fill_3 : decode cL_fill 3 = .ok (.iload_n 1, 1) := by decide +kernel
theorem dL_fill_4 : decode cL_fill 4 = .ok (.invokevirtual 54, 3) := by decide +kernel
theorem dL_fill_7 : decode cL_fill 7 = .ok (.i2l, 1) := by decide +kernel
theorem dL_fill_8 : decode cL_fill 8 = .ok (.lastore, 1) := by decide +kernel
theorem dL_fill_9 : decode cL_fill 9 = .ok (.goto 9, 3) := by decide +kernel
theorem dL_fill_12 : decode cL_fill 12 = .ok (.astore_n 3, 1) := by decide +kernel
theorem dL_fill_13 : decode cL_fill 13 = .ok (.iconst 1, 1) := by decide +kernel
theorem dL_fill_14 : decode cL_fill 14 = .ok (.ireturn, 1) := by decide +kernel
theorem dL_fill_15 : decode cL_fill 15 = .ok (.astore_n 3, 1) := by decide +kernel
theorem dL_fill_16 : decode cL_fill 16 = .ok (.iconst 2, 1) := by decide +kernel
theorem dL_fill_17 : decode cL_fill 17 = .ok (.ireturn, 1) := by decide +kernel
theorem dL_fill_18 : decode cL_fill 18 = .ok (.iconst 0, 1) := by decide +kernel
theorem dL_fill_19 : decode cL_fill 19 = .ok (.ireturn, 1) := by decide +kernel
theorem dL_order_0 : decode cL_order 0 = .ok (.aload_n 3, 1) := by decide +kernel
theorem dL_order_1 : decode cL_order 1 = .ok (.iconst 0, 1) := by decide +kernel
theorem dL_order_2 : decode cL_order 2 = .ok (.aload_n 0, 1) := by decide +kernel
theorem dL_order_3 : decode cL_order 3 = .ok (.iload_n 1, 1) := by decide +kernel
theorem dL_order_4 : decode cL_order 4 = .ok (.iload_n 2, 1) := by decide +kernel
theorem dL_order_5 : decode cL_order 5 = .ok (.invokevirtual 57, 3) := by decide +kernel
theorem dL_order_8 : decode cL_order 8 = .ok (.i2l, 1) := by decide +kernel
theorem dL_order_9 : decode cL_order 9 = .ok (.lastore, 1) := by decide +kernel
theorem dL_order_10 : decode cL_order 10 = .ok (.goto 7, 3) := by decide +kernel
theorem dL_order_13 : decode cL_order 13 = .ok (.astore 4, 2) := by decide +kernel
theorem dL_order_15 : decode cL_order 15 = .ok (.iconst 1, 1) := by decide +kernel
theorem dL_order_16 : decode cL_order 16 = .ok (.ireturn, 1) := by decide +kernel
theorem dL_order_17 : decode cL_order 17 = .ok (.iconst 0, 1) := by decide +kernel
theorem dL_order_18 : decode cL_order 18 = .ok (.ireturn, 1) := by decide +kernel
theorem dL_pass_0 : decode cL_pass 0 = .ok (.aload_n 2, 1) := by decide +kernel
theorem dL_pass_1 : decode cL_pass 1 = .ok (.iconst 0, 1) := by decide +kernel
theorem dL_pass_2 : decode cL_pass 2 = .ok (.aload_n 0, 1) := by decide +kernel
theorem dL_pass_3 : decode cL_pass 3 = .ok (.iload_n 1, 1) := by decide +kernel
theorem dL_pass_4 : decode cL_pass 4 = .ok (.invokevirtual 60, 3) := by decide +kernel
theorem dL_pass_7 : decode cL_pass 7 = .ok (.i2l, 1) := by decide +kernel
theorem dL_pass_8 : decode cL_pass 8 = .ok (.lastore, 1) := by decide +kernel
theorem dL_pass_9 : decode cL_pass 9 = .ok (.goto 6, 3) := by decide +kernel
theorem dL_pass_12 : decode cL_pass 12 = .ok (.astore_n 3, 1) := by decide +kernel
theorem dL_pass_13 : decode cL_pass 13 = .ok (.iconst 1, 1) := by decide +kernel
theorem dL_pass_14 : decode cL_pass 14 = .ok (.ireturn, 1) := by decide +kernel
theorem dL_pass_15 : decode cL_pass 15 = .ok (.iconst 0, 1) := by decide +kernel
theorem dL_pass_16 : decode cL_pass 16 = .ok (.ireturn, 1) := by decide +kernel
theorem dL_count_0 : decode cL_count 0 = .ok (.aload_n 2, 1) := by decide +kernel
theorem dL_count_1 : decode cL_count 1 = .ok (.iconst 0, 1) := by decide +kernel
theorem dL_count_2 : decode cL_count 2 = .ok (.aload_n 0, 1) := by decide +kernel
theorem dL_count_3 : decode cL_count 3 = .ok (.iload_n 1, 1) := by decide +kernel
theorem dL_count_4 : decode cL_count 4 = .ok (.invokevirtual 63, 3) := by decide +kernel
theorem dL_count_7 : decode cL_count 7 = .ok (.i2l, 1) := by decide +kernel
theorem dL_count_8 : decode cL_count 8 = .ok (.lastore, 1) := by decide +kernel
theorem dL_count_9 : decode cL_count 9 = .ok (.goto 6, 3) := by decide +kernel
theorem dL_count_12 : decode cL_count 12 = .ok (.astore_n 3, 1) := by decide +kernel
theorem dL_count_13 : decode cL_count 13 = .ok (.iconst 1, 1) := by decide +kernel
theorem dL_count_14 : decode cL_count 14 = .ok (.ireturn, 1) := by decide +kernel
theorem dL_count_15 : decode cL_count 15 = .ok (.iconst 0, 1) := by decide +kernel
theorem dL_count_16 : decode cL_count 16 = .ok (.ireturn, 1) := by decide +kernel
theorem dL_would_0 : decode cL_would 0 = .ok (.aload_n 3, 1) := by decide +kernel
theorem dL_would_1 : decode cL_would 1 = .ok (.iconst 0, 1) := by decide +kernel
theorem dL_would_2 : decode cL_would 2 = .ok (.aload_n 0, 1) := by decide +kernel
theorem dL_would_3 : decode cL_would 3 = .ok (.iload_n 1, 1) := by decide +kernel
theorem dL_would_4 : decode cL_would 4 = .ok (.iload_n 2, 1) := by decide +kernel
theorem dL_would_5 : decode cL_would 5 = .ok (.invokevirtual 66, 3) := by decide +kernel
theorem dL_would_8 : decode cL_would 8 = .ok (.i2l, 1) := by decide +kernel
theorem dL_would_9 : decode cL_would 9 = .ok (.lastore, 1) := by decide +kernel
theorem dL_would_10 : decode cL_would 10 = .ok (.goto 15, 3) := by decide +kernel
theorem dL_would_13 : decode cL_would 13 = .ok (.astore 4, 2) := by decide +kernel
theorem dL_would_15 : decode cL_would 15 = .ok (.iconst 1, 1) := by decide +kernel
theorem dL_would_16 : decode cL_would 16 = .ok (.ireturn, 1) := by decide +kernel
theorem dL_would_17 : decode cL_would 17 = .ok (.astore 4, 2) := by decide +kernel
theorem dL_would_19 : decode cL_would 19 = .ok (.iconst 2, 1) := by decide +kernel
theorem dL_would_20 : decode cL_would 20 = .ok (.ireturn, 1) := by decide +kernel
theorem dL_would_21 : decode cL_would 21 = .ok (.astore 4, 2) := by decide +kernel
theorem dL_would_23 : decode cL_would 23 = .ok (.iconst 3, 1) := by decide +kernel
theorem dL_would_24 : decode cL_would 24 = .ok (.ireturn, 1) := by decide +kernel
theorem dL_would_25 : decode cL_would 25 = .ok (.iconst 0, 1) := by decide +kernel
theorem dL_would_26 : decode cL_would 26 = .ok (.ireturn, 1) := by decide +kernel
theorem dL_dipsTo_0 : decode cL_dipsTo 0 = .ok (.aload 4, 2) := by decide +kernel
theorem dL_dipsTo_2 : decode cL_dipsTo 2 = .ok (.iconst 0, 1) := by decide +kernel
theorem dL_dipsTo_3 : decode cL_dipsTo 3 = .ok (.aload_n 0, 1) := by decide +kernel
theorem dL_dipsTo_4 : decode cL_dipsTo 4 = .ok (.iload_n 1, 1) := by decide +kernel
theorem dL_dipsTo_5 : decode cL_dipsTo 5 = .ok (.iload_n 2, 1) := by decide +kernel
theorem dL_dipsTo_6 : decode cL_dipsTo 6 = .ok (.iload_n 3, 1) := by decide +kernel
theorem dL_dipsTo_7 : decode cL_dipsTo 7 = .ok (.invokevirtual 69, 3) := by decide +kernel
theorem dL_dipsTo_10 : decode cL_dipsTo 10 = .ok (.i2l, 1) := by decide +kernel
theorem dL_dipsTo_11 : decode cL_dipsTo 11 = .ok (.lastore, 1) := by decide +kernel
theorem dL_dipsTo_12 : decode cL_dipsTo 12 = .ok (.goto 15, 3) := by decide +kernel
theorem dL_dipsTo_15 : decode cL_dipsTo 15 = .ok (.astore 5, 2) := by decide +kernel
theorem dL_dipsTo_17 : decode cL_dipsTo 17 = .ok (.iconst 1, 1) := by decide +kernel
theorem dL_dipsTo_18 : decode cL_dipsTo 18 = .ok (.ireturn, 1) := by decide +kernel
theorem dL_dipsTo_19 : decode cL_dipsTo 19 = .ok (.astore 5, 2) := by decide +kernel
theorem dL_dipsTo_21 : decode cL_dipsTo 21 = .ok (.iconst 2, 1) := by decide +kernel
theorem dL_dipsTo_22 : decode cL_dipsTo 22 = .ok (.ireturn, 1) := by decide +kernel
theorem dL_dipsTo_23 : decode cL_dipsTo 23 = .ok (.astore 5, 2) := by decide +kernel
theorem dL_dipsTo_25 : decode cL_dipsTo 25 = .ok (.iconst 3, 1) := by decide +kernel
theorem dL_dipsTo_26 : decode cL_dipsTo 26 = .ok (.ireturn, 1) := by decide +kernel
theorem dL_dipsTo_27 : decode cL_dipsTo 27 = .ok (.iconst 0, 1) := by decide +kernel
theorem dL_dipsTo_28 : decode cL_dipsTo 28 = .ok (.ireturn, 1) := by decide +kernel
theorem dL_bestRest_0 : decode cL_bestRest 0 = .ok (.aload_n 3, 1) := by decide +kernel
theorem dL_bestRest_1 : decode cL_bestRest 1 = .ok (.iconst 0, 1) := by decide +kernel
theorem dL_bestRest_2 : decode cL_bestRest 2 = .ok (.aload_n 0, 1) := by decide +kernel
theorem dL_bestRest_3 : decode cL_bestRest 3 = .ok (.iload_n 1, 1) := by decide +kernel
theorem dL_bestRest_4 : decode cL_bestRest 4 = .ok (.iload_n 2, 1) := by decide +kernel
theorem dL_bestRest_5 : decode cL_bestRest 5 = .ok (.invokevirtual 73, 3) := by decide +kernel
theorem dL_bestRest_8 : decode cL_bestRest 8 = .ok (.i2l, 1) := by decide +kernel
theorem dL_bestRest_9 : decode cL_bestRest 9 = .ok (.lastore, 1) := by decide +kernel
theorem dL_bestRest_10 : decode cL_bestRest 10 = .ok (.goto 15, 3) := by decide +kernel
theorem dL_bestRest_13 : decode cL_bestRest 13 = .ok (.astore 4, 2) := by decide +kernel
theorem dL_bestRest_15 : decode cL_bestRest 15 = .ok (.iconst 1, 1) := by decide +kernel
theorem dL_bestRest_16 : decode cL_bestRest 16 = .ok (.ireturn, 1) := by decide +kernel
theorem dL_bestRest_17 : decode cL_bestRest 17 = .ok (.astore 4, 2) := by decide +kernel
theorem dL_bestRest_19 : decode cL_bestRest 19 = .ok (.iconst 2, 1) := by decide +kernel
theorem dL_bestRest_20 : decode cL_bestRest 20 = .ok (.ireturn, 1) := by decide +kernel
theorem dL_bestRest_21 : decode cL_bestRest 21 = .ok (.astore 4, 2) := by decide +kernel
theorem dL_bestRest_23 : decode cL_bestRest 23 = .ok (.iconst 3, 1) := by decide +kernel
theorem dL_bestRest_24 : decode cL_bestRest 24 = .ok (.ireturn, 1) := by decide +kernel
theorem dL_bestRest_25 : decode cL_bestRest 25 = .ok (.iconst 0, 1) := by decide +kernel
theorem dL_bestRest_26 : decode cL_bestRest 26 = .ok (.ireturn, 1) := by decide +kernel
theorem dL_law_0 : decode cL_law 0 = .ok (.new 8, 3) := by decide +kernel
theorem dL_law_3 : decode cL_law 3 = .ok (.dup, 1) := by decide +kernel
theorem dL_law_4 : decode cL_law 4 = .ok (.invokespecial 76, 3) := by decide +kernel
theorem dL_law_7 : decode cL_law 7 = .ok (.astore_n 1, 1) := by decide +kernel
theorem dL_law_8 : decode cL_law 8 = .ok (.new 77, 3) := by decide +kernel
theorem dL_law_11 : decode cL_law 11 = .ok (.dup, 1) := by decide +kernel
theorem dL_law_12 : decode cL_law 12 = .ok (.invokespecial 79, 3) := by decide +kernel
theorem dL_law_15 : decode cL_law 15 = .ok (.astore_n 2, 1) := by decide +kernel
theorem dL_law_16 : decode cL_law 16 = .ok (.iconst 1, 1) := by decide +kernel
theorem dL_law_17 : decode cL_law 17 = .ok (.newarray .long, 2) := by decide +kernel
theorem dL_law_19 : decode cL_law 19 = .ok (.astore_n 3, 1) := by decide +kernel
theorem dL_law_20 : decode cL_law 20 = .ok (.iconst 0, 1) := by decide +kernel
theorem dL_law_21 : decode cL_law 21 = .ok (.istore 4, 2) := by decide +kernel
theorem dL_law_23 : decode cL_law 23 = .ok (.iload 4, 2) := by decide +kernel
theorem dL_law_25 : decode cL_law 25 = .ok (.aload_n 0, 1) := by decide +kernel
theorem dL_law_26 : decode cL_law 26 = .ok (.arraylength, 1) := by decide +kernel
theorem dL_law_27 : decode cL_law 27 = .ok (.iconst 5, 1) := by decide +kernel
theorem dL_law_28 : decode cL_law 28 = .ok (.isub, 1) := by decide +kernel
theorem dL_law_29 : decode cL_law 29 = .ok (.if_icmp .gt 1410, 3) := by decide +kernel
theorem dL_law_32 : decode cL_law 32 = .ok (.aload_n 0, 1) := by decide +kernel
theorem dL_law_33 : decode cL_law 33 = .ok (.iload 4, 2) := by decide +kernel
theorem dL_law_35 : decode cL_law 35 = .ok (.iaload, 1) := by decide +kernel
theorem dL_law_36 : decode cL_law 36 = .ok (.bipush 31, 2) := by decide +kernel
theorem dL_law_38 : decode cL_law 38 = .ok (.iand, 1) := by decide +kernel
theorem dL_law_39 : decode cL_law 39 = .ok (.tableswitch 1394 0 22 #[105, 161, 217, 273, 341, 409, 465, 521, 577, 645, 701, 769, 861, 917, 985, 1041, 1097, 1165, 1245, 1313, 1326, 1339, 1380], 105) := by decide +kernel
theorem dL_law_144 : decode cL_law 144 = .ok (.aload_n 1, 1) := by decide +kernel
theorem dL_law_145 : decode cL_law 145 = .ok (.aload_n 0, 1) := by decide +kernel
theorem dL_law_146 : decode cL_law 146 = .ok (.iload 4, 2) := by decide +kernel
theorem dL_law_148 : decode cL_law 148 = .ok (.iconst 1, 1) := by decide +kernel
theorem dL_law_149 : decode cL_law 149 = .ok (.iadd, 1) := by decide +kernel
theorem dL_law_150 : decode cL_law 150 = .ok (.iaload, 1) := by decide +kernel
theorem dL_law_151 : decode cL_law 151 = .ok (.aload_n 3, 1) := by decide +kernel
theorem dL_law_152 : decode cL_law 152 = .ok (.invokestatic 80, 3) := by decide +kernel
theorem dL_law_155 : decode cL_law 155 = .ok (.istore 5, 2) := by decide +kernel
theorem dL_law_157 : decode cL_law 157 = .ok (.aload_n 2, 1) := by decide +kernel
theorem dL_law_158 : decode cL_law 158 = .ok (.aload_n 0, 1) := by decide +kernel
theorem dL_law_159 : decode cL_law 159 = .ok (.iload 4, 2) := by decide +kernel
theorem dL_law_161 : decode cL_law 161 = .ok (.iconst 1, 1) := by decide +kernel
theorem dL_law_162 : decode cL_law 162 = .ok (.iadd, 1) := by decide +kernel
theorem dL_law_163 : decode cL_law 163 = .ok (.iaload, 1) := by decide +kernel
theorem dL_law_164 : decode cL_law 164 = .ok (.invokevirtual 85, 3) := by decide +kernel
theorem dL_law_167 : decode cL_law 167 = .ok (.istore 6, 2) := by decide +kernel
theorem dL_law_169 : decode cL_law 169 = .ok (.aload_n 2, 1) := by decide +kernel
theorem dL_law_170 : decode cL_law 170 = .ok (.invokevirtual 86, 3) := by decide +kernel
theorem dL_law_173 : decode cL_law 173 = .ok (.iload 5, 2) := by decide +kernel
theorem dL_law_175 : decode cL_law 175 = .ok (.if_icmp .eq 5, 3) := by decide +kernel
theorem dL_law_178 : decode cL_law 178 = .ok (.iconst 0, 1) := by decide +kernel
theorem dL_law_179 : decode cL_law 179 = .ok (.ireturn, 1) := by decide +kernel
theorem dL_law_180 : decode cL_law 180 = .ok (.iload 5, 2) := by decide +kernel
theorem dL_law_182 : decode cL_law 182 = .ok (.ifCond .ne 15, 3) := by decide +kernel
theorem dL_law_185 : decode cL_law 185 = .ok (.aload_n 3, 1) := by decide +kernel
theorem dL_law_186 : decode cL_law 186 = .ok (.iconst 0, 1) := by decide +kernel
theorem dL_law_187 : decode cL_law 187 = .ok (.laload, 1) := by decide +kernel
theorem dL_law_188 : decode cL_law 188 = .ok (.iload 6, 2) := by decide +kernel
theorem dL_law_190 : decode cL_law 190 = .ok (.i2l, 1) := by decide +kernel
theorem dL_law_191 : decode cL_law 191 = .ok (.lcmp, 1) := by decide +kernel
theorem dL_law_192 : decode cL_law 192 = .ok (.ifCond .eq 5, 3) := by decide +kernel
theorem dL_law_195 : decode cL_law 195 = .ok (.iconst 0, 1) := by decide +kernel
theorem dL_law_196 : decode cL_law 196 = .ok (.ireturn, 1) := by decide +kernel
theorem dL_law_197 : decode cL_law 197 = .ok (.goto 1236, 3) := by decide +kernel
theorem dL_law_200 : decode cL_law 200 = .ok (.aload_n 1, 1) := by decide +kernel
theorem dL_law_201 : decode cL_law 201 = .ok (.aload_n 0, 1) := by decide +kernel
theorem dL_law_202 : decode cL_law 202 = .ok (.iload 4, 2) := by decide +kernel
theorem dL_law_204 : decode cL_law 204 = .ok (.iconst 1, 1) := by decide +kernel
theorem dL_law_205 : decode cL_law 205 = .ok (.iadd, 1) := by decide +kernel
theorem dL_law_206 : decode cL_law 206 = .ok (.iaload, 1) := by decide +kernel
theorem dL_law_207 : decode cL_law 207 = .ok (.aload_n 3, 1) := by decide +kernel
theorem dL_law_208 : decode cL_law 208 = .ok (.invokestatic 90, 3) := by decide +kernel
theorem dL_law_211 : decode cL_law 211 = .ok (.istore 5, 2) := by decide +kernel
theorem dL_law_213 : decode cL_law 213 = .ok (.aload_n 2, 1) := by decide +kernel
theorem dL_law_214 : decode cL_law 214 = .ok (.aload_n 0, 1) := by decide +kernel
theorem dL_law_215 : decode cL_law 215 = .ok (.iload 4, 2) := by decide +kernel
theorem dL_law_217 : decode cL_law 217 = .ok (.iconst 1, 1) := by decide +kernel
theorem dL_law_218 : decode cL_law 218 = .ok (.iadd, 1) := by decide +kernel
theorem dL_law_219 : decode cL_law 219 = .ok (.iaload, 1) := by decide +kernel
theorem dL_law_220 : decode cL_law 220 = .ok (.invokevirtual 92, 3) := by decide +kernel
theorem dL_law_223 : decode cL_law 223 = .ok (.istore 6, 2) := by decide +kernel
theorem dL_law_225 : decode cL_law 225 = .ok (.aload_n 2, 1) := by decide +kernel
theorem dL_law_226 : decode cL_law 226 = .ok (.invokevirtual 86, 3) := by decide +kernel
theorem dL_law_229 : decode cL_law 229 = .ok (.iload 5, 2) := by decide +kernel
theorem dL_law_231 : decode cL_law 231 = .ok (.if_icmp .eq 5, 3) := by decide +kernel
theorem dL_law_234 : decode cL_law 234 = .ok (.iconst 0, 1) := by decide +kernel
theorem dL_law_235 : decode cL_law 235 = .ok (.ireturn, 1) := by decide +kernel
theorem dL_law_236 : decode cL_law 236 = .ok (.iload 5, 2) := by decide +kernel
theorem dL_law_238 : decode cL_law 238 = .ok (.ifCond .ne 15, 3) := by decide +kernel
theorem dL_law_241 : decode cL_law 241 = .ok (.aload_n 3, 1) := by decide +kernel
theorem dL_law_242 : decode cL_law 242 = .ok (.iconst 0, 1) := by decide +kernel
theorem dL_law_243 : decode cL_law 243 = .ok (.laload, 1) := by decide +kernel
theorem dL_law_244 : decode cL_law 244 = .ok (.iload 6, 2) := by decide +kernel
theorem dL_law_246 : decode cL_law 246 = .ok (.i2l, 1) := by decide +kernel
theorem dL_law_247 : decode cL_law 247 = .ok (.lcmp, 1) := by decide +kernel
theorem dL_law_248 : decode cL_law 248 = .ok (.ifCond .eq 5, 3) := by decide +kernel
theorem dL_law_251 : decode cL_law 251 = .ok (.iconst 0, 1) := by decide +kernel
theorem dL_law_252 : decode cL_law 252 = .ok (.ireturn, 1) := by decide +kernel
theorem dL_law_253 : decode cL_law 253 = .ok (.goto 1180, 3) := by decide +kernel
theorem dL_law_256 : decode cL_law 256 = .ok (.aload_n 1, 1) := by decide +kernel
theorem dL_law_257 : decode cL_law 257 = .ok (.aload_n 0, 1) := by decide +kernel
theorem dL_law_258 : decode cL_law 258 = .ok (.iload 4, 2) := by decide +kernel
theorem dL_law_260 : decode cL_law 260 = .ok (.iconst 1, 1) := by decide +kernel
theorem dL_law_261 : decode cL_law 261 = .ok (.iadd, 1) := by decide +kernel
theorem dL_law_262 : decode cL_law 262 = .ok (.iaload, 1) := by decide +kernel
theorem dL_law_263 : decode cL_law 263 = .ok (.aload_n 3, 1) := by decide +kernel
theorem dL_law_264 : decode cL_law 264 = .ok (.invokestatic 93, 3) := by decide +kernel
theorem dL_law_267 : decode cL_law 267 = .ok (.istore 5, 2) := by decide +kernel
theorem dL_law_269 : decode cL_law 269 = .ok (.aload_n 2, 1) := by decide +kernel
theorem dL_law_270 : decode cL_law 270 = .ok (.aload_n 0, 1) := by decide +kernel
theorem dL_law_271 : decode cL_law 271 = .ok (.iload 4, 2) := by decide +kernel
theorem dL_law_273 : decode cL_law 273 = .ok (.iconst 1, 1) := by decide +kernel
theorem dL_law_274 : decode cL_law 274 = .ok (.iadd, 1) := by decide +kernel
theorem dL_law_275 : decode cL_law 275 = .ok (.iaload, 1) := by decide +kernel
theorem dL_law_276 : decode cL_law 276 = .ok (.invokevirtual 95, 3) := by decide +kernel
theorem dL_law_279 : decode cL_law 279 = .ok (.istore 6, 2) := by decide +kernel
theorem dL_law_281 : decode cL_law 281 = .ok (.aload_n 2, 1) := by decide +kernel
theorem dL_law_282 : decode cL_law 282 = .ok (.invokevirtual 86, 3) := by decide +kernel
theorem dL_law_285 : decode cL_law 285 = .ok (.iload 5, 2) := by decide +kernel
theorem dL_law_287 : decode cL_law 287 = .ok (.if_icmp .eq 5, 3) := by decide +kernel
theorem dL_law_290 : decode cL_law 290 = .ok (.iconst 0, 1) := by decide +kernel
theorem dL_law_291 : decode cL_law 291 = .ok (.ireturn, 1) := by decide +kernel
theorem dL_law_292 : decode cL_law 292 = .ok (.iload 5, 2) := by decide +kernel
theorem dL_law_294 : decode cL_law 294 = .ok (.ifCond .ne 15, 3) := by decide +kernel
theorem dL_law_297 : decode cL_law 297 = .ok (.aload_n 3, 1) := by decide +kernel
theorem dL_law_298 : decode cL_law 298 = .ok (.iconst 0, 1) := by decide +kernel
theorem dL_law_299 : decode cL_law 299 = .ok (.laload, 1) := by decide +kernel
theorem dL_law_300 : decode cL_law 300 = .ok (.iload 6, 2) := by decide +kernel
theorem dL_law_302 : decode cL_law 302 = .ok (.i2l, 1) := by decide +kernel
theorem dL_law_303 : decode cL_law 303 = .ok (.lcmp, 1) := by decide +kernel
theorem dL_law_304 : decode cL_law 304 = .ok (.ifCond .eq 5, 3) := by decide +kernel
theorem dL_law_307 : decode cL_law 307 = .ok (.iconst 0, 1) := by decide +kernel
theorem dL_law_308 : decode cL_law 308 = .ok (.ireturn, 1) := by decide +kernel
theorem dL_law_309 : decode cL_law 309 = .ok (.goto 1124, 3) := by decide +kernel
theorem dL_law_312 : decode cL_law 312 = .ok (.aload_n 1, 1) := by decide +kernel
theorem dL_law_313 : decode cL_law 313 = .ok (.aload_n 0, 1) := by decide +kernel
theorem dL_law_314 : decode cL_law 314 = .ok (.iload 4, 2) := by decide +kernel
theorem dL_law_316 : decode cL_law 316 = .ok (.iconst 1, 1) := by decide +kernel
theorem dL_law_317 : decode cL_law 317 = .ok (.iadd, 1) := by decide +kernel
theorem dL_law_318 : decode cL_law 318 = .ok (.iaload, 1) := by decide +kernel
theorem dL_law_319 : decode cL_law 319 = .ok (.aload_n 0, 1) := by decide +kernel
theorem dL_law_320 : decode cL_law 320 = .ok (.iload 4, 2) := by decide +kernel
theorem dL_law_322 : decode cL_law 322 = .ok (.iconst 2, 1) := by decide +kernel
theorem dL_law_323 : decode cL_law 323 = .ok (.iadd, 1) := by decide +kernel
theorem dL_law_324 : decode cL_law 324 = .ok (.iaload, 1) := by decide +kernel
theorem dL_law_325 : decode cL_law 325 = .ok (.aload_n 3, 1) := by decide +kernel
theorem dL_law_326 : decode cL_law 326 = .ok (.invokestatic 96, 3) := by decide +kernel
theorem dL_law_329 : decode cL_law 329 = .ok (.istore 5, 2) := by decide +kernel
theorem dL_law_331 : decode cL_law 331 = .ok (.aload_n 2, 1) := by decide +kernel
theorem dL_law_332 : decode cL_law 332 = .ok (.aload_n 0, 1) := by decide +kernel
theorem dL_law_333 : decode cL_law 333 = .ok (.iload 4, 2) := by decide +kernel
theorem dL_law_335 : decode cL_law 335 = .ok (.iconst 1, 1) := by decide +kernel
theorem dL_law_336 : decode cL_law 336 = .ok (.iadd, 1) := by decide +kernel
theorem dL_law_337 : decode cL_law 337 = .ok (.iaload, 1) := by decide +kernel
theorem dL_law_338 : decode cL_law 338 = .ok (.aload_n 0, 1) := by decide +kernel
theorem dL_law_339 : decode cL_law 339 = .ok (.iload 4, 2) := by decide +kernel
theorem dL_law_341 : decode cL_law 341 = .ok (.iconst 2, 1) := by decide +kernel
theorem dL_law_342 : decode cL_law 342 = .ok (.iadd, 1) := by decide +kernel
theorem dL_law_343 : decode cL_law 343 = .ok (.iaload, 1) := by decide +kernel
theorem dL_law_344 : decode cL_law 344 = .ok (.invokevirtual 99, 3) := by decide +kernel
theorem dL_law_347 : decode cL_law 347 = .ok (.istore 6, 2) := by decide +kernel
theorem dL_law_349 : decode cL_law 349 = .ok (.aload_n 2, 1) := by decide +kernel
theorem dL_law_350 : decode cL_law 350 = .ok (.invokevirtual 86, 3) := by decide +kernel
theorem dL_law_353 : decode cL_law 353 = .ok (.iload 5, 2) := by decide +kernel
theorem dL_law_355 : decode cL_law 355 = .ok (.if_icmp .eq 5, 3) := by decide +kernel
theorem dL_law_358 : decode cL_law 358 = .ok (.iconst 0, 1) := by decide +kernel
theorem dL_law_359 : decode cL_law 359 = .ok (.ireturn, 1) := by decide +kernel
theorem dL_law_360 : decode cL_law 360 = .ok (.iload 5, 2) := by decide +kernel
theorem dL_law_362 : decode cL_law 362 = .ok (.ifCond .ne 15, 3) := by decide +kernel
theorem dL_law_365 : decode cL_law 365 = .ok (.aload_n 3, 1) := by decide +kernel
theorem dL_law_366 : decode cL_law 366 = .ok (.iconst 0, 1) := by decide +kernel
theorem dL_law_367 : decode cL_law 367 = .ok (.laload, 1) := by decide +kernel
theorem dL_law_368 : decode cL_law 368 = .ok (.iload 6, 2) := by decide +kernel
theorem dL_law_370 : decode cL_law 370 = .ok (.i2l, 1) := by decide +kernel
theorem dL_law_371 : decode cL_law 371 = .ok (.lcmp, 1) := by decide +kernel
theorem dL_law_372 : decode cL_law 372 = .ok (.ifCond .eq 5, 3) := by decide +kernel
theorem dL_law_375 : decode cL_law 375 = .ok (.iconst 0, 1) := by decide +kernel
theorem dL_law_376 : decode cL_law 376 = .ok (.ireturn, 1) := by decide +kernel
theorem dL_law_377 : decode cL_law 377 = .ok (.goto 1056, 3) := by decide +kernel
theorem dL_law_380 : decode cL_law 380 = .ok (.aload_n 1, 1) := by decide +kernel
theorem dL_law_381 : decode cL_law 381 = .ok (.aload_n 0, 1) := by decide +kernel
theorem dL_law_382 : decode cL_law 382 = .ok (.iload 4, 2) := by decide +kernel
theorem dL_law_384 : decode cL_law 384 = .ok (.iconst 1, 1) := by decide +kernel
theorem dL_law_385 : decode cL_law 385 = .ok (.iadd, 1) := by decide +kernel
theorem dL_law_386 : decode cL_law 386 = .ok (.iaload, 1) := by decide +kernel
theorem dL_law_387 : decode cL_law 387 = .ok (.aload_n 0, 1) := by decide +kernel
theorem dL_law_388 : decode cL_law 388 = .ok (.iload 4, 2) := by decide +kernel
theorem dL_law_390 : decode cL_law 390 = .ok (.iconst 2, 1) := by decide +kernel
theorem dL_law_391 : decode cL_law 391 = .ok (.iadd, 1) := by decide +kernel
theorem dL_law_392 : decode cL_law 392 = .ok (.iaload, 1) := by decide +kernel
theorem dL_law_393 : decode cL_law 393 = .ok (.aload_n 3, 1) := by decide +kernel
theorem dL_law_394 : decode cL_law 394 = .ok (.invokestatic 100, 3) := by decide +kernel
theorem dL_law_397 : decode cL_law 397 = .ok (.istore 5, 2) := by decide +kernel
theorem dL_law_399 : decode cL_law 399 = .ok (.aload_n 2, 1) := by decide +kernel
theorem dL_law_400 : decode cL_law 400 = .ok (.aload_n 0, 1) := by decide +kernel
theorem dL_law_401 : decode cL_law 401 = .ok (.iload 4, 2) := by decide +kernel
theorem dL_law_403 : decode cL_law 403 = .ok (.iconst 1, 1) := by decide +kernel
theorem dL_law_404 : decode cL_law 404 = .ok (.iadd, 1) := by decide +kernel
theorem dL_law_405 : decode cL_law 405 = .ok (.iaload, 1) := by decide +kernel
theorem dL_law_406 : decode cL_law 406 = .ok (.aload_n 0, 1) := by decide +kernel
theorem dL_law_407 : decode cL_law 407 = .ok (.iload 4, 2) := by decide +kernel
theorem dL_law_409 : decode cL_law 409 = .ok (.iconst 2, 1) := by decide +kernel
theorem dL_law_410 : decode cL_law 410 = .ok (.iadd, 1) := by decide +kernel
theorem dL_law_411 : decode cL_law 411 = .ok (.iaload, 1) := by decide +kernel
theorem dL_law_412 : decode cL_law 412 = .ok (.invokevirtual 102, 3) := by decide +kernel
theorem dL_law_415 : decode cL_law 415 = .ok (.istore 6, 2) := by decide +kernel
theorem dL_law_417 : decode cL_law 417 = .ok (.aload_n 2, 1) := by decide +kernel
theorem dL_law_418 : decode cL_law 418 = .ok (.invokevirtual 86, 3) := by decide +kernel
theorem dL_law_421 : decode cL_law 421 = .ok (.iload 5, 2) := by decide +kernel
theorem dL_law_423 : decode cL_law 423 = .ok (.if_icmp .eq 5, 3) := by decide +kernel
theorem dL_law_426 : decode cL_law 426 = .ok (.iconst 0, 1) := by decide +kernel
theorem dL_law_427 : decode cL_law 427 = .ok (.ireturn, 1) := by decide +kernel
theorem dL_law_428 : decode cL_law 428 = .ok (.iload 5, 2) := by decide +kernel
theorem dL_law_430 : decode cL_law 430 = .ok (.ifCond .ne 15, 3) := by decide +kernel
theorem dL_law_433 : decode cL_law 433 = .ok (.aload_n 3, 1) := by decide +kernel
theorem dL_law_434 : decode cL_law 434 = .ok (.iconst 0, 1) := by decide +kernel
theorem dL_law_435 : decode cL_law 435 = .ok (.laload, 1) := by decide +kernel
theorem dL_law_436 : decode cL_law 436 = .ok (.iload 6, 2) := by decide +kernel
theorem dL_law_438 : decode cL_law 438 = .ok (.i2l, 1) := by decide +kernel
theorem dL_law_439 : decode cL_law 439 = .ok (.lcmp, 1) := by decide +kernel
theorem dL_law_440 : decode cL_law 440 = .ok (.ifCond .eq 5, 3) := by decide +kernel
theorem dL_law_443 : decode cL_law 443 = .ok (.iconst 0, 1) := by decide +kernel
theorem dL_law_444 : decode cL_law 444 = .ok (.ireturn, 1) := by decide +kernel
theorem dL_law_445 : decode cL_law 445 = .ok (.goto 988, 3) := by decide +kernel
theorem dL_law_448 : decode cL_law 448 = .ok (.aload_n 1, 1) := by decide +kernel
theorem dL_law_449 : decode cL_law 449 = .ok (.aload_n 0, 1) := by decide +kernel
theorem dL_law_450 : decode cL_law 450 = .ok (.iload 4, 2) := by decide +kernel
theorem dL_law_452 : decode cL_law 452 = .ok (.iconst 1, 1) := by decide +kernel
theorem dL_law_453 : decode cL_law 453 = .ok (.iadd, 1) := by decide +kernel
theorem dL_law_454 : decode cL_law 454 = .ok (.iaload, 1) := by decide +kernel
theorem dL_law_455 : decode cL_law 455 = .ok (.aload_n 3, 1) := by decide +kernel
theorem dL_law_456 : decode cL_law 456 = .ok (.invokestatic 103, 3) := by decide +kernel
theorem dL_law_459 : decode cL_law 459 = .ok (.istore 5, 2) := by decide +kernel
theorem dL_law_461 : decode cL_law 461 = .ok (.aload_n 2, 1) := by decide +kernel
theorem dL_law_462 : decode cL_law 462 = .ok (.aload_n 0, 1) := by decide +kernel
theorem dL_law_463 : decode cL_law 463 = .ok (.iload 4, 2) := by decide +kernel
theorem dL_law_465 : decode cL_law 465 = .ok (.iconst 1, 1) := by decide +kernel
theorem dL_law_466 : decode cL_law 466 = .ok (.iadd, 1) := by decide +kernel
theorem dL_law_467 : decode cL_law 467 = .ok (.iaload, 1) := by decide +kernel
theorem dL_law_468 : decode cL_law 468 = .ok (.invokevirtual 105, 3) := by decide +kernel
theorem dL_law_471 : decode cL_law 471 = .ok (.istore 6, 2) := by decide +kernel
theorem dL_law_473 : decode cL_law 473 = .ok (.aload_n 2, 1) := by decide +kernel
theorem dL_law_474 : decode cL_law 474 = .ok (.invokevirtual 86, 3) := by decide +kernel
theorem dL_law_477 : decode cL_law 477 = .ok (.iload 5, 2) := by decide +kernel
theorem dL_law_479 : decode cL_law 479 = .ok (.if_icmp .eq 5, 3) := by decide +kernel
theorem dL_law_482 : decode cL_law 482 = .ok (.iconst 0, 1) := by decide +kernel
theorem dL_law_483 : decode cL_law 483 = .ok (.ireturn, 1) := by decide +kernel
theorem dL_law_484 : decode cL_law 484 = .ok (.iload 5, 2) := by decide +kernel
theorem dL_law_486 : decode cL_law 486 = .ok (.ifCond .ne 15, 3) := by decide +kernel
theorem dL_law_489 : decode cL_law 489 = .ok (.aload_n 3, 1) := by decide +kernel
theorem dL_law_490 : decode cL_law 490 = .ok (.iconst 0, 1) := by decide +kernel
theorem dL_law_491 : decode cL_law 491 = .ok (.laload, 1) := by decide +kernel
theorem dL_law_492 : decode cL_law 492 = .ok (.iload 6, 2) := by decide +kernel
theorem dL_law_494 : decode cL_law 494 = .ok (.i2l, 1) := by decide +kernel
theorem dL_law_495 : decode cL_law 495 = .ok (.lcmp, 1) := by decide +kernel
theorem dL_law_496 : decode cL_law 496 = .ok (.ifCond .eq 5, 3) := by decide +kernel
theorem dL_law_499 : decode cL_law 499 = .ok (.iconst 0, 1) := by decide +kernel
theorem dL_law_500 : decode cL_law 500 = .ok (.ireturn, 1) := by decide +kernel
theorem dL_law_501 : decode cL_law 501 = .ok (.goto 932, 3) := by decide +kernel
theorem dL_law_504 : decode cL_law 504 = .ok (.aload_n 1, 1) := by decide +kernel
theorem dL_law_505 : decode cL_law 505 = .ok (.aload_n 0, 1) := by decide +kernel
theorem dL_law_506 : decode cL_law 506 = .ok (.iload 4, 2) := by decide +kernel
theorem dL_law_508 : decode cL_law 508 = .ok (.iconst 1, 1) := by decide +kernel
theorem dL_law_509 : decode cL_law 509 = .ok (.iadd, 1) := by decide +kernel
theorem dL_law_510 : decode cL_law 510 = .ok (.iaload, 1) := by decide +kernel
theorem dL_law_511 : decode cL_law 511 = .ok (.aload_n 3, 1) := by decide +kernel
theorem dL_law_512 : decode cL_law 512 = .ok (.invokestatic 106, 3) := by decide +kernel
theorem dL_law_515 : decode cL_law 515 = .ok (.istore 5, 2) := by decide +kernel
theorem dL_law_517 : decode cL_law 517 = .ok (.aload_n 2, 1) := by decide +kernel
theorem dL_law_518 : decode cL_law 518 = .ok (.aload_n 0, 1) := by decide +kernel
theorem dL_law_519 : decode cL_law 519 = .ok (.iload 4, 2) := by decide +kernel
theorem dL_law_521 : decode cL_law 521 = .ok (.iconst 1, 1) := by decide +kernel
theorem dL_law_522 : decode cL_law 522 = .ok (.iadd, 1) := by decide +kernel
theorem dL_law_523 : decode cL_law 523 = .ok (.iaload, 1) := by decide +kernel
theorem dL_law_524 : decode cL_law 524 = .ok (.invokevirtual 108, 3) := by decide +kernel
theorem dL_law_527 : decode cL_law 527 = .ok (.istore 6, 2) := by decide +kernel
theorem dL_law_529 : decode cL_law 529 = .ok (.aload_n 2, 1) := by decide +kernel
theorem dL_law_530 : decode cL_law 530 = .ok (.invokevirtual 86, 3) := by decide +kernel
theorem dL_law_533 : decode cL_law 533 = .ok (.iload 5, 2) := by decide +kernel
theorem dL_law_535 : decode cL_law 535 = .ok (.if_icmp .eq 5, 3) := by decide +kernel
theorem dL_law_538 : decode cL_law 538 = .ok (.iconst 0, 1) := by decide +kernel
theorem dL_law_539 : decode cL_law 539 = .ok (.ireturn, 1) := by decide +kernel
theorem dL_law_540 : decode cL_law 540 = .ok (.iload 5, 2) := by decide +kernel
theorem dL_law_542 : decode cL_law 542 = .ok (.ifCond .ne 15, 3) := by decide +kernel
theorem dL_law_545 : decode cL_law 545 = .ok (.aload_n 3, 1) := by decide +kernel
theorem dL_law_546 : decode cL_law 546 = .ok (.iconst 0, 1) := by decide +kernel
theorem dL_law_547 : decode cL_law 547 = .ok (.laload, 1) := by decide +kernel
theorem dL_law_548 : decode cL_law 548 = .ok (.iload 6, 2) := by decide +kernel
theorem dL_law_550 : decode cL_law 550 = .ok (.i2l, 1) := by decide +kernel
theorem dL_law_551 : decode cL_law 551 = .ok (.lcmp, 1) := by decide +kernel
theorem dL_law_552 : decode cL_law 552 = .ok (.ifCond .eq 5, 3) := by decide +kernel
theorem dL_law_555 : decode cL_law 555 = .ok (.iconst 0, 1) := by decide +kernel
theorem dL_law_556 : decode cL_law 556 = .ok (.ireturn, 1) := by decide +kernel
theorem dL_law_557 : decode cL_law 557 = .ok (.goto 876, 3) := by decide +kernel
theorem dL_law_560 : decode cL_law 560 = .ok (.aload_n 1, 1) := by decide +kernel
theorem dL_law_561 : decode cL_law 561 = .ok (.aload_n 0, 1) := by decide +kernel
theorem dL_law_562 : decode cL_law 562 = .ok (.iload 4, 2) := by decide +kernel
theorem dL_law_564 : decode cL_law 564 = .ok (.iconst 1, 1) := by decide +kernel
theorem dL_law_565 : decode cL_law 565 = .ok (.iadd, 1) := by decide +kernel
theorem dL_law_566 : decode cL_law 566 = .ok (.iaload, 1) := by decide +kernel
theorem dL_law_567 : decode cL_law 567 = .ok (.aload_n 3, 1) := by decide +kernel
theorem dL_law_568 : decode cL_law 568 = .ok (.invokestatic 109, 3) := by decide +kernel
theorem dL_law_571 : decode cL_law 571 = .ok (.istore 5, 2) := by decide +kernel
theorem dL_law_573 : decode cL_law 573 = .ok (.aload_n 2, 1) := by decide +kernel
theorem dL_law_574 : decode cL_law 574 = .ok (.aload_n 0, 1) := by decide +kernel
theorem dL_law_575 : decode cL_law 575 = .ok (.iload 4, 2) := by decide +kernel
theorem dL_law_577 : decode cL_law 577 = .ok (.iconst 1, 1) := by decide +kernel
theorem dL_law_578 : decode cL_law 578 = .ok (.iadd, 1) := by decide +kernel
theorem dL_law_579 : decode cL_law 579 = .ok (.iaload, 1) := by decide +kernel
theorem dL_law_580 : decode cL_law 580 = .ok (.invokevirtual 111, 3) := by decide +kernel
theorem dL_law_583 : decode cL_law 583 = .ok (.istore 6, 2) := by decide +kernel
theorem dL_law_585 : decode cL_law 585 = .ok (.aload_n 2, 1) := by decide +kernel
theorem dL_law_586 : decode cL_law 586 = .ok (.invokevirtual 86, 3) := by decide +kernel
theorem dL_law_589 : decode cL_law 589 = .ok (.iload 5, 2) := by decide +kernel
theorem dL_law_591 : decode cL_law 591 = .ok (.if_icmp .eq 5, 3) := by decide +kernel
theorem dL_law_594 : decode cL_law 594 = .ok (.iconst 0, 1) := by decide +kernel
theorem dL_law_595 : decode cL_law 595 = .ok (.ireturn, 1) := by decide +kernel
theorem dL_law_596 : decode cL_law 596 = .ok (.iload 5, 2) := by decide +kernel
theorem dL_law_598 : decode cL_law 598 = .ok (.ifCond .ne 15, 3) := by decide +kernel
theorem dL_law_601 : decode cL_law 601 = .ok (.aload_n 3, 1) := by decide +kernel
theorem dL_law_602 : decode cL_law 602 = .ok (.iconst 0, 1) := by decide +kernel
theorem dL_law_603 : decode cL_law 603 = .ok (.laload, 1) := by decide +kernel
theorem dL_law_604 : decode cL_law 604 = .ok (.iload 6, 2) := by decide +kernel
theorem dL_law_606 : decode cL_law 606 = .ok (.i2l, 1) := by decide +kernel
theorem dL_law_607 : decode cL_law 607 = .ok (.lcmp, 1) := by decide +kernel
theorem dL_law_608 : decode cL_law 608 = .ok (.ifCond .eq 5, 3) := by decide +kernel
theorem dL_law_611 : decode cL_law 611 = .ok (.iconst 0, 1) := by decide +kernel
theorem dL_law_612 : decode cL_law 612 = .ok (.ireturn, 1) := by decide +kernel
theorem dL_law_613 : decode cL_law 613 = .ok (.goto 820, 3) := by decide +kernel
theorem dL_law_616 : decode cL_law 616 = .ok (.aload_n 1, 1) := by decide +kernel
theorem dL_law_617 : decode cL_law 617 = .ok (.aload_n 0, 1) := by decide +kernel
theorem dL_law_618 : decode cL_law 618 = .ok (.iload 4, 2) := by decide +kernel
theorem dL_law_620 : decode cL_law 620 = .ok (.iconst 1, 1) := by decide +kernel
theorem dL_law_621 : decode cL_law 621 = .ok (.iadd, 1) := by decide +kernel
theorem dL_law_622 : decode cL_law 622 = .ok (.iaload, 1) := by decide +kernel
theorem dL_law_623 : decode cL_law 623 = .ok (.aload_n 0, 1) := by decide +kernel
theorem dL_law_624 : decode cL_law 624 = .ok (.iload 4, 2) := by decide +kernel
theorem dL_law_626 : decode cL_law 626 = .ok (.iconst 2, 1) := by decide +kernel
theorem dL_law_627 : decode cL_law 627 = .ok (.iadd, 1) := by decide +kernel
theorem dL_law_628 : decode cL_law 628 = .ok (.iaload, 1) := by decide +kernel
theorem dL_law_629 : decode cL_law 629 = .ok (.aload_n 3, 1) := by decide +kernel
theorem dL_law_630 : decode cL_law 630 = .ok (.invokestatic 112, 3) := by decide +kernel
theorem dL_law_633 : decode cL_law 633 = .ok (.istore 5, 2) := by decide +kernel
theorem dL_law_635 : decode cL_law 635 = .ok (.aload_n 2, 1) := by decide +kernel
theorem dL_law_636 : decode cL_law 636 = .ok (.aload_n 0, 1) := by decide +kernel
theorem dL_law_637 : decode cL_law 637 = .ok (.iload 4, 2) := by decide +kernel
theorem dL_law_639 : decode cL_law 639 = .ok (.iconst 1, 1) := by decide +kernel
theorem dL_law_640 : decode cL_law 640 = .ok (.iadd, 1) := by decide +kernel
theorem dL_law_641 : decode cL_law 641 = .ok (.iaload, 1) := by decide +kernel
theorem dL_law_642 : decode cL_law 642 = .ok (.aload_n 0, 1) := by decide +kernel
theorem dL_law_643 : decode cL_law 643 = .ok (.iload 4, 2) := by decide +kernel
theorem dL_law_645 : decode cL_law 645 = .ok (.iconst 2, 1) := by decide +kernel
theorem dL_law_646 : decode cL_law 646 = .ok (.iadd, 1) := by decide +kernel
theorem dL_law_647 : decode cL_law 647 = .ok (.iaload, 1) := by decide +kernel
theorem dL_law_648 : decode cL_law 648 = .ok (.invokevirtual 114, 3) := by decide +kernel
theorem dL_law_651 : decode cL_law 651 = .ok (.istore 6, 2) := by decide +kernel
theorem dL_law_653 : decode cL_law 653 = .ok (.aload_n 2, 1) := by decide +kernel
theorem dL_law_654 : decode cL_law 654 = .ok (.invokevirtual 86, 3) := by decide +kernel
theorem dL_law_657 : decode cL_law 657 = .ok (.iload 5, 2) := by decide +kernel
theorem dL_law_659 : decode cL_law 659 = .ok (.if_icmp .eq 5, 3) := by decide +kernel
theorem dL_law_662 : decode cL_law 662 = .ok (.iconst 0, 1) := by decide +kernel
theorem dL_law_663 : decode cL_law 663 = .ok (.ireturn, 1) := by decide +kernel
theorem dL_law_664 : decode cL_law 664 = .ok (.iload 5, 2) := by decide +kernel
theorem dL_law_666 : decode cL_law 666 = .ok (.ifCond .ne 15, 3) := by decide +kernel
theorem dL_law_669 : decode cL_law 669 = .ok (.aload_n 3, 1) := by decide +kernel
theorem dL_law_670 : decode cL_law 670 = .ok (.iconst 0, 1) := by decide +kernel
theorem dL_law_671 : decode cL_law 671 = .ok (.laload, 1) := by decide +kernel
theorem dL_law_672 : decode cL_law 672 = .ok (.iload 6, 2) := by decide +kernel
theorem dL_law_674 : decode cL_law 674 = .ok (.i2l, 1) := by decide +kernel
theorem dL_law_675 : decode cL_law 675 = .ok (.lcmp, 1) := by decide +kernel
theorem dL_law_676 : decode cL_law 676 = .ok (.ifCond .eq 5, 3) := by decide +kernel
theorem dL_law_679 : decode cL_law 679 = .ok (.iconst 0, 1) := by decide +kernel
theorem dL_law_680 : decode cL_law 680 = .ok (.ireturn, 1) := by decide +kernel
theorem dL_law_681 : decode cL_law 681 = .ok (.goto 752, 3) := by decide +kernel
theorem dL_law_684 : decode cL_law 684 = .ok (.aload_n 1, 1) := by decide +kernel
theorem dL_law_685 : decode cL_law 685 = .ok (.aload_n 0, 1) := by decide +kernel
theorem dL_law_686 : decode cL_law 686 = .ok (.iload 4, 2) := by decide +kernel
theorem dL_law_688 : decode cL_law 688 = .ok (.iconst 1, 1) := by decide +kernel
theorem dL_law_689 : decode cL_law 689 = .ok (.iadd, 1) := by decide +kernel
theorem dL_law_690 : decode cL_law 690 = .ok (.iaload, 1) := by decide +kernel
theorem dL_law_691 : decode cL_law 691 = .ok (.aload_n 3, 1) := by decide +kernel
theorem dL_law_692 : decode cL_law 692 = .ok (.invokestatic 115, 3) := by decide +kernel
theorem dL_law_695 : decode cL_law 695 = .ok (.istore 5, 2) := by decide +kernel
theorem dL_law_697 : decode cL_law 697 = .ok (.aload_n 2, 1) := by decide +kernel
theorem dL_law_698 : decode cL_law 698 = .ok (.aload_n 0, 1) := by decide +kernel
theorem dL_law_699 : decode cL_law 699 = .ok (.iload 4, 2) := by decide +kernel
theorem dL_law_701 : decode cL_law 701 = .ok (.iconst 1, 1) := by decide +kernel
theorem dL_law_702 : decode cL_law 702 = .ok (.iadd, 1) := by decide +kernel
theorem dL_law_703 : decode cL_law 703 = .ok (.iaload, 1) := by decide +kernel
theorem dL_law_704 : decode cL_law 704 = .ok (.invokevirtual 117, 3) := by decide +kernel
theorem dL_law_707 : decode cL_law 707 = .ok (.istore 6, 2) := by decide +kernel
theorem dL_law_709 : decode cL_law 709 = .ok (.aload_n 2, 1) := by decide +kernel
theorem dL_law_710 : decode cL_law 710 = .ok (.invokevirtual 86, 3) := by decide +kernel
theorem dL_law_713 : decode cL_law 713 = .ok (.iload 5, 2) := by decide +kernel
theorem dL_law_715 : decode cL_law 715 = .ok (.if_icmp .eq 5, 3) := by decide +kernel
theorem dL_law_718 : decode cL_law 718 = .ok (.iconst 0, 1) := by decide +kernel
theorem dL_law_719 : decode cL_law 719 = .ok (.ireturn, 1) := by decide +kernel
theorem dL_law_720 : decode cL_law 720 = .ok (.iload 5, 2) := by decide +kernel
theorem dL_law_722 : decode cL_law 722 = .ok (.ifCond .ne 15, 3) := by decide +kernel
theorem dL_law_725 : decode cL_law 725 = .ok (.aload_n 3, 1) := by decide +kernel
theorem dL_law_726 : decode cL_law 726 = .ok (.iconst 0, 1) := by decide +kernel
theorem dL_law_727 : decode cL_law 727 = .ok (.laload, 1) := by decide +kernel
theorem dL_law_728 : decode cL_law 728 = .ok (.iload 6, 2) := by decide +kernel
theorem dL_law_730 : decode cL_law 730 = .ok (.i2l, 1) := by decide +kernel
theorem dL_law_731 : decode cL_law 731 = .ok (.lcmp, 1) := by decide +kernel
theorem dL_law_732 : decode cL_law 732 = .ok (.ifCond .eq 5, 3) := by decide +kernel
theorem dL_law_735 : decode cL_law 735 = .ok (.iconst 0, 1) := by decide +kernel
theorem dL_law_736 : decode cL_law 736 = .ok (.ireturn, 1) := by decide +kernel
theorem dL_law_737 : decode cL_law 737 = .ok (.goto 696, 3) := by decide +kernel
theorem dL_law_740 : decode cL_law 740 = .ok (.aload_n 1, 1) := by decide +kernel
theorem dL_law_741 : decode cL_law 741 = .ok (.aload_n 0, 1) := by decide +kernel
theorem dL_law_742 : decode cL_law 742 = .ok (.iload 4, 2) := by decide +kernel
theorem dL_law_744 : decode cL_law 744 = .ok (.iconst 1, 1) := by decide +kernel
theorem dL_law_745 : decode cL_law 745 = .ok (.iadd, 1) := by decide +kernel
theorem dL_law_746 : decode cL_law 746 = .ok (.iaload, 1) := by decide +kernel
theorem dL_law_747 : decode cL_law 747 = .ok (.aload_n 0, 1) := by decide +kernel
theorem dL_law_748 : decode cL_law 748 = .ok (.iload 4, 2) := by decide +kernel
theorem dL_law_750 : decode cL_law 750 = .ok (.iconst 2, 1) := by decide +kernel
theorem dL_law_751 : decode cL_law 751 = .ok (.iadd, 1) := by decide +kernel
theorem dL_law_752 : decode cL_law 752 = .ok (.iaload, 1) := by decide +kernel
theorem dL_law_753 : decode cL_law 753 = .ok (.aload_n 3, 1) := by decide +kernel
theorem dL_law_754 : decode cL_law 754 = .ok (.invokestatic 118, 3) := by decide +kernel
theorem dL_law_757 : decode cL_law 757 = .ok (.istore 5, 2) := by decide +kernel
theorem dL_law_759 : decode cL_law 759 = .ok (.aload_n 2, 1) := by decide +kernel
theorem dL_law_760 : decode cL_law 760 = .ok (.aload_n 0, 1) := by decide +kernel
theorem dL_law_761 : decode cL_law 761 = .ok (.iload 4, 2) := by decide +kernel
theorem dL_law_763 : decode cL_law 763 = .ok (.iconst 1, 1) := by decide +kernel
theorem dL_law_764 : decode cL_law 764 = .ok (.iadd, 1) := by decide +kernel
theorem dL_law_765 : decode cL_law 765 = .ok (.iaload, 1) := by decide +kernel
theorem dL_law_766 : decode cL_law 766 = .ok (.aload_n 0, 1) := by decide +kernel
theorem dL_law_767 : decode cL_law 767 = .ok (.iload 4, 2) := by decide +kernel
theorem dL_law_769 : decode cL_law 769 = .ok (.iconst 2, 1) := by decide +kernel
theorem dL_law_770 : decode cL_law 770 = .ok (.iadd, 1) := by decide +kernel
theorem dL_law_771 : decode cL_law 771 = .ok (.iaload, 1) := by decide +kernel
theorem dL_law_772 : decode cL_law 772 = .ok (.invokevirtual 120, 3) := by decide +kernel
theorem dL_law_775 : decode cL_law 775 = .ok (.istore 6, 2) := by decide +kernel
theorem dL_law_777 : decode cL_law 777 = .ok (.aload_n 2, 1) := by decide +kernel
theorem dL_law_778 : decode cL_law 778 = .ok (.invokevirtual 86, 3) := by decide +kernel
theorem dL_law_781 : decode cL_law 781 = .ok (.iload 5, 2) := by decide +kernel
theorem dL_law_783 : decode cL_law 783 = .ok (.if_icmp .eq 5, 3) := by decide +kernel
theorem dL_law_786 : decode cL_law 786 = .ok (.iconst 0, 1) := by decide +kernel
theorem dL_law_787 : decode cL_law 787 = .ok (.ireturn, 1) := by decide +kernel
theorem dL_law_788 : decode cL_law 788 = .ok (.iload 5, 2) := by decide +kernel
theorem dL_law_790 : decode cL_law 790 = .ok (.ifCond .ne 15, 3) := by decide +kernel
theorem dL_law_793 : decode cL_law 793 = .ok (.aload_n 3, 1) := by decide +kernel
theorem dL_law_794 : decode cL_law 794 = .ok (.iconst 0, 1) := by decide +kernel
theorem dL_law_795 : decode cL_law 795 = .ok (.laload, 1) := by decide +kernel
theorem dL_law_796 : decode cL_law 796 = .ok (.iload 6, 2) := by decide +kernel
theorem dL_law_798 : decode cL_law 798 = .ok (.i2l, 1) := by decide +kernel
theorem dL_law_799 : decode cL_law 799 = .ok (.lcmp, 1) := by decide +kernel
theorem dL_law_800 : decode cL_law 800 = .ok (.ifCond .eq 5, 3) := by decide +kernel
theorem dL_law_803 : decode cL_law 803 = .ok (.iconst 0, 1) := by decide +kernel
theorem dL_law_804 : decode cL_law 804 = .ok (.ireturn, 1) := by decide +kernel
theorem dL_law_805 : decode cL_law 805 = .ok (.goto 628, 3) := by decide +kernel
theorem dL_law_808 : decode cL_law 808 = .ok (.aload_n 1, 1) := by decide +kernel
theorem dL_law_809 : decode cL_law 809 = .ok (.aload_n 0, 1) := by decide +kernel
theorem dL_law_810 : decode cL_law 810 = .ok (.iload 4, 2) := by decide +kernel
theorem dL_law_812 : decode cL_law 812 = .ok (.iconst 1, 1) := by decide +kernel
theorem dL_law_813 : decode cL_law 813 = .ok (.iadd, 1) := by decide +kernel
theorem dL_law_814 : decode cL_law 814 = .ok (.iaload, 1) := by decide +kernel
theorem dL_law_815 : decode cL_law 815 = .ok (.aload_n 0, 1) := by decide +kernel
theorem dL_law_816 : decode cL_law 816 = .ok (.iload 4, 2) := by decide +kernel
theorem dL_law_818 : decode cL_law 818 = .ok (.iconst 2, 1) := by decide +kernel
theorem dL_law_819 : decode cL_law 819 = .ok (.iadd, 1) := by decide +kernel
theorem dL_law_820 : decode cL_law 820 = .ok (.iaload, 1) := by decide +kernel
theorem dL_law_821 : decode cL_law 821 = .ok (.aload_n 0, 1) := by decide +kernel
theorem dL_law_822 : decode cL_law 822 = .ok (.iload 4, 2) := by decide +kernel
theorem dL_law_824 : decode cL_law 824 = .ok (.iconst 3, 1) := by decide +kernel
theorem dL_law_825 : decode cL_law 825 = .ok (.iadd, 1) := by decide +kernel
theorem dL_law_826 : decode cL_law 826 = .ok (.iaload, 1) := by decide +kernel
theorem dL_law_827 : decode cL_law 827 = .ok (.aload_n 0, 1) := by decide +kernel
theorem dL_law_828 : decode cL_law 828 = .ok (.iload 4, 2) := by decide +kernel
theorem dL_law_830 : decode cL_law 830 = .ok (.iconst 4, 1) := by decide +kernel
theorem dL_law_831 : decode cL_law 831 = .ok (.iadd, 1) := by decide +kernel
theorem dL_law_832 : decode cL_law 832 = .ok (.iaload, 1) := by decide +kernel
theorem dL_law_833 : decode cL_law 833 = .ok (.aload_n 3, 1) := by decide +kernel
theorem dL_law_834 : decode cL_law 834 = .ok (.invokestatic 121, 3) := by decide +kernel
theorem dL_law_837 : decode cL_law 837 = .ok (.istore 5, 2) := by decide +kernel
theorem dL_law_839 : decode cL_law 839 = .ok (.aload_n 2, 1) := by decide +kernel
theorem dL_law_840 : decode cL_law 840 = .ok (.aload_n 0, 1) := by decide +kernel
theorem dL_law_841 : decode cL_law 841 = .ok (.iload 4, 2) := by decide +kernel
theorem dL_law_843 : decode cL_law 843 = .ok (.iconst 1, 1) := by decide +kernel
theorem dL_law_844 : decode cL_law 844 = .ok (.iadd, 1) := by decide +kernel
theorem dL_law_845 : decode cL_law 845 = .ok (.iaload, 1) := by decide +kernel
theorem dL_law_846 : decode cL_law 846 = .ok (.aload_n 0, 1) := by decide +kernel
theorem dL_law_847 : decode cL_law 847 = .ok (.iload 4, 2) := by decide +kernel
theorem dL_law_849 : decode cL_law 849 = .ok (.iconst 2, 1) := by decide +kernel
theorem dL_law_850 : decode cL_law 850 = .ok (.iadd, 1) := by decide +kernel
theorem dL_law_851 : decode cL_law 851 = .ok (.iaload, 1) := by decide +kernel
theorem dL_law_852 : decode cL_law 852 = .ok (.aload_n 0, 1) := by decide +kernel
theorem dL_law_853 : decode cL_law 853 = .ok (.iload 4, 2) := by decide +kernel
theorem dL_law_855 : decode cL_law 855 = .ok (.iconst 3, 1) := by decide +kernel
theorem dL_law_856 : decode cL_law 856 = .ok (.iadd, 1) := by decide +kernel
theorem dL_law_857 : decode cL_law 857 = .ok (.iaload, 1) := by decide +kernel
theorem dL_law_858 : decode cL_law 858 = .ok (.aload_n 0, 1) := by decide +kernel
theorem dL_law_859 : decode cL_law 859 = .ok (.iload 4, 2) := by decide +kernel
theorem dL_law_861 : decode cL_law 861 = .ok (.iconst 4, 1) := by decide +kernel
theorem dL_law_862 : decode cL_law 862 = .ok (.iadd, 1) := by decide +kernel
theorem dL_law_863 : decode cL_law 863 = .ok (.iaload, 1) := by decide +kernel
theorem dL_law_864 : decode cL_law 864 = .ok (.invokevirtual 124, 3) := by decide +kernel
theorem dL_law_867 : decode cL_law 867 = .ok (.istore 6, 2) := by decide +kernel
theorem dL_law_869 : decode cL_law 869 = .ok (.aload_n 2, 1) := by decide +kernel
theorem dL_law_870 : decode cL_law 870 = .ok (.invokevirtual 86, 3) := by decide +kernel
theorem dL_law_873 : decode cL_law 873 = .ok (.iload 5, 2) := by decide +kernel
theorem dL_law_875 : decode cL_law 875 = .ok (.if_icmp .eq 5, 3) := by decide +kernel
theorem dL_law_878 : decode cL_law 878 = .ok (.iconst 0, 1) := by decide +kernel
theorem dL_law_879 : decode cL_law 879 = .ok (.ireturn, 1) := by decide +kernel
theorem dL_law_880 : decode cL_law 880 = .ok (.iload 5, 2) := by decide +kernel
theorem dL_law_882 : decode cL_law 882 = .ok (.ifCond .ne 15, 3) := by decide +kernel
theorem dL_law_885 : decode cL_law 885 = .ok (.aload_n 3, 1) := by decide +kernel
theorem dL_law_886 : decode cL_law 886 = .ok (.iconst 0, 1) := by decide +kernel
theorem dL_law_887 : decode cL_law 887 = .ok (.laload, 1) := by decide +kernel
theorem dL_law_888 : decode cL_law 888 = .ok (.iload 6, 2) := by decide +kernel
theorem dL_law_890 : decode cL_law 890 = .ok (.i2l, 1) := by decide +kernel
theorem dL_law_891 : decode cL_law 891 = .ok (.lcmp, 1) := by decide +kernel
theorem dL_law_892 : decode cL_law 892 = .ok (.ifCond .eq 5, 3) := by decide +kernel
theorem dL_law_895 : decode cL_law 895 = .ok (.iconst 0, 1) := by decide +kernel
theorem dL_law_896 : decode cL_law 896 = .ok (.ireturn, 1) := by decide +kernel
theorem dL_law_897 : decode cL_law 897 = .ok (.goto 536, 3) := by decide +kernel
theorem dL_law_900 : decode cL_law 900 = .ok (.aload_n 1, 1) := by decide +kernel
theorem dL_law_901 : decode cL_law 901 = .ok (.aload_n 0, 1) := by decide +kernel
theorem dL_law_902 : decode cL_law 902 = .ok (.iload 4, 2) := by decide +kernel
theorem dL_law_904 : decode cL_law 904 = .ok (.iconst 1, 1) := by decide +kernel
theorem dL_law_905 : decode cL_law 905 = .ok (.iadd, 1) := by decide +kernel
theorem dL_law_906 : decode cL_law 906 = .ok (.iaload, 1) := by decide +kernel
theorem dL_law_907 : decode cL_law 907 = .ok (.aload_n 3, 1) := by decide +kernel
theorem dL_law_908 : decode cL_law 908 = .ok (.invokestatic 125, 3) := by decide +kernel
theorem dL_law_911 : decode cL_law 911 = .ok (.istore 5, 2) := by decide +kernel
theorem dL_law_913 : decode cL_law 913 = .ok (.aload_n 2, 1) := by decide +kernel
theorem dL_law_914 : decode cL_law 914 = .ok (.aload_n 0, 1) := by decide +kernel
theorem dL_law_915 : decode cL_law 915 = .ok (.iload 4, 2) := by decide +kernel
theorem dL_law_917 : decode cL_law 917 = .ok (.iconst 1, 1) := by decide +kernel
theorem dL_law_918 : decode cL_law 918 = .ok (.iadd, 1) := by decide +kernel
theorem dL_law_919 : decode cL_law 919 = .ok (.iaload, 1) := by decide +kernel
theorem dL_law_920 : decode cL_law 920 = .ok (.invokevirtual 127, 3) := by decide +kernel
theorem dL_law_923 : decode cL_law 923 = .ok (.istore 6, 2) := by decide +kernel
theorem dL_law_925 : decode cL_law 925 = .ok (.aload_n 2, 1) := by decide +kernel
theorem dL_law_926 : decode cL_law 926 = .ok (.invokevirtual 86, 3) := by decide +kernel
theorem dL_law_929 : decode cL_law 929 = .ok (.iload 5, 2) := by decide +kernel
theorem dL_law_931 : decode cL_law 931 = .ok (.if_icmp .eq 5, 3) := by decide +kernel
theorem dL_law_934 : decode cL_law 934 = .ok (.iconst 0, 1) := by decide +kernel
theorem dL_law_935 : decode cL_law 935 = .ok (.ireturn, 1) := by decide +kernel
theorem dL_law_936 : decode cL_law 936 = .ok (.iload 5, 2) := by decide +kernel
theorem dL_law_938 : decode cL_law 938 = .ok (.ifCond .ne 15, 3) := by decide +kernel
theorem dL_law_941 : decode cL_law 941 = .ok (.aload_n 3, 1) := by decide +kernel
theorem dL_law_942 : decode cL_law 942 = .ok (.iconst 0, 1) := by decide +kernel
theorem dL_law_943 : decode cL_law 943 = .ok (.laload, 1) := by decide +kernel
theorem dL_law_944 : decode cL_law 944 = .ok (.iload 6, 2) := by decide +kernel
theorem dL_law_946 : decode cL_law 946 = .ok (.i2l, 1) := by decide +kernel
theorem dL_law_947 : decode cL_law 947 = .ok (.lcmp, 1) := by decide +kernel
theorem dL_law_948 : decode cL_law 948 = .ok (.ifCond .eq 5, 3) := by decide +kernel
theorem dL_law_951 : decode cL_law 951 = .ok (.iconst 0, 1) := by decide +kernel
theorem dL_law_952 : decode cL_law 952 = .ok (.ireturn, 1) := by decide +kernel
theorem dL_law_953 : decode cL_law 953 = .ok (.goto 480, 3) := by decide +kernel
theorem dL_law_956 : decode cL_law 956 = .ok (.aload_n 1, 1) := by decide +kernel
theorem dL_law_957 : decode cL_law 957 = .ok (.aload_n 0, 1) := by decide +kernel
theorem dL_law_958 : decode cL_law 958 = .ok (.iload 4, 2) := by decide +kernel
theorem dL_law_960 : decode cL_law 960 = .ok (.iconst 1, 1) := by decide +kernel
theorem dL_law_961 : decode cL_law 961 = .ok (.iadd, 1) := by decide +kernel
theorem dL_law_962 : decode cL_law 962 = .ok (.iaload, 1) := by decide +kernel
theorem dL_law_963 : decode cL_law 963 = .ok (.aload_n 0, 1) := by decide +kernel
theorem dL_law_964 : decode cL_law 964 = .ok (.iload 4, 2) := by decide +kernel
theorem dL_law_966 : decode cL_law 966 = .ok (.iconst 2, 1) := by decide +kernel
theorem dL_law_967 : decode cL_law 967 = .ok (.iadd, 1) := by decide +kernel
theorem dL_law_968 : decode cL_law 968 = .ok (.iaload, 1) := by decide +kernel
theorem dL_law_969 : decode cL_law 969 = .ok (.aload_n 3, 1) := by decide +kernel
theorem dL_law_970 : decode cL_law 970 = .ok (.invokestatic 128, 3) := by decide +kernel
theorem dL_law_973 : decode cL_law 973 = .ok (.istore 5, 2) := by decide +kernel
theorem dL_law_975 : decode cL_law 975 = .ok (.aload_n 2, 1) := by decide +kernel
theorem dL_law_976 : decode cL_law 976 = .ok (.aload_n 0, 1) := by decide +kernel
theorem dL_law_977 : decode cL_law 977 = .ok (.iload 4, 2) := by decide +kernel
theorem dL_law_979 : decode cL_law 979 = .ok (.iconst 1, 1) := by decide +kernel
theorem dL_law_980 : decode cL_law 980 = .ok (.iadd, 1) := by decide +kernel
theorem dL_law_981 : decode cL_law 981 = .ok (.iaload, 1) := by decide +kernel
theorem dL_law_982 : decode cL_law 982 = .ok (.aload_n 0, 1) := by decide +kernel
theorem dL_law_983 : decode cL_law 983 = .ok (.iload 4, 2) := by decide +kernel
theorem dL_law_985 : decode cL_law 985 = .ok (.iconst 2, 1) := by decide +kernel
theorem dL_law_986 : decode cL_law 986 = .ok (.iadd, 1) := by decide +kernel
theorem dL_law_987 : decode cL_law 987 = .ok (.iaload, 1) := by decide +kernel
theorem dL_law_988 : decode cL_law 988 = .ok (.invokevirtual 130, 3) := by decide +kernel
theorem dL_law_991 : decode cL_law 991 = .ok (.istore 6, 2) := by decide +kernel
theorem dL_law_993 : decode cL_law 993 = .ok (.aload_n 2, 1) := by decide +kernel
theorem dL_law_994 : decode cL_law 994 = .ok (.invokevirtual 86, 3) := by decide +kernel
theorem dL_law_997 : decode cL_law 997 = .ok (.iload 5, 2) := by decide +kernel
theorem dL_law_999 : decode cL_law 999 = .ok (.if_icmp .eq 5, 3) := by decide +kernel
theorem dL_law_1002 : decode cL_law 1002 = .ok (.iconst 0, 1) := by decide +kernel
theorem dL_law_1003 : decode cL_law 1003 = .ok (.ireturn, 1) := by decide +kernel
theorem dL_law_1004 : decode cL_law 1004 = .ok (.iload 5, 2) := by decide +kernel
theorem dL_law_1006 : decode cL_law 1006 = .ok (.ifCond .ne 15, 3) := by decide +kernel
theorem dL_law_1009 : decode cL_law 1009 = .ok (.aload_n 3, 1) := by decide +kernel
theorem dL_law_1010 : decode cL_law 1010 = .ok (.iconst 0, 1) := by decide +kernel
theorem dL_law_1011 : decode cL_law 1011 = .ok (.laload, 1) := by decide +kernel
theorem dL_law_1012 : decode cL_law 1012 = .ok (.iload 6, 2) := by decide +kernel
theorem dL_law_1014 : decode cL_law 1014 = .ok (.i2l, 1) := by decide +kernel
theorem dL_law_1015 : decode cL_law 1015 = .ok (.lcmp, 1) := by decide +kernel
theorem dL_law_1016 : decode cL_law 1016 = .ok (.ifCond .eq 5, 3) := by decide +kernel
theorem dL_law_1019 : decode cL_law 1019 = .ok (.iconst 0, 1) := by decide +kernel
theorem dL_law_1020 : decode cL_law 1020 = .ok (.ireturn, 1) := by decide +kernel
theorem dL_law_1021 : decode cL_law 1021 = .ok (.goto 412, 3) := by decide +kernel
theorem dL_law_1024 : decode cL_law 1024 = .ok (.aload_n 1, 1) := by decide +kernel
theorem dL_law_1025 : decode cL_law 1025 = .ok (.aload_n 0, 1) := by decide +kernel
theorem dL_law_1026 : decode cL_law 1026 = .ok (.iload 4, 2) := by decide +kernel
theorem dL_law_1028 : decode cL_law 1028 = .ok (.iconst 1, 1) := by decide +kernel
theorem dL_law_1029 : decode cL_law 1029 = .ok (.iadd, 1) := by decide +kernel
theorem dL_law_1030 : decode cL_law 1030 = .ok (.iaload, 1) := by decide +kernel
theorem dL_law_1031 : decode cL_law 1031 = .ok (.aload_n 3, 1) := by decide +kernel
theorem dL_law_1032 : decode cL_law 1032 = .ok (.invokestatic 131, 3) := by decide +kernel
theorem dL_law_1035 : decode cL_law 1035 = .ok (.istore 5, 2) := by decide +kernel
theorem dL_law_1037 : decode cL_law 1037 = .ok (.aload_n 2, 1) := by decide +kernel
theorem dL_law_1038 : decode cL_law 1038 = .ok (.aload_n 0, 1) := by decide +kernel
theorem dL_law_1039 : decode cL_law 1039 = .ok (.iload 4, 2) := by decide +kernel
theorem dL_law_1041 : decode cL_law 1041 = .ok (.iconst 1, 1) := by decide +kernel
theorem dL_law_1042 : decode cL_law 1042 = .ok (.iadd, 1) := by decide +kernel
theorem dL_law_1043 : decode cL_law 1043 = .ok (.iaload, 1) := by decide +kernel
theorem dL_law_1044 : decode cL_law 1044 = .ok (.invokevirtual 133, 3) := by decide +kernel
theorem dL_law_1047 : decode cL_law 1047 = .ok (.istore 6, 2) := by decide +kernel
theorem dL_law_1049 : decode cL_law 1049 = .ok (.aload_n 2, 1) := by decide +kernel
theorem dL_law_1050 : decode cL_law 1050 = .ok (.invokevirtual 86, 3) := by decide +kernel
theorem dL_law_1053 : decode cL_law 1053 = .ok (.iload 5, 2) := by decide +kernel
theorem dL_law_1055 : decode cL_law 1055 = .ok (.if_icmp .eq 5, 3) := by decide +kernel
theorem dL_law_1058 : decode cL_law 1058 = .ok (.iconst 0, 1) := by decide +kernel
theorem dL_law_1059 : decode cL_law 1059 = .ok (.ireturn, 1) := by decide +kernel
theorem dL_law_1060 : decode cL_law 1060 = .ok (.iload 5, 2) := by decide +kernel
theorem dL_law_1062 : decode cL_law 1062 = .ok (.ifCond .ne 15, 3) := by decide +kernel
theorem dL_law_1065 : decode cL_law 1065 = .ok (.aload_n 3, 1) := by decide +kernel
theorem dL_law_1066 : decode cL_law 1066 = .ok (.iconst 0, 1) := by decide +kernel
theorem dL_law_1067 : decode cL_law 1067 = .ok (.laload, 1) := by decide +kernel
theorem dL_law_1068 : decode cL_law 1068 = .ok (.iload 6, 2) := by decide +kernel
theorem dL_law_1070 : decode cL_law 1070 = .ok (.i2l, 1) := by decide +kernel
theorem dL_law_1071 : decode cL_law 1071 = .ok (.lcmp, 1) := by decide +kernel
theorem dL_law_1072 : decode cL_law 1072 = .ok (.ifCond .eq 5, 3) := by decide +kernel
theorem dL_law_1075 : decode cL_law 1075 = .ok (.iconst 0, 1) := by decide +kernel
theorem dL_law_1076 : decode cL_law 1076 = .ok (.ireturn, 1) := by decide +kernel
theorem dL_law_1077 : decode cL_law 1077 = .ok (.goto 356, 3) := by decide +kernel
theorem dL_law_1080 : decode cL_law 1080 = .ok (.aload_n 1, 1) := by decide +kernel
theorem dL_law_1081 : decode cL_law 1081 = .ok (.aload_n 0, 1) := by decide +kernel
theorem dL_law_1082 : decode cL_law 1082 = .ok (.iload 4, 2) := by decide +kernel
theorem dL_law_1084 : decode cL_law 1084 = .ok (.iconst 1, 1) := by decide +kernel
theorem dL_law_1085 : decode cL_law 1085 = .ok (.iadd, 1) := by decide +kernel
theorem dL_law_1086 : decode cL_law 1086 = .ok (.iaload, 1) := by decide +kernel
theorem dL_law_1087 : decode cL_law 1087 = .ok (.aload_n 3, 1) := by decide +kernel
theorem dL_law_1088 : decode cL_law 1088 = .ok (.invokestatic 134, 3) := by decide +kernel
theorem dL_law_1091 : decode cL_law 1091 = .ok (.istore 5, 2) := by decide +kernel
theorem dL_law_1093 : decode cL_law 1093 = .ok (.aload_n 2, 1) := by decide +kernel
theorem dL_law_1094 : decode cL_law 1094 = .ok (.aload_n 0, 1) := by decide +kernel
theorem dL_law_1095 : decode cL_law 1095 = .ok (.iload 4, 2) := by decide +kernel
theorem dL_law_1097 : decode cL_law 1097 = .ok (.iconst 1, 1) := by decide +kernel
theorem dL_law_1098 : decode cL_law 1098 = .ok (.iadd, 1) := by decide +kernel
theorem dL_law_1099 : decode cL_law 1099 = .ok (.iaload, 1) := by decide +kernel
theorem dL_law_1100 : decode cL_law 1100 = .ok (.invokevirtual 136, 3) := by decide +kernel
theorem dL_law_1103 : decode cL_law 1103 = .ok (.istore 6, 2) := by decide +kernel
theorem dL_law_1105 : decode cL_law 1105 = .ok (.aload_n 2, 1) := by decide +kernel
theorem dL_law_1106 : decode cL_law 1106 = .ok (.invokevirtual 86, 3) := by decide +kernel
theorem dL_law_1109 : decode cL_law 1109 = .ok (.iload 5, 2) := by decide +kernel
theorem dL_law_1111 : decode cL_law 1111 = .ok (.if_icmp .eq 5, 3) := by decide +kernel
theorem dL_law_1114 : decode cL_law 1114 = .ok (.iconst 0, 1) := by decide +kernel
theorem dL_law_1115 : decode cL_law 1115 = .ok (.ireturn, 1) := by decide +kernel
theorem dL_law_1116 : decode cL_law 1116 = .ok (.iload 5, 2) := by decide +kernel
theorem dL_law_1118 : decode cL_law 1118 = .ok (.ifCond .ne 15, 3) := by decide +kernel
theorem dL_law_1121 : decode cL_law 1121 = .ok (.aload_n 3, 1) := by decide +kernel
theorem dL_law_1122 : decode cL_law 1122 = .ok (.iconst 0, 1) := by decide +kernel
theorem dL_law_1123 : decode cL_law 1123 = .ok (.laload, 1) := by decide +kernel
theorem dL_law_1124 : decode cL_law 1124 = .ok (.iload 6, 2) := by decide +kernel
theorem dL_law_1126 : decode cL_law 1126 = .ok (.i2l, 1) := by decide +kernel
theorem dL_law_1127 : decode cL_law 1127 = .ok (.lcmp, 1) := by decide +kernel
theorem dL_law_1128 : decode cL_law 1128 = .ok (.ifCond .eq 5, 3) := by decide +kernel
theorem dL_law_1131 : decode cL_law 1131 = .ok (.iconst 0, 1) := by decide +kernel
theorem dL_law_1132 : decode cL_law 1132 = .ok (.ireturn, 1) := by decide +kernel
theorem dL_law_1133 : decode cL_law 1133 = .ok (.goto 300, 3) := by decide +kernel
theorem dL_law_1136 : decode cL_law 1136 = .ok (.aload_n 1, 1) := by decide +kernel
theorem dL_law_1137 : decode cL_law 1137 = .ok (.aload_n 0, 1) := by decide +kernel
theorem dL_law_1138 : decode cL_law 1138 = .ok (.iload 4, 2) := by decide +kernel
theorem dL_law_1140 : decode cL_law 1140 = .ok (.iconst 1, 1) := by decide +kernel
theorem dL_law_1141 : decode cL_law 1141 = .ok (.iadd, 1) := by decide +kernel
theorem dL_law_1142 : decode cL_law 1142 = .ok (.iaload, 1) := by decide +kernel
theorem dL_law_1143 : decode cL_law 1143 = .ok (.aload_n 0, 1) := by decide +kernel
theorem dL_law_1144 : decode cL_law 1144 = .ok (.iload 4, 2) := by decide +kernel
theorem dL_law_1146 : decode cL_law 1146 = .ok (.iconst 2, 1) := by decide +kernel
theorem dL_law_1147 : decode cL_law 1147 = .ok (.iadd, 1) := by decide +kernel
theorem dL_law_1148 : decode cL_law 1148 = .ok (.iaload, 1) := by decide +kernel
theorem dL_law_1149 : decode cL_law 1149 = .ok (.aload_n 3, 1) := by decide +kernel
theorem dL_law_1150 : decode cL_law 1150 = .ok (.invokestatic 137, 3) := by decide +kernel
theorem dL_law_1153 : decode cL_law 1153 = .ok (.istore 5, 2) := by decide +kernel
theorem dL_law_1155 : decode cL_law 1155 = .ok (.aload_n 2, 1) := by decide +kernel
theorem dL_law_1156 : decode cL_law 1156 = .ok (.aload_n 0, 1) := by decide +kernel
theorem dL_law_1157 : decode cL_law 1157 = .ok (.iload 4, 2) := by decide +kernel
theorem dL_law_1159 : decode cL_law 1159 = .ok (.iconst 1, 1) := by decide +kernel
theorem dL_law_1160 : decode cL_law 1160 = .ok (.iadd, 1) := by decide +kernel
theorem dL_law_1161 : decode cL_law 1161 = .ok (.iaload, 1) := by decide +kernel
theorem dL_law_1162 : decode cL_law 1162 = .ok (.aload_n 0, 1) := by decide +kernel
theorem dL_law_1163 : decode cL_law 1163 = .ok (.iload 4, 2) := by decide +kernel
theorem dL_law_1165 : decode cL_law 1165 = .ok (.iconst 2, 1) := by decide +kernel
theorem dL_law_1166 : decode cL_law 1166 = .ok (.iadd, 1) := by decide +kernel
theorem dL_law_1167 : decode cL_law 1167 = .ok (.iaload, 1) := by decide +kernel
theorem dL_law_1168 : decode cL_law 1168 = .ok (.invokevirtual 139, 3) := by decide +kernel
theorem dL_law_1171 : decode cL_law 1171 = .ok (.istore 6, 2) := by decide +kernel
theorem dL_law_1173 : decode cL_law 1173 = .ok (.aload_n 2, 1) := by decide +kernel
theorem dL_law_1174 : decode cL_law 1174 = .ok (.invokevirtual 86, 3) := by decide +kernel
theorem dL_law_1177 : decode cL_law 1177 = .ok (.iload 5, 2) := by decide +kernel
theorem dL_law_1179 : decode cL_law 1179 = .ok (.if_icmp .eq 5, 3) := by decide +kernel
theorem dL_law_1182 : decode cL_law 1182 = .ok (.iconst 0, 1) := by decide +kernel
theorem dL_law_1183 : decode cL_law 1183 = .ok (.ireturn, 1) := by decide +kernel
theorem dL_law_1184 : decode cL_law 1184 = .ok (.iload 5, 2) := by decide +kernel
theorem dL_law_1186 : decode cL_law 1186 = .ok (.ifCond .ne 15, 3) := by decide +kernel
theorem dL_law_1189 : decode cL_law 1189 = .ok (.aload_n 3, 1) := by decide +kernel
theorem dL_law_1190 : decode cL_law 1190 = .ok (.iconst 0, 1) := by decide +kernel
theorem dL_law_1191 : decode cL_law 1191 = .ok (.laload, 1) := by decide +kernel
theorem dL_law_1192 : decode cL_law 1192 = .ok (.iload 6, 2) := by decide +kernel
theorem dL_law_1194 : decode cL_law 1194 = .ok (.i2l, 1) := by decide +kernel
theorem dL_law_1195 : decode cL_law 1195 = .ok (.lcmp, 1) := by decide +kernel
theorem dL_law_1196 : decode cL_law 1196 = .ok (.ifCond .eq 5, 3) := by decide +kernel
theorem dL_law_1199 : decode cL_law 1199 = .ok (.iconst 0, 1) := by decide +kernel
theorem dL_law_1200 : decode cL_law 1200 = .ok (.ireturn, 1) := by decide +kernel
theorem dL_law_1201 : decode cL_law 1201 = .ok (.goto 232, 3) := by decide +kernel
theorem dL_law_1204 : decode cL_law 1204 = .ok (.aload_n 1, 1) := by decide +kernel
theorem dL_law_1205 : decode cL_law 1205 = .ok (.aload_n 0, 1) := by decide +kernel
theorem dL_law_1206 : decode cL_law 1206 = .ok (.iload 4, 2) := by decide +kernel
theorem dL_law_1208 : decode cL_law 1208 = .ok (.iconst 1, 1) := by decide +kernel
theorem dL_law_1209 : decode cL_law 1209 = .ok (.iadd, 1) := by decide +kernel
theorem dL_law_1210 : decode cL_law 1210 = .ok (.iaload, 1) := by decide +kernel
theorem dL_law_1211 : decode cL_law 1211 = .ok (.aload_n 0, 1) := by decide +kernel
theorem dL_law_1212 : decode cL_law 1212 = .ok (.iload 4, 2) := by decide +kernel
theorem dL_law_1214 : decode cL_law 1214 = .ok (.iconst 2, 1) := by decide +kernel
theorem dL_law_1215 : decode cL_law 1215 = .ok (.iadd, 1) := by decide +kernel
theorem dL_law_1216 : decode cL_law 1216 = .ok (.iaload, 1) := by decide +kernel
theorem dL_law_1217 : decode cL_law 1217 = .ok (.aload_n 0, 1) := by decide +kernel
theorem dL_law_1218 : decode cL_law 1218 = .ok (.iload 4, 2) := by decide +kernel
theorem dL_law_1220 : decode cL_law 1220 = .ok (.iconst 3, 1) := by decide +kernel
theorem dL_law_1221 : decode cL_law 1221 = .ok (.iadd, 1) := by decide +kernel
theorem dL_law_1222 : decode cL_law 1222 = .ok (.iaload, 1) := by decide +kernel
theorem dL_law_1223 : decode cL_law 1223 = .ok (.aload_n 3, 1) := by decide +kernel
theorem dL_law_1224 : decode cL_law 1224 = .ok (.invokestatic 140, 3) := by decide +kernel
theorem dL_law_1227 : decode cL_law 1227 = .ok (.istore 5, 2) := by decide +kernel
theorem dL_law_1229 : decode cL_law 1229 = .ok (.aload_n 2, 1) := by decide +kernel
theorem dL_law_1230 : decode cL_law 1230 = .ok (.aload_n 0, 1) := by decide +kernel
theorem dL_law_1231 : decode cL_law 1231 = .ok (.iload 4, 2) := by decide +kernel
theorem dL_law_1233 : decode cL_law 1233 = .ok (.iconst 1, 1) := by decide +kernel
theorem dL_law_1234 : decode cL_law 1234 = .ok (.iadd, 1) := by decide +kernel
theorem dL_law_1235 : decode cL_law 1235 = .ok (.iaload, 1) := by decide +kernel
theorem dL_law_1236 : decode cL_law 1236 = .ok (.aload_n 0, 1) := by decide +kernel
theorem dL_law_1237 : decode cL_law 1237 = .ok (.iload 4, 2) := by decide +kernel
theorem dL_law_1239 : decode cL_law 1239 = .ok (.iconst 2, 1) := by decide +kernel
theorem dL_law_1240 : decode cL_law 1240 = .ok (.iadd, 1) := by decide +kernel
theorem dL_law_1241 : decode cL_law 1241 = .ok (.iaload, 1) := by decide +kernel
theorem dL_law_1242 : decode cL_law 1242 = .ok (.aload_n 0, 1) := by decide +kernel
theorem dL_law_1243 : decode cL_law 1243 = .ok (.iload 4, 2) := by decide +kernel
theorem dL_law_1245 : decode cL_law 1245 = .ok (.iconst 3, 1) := by decide +kernel
theorem dL_law_1246 : decode cL_law 1246 = .ok (.iadd, 1) := by decide +kernel
theorem dL_law_1247 : decode cL_law 1247 = .ok (.iaload, 1) := by decide +kernel
theorem dL_law_1248 : decode cL_law 1248 = .ok (.invokevirtual 143, 3) := by decide +kernel
theorem dL_law_1251 : decode cL_law 1251 = .ok (.istore 6, 2) := by decide +kernel
theorem dL_law_1253 : decode cL_law 1253 = .ok (.aload_n 2, 1) := by decide +kernel
theorem dL_law_1254 : decode cL_law 1254 = .ok (.invokevirtual 86, 3) := by decide +kernel
theorem dL_law_1257 : decode cL_law 1257 = .ok (.iload 5, 2) := by decide +kernel
theorem dL_law_1259 : decode cL_law 1259 = .ok (.if_icmp .eq 5, 3) := by decide +kernel
theorem dL_law_1262 : decode cL_law 1262 = .ok (.iconst 0, 1) := by decide +kernel
theorem dL_law_1263 : decode cL_law 1263 = .ok (.ireturn, 1) := by decide +kernel
theorem dL_law_1264 : decode cL_law 1264 = .ok (.iload 5, 2) := by decide +kernel
theorem dL_law_1266 : decode cL_law 1266 = .ok (.ifCond .ne 15, 3) := by decide +kernel
theorem dL_law_1269 : decode cL_law 1269 = .ok (.aload_n 3, 1) := by decide +kernel
theorem dL_law_1270 : decode cL_law 1270 = .ok (.iconst 0, 1) := by decide +kernel
theorem dL_law_1271 : decode cL_law 1271 = .ok (.laload, 1) := by decide +kernel
theorem dL_law_1272 : decode cL_law 1272 = .ok (.iload 6, 2) := by decide +kernel
theorem dL_law_1274 : decode cL_law 1274 = .ok (.i2l, 1) := by decide +kernel
theorem dL_law_1275 : decode cL_law 1275 = .ok (.lcmp, 1) := by decide +kernel
theorem dL_law_1276 : decode cL_law 1276 = .ok (.ifCond .eq 5, 3) := by decide +kernel
theorem dL_law_1279 : decode cL_law 1279 = .ok (.iconst 0, 1) := by decide +kernel
theorem dL_law_1280 : decode cL_law 1280 = .ok (.ireturn, 1) := by decide +kernel
theorem dL_law_1281 : decode cL_law 1281 = .ok (.goto 152, 3) := by decide +kernel
theorem dL_law_1284 : decode cL_law 1284 = .ok (.aload_n 1, 1) := by decide +kernel
theorem dL_law_1285 : decode cL_law 1285 = .ok (.aload_n 0, 1) := by decide +kernel
theorem dL_law_1286 : decode cL_law 1286 = .ok (.iload 4, 2) := by decide +kernel
theorem dL_law_1288 : decode cL_law 1288 = .ok (.iconst 1, 1) := by decide +kernel
theorem dL_law_1289 : decode cL_law 1289 = .ok (.iadd, 1) := by decide +kernel
theorem dL_law_1290 : decode cL_law 1290 = .ok (.iaload, 1) := by decide +kernel
theorem dL_law_1291 : decode cL_law 1291 = .ok (.aload_n 0, 1) := by decide +kernel
theorem dL_law_1292 : decode cL_law 1292 = .ok (.iload 4, 2) := by decide +kernel
theorem dL_law_1294 : decode cL_law 1294 = .ok (.iconst 2, 1) := by decide +kernel
theorem dL_law_1295 : decode cL_law 1295 = .ok (.iadd, 1) := by decide +kernel
theorem dL_law_1296 : decode cL_law 1296 = .ok (.iaload, 1) := by decide +kernel
theorem dL_law_1297 : decode cL_law 1297 = .ok (.aload_n 3, 1) := by decide +kernel
theorem dL_law_1298 : decode cL_law 1298 = .ok (.invokestatic 144, 3) := by decide +kernel
theorem dL_law_1301 : decode cL_law 1301 = .ok (.istore 5, 2) := by decide +kernel
theorem dL_law_1303 : decode cL_law 1303 = .ok (.aload_n 2, 1) := by decide +kernel
theorem dL_law_1304 : decode cL_law 1304 = .ok (.aload_n 0, 1) := by decide +kernel
theorem dL_law_1305 : decode cL_law 1305 = .ok (.iload 4, 2) := by decide +kernel
theorem dL_law_1307 : decode cL_law 1307 = .ok (.iconst 1, 1) := by decide +kernel
theorem dL_law_1308 : decode cL_law 1308 = .ok (.iadd, 1) := by decide +kernel
theorem dL_law_1309 : decode cL_law 1309 = .ok (.iaload, 1) := by decide +kernel
theorem dL_law_1310 : decode cL_law 1310 = .ok (.aload_n 0, 1) := by decide +kernel
theorem dL_law_1311 : decode cL_law 1311 = .ok (.iload 4, 2) := by decide +kernel
theorem dL_law_1313 : decode cL_law 1313 = .ok (.iconst 2, 1) := by decide +kernel
theorem dL_law_1314 : decode cL_law 1314 = .ok (.iadd, 1) := by decide +kernel
theorem dL_law_1315 : decode cL_law 1315 = .ok (.iaload, 1) := by decide +kernel
theorem dL_law_1316 : decode cL_law 1316 = .ok (.invokevirtual 146, 3) := by decide +kernel
theorem dL_law_1319 : decode cL_law 1319 = .ok (.istore 6, 2) := by decide +kernel
theorem dL_law_1321 : decode cL_law 1321 = .ok (.aload_n 2, 1) := by decide +kernel
theorem dL_law_1322 : decode cL_law 1322 = .ok (.invokevirtual 86, 3) := by decide +kernel
theorem dL_law_1325 : decode cL_law 1325 = .ok (.iload 5, 2) := by decide +kernel
theorem dL_law_1327 : decode cL_law 1327 = .ok (.if_icmp .eq 5, 3) := by decide +kernel
theorem dL_law_1330 : decode cL_law 1330 = .ok (.iconst 0, 1) := by decide +kernel
theorem dL_law_1331 : decode cL_law 1331 = .ok (.ireturn, 1) := by decide +kernel
theorem dL_law_1332 : decode cL_law 1332 = .ok (.iload 5, 2) := by decide +kernel
theorem dL_law_1334 : decode cL_law 1334 = .ok (.ifCond .ne 15, 3) := by decide +kernel
theorem dL_law_1337 : decode cL_law 1337 = .ok (.aload_n 3, 1) := by decide +kernel
theorem dL_law_1338 : decode cL_law 1338 = .ok (.iconst 0, 1) := by decide +kernel
theorem dL_law_1339 : decode cL_law 1339 = .ok (.laload, 1) := by decide +kernel
theorem dL_law_1340 : decode cL_law 1340 = .ok (.iload 6, 2) := by decide +kernel
theorem dL_law_1342 : decode cL_law 1342 = .ok (.i2l, 1) := by decide +kernel
theorem dL_law_1343 : decode cL_law 1343 = .ok (.lcmp, 1) := by decide +kernel
theorem dL_law_1344 : decode cL_law 1344 = .ok (.ifCond .eq 5, 3) := by decide +kernel
theorem dL_law_1347 : decode cL_law 1347 = .ok (.iconst 0, 1) := by decide +kernel
theorem dL_law_1348 : decode cL_law 1348 = .ok (.ireturn, 1) := by decide +kernel
theorem dL_law_1349 : decode cL_law 1349 = .ok (.goto 84, 3) := by decide +kernel
theorem dL_law_1352 : decode cL_law 1352 = .ok (.aload_n 1, 1) := by decide +kernel
theorem dL_law_1353 : decode cL_law 1353 = .ok (.invokevirtual 147, 3) := by decide +kernel
theorem dL_law_1356 : decode cL_law 1356 = .ok (.aload_n 2, 1) := by decide +kernel
theorem dL_law_1357 : decode cL_law 1357 = .ok (.invokevirtual 150, 3) := by decide +kernel
theorem dL_law_1360 : decode cL_law 1360 = .ok (.if_icmp .eq 73, 3) := by decide +kernel
theorem dL_law_1363 : decode cL_law 1363 = .ok (.iconst 0, 1) := by decide +kernel
theorem dL_law_1364 : decode cL_law 1364 = .ok (.ireturn, 1) := by decide +kernel
theorem dL_law_1365 : decode cL_law 1365 = .ok (.aload_n 1, 1) := by decide +kernel
theorem dL_law_1366 : decode cL_law 1366 = .ok (.invokevirtual 151, 3) := by decide +kernel
theorem dL_law_1369 : decode cL_law 1369 = .ok (.aload_n 2, 1) := by decide +kernel
theorem dL_law_1370 : decode cL_law 1370 = .ok (.invokevirtual 154, 3) := by decide +kernel
theorem dL_law_1373 : decode cL_law 1373 = .ok (.if_icmp .eq 60, 3) := by decide +kernel
theorem dL_law_1376 : decode cL_law 1376 = .ok (.iconst 0, 1) := by decide +kernel
theorem dL_law_1377 : decode cL_law 1377 = .ok (.ireturn, 1) := by decide +kernel
theorem dL_law_1378 : decode cL_law 1378 = .ok (.aload_n 1, 1) := by decide +kernel
theorem dL_law_1379 : decode cL_law 1379 = .ok (.invokevirtual 155, 3) := by decide +kernel
theorem dL_law_1382 : decode cL_law 1382 = .ok (.dstore 5, 2) := by decide +kernel
theorem dL_law_1384 : decode cL_law 1384 = .ok (.aload_n 2, 1) := by decide +kernel
theorem dL_law_1385 : decode cL_law 1385 = .ok (.invokevirtual 159, 3) := by decide +kernel
theorem dL_law_1388 : decode cL_law 1388 = .ok (.dstore 7, 2) := by decide +kernel
theorem dL_law_1390 : decode cL_law 1390 = .ok (.dload 5, 2) := by decide +kernel
theorem dL_law_1392 : decode cL_law 1392 = .ok (.dload 7, 2) := by decide +kernel
theorem dL_law_1394 : decode cL_law 1394 = .ok (.dcmp .l, 1) := by decide +kernel
theorem dL_law_1395 : decode cL_law 1395 = .ok (.ifCond .eq 21, 3) := by decide +kernel
theorem dL_law_1398 : decode cL_law 1398 = .ok (.dload 5, 2) := by decide +kernel
theorem dL_law_1400 : decode cL_law 1400 = .ok (.dload 5, 2) := by decide +kernel
theorem dL_law_1402 : decode cL_law 1402 = .ok (.dcmp .l, 1) := by decide +kernel
theorem dL_law_1403 : decode cL_law 1403 = .ok (.ifCond .eq 11, 3) := by decide +kernel
theorem dL_law_1406 : decode cL_law 1406 = .ok (.dload 7, 2) := by decide +kernel
theorem dL_law_1408 : decode cL_law 1408 = .ok (.dload 7, 2) := by decide +kernel
theorem dL_law_1410 : decode cL_law 1410 = .ok (.dcmp .l, 1) := by decide +kernel
theorem dL_law_1411 : decode cL_law 1411 = .ok (.ifCond .ne 5, 3) := by decide +kernel
theorem dL_law_1414 : decode cL_law 1414 = .ok (.iconst 0, 1) := by decide +kernel
theorem dL_law_1415 : decode cL_law 1415 = .ok (.ireturn, 1) := by decide +kernel
theorem dL_law_1416 : decode cL_law 1416 = .ok (.goto 17, 3) := by decide +kernel
theorem dL_law_1419 : decode cL_law 1419 = .ok (.aload_n 1, 1) := by decide +kernel
theorem dL_law_1420 : decode cL_law 1420 = .ok (.invokevirtual 160, 3) := by decide +kernel
theorem dL_law_1423 : decode cL_law 1423 = .ok (.aload_n 2, 1) := by decide +kernel
theorem dL_law_1424 : decode cL_law 1424 = .ok (.invokevirtual 164, 3) := by decide +kernel
theorem dL_law_1427 : decode cL_law 1427 = .ok (.lcmp, 1) := by decide +kernel
theorem dL_law_1428 : decode cL_law 1428 = .ok (.ifCond .eq 5, 3) := by decide +kernel
theorem dL_law_1431 : decode cL_law 1431 = .ok (.iconst 0, 1) := by decide +kernel
theorem dL_law_1432 : decode cL_law 1432 = .ok (.ireturn, 1) := by decide +kernel
theorem dL_law_1433 : decode cL_law 1433 = .ok (.iinc 4 5, 3) := by decide +kernel
theorem dL_law_1436 : decode cL_law 1436 = .ok (.goto (-1413), 3) := by decide +kernel
theorem dL_law_1439 : decode cL_law 1439 = .ok (.iconst 1, 1) := by decide +kernel
theorem dL_law_1440 : decode cL_law 1440 = .ok (.ireturn, 1) := by decide +kernel
end
section
/-! ===== a memory by roles: R says what stands at a role, ad where the role lies; every contract speaks of a whole memory ===== -/
abbrev mG : Type := va_G × (Nat → ClassId)
abbrev mM : Type := Nat → Option va_E
abbrev mTy (G : mG) : List (ClassId × FieldType) := [(G.2 0, .int), (G.2 1, .long), (G.2 2, .boolean), (G.2 3, .object RX0), (G.2 4, .object RX1)]
abbrev mA (lo : Nat) : Nat → Prop := fun q => lo ≤ q
def mU (R : mM) (r : Nat) (e : va_E) : mM := fun q => if q = r then some e else R q
theorem mU_self {R : mM} {r : Nat} {e : va_E} : mU R r e r = some e := by simp [mU]
theorem mU_ne {R : mM} {r q : Nat} {e : va_E} (h : q ≠ r) : mU R r e q = R q := by simp [mU, h]
theorem mU_mU {R : mM} {r : Nat} {e e' : va_E} : mU (mU R r e) r e' = mU R r e' := by
  funext q
  by_cases h : q = r <;> simp [mU, h]
theorem mU_id {R : mM} {r : Nat} {e : va_E} (h : R r = some e) : mU R r e = R := by
  funext q
  by_cases hq : q = r
  · subst hq; rw [mU_self, h]
  · exact mU_ne hq
def mO (G : mG) (lo : Nat) (ad : Nat → Nat) (R : mM) (H : Heap) : Prop :=
  (∀ (r : Nat) (e : va_E), R r = some e → va_at G.1 vwCl (ad r, e) H) ∧ (∀ (r : Nat) (e : va_E), R r = some e → lo ≤ ad r) ∧ ∀ (r r' : Nat) (e e' : va_E), R r = some e → R r' = some e' → ad r = ad r' → r = r'
theorem mO.one {G : mG} {lo : Nat} {ad : Nat → Nat} {R : mM} {H : Heap} (h : mO G lo ad R H) {r : Nat} {e : va_E} (hr : R r = some e) : va_P G.1 vwCl [(ad r, e)] H := by
  intro k q hk
  cases k with
  | zero => cases hk; exact h.1 r e hr
  | succ k => simp at hk
theorem mO.lt {G : mG} {lo : Nat} {ad : Nat → Nat} {R : mM} {H : Heap} (h : mO G lo ad R H) {r : Nat} {e : va_E} (hr : R r = some e) : ad r < H.size := (h.1 r e hr).lt
theorem mO.set {G : mG} {lo : Nat} {ad : Nat → Nat} {R : mM} {H H1 : Heap} (h : mO G lo ad R H) {r : Nat} {e0 e : va_E} (hr : R r = some e0) (he : va_at G.1 vwCl (ad r, e) H1) (oq : ∀ q : Nat, q ≠ ad r → H1[q]? = H[q]?) : mO G lo ad (mU R r e) H1 := by
  have k : ∀ (q : Nat) (x : va_E), mU R r e q = some x → ∃ x0, R q = some x0 := by
    intro q x hq
    by_cases hqr : q = r
    · subst hqr; exact ⟨_, hr⟩
    · rw [mU_ne hqr] at hq; exact ⟨_, hq⟩
  refine ⟨fun q x hq => ?_, fun q x hq => ?_, fun q q' x x' h1 h2 h3 => ?_⟩
  · by_cases hqr : q = r
    · subst hqr; rw [mU_self] at hq; cases hq; exact he
    · rw [mU_ne hqr] at hq
      exact (h.1 q x hq).kept (oq _ (fun z => hqr (h.2.2 q r x e0 hq hr z)))
  · obtain ⟨y, hy⟩ := k _ _ hq
    exact h.2.1 _ _ hy
  · obtain ⟨y, hy⟩ := k _ _ h1
    obtain ⟨y', hy'⟩ := k _ _ h2
    exact h.2.2 _ _ _ _ hy hy' h3
theorem mO.kept {G : mG} {lo : Nat} {ad : Nat → Nat} {R : mM} {H H1 : Heap} (h : mO G lo ad R H) (oq : ∀ q : Nat, q < H.size → H1[q]? = H[q]?) : mO G lo ad R H1 :=
  ⟨fun q x hq => (h.1 q x hq).kept (oq _ (h.lt hq)), h.2.1, h.2.2⟩
theorem mO.push {G : mG} {lo : Nat} {ad : Nat → Nat} {R : mM} {H H1 : Heap} (h : mO G lo ad R H) {r q : Nat} {e : va_E} (hr : R r = none) (hq : q = H.size) (hlo : lo ≤ H.size) (he : va_at G.1 vwCl (q, e) H1) (oq : ∀ x : Nat, x < H.size → H1[x]? = H[x]?) : mO G lo (va_up ad r q) (mU R r e) H1 := by
  have k : ∀ (z : Nat) (x : va_E), mU R r e z = some x → (z = r ∧ x = e) ∨ (z ≠ r ∧ R z = some x) := by
    intro z x hz
    by_cases hzr : z = r
    · subst hzr; rw [mU_self] at hz; cases hz; exact Or.inl ⟨rfl, rfl⟩
    · rw [mU_ne hzr] at hz; exact Or.inr ⟨hzr, hz⟩
  have a1 : va_up ad r q r = q := by simp [va_up]
  have a2 : ∀ z, z ≠ r → va_up ad r q z = ad z := fun z hz => by simp [va_up, hz]
  refine ⟨fun z x hz => ?_, fun z x hz => ?_, fun z z' x x' h1 h2 h3 => ?_⟩
  · rcases k z x hz with ⟨rfl, rfl⟩ | ⟨hne, hz⟩
    · rw [a1]; exact he
    · rw [a2 z hne]; exact (h.1 z x hz).kept (oq _ (h.lt hz))
  · rcases k z x hz with ⟨rfl, rfl⟩ | ⟨hne, hz⟩
    · rw [a1, hq]; exact hlo
    · rw [a2 z hne]; exact h.2.1 _ _ hz
  · rcases k z x h1 with ⟨rfl, rfl⟩ | ⟨hne, hz⟩ <;> rcases k z' x' h2 with ⟨rfl, rfl⟩ | ⟨hne', hz'⟩
    · rfl
    · rw [a1, a2 z' hne', hq] at h3
      have := h.lt hz'
      omega
    · rw [a1, a2 z hne, hq] at h3
      have := h.lt hz
      omega
    · rw [a2 z hne, a2 z' hne'] at h3
      exact h.2.2 _ _ _ _ hz hz' h3
/-! ===== what stays the same over a run: the tables, the two statics, the texts, who can be cast ===== -/
abbrev mXA : String := "java/lang/IllegalArgumentException"
abbrev mXS : String := "java/lang/IllegalStateException"
abbrev mXO : String := "java/lang/IndexOutOfBoundsException"
abbrev mNM : List String := ["java/lang/RuntimeException", "java/lang/Exception"]
def mStr : List (Nat × String) := [(52, "wax is not 1 to 5000"), (63, "there would be more than 20000 wax"), (73, "level is not 0 to 5"), (84, "what is not 0 to 3"), (87, "kind is not 0 to 3, or wicks is not 1 to 20"), (93, "there are 12 frames"), (102, "hook is not 0 to 11"), (108, "another frame hangs there"), (116, "the frame lies aside"), (122, "the frame cannot be dipped"), (144, "bare wicks, or too warm"), (181, "what is not 0 to 7"), (187, "kind is not 0 to 3, or size is not 1 to 9"), (193, "many is not 1 to 60"), (198, "day is earlier than today, or more than 1000"), (203, "there are 20 orders"), (216, "the order is filled, or the store has not enough"), (237, "what is not 0 to 5"), (239, "quarters is not 1 to 400"), (247, "what is not 0 to 8"), (249, "dips is not 1 to 40"), (251, "the frame does not hang"), (257, "rest is not 0 to 20, or size is not 1 to 9"), (263, "size is not 1 to 9"), (291, "there is no such frame"), (293, "there is no such order")]
def mC (G : mG) (lo : Nat) (sa : Nat → Nat) (U : State) (H : Heap) : Prop :=
  va_K G.1 vwCl (mTy G) U ∧ (vx_Zq Bundle.tN "UNASSIGNED_STACK" Bundle.steD (mA lo) U H ∧ vx_Zq Bundle.tN "SUPPRESSED_SENTINEL" Bundle.listD (mA lo) U H) ∧
  (va_Nw (.castable mXA mXA) U ∧ va_Nw (.castable mXS mXS) U ∧ va_Nw (.castable mXO mXO) U ∧ ∀ x ∈ mDec, va_Nw (.declares x) U) ∧
  (va_Nw (.methodLinkNest RX5 9 yX4_init RX5) U ∧ va_Nw (.methodLinkNest RX5 24 yX2_init RX5) U ∧ va_Nw (.methodLinkNest RX5 37 yX3_init RX5) U ∧ va_Nw (.methodLinkNest RX3 22 yX4_init RX5) U ∧ va_Nw (.methodLinkNest RX2 15 yX5_within RX5) U) ∧
  (va_Nc mXA mXS U ∧ va_Nc mXA mXO U ∧ va_Nc mXS mXA U ∧ va_Nc mXS mXO U ∧ va_Nc mXO mXA U ∧ va_Nc mXO mXS U) ∧
  (∀ q ∈ mStr, vk_R RX5 q.1 q.2 (sa q.1) U) ∧ lo ≤ H.size
theorem mC.vm {G : mG} {lo : Nat} {sa : Nat → Nat} {u U : State} {H : Heap} (hv : U.vm = u.vm) (h : mC G lo sa u H) : mC G lo sa U H := by
  obtain ⟨h1, ⟨h2, h3⟩, ⟨a1, a2, a3, a4⟩, ⟨b1, b2, b3, b4, b5⟩, ⟨c1, c2, c3, c4, c5, c6⟩, d, e⟩ := h
  have hA : u.vm.Alike U.vm := by rw [hv]; exact Vm.Alike.refl _
  exact ⟨h1.moved hA, ⟨h2.moved hA, h3.moved hA⟩, ⟨va_Nw.same rfl hv.symm a1, va_Nw.same rfl hv.symm a2, va_Nw.same rfl hv.symm a3, fun x hx => va_Nw.same rfl hv.symm (a4 x hx)⟩,
    ⟨va_Nw.same rfl hv.symm b1, va_Nw.same rfl hv.symm b2, va_Nw.same rfl hv.symm b3, va_Nw.same rfl hv.symm b4, va_Nw.same rfl hv.symm b5⟩,
    ⟨c1.moved hA, c2.moved hA, c3.moved hA, c4.moved hA, c5.moved hA, c6.moved hA⟩, fun q hq => vk_R.same hv (d q hq), e⟩
/-- handed to a callee -/
theorem mC.to {G : mG} {lo : Nat} {sa : Nat → Nat} {s U : State} {H : Heap} {locs : List Loc} (h : mC G lo sa s s.heap) (hS : va_S (mA lo) s.heap H locs) (hU : U.heap = H) (hW : s.WarmedH U.vm) : mC G lo sa U U.heap := by
  obtain ⟨h1, ⟨h2, h3⟩, ⟨a1, a2, a3, a4⟩, ⟨b1, b2, b3, b4, b5⟩, ⟨c1, c2, c3, c4, c5, c6⟩, d, e⟩ := h
  have hA : s.vm.Alike U.vm := hW.alike
  rw [hU]
  exact ⟨h1.moved hA, ⟨(h2.kept hS.2.1).moved hA, (h3.kept hS.2.1).moved hA⟩, ⟨va_Nw.warmC hW a1, va_Nw.warmC hW a2, va_Nw.warmC hW a3, fun x hx => va_Nw.warmD hW (a4 x hx)⟩,
    ⟨va_Nw.warmM hW b1, va_Nw.warmM hW b2, va_Nw.warmM hW b3, va_Nw.warmM hW b4, va_Nw.warmM hW b5⟩,
    ⟨c1.moved hA, c2.moved hA, c3.moved hA, c4.moved hA, c5.moved hA, c6.moved hA⟩, fun q hq => vk_R.warm hW (d q hq), Nat.le_trans e hS.1⟩
/-! ===== contracts ===== -/
def mPc (G : mG) (lo : Nat) (sa ad : Nat → Nat) (R : mM) (av : List Value) : Array Value → State → Prop := va_Pc av (fun U => mC G lo sa U U.heap ∧ mO G lo ad R U.heap)
theorem mPc_blind {G : mG} {lo : Nat} {sa ad : Nat → Nat} {R : mM} {av : List Value} : FrameBlind (mPc G lo sa ad R av) := by
  intro a U g mk q
  obtain ⟨q1, q2, q3⟩ := q
  exact ⟨q1, mC.vm (u := U) (U := U.calling g mk a) rfl q2, q3⟩
abbrev mWs (y : MethodName) (cc : ByteArray) (n : Nat) (rt : Option FieldType) : List Cond := .code y cc n rt :: lw_all
abbrev mB (G : mG) (lo : Nat) (ad : Nat → Nat) : mM → State → Prop := fun R' t => mO G lo ad R' t.heap
abbrev mRm (fr lc : Nat) : Room := { frames := fr, cells := 0, slots := 0, locals := lc }
/-- a method that answers an int (or boolean) and makes nothing -/
def mI (l : Launch) (y : MethodName) (cc : ByteArray) (n : Nat) (rt : FieldType) (fr lc : Nat) (G : mG) (lo : Nat) (sa ad : Nat → Nat) (R : mM) (av : List Value) (post : Int32 → mM → Prop) : Prop :=
  Met l y (mWs y cc n (some rt)) (mRm fr lc) (mPc G lo sa ad R av) (va_Qi post (mB G lo ad) (mA lo)) 0 0 (mA lo)
/-- .. that answers nothing -/
def mV (l : Launch) (y : MethodName) (cc : ByteArray) (n : Nat) (fr lc : Nat) (G : mG) (lo : Nat) (sa ad : Nat → Nat) (R : mM) (av : List Value) (post : mM → Prop) : Prop :=
  Met l y (mWs y cc n none) (mRm fr lc) (mPc G lo sa ad R av) (va_Qv post (mB G lo ad) (mA lo)) 0 0 (mA lo)
/-- .. a long -/
def mL (l : Launch) (y : MethodName) (cc : ByteArray) (n : Nat) (fr lc : Nat) (G : mG) (lo : Nat) (sa ad : Nat → Nat) (R : mM) (av : List Value) (post : Int64 → mM → Prop) : Prop :=
  Met l y (mWs y cc n (some .long)) (mRm fr lc) (mPc G lo sa ad R av) (va_Ql post (mB G lo ad) (mA lo)) 0 0 (mA lo)
section MEM
variable {p : Program} {l : Launch} {e : Env} {Rm : Room} {s : State} {m : MethodId} {args : Array Value} {below : List Frame} {meth : Method} {c : Code} {H : Heap} {locs : List Loc} {cells slots : Nat} {Q : State → Prop}
variable {cc : ByteArray} {nL pc : Nat} {ls : Array Slot} {rest st : List Value} {G : mG} {lo : Nat} {sa ad : Nat → Nat} {R : mM} {own : String}
/-- what a body begins with -/
abbrev mF (p : Program) (m : MethodId) (c : Code) (cc : ByteArray) (nL : Nat) (s : State) (args : Array Value) (own : String) : Prop := CallFix p m c cc nL s args lw_all own
theorem mI_of {y : MethodName} {rt : FieldType} {fr lc : Nat} {av : List Value} {post : Int32 → mM → Prop} (hy : plainName y.cls = true) (hlen : (lg_sl av).length ≤ nL)
    (body : ∀ (p : Program) (e : Env) (s : State) (m : MethodId) (args : Array Value) (below : List Frame) (meth : Method) (c : Code), mF p m c cc nL s args y.cls → meth.sig.returnType = some rt → meth.locks = false → mC G lo sa s s.heap →
      ∀ ls : Array Slot, lv_has ls nL (lv_args 0 av) → mO G lo ad R s.heap → va_S (mA lo) s.heap s.heap [] →
      ∀ Q : State → Prop, Q = MQ below (va_Qi post (mB G lo ad) (mA lo)) args s 0 0 (mA lo) → W p l e (mRm fr lc) s m args below meth c s.heap [] 0 0 Q (F0 m 0 ls [])) : mI l y cc nL rt fr lc G lo sa ad R av post := by
  refine Met.ofW (cc := cc) (maxL := nL) (ret := some rt) hy rfl ?_
  intro p e s m args below meth c s₁ B hml hv
  obtain ⟨rfl, hC, hO⟩ := hv
  have hts := atoms_spec (ws := mWs y cc nL (some rt)) B.pre
  rw [lg_entry_eq]
  exact body p e s m _ below meth c ⟨B.exec, B.bytes, hml, findClass_of_methodNamed B.named, fun w h => hts w (List.mem_cons_of_mem _ h)⟩ B.returns B.notSynchronized hC _ (lv_entry av hlen) hO va_S.rf _ rfl
theorem mV_of {y : MethodName} {fr lc : Nat} {av : List Value} {post : mM → Prop} (hy : plainName y.cls = true) (hlen : (lg_sl av).length ≤ nL)
    (body : ∀ (p : Program) (e : Env) (s : State) (m : MethodId) (args : Array Value) (below : List Frame) (meth : Method) (c : Code), mF p m c cc nL s args y.cls → meth.sig.returnType = none → meth.locks = false → mC G lo sa s s.heap →
      ∀ ls : Array Slot, lv_has ls nL (lv_args 0 av) → mO G lo ad R s.heap → va_S (mA lo) s.heap s.heap [] →
      ∀ Q : State → Prop, Q = MQ below (va_Qv post (mB G lo ad) (mA lo)) args s 0 0 (mA lo) → W p l e (mRm fr lc) s m args below meth c s.heap [] 0 0 Q (F0 m 0 ls [])) : mV l y cc nL fr lc G lo sa ad R av post := by
  refine Met.ofW (cc := cc) (maxL := nL) (ret := none) hy rfl ?_
  intro p e s m args below meth c s₁ B hml hv
  obtain ⟨rfl, hC, hO⟩ := hv
  have hts := atoms_spec (ws := mWs y cc nL none) B.pre
  rw [lg_entry_eq]
  exact body p e s m _ below meth c ⟨B.exec, B.bytes, hml, findClass_of_methodNamed B.named, fun w h => hts w (List.mem_cons_of_mem _ h)⟩ B.returns B.notSynchronized hC _ (lv_entry av hlen) hO va_S.rf _ rfl
theorem mL_of {y : MethodName} {fr lc : Nat} {av : List Value} {post : Int64 → mM → Prop} (hy : plainName y.cls = true) (hlen : (lg_sl av).length ≤ nL)
    (body : ∀ (p : Program) (e : Env) (s : State) (m : MethodId) (args : Array Value) (below : List Frame) (meth : Method) (c : Code), mF p m c cc nL s args y.cls → meth.sig.returnType = some .long → meth.locks = false → mC G lo sa s s.heap →
      ∀ ls : Array Slot, lv_has ls nL (lv_args 0 av) → mO G lo ad R s.heap → va_S (mA lo) s.heap s.heap [] →
      ∀ Q : State → Prop, Q = MQ below (va_Ql post (mB G lo ad) (mA lo)) args s 0 0 (mA lo) → W p l e (mRm fr lc) s m args below meth c s.heap [] 0 0 Q (F0 m 0 ls [])) : mL l y cc nL fr lc G lo sa ad R av post := by
  refine Met.ofW (cc := cc) (maxL := nL) (ret := some .long) hy rfl ?_
  intro p e s m args below meth c s₁ B hml hv
  obtain ⟨rfl, hC, hO⟩ := hv
  have hts := atoms_spec (ws := mWs y cc nL (some .long)) B.pre
  rw [lg_entry_eq]
  exact body p e s m _ below meth c ⟨B.exec, B.bytes, hml, findClass_of_methodNamed B.named, fun w h => hts w (List.mem_cons_of_mem _ h)⟩ B.returns B.notSynchronized hC _ (lv_entry av hlen) hO va_S.rf _ rfl
/-! ends -/
theorem m_iret {post : Int32 → mM → Prop} {R' : mM} {v : Int32} {rt : FieldType} (hF : mF p m c cc nL s args own) (hr : meth.sig.returnType = some rt) (hlk : meth.locks = false) (hQ : Q = MQ below (va_Qi post (mB G lo ad) (mA lo)) args s cells slots (mA lo)) (hn : narrow rt (.int v) = .int v) (hO : mO G lo ad R' H) (hS : va_S (mA lo) s.heap H locs) (hdg : decode cc pc = .ok (.ireturn, 1)) (hp : post v R') :
    W p l e Rm s m args below meth c H locs cells slots Q (F0 m pc ls [.int v]) := hQ ▸
  W.zret hF.1 hF.2.1 hr hn (fun t ht hW => ⟨⟨v, R', rfl, hp, by show mO G lo ad R' t.heap; rw [ht]; exact hO⟩, hS.F ht⟩) hS.2.2 hdg hlk
theorem m_vret {post : mM → Prop} {R' : mM} (hF : mF p m c cc nL s args own) (hr : meth.sig.returnType = none) (hlk : meth.locks = false) (hQ : Q = MQ below (va_Qv post (mB G lo ad) (mA lo)) args s cells slots (mA lo)) (hO : mO G lo ad R' H) (hS : va_S (mA lo) s.heap H locs) (hdg : decode cc pc = .ok (.return_, 1)) (hp : post R') :
    W p l e Rm s m args below meth c H locs cells slots Q (F0 m pc ls []) := hQ ▸
  W.vret hF.1 hF.2.1 hr (fun t ht hW => ⟨⟨R', rfl, hp, by show mO G lo ad R' t.heap; rw [ht]; exact hO⟩, hS.F ht⟩) hS.2.2 hdg hlk
theorem m_lret {post : Int64 → mM → Prop} {R' : mM} {v : Int64} (hF : mF p m c cc nL s args own) (hr : meth.sig.returnType = some .long) (hlk : meth.locks = false) (hQ : Q = MQ below (va_Ql post (mB G lo ad) (mA lo)) args s cells slots (mA lo)) (hO : mO G lo ad R' H) (hS : va_S (mA lo) s.heap H locs) (hdg : decode cc pc = .ok (.lreturn, 1)) (hp : post v R') :
    W p l e Rm s m args below meth c H locs cells slots Q (F0 m pc ls [.long v]) := hQ ▸
  W.lret hF.1 hF.2.1 hr (fun t ht hW => ⟨⟨v, R', rfl, hp, by show mO G lo ad R' t.heap; rw [ht]; exact hO⟩, hS.F ht⟩) hS.2.2 hdg hlk
/-! fields -/
theorem m_get {C : String} {T : u_T} {N ci index : Nat} (hin : ∀ w ∈ u_ws C T N, w ∈ lw_all) (hF : mF p m c cc nL s args own) (hC : mC G lo sa s s.heap) (hO : mO G lo ad R H) {r : Nat} {fs : List Value} (hr : R r = some (.inr (ci, fs))) (hc : vwCl[ci]? = some (C, T, N)) (k : Nat) (hk : k < N) (hlink : (.fieldLink own index (T k).1 (T k).2.1 (T k).2.2.1 : Cond) ∈ lw_all) {v : Value} (hv : fs[k]? = some v) (hdg : decode cc pc = .ok (.getfield index, 3))
    (kk : W p l e Rm s m args below meth c H locs cells slots Q (F0 m (pc + 3) ls (v :: rest))) : W p l e Rm s m args below meth c H locs cells slots Q (F0 m pc ls (.ref (ad r) :: rest)) :=
  va_get hF.1 hF.2.1 hF.2.2.2.2 hin hF.2.2.2.1 hC.1 (hO.one hr) 0 rfl hc k hk (hF.2.2.2.2 _ hlink) (fun _ h => h) hv hdg kk
theorem m_put {C : String} {T : u_T} {N ci index : Nat} (ty0 : Nat → FieldType) (hty : ∀ k, k < N → parseFieldDescriptor (T k).2.2.1 = some (ty0 k)) (hnm : ∀ a, a < N → ∀ b, b < N → a ≠ b → (T a).2.1 ≠ (T b).2.1) (hin : ∀ w ∈ u_ws C T N, w ∈ lw_all) (hF : mF p m c cc nL s args own) (hC : mC G lo sa s s.heap) (hO : mO G lo ad R H) (hS : va_S (mA lo) s.heap H locs) {r : Nat} {fs : List Value} (hr : R r = some (.inr (ci, fs))) (hc : vwCl[ci]? = some (C, T, N)) (k : Nat) (hk : k < N) (hlink : (.fieldLink own index (T k).1 (T k).2.1 (T k).2.2.1 : Cond) ∈ lw_all) (hfin : (T k).2.2.2 = false) {ty : FieldType} {v : Value} (hd : parseFieldDescriptor (T k).2.2.1 = some ty) (hn : narrow ty v = v) (hfit : fits ty v = true) {fs' : List Value} (hl : k < fs.length) (hfs : fs.set k v = fs') (hdg : decode cc pc = .ok (.putfield index, 3))
    (kk : ∀ (H1 : Heap) (locs1 : List Loc), mO G lo ad (mU R r (.inr (ci, fs'))) H1 → va_S (mA lo) s.heap H1 locs1 → W p l e Rm s m args below meth c H1 locs1 cells slots Q (F0 m (pc + 3) ls rest)) : W p l e Rm s m args below meth c H locs cells slots Q (F0 m pc ls (v :: .ref (ad r) :: rest)) := by
  subst hfs
  obtain ⟨hx, hb, -, hown, hts⟩ := hF
  have hap := va_apart (own := own) hts hin ty0 hty hnm hC.1 hc
  obtain ⟨r9, h1, cell, q1, q2, q3, q4⟩ := hO.1 r _ hr
  have hr9 : r9 = (C, T, N) := Option.some.inj (h1.symm.trans hc)
  subst hr9
  obtain ⟨hS9, hfc, kC, hkC, hkind⟩ := hC.1.1 ci _ hc
  obtain ⟨cf, kf, fi, f, hi, hsl⟩ := hS9 k hk
  have hlay := hts _ (hin _ (u_in_lay hk))
  unfold u_lay at hlay
  rw [if_neg (by rw [hfin]; decide)] at hlay
  have hst := (u_facts hfc hkC (u_lays hts hin hk) hi).1
  have h6 := u_store hfc hkC hkind hlay hi hd hn hfit
  refine W.putK hx hb (f := f) ⟨hown, hts _ hlink, ⟨_, _, _, hi⟩, hst⟩ (by rw [q2]; exact h6) q1 q3 (by rw [hsl]; exact k2_hasslot (q4 k hk)) rfl rfl hdg fun H' e1 e2 e3 => ?_
  rw [hsl] at e1 ⊢
  exact kk H' _ (hO.set hr ⟨_, hc, t_OB.to (V := updV (vp_V fs) k v) ⟨_, e1, q2, q3, t_set q4 hap hk v⟩ (fun j _ => vp_updV_set hl v j)⟩ e3) (hS.put e2 e3 (hO.2.1 r _ hr))
theorem m_putF {C : String} {T : u_T} {N ci index : Nat} (ty0 : Nat → FieldType) (hty : ∀ k, k < N → parseFieldDescriptor (T k).2.2.1 = some (ty0 k)) (hnm : ∀ a, a < N → ∀ b, b < N → a ≠ b → (T a).2.1 ≠ (T b).2.1) (hin : ∀ w ∈ u_ws C T N, w ∈ lw_all) (hF : mF p m c cc nL s args own) (hC : mC G lo sa s s.heap) (hO : mO G lo ad R H) (hS : va_S (mA lo) s.heap H locs) {r : Nat} {fs : List Value} (hr : R r = some (.inr (ci, fs))) (hc : vwCl[ci]? = some (C, T, N)) (k : Nat) (hk : k < N) (hlink : (.fieldLink own index (T k).1 (T k).2.1 (T k).2.2.1 : Cond) ∈ lw_all) (hfin : (T k).2.2.2 = true) (hin2 : meth.name = "<init>") (hdecl : (T k).1 = own) {ty : FieldType} {v : Value} (hd : parseFieldDescriptor (T k).2.2.1 = some ty) (hn : narrow ty v = v) (hfit : fits ty v = true) {fs' : List Value} (hl : k < fs.length) (hfs : fs.set k v = fs') (hdg : decode cc pc = .ok (.putfield index, 3))
    (kk : ∀ (H1 : Heap) (locs1 : List Loc), mO G lo ad (mU R r (.inr (ci, fs'))) H1 → va_S (mA lo) s.heap H1 locs1 → W p l e Rm s m args below meth c H1 locs1 cells slots Q (F0 m (pc + 3) ls rest)) : W p l e Rm s m args below meth c H locs cells slots Q (F0 m pc ls (v :: .ref (ad r) :: rest)) := by
  subst hfs
  obtain ⟨hx, hb, -, hown, hts⟩ := hF
  have hap := va_apart (own := own) hts hin ty0 hty hnm hC.1 hc
  obtain ⟨r9, h1, cell, q1, q2, q3, q4⟩ := hO.1 r _ hr
  have hr9 : r9 = (C, T, N) := Option.some.inj (h1.symm.trans hc)
  subst hr9
  obtain ⟨hS9, hfc, kC, hkC, hkind⟩ := hC.1.1 ci _ hc
  obtain ⟨cf, kf, fi, f, hi, hsl⟩ := hS9 k hk
  have hlay := hts _ (hin _ (u_in_lay hk))
  unfold u_lay at hlay
  rw [if_pos hfin] at hlay
  have hst := (u_facts hfc hkC (u_lays hts hin hk) hi).1
  have hcf : m.cls = cf := by
    obtain ⟨_, _, c', _, _, _, -, -, hf', -, -, -, hown2, -⟩ := Cond.laysFinal_spec hlay
    have e1 : c' = cf := by have := hi.symm.trans hf'; simp at this; exact this.1.symm
    rw [hdecl] at hown2
    rw [← e1]; exact Option.some.inj (hown.symm.trans hown2)
  have h6 := u_fits hfc hkC hkind (Or.inr hlay) hi hd hn hfit
  refine W.putFinK hx hb hown (hts _ hlink) hi hst hcf hin2 (by rw [q2]; exact h6) q1 q3 (by rw [hsl]; exact k2_hasslot (q4 k hk)) rfl rfl hdg fun H' e1 e2 e3 => ?_
  rw [hsl] at e1 ⊢
  exact kk H' _ (hO.set hr ⟨_, hc, t_OB.to (V := updV (vp_V fs) k v) ⟨_, e1, q2, q3, t_set q4 hap hk v⟩ (fun j _ => vp_updV_set hl v j)⟩ e3) (hS.put e2 e3 (hO.2.1 r _ hr))
/-! arrays -/
theorem m_iald (hF : mF p m c cc nL s args own) (hC : mC G lo sa s s.heap) (hO : mO G lo ad R H) {r n : Nat} {f : Nat → Int32} (hr : R r = some (.inl (G.2 0, n, .inl f))) {i : Int32} {j : Nat} (hj : i.toNatClampNeg = j) (hin : vp_in i n) (hdg : decode cc pc = .ok (.iaload, 1))
    (kk : W p l e Rm s m args below meth c H locs cells slots Q (F0 m (pc + 1) ls (.int (f j) :: rest))) : W p l e Rm s m args below meth c H locs cells slots Q (F0 m pc ls (.int i :: .ref (ad r) :: rest)) := by
  subst hj
  exact va_iald hF.1 hF.2.1 hC.1 (hO.one hr) 0 0 rfl rfl hin hdg kk
theorem m_zald (hF : mF p m c cc nL s args own) (hC : mC G lo sa s s.heap) (hO : mO G lo ad R H) {r n : Nat} {f : Nat → Int32} (hr : R r = some (.inl (G.2 2, n, .inl f))) {i : Int32} {j : Nat} (hj : i.toNatClampNeg = j) (hin : vp_in i n) (hdg : decode cc pc = .ok (.baload, 1))
    (kk : W p l e Rm s m args below meth c H locs cells slots Q (F0 m (pc + 1) ls (.int (f j) :: rest))) : W p l e Rm s m args below meth c H locs cells slots Q (F0 m pc ls (.int i :: .ref (ad r) :: rest)) := by
  subst hj
  exact va_zald hF.1 hF.2.1 hC.1 (hO.one hr) 0 2 rfl rfl hin hdg kk
theorem m_lald (hF : mF p m c cc nL s args own) (hC : mC G lo sa s s.heap) (hO : mO G lo ad R H) {r n : Nat} {f : Nat → Int64} (hr : R r = some (.inl (G.2 1, n, .inr (.inl f)))) {i : Int32} {j : Nat} (hj : i.toNatClampNeg = j) (hin : vp_in i n) (hdg : decode cc pc = .ok (.laload, 1))
    (kk : W p l e Rm s m args below meth c H locs cells slots Q (F0 m (pc + 1) ls (.long (f j) :: rest))) : W p l e Rm s m args below meth c H locs cells slots Q (F0 m pc ls (.int i :: .ref (ad r) :: rest)) := by
  subst hj
  exact va_lald hF.1 hF.2.1 hC.1 (hO.one hr) 0 1 rfl rfl hin hdg kk
theorem m_aldF (hF : mF p m c cc nL s args own) (hC : mC G lo sa s s.heap) (hO : mO G lo ad R H) {r n : Nat} {f : Nat → Option Nat} (hr : R r = some (.inl (G.2 3, n, .inr (.inr (.inr (.inr f)))))) {i : Int32} {j : Nat} (hj : i.toNatClampNeg = j) (hin : vp_in i n) (hdg : decode cc pc = .ok (.aaload, 1)) {v : Value} (hv : va_rf (f j) = v)
    (kk : W p l e Rm s m args below meth c H locs cells slots Q (F0 m (pc + 1) ls (v :: rest))) : W p l e Rm s m args below meth c H locs cells slots Q (F0 m pc ls (.int i :: .ref (ad r) :: rest)) := by
  subst hj; subst hv
  exact va_aldq hF.1 hF.2.1 hC.1 (hO.one hr) 0 3 rfl rfl hin hdg kk
theorem m_aldO (hF : mF p m c cc nL s args own) (hC : mC G lo sa s s.heap) (hO : mO G lo ad R H) {r n : Nat} {f : Nat → Option Nat} (hr : R r = some (.inl (G.2 4, n, .inr (.inr (.inr (.inr f)))))) {i : Int32} {j : Nat} (hj : i.toNatClampNeg = j) (hin : vp_in i n) (hdg : decode cc pc = .ok (.aaload, 1)) {v : Value} (hv : va_rf (f j) = v)
    (kk : W p l e Rm s m args below meth c H locs cells slots Q (F0 m (pc + 1) ls (v :: rest))) : W p l e Rm s m args below meth c H locs cells slots Q (F0 m pc ls (.int i :: .ref (ad r) :: rest)) := by
  subst hj; subst hv
  exact va_aldq hF.1 hF.2.1 hC.1 (hO.one hr) 0 4 rfl rfl hin hdg kk
theorem m_alen (t0 : Nat) {ty : FieldType} (hF : mF p m c cc nL s args own) (hC : mC G lo sa s s.heap) (hO : mO G lo ad R H) {r : Nat} {cA : ClassId} {x : vp_A} (hr : R r = some (.inl (cA, x))) (ht : (mTy G)[t0]? = some (cA, ty)) {v : Int32} (hv : Int32.ofNat x.1 = v) (hdg : decode cc pc = .ok (.arraylength, 1))
    (kk : W p l e Rm s m args below meth c H locs cells slots Q (F0 m (pc + 1) ls (.int v :: rest))) : W p l e Rm s m args below meth c H locs cells slots Q (F0 m pc ls (.ref (ad r) :: rest)) :=
  va_alen hF.1 hF.2.1 hC.1 (hO.one hr) 0 t0 rfl ht hv hdg kk
theorem m_iast (hF : mF p m c cc nL s args own) (hC : mC G lo sa s s.heap) (hO : mO G lo ad R H) (hS : va_S (mA lo) s.heap H locs) {r n : Nat} {f : Nat → Int32} (hr : R r = some (.inl (G.2 0, n, .inl f))) {i x : Int32} {j : Nat} (hj : i.toNatClampNeg = j) (hin : vp_in i n) (hdg : decode cc pc = .ok (.iastore, 1))
    (kk : ∀ (H1 : Heap) (locs1 : List Loc), mO G lo ad (mU R r (.inl (G.2 0, n, .inl (upd f j x)))) H1 → va_S (mA lo) s.heap H1 locs1 → W p l e Rm s m args below meth c H1 locs1 cells slots Q (F0 m (pc + 1) ls rest)) : W p l e Rm s m args below meth c H locs cells slots Q (F0 m pc ls (.int x :: .int i :: .ref (ad r) :: rest)) := by
  subst hj
  refine W.iast hF.1 hF.2.1 (hO.1 r _ hr) ((hC.1.2 0 _ rfl).1 n (fun j => .int (f j))) (fun q => by cases q) (by show ¬ (i < 0 ∨ (arrV _ _ _).slots.size ≤ _); rw [arrV_size]; exact hin) rfl rfl hdg fun H1 e z oq => ?_
  refine kk H1 _ (hO.set hr ?_ oq) (hS.put z oq (hO.2.1 r _ hr))
  show H1[ad r]? = some (vp_cell _ _)
  rw [e]
  rw [vp_cell_i, vp_cell_i, arrV_store]
  congr 2
  funext q
  by_cases hq : q = i.toNatClampNeg
  · subst hq
    simp [updV, upd]
  · simp [updV, upd, hq]
theorem m_zast (hF : mF p m c cc nL s args own) (hC : mC G lo sa s s.heap) (hO : mO G lo ad R H) (hS : va_S (mA lo) s.heap H locs) {r n : Nat} {f : Nat → Int32} (hr : R r = some (.inl (G.2 2, n, .inl f))) {i x : Int32} {j : Nat} (hj : i.toNatClampNeg = j) (hx : vp_nar .boolean x = x) (hin : vp_in i n) (hdg : decode cc pc = .ok (.bastore, 1))
    (kk : ∀ (H1 : Heap) (locs1 : List Loc), mO G lo ad (mU R r (.inl (G.2 2, n, .inl (upd f j x)))) H1 → va_S (mA lo) s.heap H1 locs1 → W p l e Rm s m args below meth c H1 locs1 cells slots Q (F0 m (pc + 1) ls rest)) : W p l e Rm s m args below meth c H locs cells slots Q (F0 m pc ls (.int x :: .int i :: .ref (ad r) :: rest)) := by
  subst hj
  refine W.zast hF.1 hF.2.1 (hO.1 r _ hr) ((hC.1.2 2 _ rfl).1 n (fun j => .int (f j))) (fun q => by cases q) (by show ¬ (i < 0 ∨ (arrV _ _ _).slots.size ≤ _); rw [arrV_size]; exact hin) rfl rfl hdg fun H1 e z oq => ?_
  refine kk H1 _ (hO.set hr ?_ oq) (hS.put z oq (hO.2.1 r _ hr))
  show H1[ad r]? = some (vp_cell _ _)
  rw [e]
  rw [vp_cell_i, vp_cell_i, arrV_store]
  congr 2
  funext q
  by_cases hq : q = i.toNatClampNeg
  · subst hq
    rw [show upd f i.toNatClampNeg x i.toNatClampNeg = vp_nar .boolean x from by rw [hx]; simp [upd]]
    simp [updV, vp_nar]
    try rfl
  · simp [updV, upd, hq]
theorem m_last (hF : mF p m c cc nL s args own) (hC : mC G lo sa s s.heap) (hO : mO G lo ad R H) (hS : va_S (mA lo) s.heap H locs) {r n : Nat} {f : Nat → Int64} (hr : R r = some (.inl (G.2 1, n, .inr (.inl f)))) {i : Int32} {x : Int64} {j : Nat} (hj : i.toNatClampNeg = j) (hin : vp_in i n) (hdg : decode cc pc = .ok (.lastore, 1))
    (kk : ∀ (H1 : Heap) (locs1 : List Loc), mO G lo ad (mU R r (.inl (G.2 1, n, .inr (.inl (vp_updL f j x))))) H1 → va_S (mA lo) s.heap H1 locs1 → W p l e Rm s m args below meth c H1 locs1 cells slots Q (F0 m (pc + 1) ls rest)) : W p l e Rm s m args below meth c H locs cells slots Q (F0 m pc ls (.long x :: .int i :: .ref (ad r) :: rest)) := by
  subst hj
  refine W.last hF.1 hF.2.1 (hO.1 r _ hr) ((hC.1.2 1 _ rfl).1 n (fun j => .long (f j))) (fun q => by cases q) (by show ¬ (i < 0 ∨ (arrV _ _ _).slots.size ≤ _); rw [arrV_size]; exact hin) rfl rfl hdg fun H1 e z oq => ?_
  refine kk H1 _ (hO.set hr ?_ oq) (hS.put z oq (hO.2.1 r _ hr))
  show H1[ad r]? = some (vp_cell _ _)
  rw [e]
  rw [vp_cell_l, vp_cell_l, arrV_store]
  congr 2
  funext q
  by_cases hq : q = i.toNatClampNeg
  · subst hq
    simp [updV, vp_updL]
  · simp [updV, vp_updL, hq]
end MEM
end
section
/-! ===== calls by contract: an own method by its receiver, a static one ===== -/
abbrev mHd (y : MethodName) (n : Nat) : Prop := y.cls ≠ "java/lang/invoke/MethodHandle" ∧ y.cls ≠ "java/lang/invoke/VarHandle" ∧ (parseMethodDescriptor y.desc).map (fun d => d.parameters.length) = some n
/-- an own method that is called by its receiver -/
def mOK (C : String) (y : MethodName) (bytes : ByteArray) (maxL : Nat) (rt : Option FieldType) (n : Nat) : Prop :=
  (.instanceMethod y : Cond) ∈ lw_all ∧ (.selects C y y : Cond) ∈ lw_all ∧ (.initialized y.cls : Cond) ∈ lw_all ∧ (.code y bytes maxL rt : Cond) ∈ lw_all ∧ mHd y n
/-- a static one -/
def mOS (y : MethodName) (bytes : ByteArray) (maxL : Nat) (rt : Option FieldType) (n : Nat) : Prop :=
  (.static y : Cond) ∈ lw_all ∧ (.initialized y.cls : Cond) ∈ lw_all ∧ (.code y bytes maxL rt : Cond) ∈ lw_all ∧ mHd y n
/-- a constructor -/
def mOC (y : MethodName) (bytes : ByteArray) (maxL : Nat) (n : Nat) : Prop :=
  (.instanceMethod y : Cond) ∈ lw_all ∧ (.initialized y.cls : Cond) ∈ lw_all ∧ (.code y bytes maxL none : Cond) ∈ lw_all ∧ mHd y n ∧ y.name = "<init>"
theorem lw_goodw {w : Cond} (h : w ∈ lw_all) : goodWord w = true := (List.mem_filter.mp h).2
theorem mWs_good {y : MethodName} {cc : ByteArray} {n : Nat} {rt : Option FieldType} (h : (.code y cc n rt : Cond) ∈ lw_all) : GoodIn lw_all (mWs y cc n rt) := fun w hw => by
  rcases List.mem_cons.mp hw with rfl | hw
  · exact ⟨h, good_of_word (lw_goodw h)⟩
  · exact ⟨hw, good_of_word (lw_goodw hw)⟩
section CALL
variable {p : Program} {l : Launch} {e : Env} {Rm : Room} {s : State} {m : MethodId} {args : Array Value} {below : List Frame} {meth : Method} {c : Code} {H : Heap} {locs : List Loc} {cells slots : Nat} {Q : State → Prop}
variable {cc bytes : ByteArray} {nL maxL pc n index fr lc : Nat} {ls : Array Slot} {rest st As : List Value} {G : mG} {lo : Nat} {sa ad : Nat → Nat} {R : mM} {own C : String} {y : MethodName} {rt : FieldType}
theorem mc_B (rm : Room) {ret : Option FieldType} (hF : mF p m c cc nL s args own) (h1 : (.initialized y.cls : Cond) ∈ lw_all) (h2 : (.code y bytes maxL ret : Cond) ∈ lw_all) (h3 : mHd y n) (hl : (.methodLink own index y : Cond) ∈ lw_all) (hR : rm.frames + 1 ≤ Rm.frames ∧ 8 + (maxL + 11) + rm.locals ≤ Rm.locals) :
    CallB Rm s args own index y bytes maxL ret (mWs y bytes maxL ret) rm rm.cells rm.slots n :=
  callB_of n hF.2.2.2.2 (mWs_good h2) rfl rfl rfl (hF.2.2.2.2 _ h1) (hF.2.2.2.2 _ hl) h3 hR
theorem mc_recv {q : vw_C} {ci r : Nat} {fs : List Value} (hC : mC G lo sa s s.heap) (hO : mO G lo ad R H) (hr : R r = some (.inr (ci, fs))) (hc : vwCl[ci]? = some q) : ∃ cell : Cell, H[ad r]? = some cell ∧ cell.vm.isStatics = false ∧ s.vm.findClass q.1 = some cell.cls :=
  va_recv hC.1 (hO.one hr) hc (q0 := 0) rfl
theorem mc_pre {av : List Value} (hC : mC G lo sa s s.heap) (hO : mO G lo ad R H) (hS : va_S (mA lo) s.heap H locs) : ∀ U : State, U.heap = H → s.WarmedH U.vm → mPc G lo sa ad R av av.toArray U :=
  fun U hU hW => ⟨rfl, hC.to hS hU hW, by rw [hU]; exact hO⟩
theorem m_vI {ret : FieldType} {post : Int32 → mM → Prop} {ci r : Nat} {fs : List Value} {q : vw_C} (hF : mF p m c cc nL s args own) (hC : mC G lo sa s s.heap) (hO : mO G lo ad R H) (hS : va_S (mA lo) s.heap H locs) (hM : mI l y bytes maxL ret fr lc G lo sa ad R (.ref (ad r) :: As) post) (ok : mOK q.1 y bytes maxL (some ret) n) (hl : (.methodLink own index y : Cond) ∈ lw_all)
    (hr : R r = some (.inr (ci, fs))) (hc : vwCl[ci]? = some q) (hR : fr + 1 ≤ Rm.frames ∧ 8 + (maxL + 11) + lc ≤ Rm.locals) (hn : As.length = n) (hsz : ls.size = nL) (hst : st = As.reverse ++ .ref (ad r) :: rest) (hw : (rest.map fun v => v.category).sum ≤ 8) (hcs : cells ≤ Rm.cells ∧ slots ≤ Rm.slots) (hdg : decode cc pc = .ok (.invokevirtual index, 3))
    (kk : ∀ (v : Int32) (R' : mM) (H1 : Heap) (locs1 : List Loc), post v R' → mO G lo ad R' H1 → va_S (mA lo) s.heap H1 locs1 → W p l e Rm s m args below meth c H1 locs1 cells slots Q (F0 m (pc + 3) ls (.int v :: rest))) : W p l e Rm s m args below meth c H locs cells slots Q (F0 m pc ls st) := by
  obtain ⟨w2, w3, w4, w5, hd⟩ := ok
  have hts := hF.2.2.2.2
  exact va_calli (A0 := mA lo) (va_runV (C := q.1) (b := ad r) (As := As) (rest := rest) hF hM ⟨mc_B (mRm fr lc) hF w4 w5 hd hl hR, hts _ w2, hts _ w3⟩ ⟨mPc_blind, mc_recv hC hO hr hc, mc_pre hC hO hS⟩ rfl hn hsz hst (lv_room hw) hdg hcs) hS (fun _ _ h => h) (fun _ h => h) (fun v R' t H1 locs1 ht hvm hp hB hz1 hk1 hS1 => kk v R' H1 locs1 hp (by rw [← ht]; exact hB) hS1)
theorem m_vL {post : Int64 → mM → Prop} {ci r : Nat} {fs : List Value} {q : vw_C} (hF : mF p m c cc nL s args own) (hC : mC G lo sa s s.heap) (hO : mO G lo ad R H) (hS : va_S (mA lo) s.heap H locs) (hM : mL l y bytes maxL fr lc G lo sa ad R (.ref (ad r) :: As) post) (ok : mOK q.1 y bytes maxL (some .long) n) (hl : (.methodLink own index y : Cond) ∈ lw_all)
    (hr : R r = some (.inr (ci, fs))) (hc : vwCl[ci]? = some q) (hR : fr + 1 ≤ Rm.frames ∧ 8 + (maxL + 11) + lc ≤ Rm.locals) (hn : As.length = n) (hsz : ls.size = nL) (hst : st = As.reverse ++ .ref (ad r) :: rest) (hw : (rest.map fun v => v.category).sum ≤ 8) (hcs : cells ≤ Rm.cells ∧ slots ≤ Rm.slots) (hdg : decode cc pc = .ok (.invokevirtual index, 3))
    (kk : ∀ (v : Int64) (R' : mM) (H1 : Heap) (locs1 : List Loc), post v R' → mO G lo ad R' H1 → va_S (mA lo) s.heap H1 locs1 → W p l e Rm s m args below meth c H1 locs1 cells slots Q (F0 m (pc + 3) ls (.long v :: rest))) : W p l e Rm s m args below meth c H locs cells slots Q (F0 m pc ls st) := by
  obtain ⟨w2, w3, w4, w5, hd⟩ := ok
  have hts := hF.2.2.2.2
  exact va_calll (A0 := mA lo) (va_runV (C := q.1) (b := ad r) (As := As) (rest := rest) hF hM ⟨mc_B (mRm fr lc) hF w4 w5 hd hl hR, hts _ w2, hts _ w3⟩ ⟨mPc_blind, mc_recv hC hO hr hc, mc_pre hC hO hS⟩ rfl hn hsz hst (lv_room hw) hdg hcs) hS (fun _ _ h => h) (fun _ h => h) (fun v R' t H1 locs1 ht hvm hp hB hz1 hk1 hS1 => kk v R' H1 locs1 hp (by rw [← ht]; exact hB) hS1)
theorem m_vV {post : mM → Prop} {ci r : Nat} {fs : List Value} {q : vw_C} (hF : mF p m c cc nL s args own) (hC : mC G lo sa s s.heap) (hO : mO G lo ad R H) (hS : va_S (mA lo) s.heap H locs) (hM : mV l y bytes maxL fr lc G lo sa ad R (.ref (ad r) :: As) post) (ok : mOK q.1 y bytes maxL none n) (hl : (.methodLink own index y : Cond) ∈ lw_all)
    (hr : R r = some (.inr (ci, fs))) (hc : vwCl[ci]? = some q) (hR : fr + 1 ≤ Rm.frames ∧ 8 + (maxL + 11) + lc ≤ Rm.locals) (hn : As.length = n) (hsz : ls.size = nL) (hst : st = As.reverse ++ .ref (ad r) :: rest) (hw : (rest.map fun v => v.category).sum ≤ 8) (hcs : cells ≤ Rm.cells ∧ slots ≤ Rm.slots) (hdg : decode cc pc = .ok (.invokevirtual index, 3))
    (kk : ∀ (R' : mM) (H1 : Heap) (locs1 : List Loc), post R' → mO G lo ad R' H1 → va_S (mA lo) s.heap H1 locs1 → W p l e Rm s m args below meth c H1 locs1 cells slots Q (F0 m (pc + 3) ls rest)) : W p l e Rm s m args below meth c H locs cells slots Q (F0 m pc ls st) := by
  obtain ⟨w2, w3, w4, w5, hd⟩ := ok
  have hts := hF.2.2.2.2
  exact va_callv (A0 := mA lo) (va_runV (C := q.1) (b := ad r) (As := As) (rest := rest) hF hM ⟨mc_B (mRm fr lc) hF w4 w5 hd hl hR, hts _ w2, hts _ w3⟩ ⟨mPc_blind, mc_recv hC hO hr hc, mc_pre hC hO hS⟩ rfl hn hsz hst (lv_room hw) hdg hcs) hS (fun _ _ h => h) (fun _ h => h) (fun R' t H1 locs1 ht hvm hp hB hz1 hk1 hS1 => kk R' H1 locs1 hp (by rw [← ht]; exact hB) hS1)
theorem m_sI {ret : FieldType} {post : Int32 → mM → Prop} (hF : mF p m c cc nL s args own) (hC : mC G lo sa s s.heap) (hO : mO G lo ad R H) (hS : va_S (mA lo) s.heap H locs) (hM : mI l y bytes maxL ret fr lc G lo sa ad R As post) (ok : mOS y bytes maxL (some ret) n) (hl : (.methodLink own index y : Cond) ∈ lw_all)
    (hR : fr + 1 ≤ Rm.frames ∧ 8 + (maxL + 11) + lc ≤ Rm.locals) (hn : As.length = n) (hsz : ls.size = nL) (hst : st = As.reverse ++ rest) (hw : (rest.map fun v => v.category).sum ≤ 8) (hcs : cells ≤ Rm.cells ∧ slots ≤ Rm.slots) (hdg : decode cc pc = .ok (.invokestatic index, 3))
    (kk : ∀ (v : Int32) (R' : mM) (H1 : Heap) (locs1 : List Loc), post v R' → mO G lo ad R' H1 → va_S (mA lo) s.heap H1 locs1 → W p l e Rm s m args below meth c H1 locs1 cells slots Q (F0 m (pc + 3) ls (.int v :: rest))) : W p l e Rm s m args below meth c H locs cells slots Q (F0 m pc ls st) := by
  obtain ⟨w2, w4, w5, hd⟩ := ok
  have hts := hF.2.2.2.2
  exact va_calli (A0 := mA lo) (va_runS (As := As) (rest := rest) hF hM ⟨mc_B (mRm fr lc) hF w4 w5 hd hl hR, hts _ w2⟩ ⟨mPc_blind, mc_pre hC hO hS⟩ rfl hn hsz hst (lv_room hw) hdg hcs) hS (fun _ _ h => h) (fun _ h => h) (fun v R' t H1 locs1 ht hvm hp hB hz1 hk1 hS1 => kk v R' H1 locs1 hp (by rw [← ht]; exact hB) hS1)
/-- the private static method of the nest: Store.hasShelf calls CandleDip.within -/
theorem m_nI {ret : FieldType} {post : Int32 → mM → Prop} (hF : mF p m c cc nL s args RX2) (hC : mC G lo sa s s.heap) (hO : mO G lo ad R H) (hS : va_S (mA lo) s.heap H locs) (hM : mI l yX5_within bytes maxL ret fr lc G lo sa ad R As post) (ok : mOS yX5_within bytes maxL (some ret) n)
    (hR : fr + 1 ≤ Rm.frames ∧ 8 + (maxL + 11) + lc ≤ Rm.locals) (hn : As.length = n) (hsz : ls.size = nL) (hst : st = As.reverse ++ rest) (hw : (rest.map fun v => v.category).sum ≤ 8) (hcs : cells ≤ Rm.cells ∧ slots ≤ Rm.slots) (hdg : decode cc pc = .ok (.invokestatic 15, 3))
    (kk : ∀ (v : Int32) (R' : mM) (H1 : Heap) (locs1 : List Loc), post v R' → mO G lo ad R' H1 → va_S (mA lo) s.heap H1 locs1 → W p l e Rm s m args below meth c H1 locs1 cells slots Q (F0 m (pc + 3) ls (.int v :: rest))) : W p l e Rm s m args below meth c H locs cells slots Q (F0 m pc ls st) := by
  obtain ⟨w2, w4, w5, hd⟩ := ok
  have hts := hF.2.2.2.2
  have hcn : va_CN Rm s args RX2 15 yX5_within RX5 bytes maxL (some ret) (mWs yX5_within bytes maxL (some ret)) (mRm fr lc) 0 0 n :=
    va_cnB n hts (mWs_good w5) rfl rfl rfl hC.2.2.2.1.2.2.2.2 (hts _ w4) hd hR
  exact va_calli (A0 := mA lo) (va_runSN (As := As) (rest := rest) hF hM ⟨hcn, hts _ w2, trivial⟩ ⟨mPc_blind, mc_pre hC hO hS⟩ rfl hn hsz hst (lv_room hw) hdg hcs) hS (fun _ _ h => h) (fun _ h => h) (fun v R' t H1 locs1 ht hvm hp hB hz1 hk1 hS1 => kk v R' H1 locs1 hp (by rw [← ht]; exact hB) hS1)
/-! Math.min, Math.max -/
def jmin (x y : Int32) : Int32 := if y < x then y else x
def jmax (x y : Int32) : Int32 := if x < y then y else x
theorem m_min (hF : mF p m c cc nL s args own) (hsz : ls.size = nL) (hl : (.methodLink own index Lib.Math.min.name : Cond) ∈ lw_all) (w1 : (.static Lib.Math.min.name : Cond) ∈ lw_all) (w2 : (.initialized "java/lang/Math" : Cond) ∈ lw_all) (w3 : (.code Lib.Math.min.name Lib.Math.min.code 2 (some .int) : Cond) ∈ lw_all)
    (hframes : 1 ≤ Rm.frames) (hlocals : (rest.map fun v => v.category).sum + 13 ≤ Rm.locals) (hcs : cells ≤ Rm.cells ∧ slots ≤ Rm.slots) {x y : Int32} (hdg : decode cc pc = .ok (.invokestatic index, 3))
    (kk : W p l e Rm s m args below meth c H locs cells slots Q (F0 m (pc + 3) ls (.int (jmin x y) :: rest))) : W p l e Rm s m args below meth c H locs cells slots Q (F0 m pc ls (.int y :: .int x :: rest)) :=
  va_mmin hF.1 hF.2.1 (hF.2.2.1.trans hsz.symm) hF.2.2.2.1 (hF.2.2.2.2 _ hl) (hF.2.2.2.2 _ w1) (hF.2.2.2.2 _ w2) (hF.2.2.2.2 _ w3) hframes hlocals hcs.1 hcs.2 hdg kk
theorem m_max (hF : mF p m c cc nL s args own) (hsz : ls.size = nL) (hl : (.methodLink own index Lib.Math.max.name : Cond) ∈ lw_all) (w1 : (.static Lib.Math.max.name : Cond) ∈ lw_all) (w2 : (.initialized "java/lang/Math" : Cond) ∈ lw_all) (w3 : (.code Lib.Math.max.name Lib.Math.max.code 2 (some .int) : Cond) ∈ lw_all)
    (hframes : 1 ≤ Rm.frames) (hlocals : (rest.map fun v => v.category).sum + 13 ≤ Rm.locals) (hcs : cells ≤ Rm.cells ∧ slots ≤ Rm.slots) {x y : Int32} (hdg : decode cc pc = .ok (.invokestatic index, 3))
    (kk : W p l e Rm s m args below meth c H locs cells slots Q (F0 m (pc + 3) ls (.int (jmax x y) :: rest))) : W p l e Rm s m args below meth c H locs cells slots Q (F0 m pc ls (.int y :: .int x :: rest)) :=
  va_mmax hF.1 hF.2.1 (hF.2.2.1.trans hsz.symm) hF.2.2.2.1 (hF.2.2.2.2 _ hl) (hF.2.2.2.2 _ w1) (hF.2.2.2.2 _ w2) (hF.2.2.2.2 _ w3) hframes hlocals hcs.1 hcs.2 hdg kk
end CALL
end
section
/-! ===== cells, and what one of them does (a word for word reading of the small methods) ===== -/
theorem mU_in1 {R : mM} {r v : Nat} {a b x : va_E} (h : r ≠ v) : mU (mU (mU R r a) v b) r x = mU (mU R r x) v b := by
  funext q
  by_cases h1 : q = r
  · subst h1; rw [mU_self, mU_ne h, mU_self]
  · rw [mU_ne h1]
    by_cases h2 : q = v
    · subst h2; rw [mU_self, mU_self]
    · rw [mU_ne h2, mU_ne h2, mU_ne h1, mU_ne h1]
theorem mU_in2 {R : mM} {r v w : Nat} {a b d x : va_E} (h2 : r ≠ w) (h1 : r ≠ v) : mU (mU (mU (mU R r a) v b) w d) r x = mU (mU (mU R r x) v b) w d := by
  rw [show mU (mU (mU (mU R r a) v b) w d) r x = mU (mU (mU (mU R r a) v b) r x) w d from by
    funext q
    by_cases e1 : q = r
    · subst e1; rw [mU_self, mU_ne h2, mU_self]
    · rw [mU_ne e1]
      by_cases e2 : q = w
      · subst e2; rw [mU_self, mU_self]
      · rw [mU_ne e2, mU_ne e2, mU_ne e1], mU_in1 h1]
def mBo (P : Prop) (v : Int32) : Prop := (v = 1 ∧ P) ∨ (v = 0 ∧ ¬ P)
theorem mBo_t {P : Prop} (h : P) : mBo P 1 := Or.inl ⟨rfl, h⟩
theorem mBo_f {P : Prop} (h : ¬ P) : mBo P 0 := Or.inr ⟨rfl, h⟩
abbrev frO (φ : Nat → Int32) : va_E := .inr (0, [.int (φ 0), .int (φ 1), .int (φ 2), .int (φ 3), .int (φ 4), .int (φ 5), .int (φ 6)])
abbrev vO (ν : Nat → Int32) : va_E := .inr (4, [.int (ν 0), .int (ν 1), .int (ν 2)])
theorem frO_congr {φ ψ : Nat → Int32} (h : ∀ i, i < 7 → φ i = ψ i) : frO φ = frO ψ := by
  simp only [frO]
  rw [h 0 (by decide), h 1 (by decide), h 2 (by decide), h 3 (by decide), h 4 (by decide), h 5 (by decide), h 6 (by decide)]
theorem vO_congr {φ ψ : Nat → Int32} (h : ∀ i, i < 3 → φ i = ψ i) : vO φ = vO ψ := by
  simp only [vO]
  rw [h 0 (by decide), h 1 (by decide), h 2 (by decide)]
theorem upd_at {f : Nat → Int32} {k : Nat} {x : Int32} : upd f k x k = x := by simp [upd]
theorem upd_no {f : Nat → Int32} {k j : Nat} {x : Int32} (h : j ≠ k) : upd f k x j = f j := by simp [upd, h]
/-- Vat.burn -/
def p_burn (lv h : Int32) : Int32 := jmax 0 (jmin 120 ((h + 6 * lv) - ((h + 6 * lv) - 20) / 10))
def p_burnV (ν : Nat → Int32) : Nat → Int32 := upd ν 1 (p_burn (ν 2) (ν 1))
/-- Vat.throwIn -/
def p_throwV (ν : Nat → Int32) (a : Int32) : Nat → Int32 := if 0 < ν 0 + a then upd (upd ν 1 ((ν 1 * ν 0 + 20 * a) / (ν 0 + a))) 0 (ν 0 + a) else upd ν 0 (ν 0 + a)
def p_backV (ν : Nat → Int32) (a : Int32) : Nat → Int32 := upd ν 0 (jmin 20000 (ν 0 + a))
/-- Frame.coolingOfPlace, cool, size -/
def p_cooling (φ : Nat → Int32) : Int32 := if φ 5 = -1 then 3 else if φ 5 < 6 then 12 else 6
def p_coolF (φ : Nat → Int32) : Nat → Int32 := upd φ 3 (jmax 0 (φ 3 - p_cooling φ))
def p_size (φ : Nat → Int32) : Int32 := jmin 9 (φ 2 / (if φ 4 = 0 then 40 else 80))
def p_wax (φ : Nat → Int32) (layer : Int32) : Int32 := layer * (8 + φ 0) * φ 1 / 10
def p_gain (φ : Nat → Int32) (h : Int32) : Int32 :=
  if 70 < φ 3 then 0 else jmin (if φ 0 = 3 then (if φ 2 = 0 then 12 - (h - 60) / 8 + 4 else 12 - (h - 60) / 8) + (-3) else (if φ 2 = 0 then 12 - (h - 60) / 8 + 4 else 12 - (h - 60) / 8)) (400 - φ 2)
/-- Frame.canBeDipped -/
abbrev p_can (φ ν : Nat → Int32) : Prop := φ 5 ≠ -1 ∧ 60 ≤ ν 1 ∧ p_wax φ (p_gain φ (ν 1)) ≤ ν 0
def p_meltF (φ : Nat → Int32) (h : Int32) : Nat → Int32 :=
  upd (if jmax 0 (φ 2 - (h - 55) / 5) = 0 then upd (upd φ 2 (jmax 0 (φ 2 - (h - 55) / 5))) 4 0 else upd φ 2 (jmax 0 (φ 2 - (h - 55) / 5))) 3 100
def p_upF (φ : Nat → Int32) (h : Int32) : Nat → Int32 :=
  upd (upd (if φ 2 ≠ 0 ∧ φ 3 < 10 then upd φ 4 1 else φ) 2 (φ 2 + p_gain φ h)) 3 (jmin 100 ((φ 3 + h) / 2))
def p_upV (φ ν : Nat → Int32) : Nat → Int32 := upd ν 0 (ν 0 - p_wax φ (p_gain φ (ν 1)))
def p_dipF (φ : Nat → Int32) (h : Int32) : Nat → Int32 := if 70 < φ 3 then p_meltF (upd φ 6 (φ 6 + 1)) h else p_upF (upd φ 6 (φ 6 + 1)) h
def p_dipV (φ ν : Nat → Int32) : Nat → Int32 := if 70 < φ 3 then ν else p_upV (upd φ 6 (φ 6 + 1)) ν
def p_renewF (φ : Nat → Int32) : Nat → Int32 := upd (upd (upd (upd φ 2 0) 3 0) 4 0) 6 0
theorem nI_inc (i : Nat) : nI i + Int32.ofInt 1 = nI (i + 1) := nI_1 i
theorem nI_mul (a b : Nat) : nI a * nI b = nI (a * b) := pk_mul a b
/-! Trial -/
def p_coolN : Nat → (Nat → Int32) → (Nat → Int32)
  | 0, φ => φ
  | n + 1, φ => p_coolN n (p_coolF φ)
def p_burnN : Nat → (Nat → Int32) → (Nat → Int32)
  | 0, ν => ν
  | n + 1, ν => p_burnN n (p_burnV ν)
def p_try : Nat → (Nat → Int32) → (Nat → Int32) → Int32
  | 0, φ, _ => φ 2
  | n + 1, φ, ν => if p_can φ ν then p_try n (p_dipF φ (ν 1)) (p_burnV (p_dipV φ ν)) else φ 2
def p_needL : Nat → Nat → Nat → Int32 → (Nat → Int32) → (Nat → Int32) → Int32
  | 0, _, _, _, _, _ => -1
  | f + 1, d, k, z, φ, ν => if p_can φ ν then (if z ≤ p_size (p_dipF φ (ν 1)) then nI d else p_needL f (d + 1) k z (p_coolN k (p_dipF φ (ν 1))) (p_burnN k (p_burnV (p_dipV φ ν)))) else -1
def p_need (k : Nat) (z : Int32) (φ ν : Nat → Int32) : Int32 := if z ≤ p_size φ then 0 else p_needL 60 1 k z φ ν
/-- Trial.quickestRest from the rest i on -/
def p_quickL : Nat → Nat → Int32 → Int32 → Int32 → (Nat → Int32) → (Nat → Int32) → Int32
  | 0, _, best, _, _, _, _ => best
  | f + 1, i, best, few, z, φ, ν =>
    if p_need i z φ ν = 0 then 0
    else if 0 < p_need i z φ ν ∧ (best < 0 ∨ p_need i z φ ν + (p_need i z φ ν - 1) * nI i < few) then p_quickL f (i + 1) (nI i) (p_need i z φ ν + (p_need i z φ ν - 1) * nI i) z φ ν
    else p_quickL f (i + 1) best few z φ ν
/-! Store -/
abbrev p_in (x a b : Int32) : Prop := a ≤ x ∧ x ≤ b
abbrev p_shelf (k z : Int32) : Prop := p_in k 0 3 ∧ p_in z 1 9
/-- shelves a .. of the kind k from the size b on, f of them -/
def p_from : Nat → (Nat → Int32) → Nat → Nat → Int32 → Int32
  | 0, _, _, _, acc => acc
  | n + 1, f, k, b, acc => p_from n f k (b + 1) (acc + f (9 * k + b - 1))
def p_amountFrom (f : Nat → Int32) (k b : Nat) : Int32 := p_from (10 - b) f k b 0
def p_sum : Nat → (Nat → Int32) → Nat → Int32 → Int32
  | 0, _, _, acc => acc
  | n + 1, f, i, acc => p_sum n f (i + 1) (acc + f i)
def p_takeL : Nat → (Nat → Int32) → Nat → Nat → Int32 → (Nat → Int32)
  | 0, f, _, _, _ => f
  | n + 1, f, k, b, w => p_takeL n (upd f (9 * k + b - 1) (f (9 * k + b - 1) + -(jmin w (f (9 * k + b - 1))))) k (b + 1) (w - jmin w (f (9 * k + b - 1)))
def p_take (f : Nat → Int32) (k b : Nat) (w : Int32) : Nat → Int32 := p_takeL (10 - b) f k b w
theorem p_in_nI {a x b : Nat} (ha : a ≤ x) (hb : x ≤ b) (h : b < 2 ^ 31) : p_in (nI x) (nI a) (nI b) := ⟨nI_le ha (by omega), nI_le hb h⟩
theorem p_shelf_nI {k z : Nat} (hk : k < 4) (h1 : 1 ≤ z) (h9 : z ≤ 9) : p_shelf (nI k) (nI z) := ⟨p_in_nI (Nat.zero_le k) (by omega : k ≤ 3) (by decide), p_in_nI h1 h9 (by decide)⟩
theorem p_ix {k z : Nat} (hz : 1 ≤ z) : nI k * 9 + nI z - 1 = nI (9 * k + z - 1) := by
  rw [show (9 : Int32) = nI 9 from rfl, pk_mul, nI_add, show (1 : Int32) = nI 1 from rfl, pk_sub (by omega), Nat.mul_comm]
theorem nI_L {a b : Nat} (ha : a < 2 ^ 31) (hb : b < 2 ^ 31) (h : nI a < nI b) : a < b := (nI_ltI ha hb).mp h
theorem nI_nL {a b : Nat} (ha : a < 2 ^ 31) (hb : b < 2 ^ 31) (h : ¬ nI a < nI b) : b ≤ a := Nat.not_lt.mp fun q => h ((nI_ltI ha hb).mpr q)
theorem nI_E {a b : Nat} (ha : a < 2 ^ 31) (hb : b < 2 ^ 31) (h : nI a ≤ nI b) : a ≤ b := (nI_leI ha hb).mp h
theorem nI_nE {a b : Nat} (ha : a < 2 ^ 31) (hb : b < 2 ^ 31) (h : ¬ nI a ≤ nI b) : b < a := Nat.not_le.mp fun q => h ((nI_leI ha hb).mpr q)
abbrev orO (ω : Nat → Int32) : va_E := .inr (1, [.int (ω 0), .int (ω 1), .int (ω 2), .int (ω 3), .int (ω 4)])
theorem orO_congr {φ ψ : Nat → Int32} (h : ∀ i, i < 5 → φ i = ψ i) : orO φ = orO ψ := by
  simp only [orO]
  rw [h 0 (by decide), h 1 (by decide), h 2 (by decide), h 3 (by decide), h 4 (by decide)]
theorem mU_sw {X : mM} {r v : Nat} {b x : va_E} (h : r ≠ v) : mU (mU X v b) r x = mU (mU X r x) v b := by
  funext q
  by_cases h1 : q = r
  · subst h1; rw [mU_self, mU_ne h, mU_self]
  · rw [mU_ne h1]
    by_cases h2 : q = v
    · subst h2; rw [mU_self, mU_self]
    · rw [mU_ne h2, mU_ne h2, mU_ne h1]
end
section
theorem ok_X4_isMelted : mOK RX4 yX4_isMelted cX4_isMelted 1 (some .boolean) 0 := ⟨q_152, q_153, q_2, q_154, by decide +kernel⟩
set_option maxHeartbeats 400000 in
set_option maxRecDepth 100000 in
theorem k_X4_isMelted (l : Launch) (G : mG) (lo : Nat) (sa ad : Nat → Nat) (R : mM) (r : Nat) (ν : Nat → Int32) (h0 : R r = some (vO ν)) : mI l yX4_isMelted cX4_isMelted 1 .boolean 0 0 G lo sa ad R [.ref (ad r)] (fun v R' => mBo (60 ≤ ν 1) v ∧ R' = R) := by
  refine mI_of (by decide) (Nat.le_of_ble_eq_true rfl) ?_
  intro p e s m args below meth c hF hr hlk hC ls hl hO hS Q hQ
  have hx := hF.1
  have hb := hF.2.1
  have hl : lv_has ls 1 [(0, .ref (ad r))] := hl
  have hO : mO G lo ad (mU R r (vO ν)) s.heap := by
    rw [mU_id h0]
    exact hO
  refine lv_aload_n hx hb dX4_isMelted_0 rfl (lv_at hl 0 rfl) ?_
  refine m_get inX4 hF hC hO (mU_self) rfl 1 (by decide) q_33 (v := .int (ν 1)) rfl dX4_isMelted_1 ?_
  refine lv_bipush (v := 60) hx hb dX4_isMelted_4 (by decide) ?_
  refine lv_icmp_lt (tgt := 13) hx hb dX4_isMelted_6 (by decide) (fun c6 => ?_) (fun c6 => ?_)
  · refine lv_iconst (v := 0) hx hb dX4_isMelted_13 (by decide) ?_
    rw [mU_id (show R r = some (vO ν) from h0)] at hO
    refine m_iret hF hr hlk hQ rfl hO hS dX4_isMelted_14 ?_
    exact ⟨mBo_f (Int32.not_le.mpr c6), rfl⟩
  · refine lv_iconst (v := 1) hx hb dX4_isMelted_9 (by decide) ?_
    refine lv_goto (tgt := 14) hx hb dX4_isMelted_10 (by decide) ?_
    rw [mU_id (show R r = some (vO ν) from h0)] at hO
    refine m_iret hF hr hlk hQ rfl hO hS dX4_isMelted_14 ?_
    exact ⟨mBo_t (Int32.not_lt.mp c6), rfl⟩
theorem ok_X4_throwIn : mOK RX4 yX4_throwIn cX4_throwIn 3 none 1 := ⟨q_394, q_395, q_2, q_396, by decide +kernel⟩
set_option maxHeartbeats 400000 in
set_option maxRecDepth 100000 in
theorem k_X4_throwIn (l : Launch) (G : mG) (lo : Nat) (sa ad : Nat → Nat) (R : mM) (r : Nat) (ν : Nat → Int32) (a : Int32) (h0 : R r = some (vO ν)) : mV l yX4_throwIn cX4_throwIn 3 0 0 G lo sa ad R [.ref (ad r), .int a] (fun R' => R' = (mU R r (vO (p_throwV ν a)))) := by
  refine mV_of (by decide) (Nat.le_of_ble_eq_true rfl) ?_
  intro p e s m args below meth c hF hr hlk hC ls hl hO hS Q hQ
  have hx := hF.1
  have hb := hF.2.1
  have hl : lv_has ls 3 [(0, .ref (ad r)), (1, .int a)] := hl
  have hO : mO G lo ad (mU R r (vO ν)) s.heap := by
    rw [mU_id h0]
    exact hO
  refine lv_aload_n hx hb dX4_throwIn_0 rfl (lv_at hl 0 rfl) ?_
  refine m_get inX4 hF hC hO (mU_self) rfl 0 (by decide) q_31 (v := .int (ν 0)) rfl dX4_throwIn_1 ?_
  refine lv_iload_n hx hb dX4_throwIn_4 rfl (lv_at hl 1 rfl) ?_
  refine lv_iadd hx hb dX4_throwIn_5 ?_
  refine lv_istore_n (lv' := [(2, .int ((ν 0) + a)), (0, .ref (ad r)), (1, .int a)]) hx hb dX4_throwIn_6 rfl hl (by decide) rfl (fun ls hl => ?_)
  refine lv_iload_n hx hb dX4_throwIn_7 rfl (lv_at hl 0 rfl) ?_
  refine lv_if_le (tgt := 31) hx hb dX4_throwIn_8 (by decide) (fun c8 => ?_) (fun c8 => ?_)
  · refine lv_aload_n hx hb dX4_throwIn_31 rfl (lv_at hl 1 rfl) ?_
    refine lv_iload_n hx hb dX4_throwIn_32 rfl (lv_at hl 0 rfl) ?_
    refine m_put (ty := .int) tyX4 tyX4_ok nmX4 inX4 hF hC hO hS (mU_self) rfl 0 (by decide) q_31 rfl (by decide +kernel) rfl rfl (fs' := [.int ((ν 0) + a), .int (ν 1), .int (ν 2)]) (Nat.le_of_ble_eq_true rfl) rfl dX4_throwIn_33 (fun H locs hO hS => ?_)
    have hO : mO G lo ad (mU (mU R r (vO ν)) r (vO (upd ν 0 ((ν 0) + a)))) H := hO
    rw [mU_mU] at hO
    refine m_vret hF hr hlk hQ hO hS dX4_throwIn_36 ?_
    first | (rw [p_throwV, if_pos (Int32.not_le.mp c8)]; done) | (rw [p_throwV, if_neg (Int32.not_lt.mpr c8)]; done)
  · refine lv_aload_n hx hb dX4_throwIn_11 rfl (lv_at hl 1 rfl) ?_
    refine lv_aload_n hx hb dX4_throwIn_12 rfl (lv_at hl 1 rfl) ?_
    refine m_get inX4 hF hC hO (mU_self) rfl 1 (by decide) q_33 (v := .int (ν 1)) rfl dX4_throwIn_13 ?_
    refine lv_aload_n hx hb dX4_throwIn_16 rfl (lv_at hl 1 rfl) ?_
    refine m_get inX4 hF hC hO (mU_self) rfl 0 (by decide) q_31 (v := .int (ν 0)) rfl dX4_throwIn_17 ?_
    refine lv_imul hx hb dX4_throwIn_20 ?_
    refine lv_bipush (v := 20) hx hb dX4_throwIn_21 (by decide) ?_
    refine lv_iload_n hx hb dX4_throwIn_23 rfl (lv_at hl 2 rfl) ?_
    refine lv_imul hx hb dX4_throwIn_24 ?_
    refine lv_iadd hx hb dX4_throwIn_25 ?_
    refine lv_iload_n hx hb dX4_throwIn_26 rfl (lv_at hl 0 rfl) ?_
    refine lv_idiv hx hb dX4_throwIn_27 (fun h => c8 (by rw [h]; decide)) ?_
    refine m_put (ty := .int) tyX4 tyX4_ok nmX4 inX4 hF hC hO hS (mU_self) rfl 1 (by decide) q_33 rfl (by decide +kernel) rfl rfl (fs' := [.int (ν 0), .int ((((ν 1) * (ν 0)) + (20 * a)) / ((ν 0) + a)), .int (ν 2)]) (Nat.le_of_ble_eq_true rfl) rfl dX4_throwIn_28 (fun H locs hO hS => ?_)
    have hO : mO G lo ad (mU (mU R r (vO ν)) r (vO (upd ν 1 ((((ν 1) * (ν 0)) + (20 * a)) / ((ν 0) + a))))) H := hO
    rw [mU_mU] at hO
    refine lv_aload_n hx hb dX4_throwIn_31 rfl (lv_at hl 1 rfl) ?_
    refine lv_iload_n hx hb dX4_throwIn_32 rfl (lv_at hl 0 rfl) ?_
    refine m_put (ty := .int) tyX4 tyX4_ok nmX4 inX4 hF hC hO hS (mU_self) rfl 0 (by decide) q_31 rfl (by decide +kernel) rfl rfl (fs' := [.int ((ν 0) + a), .int ((((ν 1) * (ν 0)) + (20 * a)) / ((ν 0) + a)), .int (ν 2)]) (Nat.le_of_ble_eq_true rfl) rfl dX4_throwIn_33 (fun H locs hO hS => ?_)
    have hO : mO G lo ad (mU (mU R r (vO (upd ν 1 ((((ν 1) * (ν 0)) + (20 * a)) / ((ν 0) + a))))) r (vO (upd (upd ν 1 ((((ν 1) * (ν 0)) + (20 * a)) / ((ν 0) + a))) 0 ((ν 0) + a)))) H := hO
    rw [mU_mU] at hO
    refine m_vret hF hr hlk hQ hO hS dX4_throwIn_36 ?_
    first | (rw [p_throwV, if_pos (Int32.not_le.mp c8)]; done) | (rw [p_throwV, if_neg (Int32.not_lt.mpr c8)]; done)
theorem ok_X4_takeBack : mOK RX4 yX4_takeBack cX4_takeBack 2 none 1 := ⟨q_501, q_502, q_2, q_503, by decide +kernel⟩
set_option maxHeartbeats 400000 in
set_option maxRecDepth 100000 in
theorem k_X4_takeBack (l : Launch) (G : mG) (lo : Nat) (sa ad : Nat → Nat) (R : mM) (r : Nat) (ν : Nat → Int32) (a : Int32) (h0 : R r = some (vO ν)) : mV l yX4_takeBack cX4_takeBack 2 1 21 G lo sa ad R [.ref (ad r), .int a] (fun R' => R' = (mU R r (vO (p_backV ν a)))) := by
  refine mV_of (by decide) (Nat.le_of_ble_eq_true rfl) ?_
  intro p e s m args below meth c hF hr hlk hC ls hl hO hS Q hQ
  have hx := hF.1
  have hb := hF.2.1
  have hl : lv_has ls 2 [(0, .ref (ad r)), (1, .int a)] := hl
  have hO : mO G lo ad (mU R r (vO ν)) s.heap := by
    rw [mU_id h0]
    exact hO
  refine lv_aload_n hx hb dX4_takeBack_0 rfl (lv_at hl 0 rfl) ?_
  refine lv_sipush (v := 20000) hx hb dX4_takeBack_1 (by decide) ?_
  refine lv_aload_n hx hb dX4_takeBack_4 rfl (lv_at hl 0 rfl) ?_
  refine m_get inX4 hF hC hO (mU_self) rfl 0 (by decide) q_31 (v := .int (ν 0)) rfl dX4_takeBack_5 ?_
  refine lv_iload_n hx hb dX4_takeBack_8 rfl (lv_at hl 1 rfl) ?_
  refine lv_iadd hx hb dX4_takeBack_9 ?_
  refine m_min hF hl.1 q_472 q_168 q_14 q_169 (Nat.le_of_ble_eq_true rfl) (Nat.le_of_ble_eq_true rfl) ⟨Nat.le_of_ble_eq_true rfl, Nat.le_of_ble_eq_true rfl⟩ dX4_takeBack_10 ?_
  refine m_put (ty := .int) tyX4 tyX4_ok nmX4 inX4 hF hC hO hS (mU_self) rfl 0 (by decide) q_31 rfl (by decide +kernel) rfl rfl (fs' := [.int (jmin 20000 ((ν 0) + a)), .int (ν 1), .int (ν 2)]) (Nat.le_of_ble_eq_true rfl) rfl dX4_takeBack_13 (fun H locs hO hS => ?_)
  have hO : mO G lo ad (mU (mU R r (vO ν)) r (vO (upd ν 0 (jmin 20000 ((ν 0) + a))))) H := hO
  rw [mU_mU] at hO
  refine m_vret hF hr hlk hQ hO hS dX4_takeBack_16 ?_
  rfl
theorem ok_X4_burn : mOK RX4 yX4_burn cX4_burn 3 none 0 := ⟨q_469, q_470, q_2, q_471, by decide +kernel⟩
set_option maxHeartbeats 400000 in
set_option maxRecDepth 100000 in
theorem k_X4_burn (l : Launch) (G : mG) (lo : Nat) (sa ad : Nat → Nat) (R : mM) (r : Nat) (ν : Nat → Int32) (h0 : R r = some (vO ν)) : mV l yX4_burn cX4_burn 3 1 21 G lo sa ad R [.ref (ad r)] (fun R' => R' = (mU R r (vO (p_burnV ν)))) := by
  refine mV_of (by decide) (Nat.le_of_ble_eq_true rfl) ?_
  intro p e s m args below meth c hF hr hlk hC ls hl hO hS Q hQ
  have hx := hF.1
  have hb := hF.2.1
  have hl : lv_has ls 3 [(0, .ref (ad r))] := hl
  have hO : mO G lo ad (mU R r (vO ν)) s.heap := by
    rw [mU_id h0]
    exact hO
  refine lv_aload_n hx hb dX4_burn_0 rfl (lv_at hl 0 rfl) ?_
  refine m_get inX4 hF hC hO (mU_self) rfl 1 (by decide) q_33 (v := .int (ν 1)) rfl dX4_burn_1 ?_
  refine lv_bipush (v := 6) hx hb dX4_burn_4 (by decide) ?_
  refine lv_aload_n hx hb dX4_burn_6 rfl (lv_at hl 0 rfl) ?_
  refine m_get inX4 hF hC hO (mU_self) rfl 2 (by decide) q_37 (v := .int (ν 2)) rfl dX4_burn_7 ?_
  refine lv_imul hx hb dX4_burn_10 ?_
  refine lv_iadd hx hb dX4_burn_11 ?_
  refine lv_istore_n (lv' := [(1, .int ((ν 1) + (6 * (ν 2)))), (0, .ref (ad r))]) hx hb dX4_burn_12 rfl hl (by decide) rfl (fun ls hl => ?_)
  refine lv_iload_n hx hb dX4_burn_13 rfl (lv_at hl 0 rfl) ?_
  refine lv_iload_n hx hb dX4_burn_14 rfl (lv_at hl 0 rfl) ?_
  refine lv_bipush (v := 20) hx hb dX4_burn_15 (by decide) ?_
  refine lv_isub hx hb dX4_burn_17 ?_
  refine lv_bipush (v := 10) hx hb dX4_burn_18 (by decide) ?_
  refine lv_idiv hx hb dX4_burn_20 (by decide) ?_
  refine lv_isub hx hb dX4_burn_21 ?_
  refine lv_istore_n (lv' := [(2, .int (((ν 1) + (6 * (ν 2))) - ((((ν 1) + (6 * (ν 2))) - 20) / 10))), (1, .int ((ν 1) + (6 * (ν 2)))), (0, .ref (ad r))]) hx hb dX4_burn_22 rfl hl (by decide) rfl (fun ls hl => ?_)
  refine lv_aload_n hx hb dX4_burn_23 rfl (lv_at hl 2 rfl) ?_
  refine lv_iconst (v := 0) hx hb dX4_burn_24 (by decide) ?_
  refine lv_bipush (v := 120) hx hb dX4_burn_25 (by decide) ?_
  refine lv_iload_n hx hb dX4_burn_27 rfl (lv_at hl 0 rfl) ?_
  refine m_min hF hl.1 q_472 q_168 q_14 q_169 (Nat.le_of_ble_eq_true rfl) (Nat.le_of_ble_eq_true rfl) ⟨Nat.le_of_ble_eq_true rfl, Nat.le_of_ble_eq_true rfl⟩ dX4_burn_28 ?_
  refine m_max hF hl.1 q_473 q_458 q_14 q_459 (Nat.le_of_ble_eq_true rfl) (Nat.le_of_ble_eq_true rfl) ⟨Nat.le_of_ble_eq_true rfl, Nat.le_of_ble_eq_true rfl⟩ dX4_burn_31 ?_
  refine m_put (ty := .int) tyX4 tyX4_ok nmX4 inX4 hF hC hO hS (mU_self) rfl 1 (by decide) q_33 rfl (by decide +kernel) rfl rfl (fs' := [.int (ν 0), .int (jmax 0 (jmin 120 (((ν 1) + (6 * (ν 2))) - ((((ν 1) + (6 * (ν 2))) - 20) / 10)))), .int (ν 2)]) (Nat.le_of_ble_eq_true rfl) rfl dX4_burn_34 (fun H locs hO hS => ?_)
  have hO : mO G lo ad (mU (mU R r (vO ν)) r (vO (upd ν 1 (jmax 0 (jmin 120 (((ν 1) + (6 * (ν 2))) - ((((ν 1) + (6 * (ν 2))) - 20) / 10))))))) H := hO
  rw [mU_mU] at hO
  refine m_vret hF hr hlk hQ hO hS dX4_burn_37 ?_
  rfl
theorem ok_X0_hangs : mOK RX0 yX0_hangs cX0_hangs 1 (some .boolean) 0 := ⟨q_148, q_149, q_5, q_150, by decide +kernel⟩
set_option maxHeartbeats 400000 in
set_option maxRecDepth 100000 in
theorem k_X0_hangs (l : Launch) (G : mG) (lo : Nat) (sa ad : Nat → Nat) (R : mM) (r : Nat) (φ : Nat → Int32) (h0 : R r = some (frO φ)) : mI l yX0_hangs cX0_hangs 1 .boolean 0 0 G lo sa ad R [.ref (ad r)] (fun v R' => mBo (φ 5 ≠ -1) v ∧ R' = R) := by
  refine mI_of (by decide) (Nat.le_of_ble_eq_true rfl) ?_
  intro p e s m args below meth c hF hr hlk hC ls hl hO hS Q hQ
  have hx := hF.1
  have hb := hF.2.1
  have hl : lv_has ls 1 [(0, .ref (ad r))] := hl
  have hO : mO G lo ad (mU R r (frO φ)) s.heap := by
    rw [mU_id h0]
    exact hO
  refine lv_aload_n hx hb dX0_hangs_0 rfl (lv_at hl 0 rfl) ?_
  refine m_get inX0 hF hC hO (mU_self) rfl 5 (by decide) q_83 (v := .int (φ 5)) rfl dX0_hangs_1 ?_
  refine lv_iconst (v := -1) hx hb dX0_hangs_4 (by decide) ?_
  refine lv_icmp_eq (tgt := 12) hx hb dX0_hangs_5 (by decide) (fun c5 => ?_) (fun c5 => ?_)
  · refine lv_iconst (v := 0) hx hb dX0_hangs_12 (by decide) ?_
    rw [mU_id (show R r = some (frO φ) from h0)] at hO
    refine m_iret hF hr hlk hQ rfl hO hS dX0_hangs_13 ?_
    exact ⟨mBo_f (fun h => h c5), rfl⟩
  · refine lv_iconst (v := 1) hx hb dX0_hangs_8 (by decide) ?_
    refine lv_goto (tgt := 13) hx hb dX0_hangs_9 (by decide) ?_
    rw [mU_id (show R r = some (frO φ) from h0)] at hO
    refine m_iret hF hr hlk hQ rfl hO hS dX0_hangs_13 ?_
    exact ⟨mBo_t c5, rfl⟩
theorem ok_X0_isBare : mOK RX0 yX0_isBare cX0_isBare 1 (some .boolean) 0 := ⟨q_164, q_165, q_5, q_166, by decide +kernel⟩
set_option maxHeartbeats 400000 in
set_option maxRecDepth 100000 in
theorem k_X0_isBare (l : Launch) (G : mG) (lo : Nat) (sa ad : Nat → Nat) (R : mM) (r : Nat) (φ : Nat → Int32) (h0 : R r = some (frO φ)) : mI l yX0_isBare cX0_isBare 1 .boolean 0 0 G lo sa ad R [.ref (ad r)] (fun v R' => mBo (φ 2 = 0) v ∧ R' = R) := by
  refine mI_of (by decide) (Nat.le_of_ble_eq_true rfl) ?_
  intro p e s m args below meth c hF hr hlk hC ls hl hO hS Q hQ
  have hx := hF.1
  have hb := hF.2.1
  have hl : lv_has ls 1 [(0, .ref (ad r))] := hl
  have hO : mO G lo ad (mU R r (frO φ)) s.heap := by
    rw [mU_id h0]
    exact hO
  refine lv_aload_n hx hb dX0_isBare_0 rfl (lv_at hl 0 rfl) ?_
  refine m_get inX0 hF hC hO (mU_self) rfl 2 (by decide) q_77 (v := .int (φ 2)) rfl dX0_isBare_1 ?_
  refine lv_if_ne (tgt := 11) hx hb dX0_isBare_4 (by decide) (fun c4 => ?_) (fun c4 => ?_)
  · refine lv_iconst (v := 0) hx hb dX0_isBare_11 (by decide) ?_
    rw [mU_id (show R r = some (frO φ) from h0)] at hO
    refine m_iret hF hr hlk hQ rfl hO hS dX0_isBare_12 ?_
    exact ⟨mBo_f c4, rfl⟩
  · refine lv_iconst (v := 1) hx hb dX0_isBare_7 (by decide) ?_
    refine lv_goto (tgt := 12) hx hb dX0_isBare_8 (by decide) ?_
    rw [mU_id (show R r = some (frO φ) from h0)] at hO
    refine m_iret hF hr hlk hQ rfl hO hS dX0_isBare_12 ?_
    exact ⟨mBo_t c4, rfl⟩
theorem ok_X0_isTooWarmToCut : mOK RX0 yX0_isTooWarmToCut cX0_isTooWarmToCut 1 (some .boolean) 0 := ⟨q_495, q_496, q_5, q_497, by decide +kernel⟩
set_option maxHeartbeats 400000 in
set_option maxRecDepth 100000 in
theorem k_X0_isTooWarmToCut (l : Launch) (G : mG) (lo : Nat) (sa ad : Nat → Nat) (R : mM) (r : Nat) (φ : Nat → Int32) (h0 : R r = some (frO φ)) : mI l yX0_isTooWarmToCut cX0_isTooWarmToCut 1 .boolean 0 0 G lo sa ad R [.ref (ad r)] (fun v R' => mBo (20 < φ 3) v ∧ R' = R) := by
  refine mI_of (by decide) (Nat.le_of_ble_eq_true rfl) ?_
  intro p e s m args below meth c hF hr hlk hC ls hl hO hS Q hQ
  have hx := hF.1
  have hb := hF.2.1
  have hl : lv_has ls 1 [(0, .ref (ad r))] := hl
  have hO : mO G lo ad (mU R r (frO φ)) s.heap := by
    rw [mU_id h0]
    exact hO
  refine lv_aload_n hx hb dX0_isTooWarmToCut_0 rfl (lv_at hl 0 rfl) ?_
  refine m_get inX0 hF hC hO (mU_self) rfl 3 (by decide) q_79 (v := .int (φ 3)) rfl dX0_isTooWarmToCut_1 ?_
  refine lv_bipush (v := 20) hx hb dX0_isTooWarmToCut_4 (by decide) ?_
  refine lv_icmp_le (tgt := 13) hx hb dX0_isTooWarmToCut_6 (by decide) (fun c6 => ?_) (fun c6 => ?_)
  · refine lv_iconst (v := 0) hx hb dX0_isTooWarmToCut_13 (by decide) ?_
    rw [mU_id (show R r = some (frO φ) from h0)] at hO
    refine m_iret hF hr hlk hQ rfl hO hS dX0_isTooWarmToCut_14 ?_
    exact ⟨mBo_f (Int32.not_lt.mpr c6), rfl⟩
  · refine lv_iconst (v := 1) hx hb dX0_isTooWarmToCut_9 (by decide) ?_
    refine lv_goto (tgt := 14) hx hb dX0_isTooWarmToCut_10 (by decide) ?_
    rw [mU_id (show R r = some (frO φ) from h0)] at hO
    refine m_iret hF hr hlk hQ rfl hO hS dX0_isTooWarmToCut_14 ?_
    exact ⟨mBo_t (Int32.not_le.mp c6), rfl⟩
theorem ok_X0_meltsWhenDipped : mOK RX0 yX0_meltsWhenDipped cX0_meltsWhenDipped 1 (some .boolean) 0 := ⟨q_160, q_161, q_5, q_162, by decide +kernel⟩
set_option maxHeartbeats 400000 in
set_option maxRecDepth 100000 in
theorem k_X0_meltsWhenDipped (l : Launch) (G : mG) (lo : Nat) (sa ad : Nat → Nat) (R : mM) (r : Nat) (φ : Nat → Int32) (h0 : R r = some (frO φ)) : mI l yX0_meltsWhenDipped cX0_meltsWhenDipped 1 .boolean 0 0 G lo sa ad R [.ref (ad r)] (fun v R' => mBo (70 < φ 3) v ∧ R' = R) := by
  refine mI_of (by decide) (Nat.le_of_ble_eq_true rfl) ?_
  intro p e s m args below meth c hF hr hlk hC ls hl hO hS Q hQ
  have hx := hF.1
  have hb := hF.2.1
  have hl : lv_has ls 1 [(0, .ref (ad r))] := hl
  have hO : mO G lo ad (mU R r (frO φ)) s.heap := by
    rw [mU_id h0]
    exact hO
  refine lv_aload_n hx hb dX0_meltsWhenDipped_0 rfl (lv_at hl 0 rfl) ?_
  refine m_get inX0 hF hC hO (mU_self) rfl 3 (by decide) q_79 (v := .int (φ 3)) rfl dX0_meltsWhenDipped_1 ?_
  refine lv_bipush (v := 70) hx hb dX0_meltsWhenDipped_4 (by decide) ?_
  refine lv_icmp_le (tgt := 13) hx hb dX0_meltsWhenDipped_6 (by decide) (fun c6 => ?_) (fun c6 => ?_)
  · refine lv_iconst (v := 0) hx hb dX0_meltsWhenDipped_13 (by decide) ?_
    rw [mU_id (show R r = some (frO φ) from h0)] at hO
    refine m_iret hF hr hlk hQ rfl hO hS dX0_meltsWhenDipped_14 ?_
    exact ⟨mBo_f (Int32.not_lt.mpr c6), rfl⟩
  · refine lv_iconst (v := 1) hx hb dX0_meltsWhenDipped_9 (by decide) ?_
    refine lv_goto (tgt := 14) hx hb dX0_meltsWhenDipped_10 (by decide) ?_
    rw [mU_id (show R r = some (frO φ) from h0)] at hO
    refine m_iret hF hr hlk hQ rfl hO hS dX0_meltsWhenDipped_14 ?_
    exact ⟨mBo_t (Int32.not_le.mp c6), rfl⟩
theorem ok_X0_waxOf : mOK RX0 yX0_waxOf cX0_waxOf 2 (some .int) 1 := ⟨q_171, q_172, q_5, q_173, by decide +kernel⟩
set_option maxHeartbeats 400000 in
set_option maxRecDepth 100000 in
theorem k_X0_waxOf (l : Launch) (G : mG) (lo : Nat) (sa ad : Nat → Nat) (R : mM) (r : Nat) (φ : Nat → Int32) (n : Int32) (h0 : R r = some (frO φ)) : mI l yX0_waxOf cX0_waxOf 2 .int 0 0 G lo sa ad R [.ref (ad r), .int n] (fun v R' => v = (p_wax φ n) ∧ R' = R) := by
  refine mI_of (by decide) (Nat.le_of_ble_eq_true rfl) ?_
  intro p e s m args below meth c hF hr hlk hC ls hl hO hS Q hQ
  have hx := hF.1
  have hb := hF.2.1
  have hl : lv_has ls 2 [(0, .ref (ad r)), (1, .int n)] := hl
  have hO : mO G lo ad (mU R r (frO φ)) s.heap := by
    rw [mU_id h0]
    exact hO
  refine lv_iload_n hx hb dX0_waxOf_0 rfl (lv_at hl 1 rfl) ?_
  refine lv_bipush (v := 8) hx hb dX0_waxOf_1 (by decide) ?_
  refine lv_aload_n hx hb dX0_waxOf_3 rfl (lv_at hl 0 rfl) ?_
  refine m_get inX0 hF hC hO (mU_self) rfl 0 (by decide) q_72 (v := .int (φ 0)) rfl dX0_waxOf_4 ?_
  refine lv_iadd hx hb dX0_waxOf_7 ?_
  refine lv_imul hx hb dX0_waxOf_8 ?_
  refine lv_aload_n hx hb dX0_waxOf_9 rfl (lv_at hl 0 rfl) ?_
  refine m_get inX0 hF hC hO (mU_self) rfl 1 (by decide) q_74 (v := .int (φ 1)) rfl dX0_waxOf_10 ?_
  refine lv_imul hx hb dX0_waxOf_13 ?_
  refine lv_bipush (v := 10) hx hb dX0_waxOf_14 (by decide) ?_
  refine lv_idiv hx hb dX0_waxOf_16 (by decide) ?_
  rw [mU_id (show R r = some (frO φ) from h0)] at hO
  refine m_iret hF hr hlk hQ rfl hO hS dX0_waxOf_17 ?_
  exact ⟨rfl, rfl⟩
theorem ok_X0_gain : mOK RX0 yX0_gain cX0_gain 3 (some .int) 1 := ⟨q_156, q_157, q_5, q_158, by decide +kernel⟩
set_option maxHeartbeats 400000 in
set_option maxRecDepth 100000 in
theorem k_X0_gain (l : Launch) (G : mG) (lo : Nat) (sa ad : Nat → Nat) (R : mM) (r : Nat) (φ : Nat → Int32) (h : Int32) (h0 : R r = some (frO φ)) : mI l yX0_gain cX0_gain 3 .int 1 21 G lo sa ad R [.ref (ad r), .int h] (fun v R' => v = (p_gain φ h) ∧ R' = R) := by
  refine mI_of (by decide) (Nat.le_of_ble_eq_true rfl) ?_
  intro p e s m args below meth c hF hr hlk hC ls hl hO hS Q hQ
  have hx := hF.1
  have hb := hF.2.1
  have hl : lv_has ls 3 [(0, .ref (ad r)), (1, .int h)] := hl
  have hO : mO G lo ad (mU R r (frO φ)) s.heap := by
    rw [mU_id h0]
    exact hO
  refine lv_aload_n hx hb dX0_gain_0 rfl (lv_at hl 0 rfl) ?_
  refine m_vI (As := []) (rest := []) (n := 0) hF hC hO hS (k_X0_meltsWhenDipped l G lo sa ad _ r φ (mU_self)) ok_X0_meltsWhenDipped q_159 (mU_self) rfl ⟨Nat.le_of_ble_eq_true rfl, Nat.le_of_ble_eq_true rfl⟩ rfl hl.1 rfl (Nat.le_of_ble_eq_true rfl) ⟨Nat.le_of_ble_eq_true rfl, Nat.le_of_ble_eq_true rfl⟩ dX0_gain_1 (fun v1 R' H locs hp hO hS => ?_)
  obtain ⟨⟨rfl, b1⟩ | ⟨rfl, b1⟩, hR⟩ := hp
  · rw [hR] at hO
    refine lv_if_eq (tgt := 9) hx hb dX0_gain_4 (by decide) (fun c4 => absurd c4 (by decide)) (fun c4 => ?_)
    refine lv_iconst (v := 0) hx hb dX0_gain_7 (by decide) ?_
    rw [mU_id (show R r = some (frO φ) from h0)] at hO
    refine m_iret hF hr hlk hQ rfl hO hS dX0_gain_8 ?_
    exact ⟨(if_pos b1).symm, rfl⟩
  · rw [hR] at hO
    refine lv_if_eq (tgt := 9) hx hb dX0_gain_4 (by decide) (fun c4 => ?_) (fun c4 => absurd (by decide) c4)
    refine lv_bipush (v := 12) hx hb dX0_gain_9 (by decide) ?_
    refine lv_iload_n hx hb dX0_gain_11 rfl (lv_at hl 1 rfl) ?_
    refine lv_bipush (v := 60) hx hb dX0_gain_12 (by decide) ?_
    refine lv_isub hx hb dX0_gain_14 ?_
    refine lv_bipush (v := 8) hx hb dX0_gain_15 (by decide) ?_
    refine lv_idiv hx hb dX0_gain_17 (by decide) ?_
    refine lv_isub hx hb dX0_gain_18 ?_
    refine lv_istore_n (lv' := [(2, .int (12 - ((h - 60) / 8))), (0, .ref (ad r)), (1, .int h)]) hx hb dX0_gain_19 rfl hl (by decide) rfl (fun ls hl => ?_)
    refine lv_aload_n hx hb dX0_gain_20 rfl (lv_at hl 1 rfl) ?_
    refine m_vI (As := []) (rest := []) (n := 0) hF hC hO hS (k_X0_isBare l G lo sa ad _ r φ (mU_self)) ok_X0_isBare q_163 (mU_self) rfl ⟨Nat.le_of_ble_eq_true rfl, Nat.le_of_ble_eq_true rfl⟩ rfl hl.1 rfl (Nat.le_of_ble_eq_true rfl) ⟨Nat.le_of_ble_eq_true rfl, Nat.le_of_ble_eq_true rfl⟩ dX0_gain_21 (fun v21 R' H locs hp hO hS => ?_)
    obtain ⟨⟨rfl, b21⟩ | ⟨rfl, b21⟩, hR⟩ := hp
    · rw [hR] at hO
      refine lv_if_eq (tgt := 30) hx hb dX0_gain_24 (by decide) (fun c24 => absurd c24 (by decide)) (fun c24 => ?_)
      refine lv_iinc (v := ((12 - ((h - 60) / 8)) + 4)) (lv' := [(2, .int ((12 - ((h - 60) / 8)) + 4)), (0, .ref (ad r)), (1, .int h)]) hx hb dX0_gain_27 hl (k := 0) rfl rfl (by decide) rfl (fun ls hl => ?_)
      refine lv_aload_n hx hb dX0_gain_30 rfl (lv_at hl 1 rfl) ?_
      refine m_get inX0 hF hC hO (mU_self) rfl 0 (by decide) q_72 (v := .int (φ 0)) rfl dX0_gain_31 ?_
      refine lv_iconst (v := 3) hx hb dX0_gain_34 (by decide) ?_
      refine lv_icmp_ne (tgt := 41) hx hb dX0_gain_35 (by decide) (fun c35 => ?_) (fun c35 => ?_)
      · refine lv_iload_n hx hb dX0_gain_41 rfl (lv_at hl 0 rfl) ?_
        refine lv_sipush (v := 400) hx hb dX0_gain_42 (by decide) ?_
        refine lv_aload_n hx hb dX0_gain_45 rfl (lv_at hl 1 rfl) ?_
        refine m_get inX0 hF hC hO (mU_self) rfl 2 (by decide) q_77 (v := .int (φ 2)) rfl dX0_gain_46 ?_
        refine lv_isub hx hb dX0_gain_49 ?_
        refine m_min hF hl.1 q_167 q_168 q_14 q_169 (Nat.le_of_ble_eq_true rfl) (Nat.le_of_ble_eq_true rfl) ⟨Nat.le_of_ble_eq_true rfl, Nat.le_of_ble_eq_true rfl⟩ dX0_gain_50 ?_
        rw [mU_id (show R r = some (frO φ) from h0)] at hO
        refine m_iret hF hr hlk hQ rfl hO hS dX0_gain_53 ?_
        exact ⟨by first | rw [p_gain, if_neg b1, if_neg c35, if_pos b21] | rw [p_gain, if_neg b1, if_neg c35, if_neg b21] | rw [p_gain, if_neg b1, if_pos c35, if_pos b21] | rw [p_gain, if_neg b1, if_pos c35, if_neg b21], rfl⟩
      · refine lv_iinc (v := (((12 - ((h - 60) / 8)) + 4) + (-3))) (lv' := [(2, .int (((12 - ((h - 60) / 8)) + 4) + (-3))), (0, .ref (ad r)), (1, .int h)]) hx hb dX0_gain_38 hl (k := 0) rfl rfl (by decide) rfl (fun ls hl => ?_)
        refine lv_iload_n hx hb dX0_gain_41 rfl (lv_at hl 0 rfl) ?_
        refine lv_sipush (v := 400) hx hb dX0_gain_42 (by decide) ?_
        refine lv_aload_n hx hb dX0_gain_45 rfl (lv_at hl 1 rfl) ?_
        refine m_get inX0 hF hC hO (mU_self) rfl 2 (by decide) q_77 (v := .int (φ 2)) rfl dX0_gain_46 ?_
        refine lv_isub hx hb dX0_gain_49 ?_
        refine m_min hF hl.1 q_167 q_168 q_14 q_169 (Nat.le_of_ble_eq_true rfl) (Nat.le_of_ble_eq_true rfl) ⟨Nat.le_of_ble_eq_true rfl, Nat.le_of_ble_eq_true rfl⟩ dX0_gain_50 ?_
        rw [mU_id (show R r = some (frO φ) from h0)] at hO
        refine m_iret hF hr hlk hQ rfl hO hS dX0_gain_53 ?_
        exact ⟨by first | rw [p_gain, if_neg b1, if_neg c35, if_pos b21] | rw [p_gain, if_neg b1, if_neg c35, if_neg b21] | rw [p_gain, if_neg b1, if_pos c35, if_pos b21] | rw [p_gain, if_neg b1, if_pos c35, if_neg b21], rfl⟩
    · rw [hR] at hO
      refine lv_if_eq (tgt := 30) hx hb dX0_gain_24 (by decide) (fun c24 => ?_) (fun c24 => absurd (by decide) c24)
      refine lv_aload_n hx hb dX0_gain_30 rfl (lv_at hl 1 rfl) ?_
      refine m_get inX0 hF hC hO (mU_self) rfl 0 (by decide) q_72 (v := .int (φ 0)) rfl dX0_gain_31 ?_
      refine lv_iconst (v := 3) hx hb dX0_gain_34 (by decide) ?_
      refine lv_icmp_ne (tgt := 41) hx hb dX0_gain_35 (by decide) (fun c35 => ?_) (fun c35 => ?_)
      · refine lv_iload_n hx hb dX0_gain_41 rfl (lv_at hl 0 rfl) ?_
        refine lv_sipush (v := 400) hx hb dX0_gain_42 (by decide) ?_
        refine lv_aload_n hx hb dX0_gain_45 rfl (lv_at hl 1 rfl) ?_
        refine m_get inX0 hF hC hO (mU_self) rfl 2 (by decide) q_77 (v := .int (φ 2)) rfl dX0_gain_46 ?_
        refine lv_isub hx hb dX0_gain_49 ?_
        refine m_min hF hl.1 q_167 q_168 q_14 q_169 (Nat.le_of_ble_eq_true rfl) (Nat.le_of_ble_eq_true rfl) ⟨Nat.le_of_ble_eq_true rfl, Nat.le_of_ble_eq_true rfl⟩ dX0_gain_50 ?_
        rw [mU_id (show R r = some (frO φ) from h0)] at hO
        refine m_iret hF hr hlk hQ rfl hO hS dX0_gain_53 ?_
        exact ⟨by first | rw [p_gain, if_neg b1, if_neg c35, if_pos b21] | rw [p_gain, if_neg b1, if_neg c35, if_neg b21] | rw [p_gain, if_neg b1, if_pos c35, if_pos b21] | rw [p_gain, if_neg b1, if_pos c35, if_neg b21], rfl⟩
      · refine lv_iinc (v := ((12 - ((h - 60) / 8)) + (-3))) (lv' := [(2, .int ((12 - ((h - 60) / 8)) + (-3))), (0, .ref (ad r)), (1, .int h)]) hx hb dX0_gain_38 hl (k := 0) rfl rfl (by decide) rfl (fun ls hl => ?_)
        refine lv_iload_n hx hb dX0_gain_41 rfl (lv_at hl 0 rfl) ?_
        refine lv_sipush (v := 400) hx hb dX0_gain_42 (by decide) ?_
        refine lv_aload_n hx hb dX0_gain_45 rfl (lv_at hl 1 rfl) ?_
        refine m_get inX0 hF hC hO (mU_self) rfl 2 (by decide) q_77 (v := .int (φ 2)) rfl dX0_gain_46 ?_
        refine lv_isub hx hb dX0_gain_49 ?_
        refine m_min hF hl.1 q_167 q_168 q_14 q_169 (Nat.le_of_ble_eq_true rfl) (Nat.le_of_ble_eq_true rfl) ⟨Nat.le_of_ble_eq_true rfl, Nat.le_of_ble_eq_true rfl⟩ dX0_gain_50 ?_
        rw [mU_id (show R r = some (frO φ) from h0)] at hO
        refine m_iret hF hr hlk hQ rfl hO hS dX0_gain_53 ?_
        exact ⟨by first | rw [p_gain, if_neg b1, if_neg c35, if_pos b21] | rw [p_gain, if_neg b1, if_neg c35, if_neg b21] | rw [p_gain, if_neg b1, if_pos c35, if_pos b21] | rw [p_gain, if_neg b1, if_pos c35, if_neg b21], rfl⟩
theorem ok_X0_canBeDipped : mOK RX0 yX0_canBeDipped cX0_canBeDipped 2 (some .boolean) 1 := ⟨q_144, q_145, q_5, q_146, by decide +kernel⟩
set_option maxHeartbeats 400000 in
set_option maxRecDepth 100000 in
theorem k_X0_canBeDipped (l : Launch) (G : mG) (lo : Nat) (sa ad : Nat → Nat) (R : mM) (r : Nat) (v : Nat) (φ : Nat → Int32) (ν : Nat → Int32) (h0 : R r = some (frO φ)) (h1 : R v = some (vO ν)) (hrv : r ≠ v) : mI l yX0_canBeDipped cX0_canBeDipped 2 .boolean 2 43 G lo sa ad R [.ref (ad r), .ref (ad v)] (fun v R' => mBo (p_can φ ν) v ∧ R' = R) := by
  refine mI_of (by decide) (Nat.le_of_ble_eq_true rfl) ?_
  intro p e s m args below meth c hF hr hlk hC ls hl hO hS Q hQ
  have hx := hF.1
  have hb := hF.2.1
  have hl : lv_has ls 2 [(0, .ref (ad r)), (1, .ref (ad v))] := hl
  have hO : mO G lo ad (mU (mU R r (frO φ)) v (vO ν)) s.heap := by
    rw [mU_id h0, mU_id h1]
    exact hO
  refine lv_aload_n hx hb dX0_canBeDipped_0 rfl (lv_at hl 0 rfl) ?_
  refine m_vI (As := []) (rest := []) (n := 0) hF hC hO hS (k_X0_hangs l G lo sa ad _ r φ ((mU_ne hrv).trans (mU_self))) ok_X0_hangs q_147 ((mU_ne hrv).trans (mU_self)) rfl ⟨Nat.le_of_ble_eq_true rfl, Nat.le_of_ble_eq_true rfl⟩ rfl hl.1 rfl (Nat.le_of_ble_eq_true rfl) ⟨Nat.le_of_ble_eq_true rfl, Nat.le_of_ble_eq_true rfl⟩ dX0_canBeDipped_1 (fun v1 R' H locs hp hO hS => ?_)
  obtain ⟨⟨rfl, b1⟩ | ⟨rfl, b1⟩, hR⟩ := hp
  · rw [hR] at hO
    refine lv_if_eq (tgt := 37) hx hb dX0_canBeDipped_4 (by decide) (fun c4 => absurd c4 (by decide)) (fun c4 => ?_)
    refine lv_aload_n hx hb dX0_canBeDipped_7 rfl (lv_at hl 1 rfl) ?_
    refine m_vI (As := []) (rest := []) (n := 0) hF hC hO hS (k_X4_isMelted l G lo sa ad _ v ν (mU_self)) ok_X4_isMelted q_151 (mU_self) rfl ⟨Nat.le_of_ble_eq_true rfl, Nat.le_of_ble_eq_true rfl⟩ rfl hl.1 rfl (Nat.le_of_ble_eq_true rfl) ⟨Nat.le_of_ble_eq_true rfl, Nat.le_of_ble_eq_true rfl⟩ dX0_canBeDipped_8 (fun v8 R' H locs hp hO hS => ?_)
    obtain ⟨⟨rfl, b8⟩ | ⟨rfl, b8⟩, hR⟩ := hp
    · rw [hR] at hO
      refine lv_if_eq (tgt := 37) hx hb dX0_canBeDipped_11 (by decide) (fun c11 => absurd c11 (by decide)) (fun c11 => ?_)
      refine lv_aload_n hx hb dX0_canBeDipped_14 rfl (lv_at hl 0 rfl) ?_
      refine lv_aload_n hx hb dX0_canBeDipped_15 rfl (lv_at hl 0 rfl) ?_
      refine lv_aload_n hx hb dX0_canBeDipped_16 rfl (lv_at hl 1 rfl) ?_
      refine m_get inX4 hF hC hO (mU_self) rfl 1 (by decide) q_35 (v := .int (ν 1)) rfl dX0_canBeDipped_17 ?_
      refine m_vI (As := [.int (ν 1)]) (rest := [.ref (ad r)]) (n := 1) hF hC hO hS (k_X0_gain l G lo sa ad _ r φ (ν 1) ((mU_ne hrv).trans (mU_self))) ok_X0_gain q_155 ((mU_ne hrv).trans (mU_self)) rfl ⟨Nat.le_of_ble_eq_true rfl, Nat.le_of_ble_eq_true rfl⟩ rfl hl.1 rfl (Nat.le_of_ble_eq_true rfl) ⟨Nat.le_of_ble_eq_true rfl, Nat.le_of_ble_eq_true rfl⟩ dX0_canBeDipped_20 (fun v20 R' H locs hp hO hS => ?_)
      obtain ⟨rfl, hR⟩ := hp
      rw [hR] at hO
      refine m_vI (As := [.int (p_gain φ (ν 1))]) (rest := []) (n := 1) hF hC hO hS (k_X0_waxOf l G lo sa ad _ r φ (p_gain φ (ν 1)) ((mU_ne hrv).trans (mU_self))) ok_X0_waxOf q_170 ((mU_ne hrv).trans (mU_self)) rfl ⟨Nat.le_of_ble_eq_true rfl, Nat.le_of_ble_eq_true rfl⟩ rfl hl.1 rfl (Nat.le_of_ble_eq_true rfl) ⟨Nat.le_of_ble_eq_true rfl, Nat.le_of_ble_eq_true rfl⟩ dX0_canBeDipped_23 (fun v23 R' H locs hp hO hS => ?_)
      obtain ⟨rfl, hR⟩ := hp
      rw [hR] at hO
      refine lv_aload_n hx hb dX0_canBeDipped_26 rfl (lv_at hl 1 rfl) ?_
      refine m_get inX4 hF hC hO (mU_self) rfl 0 (by decide) q_32 (v := .int (ν 0)) rfl dX0_canBeDipped_27 ?_
      refine lv_icmp_gt (tgt := 37) hx hb dX0_canBeDipped_30 (by decide) (fun c30 => ?_) (fun c30 => ?_)
      · refine lv_iconst (v := 0) hx hb dX0_canBeDipped_37 (by decide) ?_
        rw [mU_id (show R r = some (frO φ) from h0)] at hO
        rw [mU_id (show R v = some (vO ν) from h1)] at hO
        refine m_iret hF hr hlk hQ rfl hO hS dX0_canBeDipped_38 ?_
        first | exact ⟨mBo_f (fun h => absurd h.2.2 (Int32.not_le.mpr c30)), rfl⟩ | exact ⟨mBo_f (fun h => b8 h.2.1), rfl⟩ | exact ⟨mBo_f (fun h => b1 h.1), rfl⟩
      · refine lv_iconst (v := 1) hx hb dX0_canBeDipped_33 (by decide) ?_
        refine lv_goto (tgt := 38) hx hb dX0_canBeDipped_34 (by decide) ?_
        rw [mU_id (show R r = some (frO φ) from h0)] at hO
        rw [mU_id (show R v = some (vO ν) from h1)] at hO
        refine m_iret hF hr hlk hQ rfl hO hS dX0_canBeDipped_38 ?_
        first | exact ⟨mBo_t ⟨b1, b8, Int32.not_lt.mp c30⟩, rfl⟩
    · rw [hR] at hO
      refine lv_if_eq (tgt := 37) hx hb dX0_canBeDipped_11 (by decide) (fun c11 => ?_) (fun c11 => absurd (by decide) c11)
      refine lv_iconst (v := 0) hx hb dX0_canBeDipped_37 (by decide) ?_
      rw [mU_id (show R r = some (frO φ) from h0)] at hO
      rw [mU_id (show R v = some (vO ν) from h1)] at hO
      refine m_iret hF hr hlk hQ rfl hO hS dX0_canBeDipped_38 ?_
      first | exact ⟨mBo_f (fun h => absurd h.2.2 (Int32.not_le.mpr c30)), rfl⟩ | exact ⟨mBo_f (fun h => b8 h.2.1), rfl⟩ | exact ⟨mBo_f (fun h => b1 h.1), rfl⟩
  · rw [hR] at hO
    refine lv_if_eq (tgt := 37) hx hb dX0_canBeDipped_4 (by decide) (fun c4 => ?_) (fun c4 => absurd (by decide) c4)
    refine lv_iconst (v := 0) hx hb dX0_canBeDipped_37 (by decide) ?_
    rw [mU_id (show R r = some (frO φ) from h0)] at hO
    rw [mU_id (show R v = some (vO ν) from h1)] at hO
    refine m_iret hF hr hlk hQ rfl hO hS dX0_canBeDipped_38 ?_
    first | exact ⟨mBo_f (fun h => absurd h.2.2 (Int32.not_le.mpr c30)), rfl⟩ | exact ⟨mBo_f (fun h => b8 h.2.1), rfl⟩ | exact ⟨mBo_f (fun h => b1 h.1), rfl⟩
theorem ok_X0_meltOff : mOK RX0 yX0_meltOff cX0_meltOff 2 none 1 := ⟨q_455, qs_10, q_5, q_456, by decide +kernel⟩
set_option maxHeartbeats 400000 in
set_option maxRecDepth 100000 in
theorem k_X0_meltOff (l : Launch) (G : mG) (lo : Nat) (sa ad : Nat → Nat) (R : mM) (r : Nat) (φ : Nat → Int32) (h : Int32) (h0 : R r = some (frO φ)) : mV l yX0_meltOff cX0_meltOff 2 1 21 G lo sa ad R [.ref (ad r), .int h] (fun R' => R' = (mU R r (frO (p_meltF φ h)))) := by
  refine mV_of (by decide) (Nat.le_of_ble_eq_true rfl) ?_
  intro p e s m args below meth c hF hr hlk hC ls hl hO hS Q hQ
  have hx := hF.1
  have hb := hF.2.1
  have hl : lv_has ls 2 [(0, .ref (ad r)), (1, .int h)] := hl
  have hO : mO G lo ad (mU R r (frO φ)) s.heap := by
    rw [mU_id h0]
    exact hO
  refine lv_aload_n hx hb dX0_meltOff_0 rfl (lv_at hl 0 rfl) ?_
  refine lv_iconst (v := 0) hx hb dX0_meltOff_1 (by decide) ?_
  refine lv_aload_n hx hb dX0_meltOff_2 rfl (lv_at hl 0 rfl) ?_
  refine m_get inX0 hF hC hO (mU_self) rfl 2 (by decide) q_77 (v := .int (φ 2)) rfl dX0_meltOff_3 ?_
  refine lv_iload_n hx hb dX0_meltOff_6 rfl (lv_at hl 1 rfl) ?_
  refine lv_bipush (v := 55) hx hb dX0_meltOff_7 (by decide) ?_
  refine lv_isub hx hb dX0_meltOff_9 ?_
  refine lv_iconst (v := 5) hx hb dX0_meltOff_10 (by decide) ?_
  refine lv_idiv hx hb dX0_meltOff_11 (by decide) ?_
  refine lv_isub hx hb dX0_meltOff_12 ?_
  refine m_max hF hl.1 q_457 q_458 q_14 q_459 (Nat.le_of_ble_eq_true rfl) (Nat.le_of_ble_eq_true rfl) ⟨Nat.le_of_ble_eq_true rfl, Nat.le_of_ble_eq_true rfl⟩ dX0_meltOff_13 ?_
  refine m_put (ty := .int) tyX0 tyX0_ok nmX0 inX0 hF hC hO hS (mU_self) rfl 2 (by decide) q_77 rfl (by decide +kernel) rfl rfl (fs' := [.int (φ 0), .int (φ 1), .int (jmax 0 ((φ 2) - ((h - 55) / 5))), .int (φ 3), .int (φ 4), .int (φ 5), .int (φ 6)]) (Nat.le_of_ble_eq_true rfl) rfl dX0_meltOff_16 (fun H locs hO hS => ?_)
  have hO : mO G lo ad (mU (mU R r (frO φ)) r (frO (upd φ 2 (jmax 0 ((φ 2) - ((h - 55) / 5)))))) H := hO
  rw [mU_mU] at hO
  refine lv_aload_n hx hb dX0_meltOff_19 rfl (lv_at hl 0 rfl) ?_
  refine m_vI (As := []) (rest := []) (n := 0) hF hC hO hS (k_X0_isBare l G lo sa ad _ r (upd φ 2 (jmax 0 ((φ 2) - ((h - 55) / 5)))) (mU_self)) ok_X0_isBare q_163 (mU_self) rfl ⟨Nat.le_of_ble_eq_true rfl, Nat.le_of_ble_eq_true rfl⟩ rfl hl.1 rfl (Nat.le_of_ble_eq_true rfl) ⟨Nat.le_of_ble_eq_true rfl, Nat.le_of_ble_eq_true rfl⟩ dX0_meltOff_20 (fun v20 R' H locs hp hO hS => ?_)
  obtain ⟨⟨rfl, b20⟩ | ⟨rfl, b20⟩, hR⟩ := hp
  · rw [hR] at hO
    refine lv_if_eq (tgt := 31) hx hb dX0_meltOff_23 (by decide) (fun c23 => absurd c23 (by decide)) (fun c23 => ?_)
    refine lv_aload_n hx hb dX0_meltOff_26 rfl (lv_at hl 0 rfl) ?_
    refine lv_iconst (v := 0) hx hb dX0_meltOff_27 (by decide) ?_
    refine m_put (ty := .boolean) tyX0 tyX0_ok nmX0 inX0 hF hC hO hS (mU_self) rfl 4 (by decide) q_81 rfl (by decide +kernel) rfl rfl (fs' := [.int (φ 0), .int (φ 1), .int (jmax 0 ((φ 2) - ((h - 55) / 5))), .int (φ 3), .int 0, .int (φ 5), .int (φ 6)]) (Nat.le_of_ble_eq_true rfl) rfl dX0_meltOff_28 (fun H locs hO hS => ?_)
    have hO : mO G lo ad (mU (mU R r (frO (upd φ 2 (jmax 0 ((φ 2) - ((h - 55) / 5)))))) r (frO (upd (upd φ 2 (jmax 0 ((φ 2) - ((h - 55) / 5)))) 4 0))) H := hO
    rw [mU_mU] at hO
    refine lv_aload_n hx hb dX0_meltOff_31 rfl (lv_at hl 0 rfl) ?_
    refine lv_bipush (v := 100) hx hb dX0_meltOff_32 (by decide) ?_
    refine m_put (ty := .int) tyX0 tyX0_ok nmX0 inX0 hF hC hO hS (mU_self) rfl 3 (by decide) q_79 rfl (by decide +kernel) rfl rfl (fs' := [.int (φ 0), .int (φ 1), .int (jmax 0 ((φ 2) - ((h - 55) / 5))), .int 100, .int 0, .int (φ 5), .int (φ 6)]) (Nat.le_of_ble_eq_true rfl) rfl dX0_meltOff_34 (fun H locs hO hS => ?_)
    have hO : mO G lo ad (mU (mU R r (frO (upd (upd φ 2 (jmax 0 ((φ 2) - ((h - 55) / 5)))) 4 0))) r (frO (upd (upd (upd φ 2 (jmax 0 ((φ 2) - ((h - 55) / 5)))) 4 0) 3 100))) H := hO
    rw [mU_mU] at hO
    refine m_vret hF hr hlk hQ hO hS dX0_meltOff_37 ?_
    first | (rw [p_meltF, if_pos (show jmax 0 (φ 2 - (h - 55) / 5) = 0 from b20)]; done) | (rw [p_meltF, if_neg (show ¬ jmax 0 (φ 2 - (h - 55) / 5) = 0 from b20)]; done)
  · rw [hR] at hO
    refine lv_if_eq (tgt := 31) hx hb dX0_meltOff_23 (by decide) (fun c23 => ?_) (fun c23 => absurd (by decide) c23)
    refine lv_aload_n hx hb dX0_meltOff_31 rfl (lv_at hl 0 rfl) ?_
    refine lv_bipush (v := 100) hx hb dX0_meltOff_32 (by decide) ?_
    refine m_put (ty := .int) tyX0 tyX0_ok nmX0 inX0 hF hC hO hS (mU_self) rfl 3 (by decide) q_79 rfl (by decide +kernel) rfl rfl (fs' := [.int (φ 0), .int (φ 1), .int (jmax 0 ((φ 2) - ((h - 55) / 5))), .int 100, .int (φ 4), .int (φ 5), .int (φ 6)]) (Nat.le_of_ble_eq_true rfl) rfl dX0_meltOff_34 (fun H locs hO hS => ?_)
    have hO : mO G lo ad (mU (mU R r (frO (upd φ 2 (jmax 0 ((φ 2) - ((h - 55) / 5)))))) r (frO (upd (upd φ 2 (jmax 0 ((φ 2) - ((h - 55) / 5)))) 3 100))) H := hO
    rw [mU_mU] at hO
    refine m_vret hF hr hlk hQ hO hS dX0_meltOff_37 ?_
    first | (rw [p_meltF, if_pos (show jmax 0 (φ 2 - (h - 55) / 5) = 0 from b20)]; done) | (rw [p_meltF, if_neg (show ¬ jmax 0 (φ 2 - (h - 55) / 5) = 0 from b20)]; done)
theorem ok_X0_takeUp : mOK RX0 yX0_takeUp cX0_takeUp 3 none 1 := ⟨q_462, qs_11, q_5, q_463, by decide +kernel⟩
set_option maxHeartbeats 400000 in
set_option maxRecDepth 100000 in
theorem k_X0_takeUp (l : Launch) (G : mG) (lo : Nat) (sa ad : Nat → Nat) (R : mM) (r : Nat) (v : Nat) (φ : Nat → Int32) (ν : Nat → Int32) (h0 : R r = some (frO φ)) (h1 : R v = some (vO ν)) (hrv : r ≠ v) : mV l yX0_takeUp cX0_takeUp 3 2 43 G lo sa ad R [.ref (ad r), .ref (ad v)] (fun R' => R' = (mU (mU R r (frO (p_upF φ (ν 1)))) v (vO (p_upV φ ν)))) := by
  refine mV_of (by decide) (Nat.le_of_ble_eq_true rfl) ?_
  intro p e s m args below meth c hF hr hlk hC ls hl hO hS Q hQ
  have hx := hF.1
  have hb := hF.2.1
  have hl : lv_has ls 3 [(0, .ref (ad r)), (1, .ref (ad v))] := hl
  have hO : mO G lo ad (mU (mU R r (frO φ)) v (vO ν)) s.heap := by
    rw [mU_id h0, mU_id h1]
    exact hO
  refine lv_aload_n hx hb dX0_takeUp_0 rfl (lv_at hl 0 rfl) ?_
  refine lv_aload_n hx hb dX0_takeUp_1 rfl (lv_at hl 1 rfl) ?_
  refine m_get inX4 hF hC hO (mU_self) rfl 1 (by decide) q_35 (v := .int (ν 1)) rfl dX0_takeUp_2 ?_
  refine m_vI (As := [.int (ν 1)]) (rest := []) (n := 1) hF hC hO hS (k_X0_gain l G lo sa ad _ r φ (ν 1) ((mU_ne hrv).trans (mU_self))) ok_X0_gain q_155 ((mU_ne hrv).trans (mU_self)) rfl ⟨Nat.le_of_ble_eq_true rfl, Nat.le_of_ble_eq_true rfl⟩ rfl hl.1 rfl (Nat.le_of_ble_eq_true rfl) ⟨Nat.le_of_ble_eq_true rfl, Nat.le_of_ble_eq_true rfl⟩ dX0_takeUp_5 (fun v5 R' H locs hp hO hS => ?_)
  obtain ⟨rfl, hR⟩ := hp
  rw [hR] at hO
  refine lv_istore_n (lv' := [(2, .int (p_gain φ (ν 1))), (0, .ref (ad r)), (1, .ref (ad v))]) hx hb dX0_takeUp_8 rfl hl (by decide) rfl (fun ls hl => ?_)
  refine lv_aload_n hx hb dX0_takeUp_9 rfl (lv_at hl 1 rfl) ?_
  refine m_vI (As := []) (rest := []) (n := 0) hF hC hO hS (k_X0_isBare l G lo sa ad _ r φ ((mU_ne hrv).trans (mU_self))) ok_X0_isBare q_163 ((mU_ne hrv).trans (mU_self)) rfl ⟨Nat.le_of_ble_eq_true rfl, Nat.le_of_ble_eq_true rfl⟩ rfl hl.1 rfl (Nat.le_of_ble_eq_true rfl) ⟨Nat.le_of_ble_eq_true rfl, Nat.le_of_ble_eq_true rfl⟩ dX0_takeUp_10 (fun v10 R' H locs hp hO hS => ?_)
  obtain ⟨⟨rfl, b10⟩ | ⟨rfl, b10⟩, hR⟩ := hp
  · rw [hR] at hO
    refine lv_if_ne (tgt := 30) hx hb dX0_takeUp_13 (by decide) (fun c13 => ?_) (fun c13 => absurd c13 (by decide))
    refine lv_aload_n hx hb dX0_takeUp_30 rfl (lv_at hl 2 rfl) ?_
    refine lv_dup hx hb dX0_takeUp_31 rfl ?_
    refine m_get inX4 hF hC hO (mU_self) rfl 0 (by decide) q_32 (v := .int (ν 0)) rfl dX0_takeUp_32 ?_
    refine lv_aload_n hx hb dX0_takeUp_35 rfl (lv_at hl 1 rfl) ?_
    refine lv_iload_n hx hb dX0_takeUp_36 rfl (lv_at hl 0 rfl) ?_
    refine m_vI (As := [.int (p_gain φ (ν 1))]) (rest := [.int (ν 0), .ref (ad v)]) (n := 1) hF hC hO hS (k_X0_waxOf l G lo sa ad _ r φ (p_gain φ (ν 1)) ((mU_ne hrv).trans (mU_self))) ok_X0_waxOf q_170 ((mU_ne hrv).trans (mU_self)) rfl ⟨Nat.le_of_ble_eq_true rfl, Nat.le_of_ble_eq_true rfl⟩ rfl hl.1 rfl (Nat.le_of_ble_eq_true rfl) ⟨Nat.le_of_ble_eq_true rfl, Nat.le_of_ble_eq_true rfl⟩ dX0_takeUp_37 (fun v37 R' H locs hp hO hS => ?_)
    obtain ⟨rfl, hR⟩ := hp
    rw [hR] at hO
    refine lv_isub hx hb dX0_takeUp_40 ?_
    refine m_put (ty := .int) tyX4 tyX4_ok nmX4 inX4 hF hC hO hS (mU_self) rfl 0 (by decide) q_32 rfl (by decide +kernel) rfl rfl (fs' := [.int ((ν 0) - (p_wax φ (p_gain φ (ν 1)))), .int (ν 1), .int (ν 2)]) (Nat.le_of_ble_eq_true rfl) rfl dX0_takeUp_41 (fun H locs hO hS => ?_)
    have hO : mO G lo ad (mU (mU (mU R r (frO φ)) v (vO ν)) v (vO (upd ν 0 ((ν 0) - (p_wax φ (p_gain φ (ν 1))))))) H := hO
    rw [mU_mU] at hO
    refine lv_aload_n hx hb dX0_takeUp_44 rfl (lv_at hl 1 rfl) ?_
    refine lv_dup hx hb dX0_takeUp_45 rfl ?_
    refine m_get inX0 hF hC hO ((mU_ne hrv).trans (mU_self)) rfl 2 (by decide) q_77 (v := .int (φ 2)) rfl dX0_takeUp_46 ?_
    refine lv_iload_n hx hb dX0_takeUp_49 rfl (lv_at hl 0 rfl) ?_
    refine lv_iadd hx hb dX0_takeUp_50 ?_
    refine m_put (ty := .int) tyX0 tyX0_ok nmX0 inX0 hF hC hO hS ((mU_ne hrv).trans (mU_self)) rfl 2 (by decide) q_77 rfl (by decide +kernel) rfl rfl (fs' := [.int (φ 0), .int (φ 1), .int ((φ 2) + (p_gain φ (ν 1))), .int (φ 3), .int (φ 4), .int (φ 5), .int (φ 6)]) (Nat.le_of_ble_eq_true rfl) rfl dX0_takeUp_51 (fun H locs hO hS => ?_)
    have hO : mO G lo ad (mU (mU (mU R r (frO φ)) v (vO (upd ν 0 ((ν 0) - (p_wax φ (p_gain φ (ν 1))))))) r (frO (upd φ 2 ((φ 2) + (p_gain φ (ν 1)))))) H := hO
    rw [mU_sw hrv, mU_mU] at hO
    refine lv_aload_n hx hb dX0_takeUp_54 rfl (lv_at hl 1 rfl) ?_
    refine lv_bipush (v := 100) hx hb dX0_takeUp_55 (by decide) ?_
    refine lv_aload_n hx hb dX0_takeUp_57 rfl (lv_at hl 1 rfl) ?_
    refine m_get inX0 hF hC hO ((mU_ne hrv).trans (mU_self)) rfl 3 (by decide) q_79 (v := .int (φ 3)) rfl dX0_takeUp_58 ?_
    refine lv_aload_n hx hb dX0_takeUp_61 rfl (lv_at hl 2 rfl) ?_
    refine m_get inX4 hF hC hO (mU_self) rfl 1 (by decide) q_35 (v := .int (ν 1)) rfl dX0_takeUp_62 ?_
    refine lv_iadd hx hb dX0_takeUp_65 ?_
    refine lv_iconst (v := 2) hx hb dX0_takeUp_66 (by decide) ?_
    refine lv_idiv hx hb dX0_takeUp_67 (by decide) ?_
    refine m_min hF hl.1 q_167 q_168 q_14 q_169 (Nat.le_of_ble_eq_true rfl) (Nat.le_of_ble_eq_true rfl) ⟨Nat.le_of_ble_eq_true rfl, Nat.le_of_ble_eq_true rfl⟩ dX0_takeUp_68 ?_
    refine m_put (ty := .int) tyX0 tyX0_ok nmX0 inX0 hF hC hO hS ((mU_ne hrv).trans (mU_self)) rfl 3 (by decide) q_79 rfl (by decide +kernel) rfl rfl (fs' := [.int (φ 0), .int (φ 1), .int ((φ 2) + (p_gain φ (ν 1))), .int (jmin 100 (((φ 3) + (ν 1)) / 2)), .int (φ 4), .int (φ 5), .int (φ 6)]) (Nat.le_of_ble_eq_true rfl) rfl dX0_takeUp_71 (fun H locs hO hS => ?_)
    have hO : mO G lo ad (mU (mU (mU R r (frO (upd φ 2 ((φ 2) + (p_gain φ (ν 1)))))) v (vO (upd ν 0 ((ν 0) - (p_wax φ (p_gain φ (ν 1))))))) r (frO (upd (upd φ 2 ((φ 2) + (p_gain φ (ν 1)))) 3 (jmin 100 (((φ 3) + (ν 1)) / 2))))) H := hO
    rw [mU_sw hrv, mU_mU] at hO
    refine m_vret hF hr hlk hQ hO hS dX0_takeUp_74 ?_
    first | (rw [p_upF, if_pos (⟨b10, Int32.not_le.mp c22⟩ : φ 2 ≠ 0 ∧ φ 3 < 10)]; rfl) | (rw [p_upF, if_neg (fun h => absurd h.2 (Int32.not_lt.mpr c22) : ¬ (φ 2 ≠ 0 ∧ φ 3 < 10))]; rfl) | (rw [p_upF, if_neg (fun h => h.1 b10 : ¬ (φ 2 ≠ 0 ∧ φ 3 < 10))]; rfl)
  · rw [hR] at hO
    refine lv_if_ne (tgt := 30) hx hb dX0_takeUp_13 (by decide) (fun c13 => absurd (by decide) c13) (fun c13 => ?_)
    refine lv_aload_n hx hb dX0_takeUp_16 rfl (lv_at hl 1 rfl) ?_
    refine m_get inX0 hF hC hO ((mU_ne hrv).trans (mU_self)) rfl 3 (by decide) q_79 (v := .int (φ 3)) rfl dX0_takeUp_17 ?_
    refine lv_bipush (v := 10) hx hb dX0_takeUp_20 (by decide) ?_
    refine lv_icmp_ge (tgt := 30) hx hb dX0_takeUp_22 (by decide) (fun c22 => ?_) (fun c22 => ?_)
    · refine lv_aload_n hx hb dX0_takeUp_30 rfl (lv_at hl 2 rfl) ?_
      refine lv_dup hx hb dX0_takeUp_31 rfl ?_
      refine m_get inX4 hF hC hO (mU_self) rfl 0 (by decide) q_32 (v := .int (ν 0)) rfl dX0_takeUp_32 ?_
      refine lv_aload_n hx hb dX0_takeUp_35 rfl (lv_at hl 1 rfl) ?_
      refine lv_iload_n hx hb dX0_takeUp_36 rfl (lv_at hl 0 rfl) ?_
      refine m_vI (As := [.int (p_gain φ (ν 1))]) (rest := [.int (ν 0), .ref (ad v)]) (n := 1) hF hC hO hS (k_X0_waxOf l G lo sa ad _ r φ (p_gain φ (ν 1)) ((mU_ne hrv).trans (mU_self))) ok_X0_waxOf q_170 ((mU_ne hrv).trans (mU_self)) rfl ⟨Nat.le_of_ble_eq_true rfl, Nat.le_of_ble_eq_true rfl⟩ rfl hl.1 rfl (Nat.le_of_ble_eq_true rfl) ⟨Nat.le_of_ble_eq_true rfl, Nat.le_of_ble_eq_true rfl⟩ dX0_takeUp_37 (fun v37 R' H locs hp hO hS => ?_)
      obtain ⟨rfl, hR⟩ := hp
      rw [hR] at hO
      refine lv_isub hx hb dX0_takeUp_40 ?_
      refine m_put (ty := .int) tyX4 tyX4_ok nmX4 inX4 hF hC hO hS (mU_self) rfl 0 (by decide) q_32 rfl (by decide +kernel) rfl rfl (fs' := [.int ((ν 0) - (p_wax φ (p_gain φ (ν 1)))), .int (ν 1), .int (ν 2)]) (Nat.le_of_ble_eq_true rfl) rfl dX0_takeUp_41 (fun H locs hO hS => ?_)
      have hO : mO G lo ad (mU (mU (mU R r (frO φ)) v (vO ν)) v (vO (upd ν 0 ((ν 0) - (p_wax φ (p_gain φ (ν 1))))))) H := hO
      rw [mU_mU] at hO
      refine lv_aload_n hx hb dX0_takeUp_44 rfl (lv_at hl 1 rfl) ?_
      refine lv_dup hx hb dX0_takeUp_45 rfl ?_
      refine m_get inX0 hF hC hO ((mU_ne hrv).trans (mU_self)) rfl 2 (by decide) q_77 (v := .int (φ 2)) rfl dX0_takeUp_46 ?_
      refine lv_iload_n hx hb dX0_takeUp_49 rfl (lv_at hl 0 rfl) ?_
      refine lv_iadd hx hb dX0_takeUp_50 ?_
      refine m_put (ty := .int) tyX0 tyX0_ok nmX0 inX0 hF hC hO hS ((mU_ne hrv).trans (mU_self)) rfl 2 (by decide) q_77 rfl (by decide +kernel) rfl rfl (fs' := [.int (φ 0), .int (φ 1), .int ((φ 2) + (p_gain φ (ν 1))), .int (φ 3), .int (φ 4), .int (φ 5), .int (φ 6)]) (Nat.le_of_ble_eq_true rfl) rfl dX0_takeUp_51 (fun H locs hO hS => ?_)
      have hO : mO G lo ad (mU (mU (mU R r (frO φ)) v (vO (upd ν 0 ((ν 0) - (p_wax φ (p_gain φ (ν 1))))))) r (frO (upd φ 2 ((φ 2) + (p_gain φ (ν 1)))))) H := hO
      rw [mU_sw hrv, mU_mU] at hO
      refine lv_aload_n hx hb dX0_takeUp_54 rfl (lv_at hl 1 rfl) ?_
      refine lv_bipush (v := 100) hx hb dX0_takeUp_55 (by decide) ?_
      refine lv_aload_n hx hb dX0_takeUp_57 rfl (lv_at hl 1 rfl) ?_
      refine m_get inX0 hF hC hO ((mU_ne hrv).trans (mU_self)) rfl 3 (by decide) q_79 (v := .int (φ 3)) rfl dX0_takeUp_58 ?_
      refine lv_aload_n hx hb dX0_takeUp_61 rfl (lv_at hl 2 rfl) ?_
      refine m_get inX4 hF hC hO (mU_self) rfl 1 (by decide) q_35 (v := .int (ν 1)) rfl dX0_takeUp_62 ?_
      refine lv_iadd hx hb dX0_takeUp_65 ?_
      refine lv_iconst (v := 2) hx hb dX0_takeUp_66 (by decide) ?_
      refine lv_idiv hx hb dX0_takeUp_67 (by decide) ?_
      refine m_min hF hl.1 q_167 q_168 q_14 q_169 (Nat.le_of_ble_eq_true rfl) (Nat.le_of_ble_eq_true rfl) ⟨Nat.le_of_ble_eq_true rfl, Nat.le_of_ble_eq_true rfl⟩ dX0_takeUp_68 ?_
      refine m_put (ty := .int) tyX0 tyX0_ok nmX0 inX0 hF hC hO hS ((mU_ne hrv).trans (mU_self)) rfl 3 (by decide) q_79 rfl (by decide +kernel) rfl rfl (fs' := [.int (φ 0), .int (φ 1), .int ((φ 2) + (p_gain φ (ν 1))), .int (jmin 100 (((φ 3) + (ν 1)) / 2)), .int (φ 4), .int (φ 5), .int (φ 6)]) (Nat.le_of_ble_eq_true rfl) rfl dX0_takeUp_71 (fun H locs hO hS => ?_)
      have hO : mO G lo ad (mU (mU (mU R r (frO (upd φ 2 ((φ 2) + (p_gain φ (ν 1)))))) v (vO (upd ν 0 ((ν 0) - (p_wax φ (p_gain φ (ν 1))))))) r (frO (upd (upd φ 2 ((φ 2) + (p_gain φ (ν 1)))) 3 (jmin 100 (((φ 3) + (ν 1)) / 2))))) H := hO
      rw [mU_sw hrv, mU_mU] at hO
      refine m_vret hF hr hlk hQ hO hS dX0_takeUp_74 ?_
      first | (rw [p_upF, if_pos (⟨b10, Int32.not_le.mp c22⟩ : φ 2 ≠ 0 ∧ φ 3 < 10)]; rfl) | (rw [p_upF, if_neg (fun h => absurd h.2 (Int32.not_lt.mpr c22) : ¬ (φ 2 ≠ 0 ∧ φ 3 < 10))]; rfl) | (rw [p_upF, if_neg (fun h => h.1 b10 : ¬ (φ 2 ≠ 0 ∧ φ 3 < 10))]; rfl)
    · refine lv_aload_n hx hb dX0_takeUp_25 rfl (lv_at hl 1 rfl) ?_
      refine lv_iconst (v := 1) hx hb dX0_takeUp_26 (by decide) ?_
      refine m_put (ty := .boolean) tyX0 tyX0_ok nmX0 inX0 hF hC hO hS ((mU_ne hrv).trans (mU_self)) rfl 4 (by decide) q_81 rfl (by decide +kernel) rfl rfl (fs' := [.int (φ 0), .int (φ 1), .int (φ 2), .int (φ 3), .int 1, .int (φ 5), .int (φ 6)]) (Nat.le_of_ble_eq_true rfl) rfl dX0_takeUp_27 (fun H locs hO hS => ?_)
      have hO : mO G lo ad (mU (mU (mU R r (frO φ)) v (vO ν)) r (frO (upd φ 4 1))) H := hO
      rw [mU_sw hrv, mU_mU] at hO
      refine lv_aload_n hx hb dX0_takeUp_30 rfl (lv_at hl 2 rfl) ?_
      refine lv_dup hx hb dX0_takeUp_31 rfl ?_
      refine m_get inX4 hF hC hO (mU_self) rfl 0 (by decide) q_32 (v := .int (ν 0)) rfl dX0_takeUp_32 ?_
      refine lv_aload_n hx hb dX0_takeUp_35 rfl (lv_at hl 1 rfl) ?_
      refine lv_iload_n hx hb dX0_takeUp_36 rfl (lv_at hl 0 rfl) ?_
      refine m_vI (As := [.int (p_gain φ (ν 1))]) (rest := [.int (ν 0), .ref (ad v)]) (n := 1) hF hC hO hS (k_X0_waxOf l G lo sa ad _ r (upd φ 4 1) (p_gain φ (ν 1)) ((mU_ne hrv).trans (mU_self))) ok_X0_waxOf q_170 ((mU_ne hrv).trans (mU_self)) rfl ⟨Nat.le_of_ble_eq_true rfl, Nat.le_of_ble_eq_true rfl⟩ rfl hl.1 rfl (Nat.le_of_ble_eq_true rfl) ⟨Nat.le_of_ble_eq_true rfl, Nat.le_of_ble_eq_true rfl⟩ dX0_takeUp_37 (fun v37 R' H locs hp hO hS => ?_)
      obtain ⟨rfl, hR⟩ := hp
      rw [hR] at hO
      refine lv_isub hx hb dX0_takeUp_40 ?_
      refine m_put (ty := .int) tyX4 tyX4_ok nmX4 inX4 hF hC hO hS (mU_self) rfl 0 (by decide) q_32 rfl (by decide +kernel) rfl rfl (fs' := [.int ((ν 0) - (p_wax (upd φ 4 1) (p_gain φ (ν 1)))), .int (ν 1), .int (ν 2)]) (Nat.le_of_ble_eq_true rfl) rfl dX0_takeUp_41 (fun H locs hO hS => ?_)
      have hO : mO G lo ad (mU (mU (mU R r (frO (upd φ 4 1))) v (vO ν)) v (vO (upd ν 0 ((ν 0) - (p_wax (upd φ 4 1) (p_gain φ (ν 1))))))) H := hO
      rw [mU_mU] at hO
      refine lv_aload_n hx hb dX0_takeUp_44 rfl (lv_at hl 1 rfl) ?_
      refine lv_dup hx hb dX0_takeUp_45 rfl ?_
      refine m_get inX0 hF hC hO ((mU_ne hrv).trans (mU_self)) rfl 2 (by decide) q_77 (v := .int (φ 2)) rfl dX0_takeUp_46 ?_
      refine lv_iload_n hx hb dX0_takeUp_49 rfl (lv_at hl 0 rfl) ?_
      refine lv_iadd hx hb dX0_takeUp_50 ?_
      refine m_put (ty := .int) tyX0 tyX0_ok nmX0 inX0 hF hC hO hS ((mU_ne hrv).trans (mU_self)) rfl 2 (by decide) q_77 rfl (by decide +kernel) rfl rfl (fs' := [.int (φ 0), .int (φ 1), .int ((φ 2) + (p_gain φ (ν 1))), .int (φ 3), .int 1, .int (φ 5), .int (φ 6)]) (Nat.le_of_ble_eq_true rfl) rfl dX0_takeUp_51 (fun H locs hO hS => ?_)
      have hO : mO G lo ad (mU (mU (mU R r (frO (upd φ 4 1))) v (vO (upd ν 0 ((ν 0) - (p_wax (upd φ 4 1) (p_gain φ (ν 1))))))) r (frO (upd (upd φ 4 1) 2 ((φ 2) + (p_gain φ (ν 1)))))) H := hO
      rw [mU_sw hrv, mU_mU] at hO
      refine lv_aload_n hx hb dX0_takeUp_54 rfl (lv_at hl 1 rfl) ?_
      refine lv_bipush (v := 100) hx hb dX0_takeUp_55 (by decide) ?_
      refine lv_aload_n hx hb dX0_takeUp_57 rfl (lv_at hl 1 rfl) ?_
      refine m_get inX0 hF hC hO ((mU_ne hrv).trans (mU_self)) rfl 3 (by decide) q_79 (v := .int (φ 3)) rfl dX0_takeUp_58 ?_
      refine lv_aload_n hx hb dX0_takeUp_61 rfl (lv_at hl 2 rfl) ?_
      refine m_get inX4 hF hC hO (mU_self) rfl 1 (by decide) q_35 (v := .int (ν 1)) rfl dX0_takeUp_62 ?_
      refine lv_iadd hx hb dX0_takeUp_65 ?_
      refine lv_iconst (v := 2) hx hb dX0_takeUp_66 (by decide) ?_
      refine lv_idiv hx hb dX0_takeUp_67 (by decide) ?_
      refine m_min hF hl.1 q_167 q_168 q_14 q_169 (Nat.le_of_ble_eq_true rfl) (Nat.le_of_ble_eq_true rfl) ⟨Nat.le_of_ble_eq_true rfl, Nat.le_of_ble_eq_true rfl⟩ dX0_takeUp_68 ?_
      refine m_put (ty := .int) tyX0 tyX0_ok nmX0 inX0 hF hC hO hS ((mU_ne hrv).trans (mU_self)) rfl 3 (by decide) q_79 rfl (by decide +kernel) rfl rfl (fs' := [.int (φ 0), .int (φ 1), .int ((φ 2) + (p_gain φ (ν 1))), .int (jmin 100 (((φ 3) + (ν 1)) / 2)), .int 1, .int (φ 5), .int (φ 6)]) (Nat.le_of_ble_eq_true rfl) rfl dX0_takeUp_71 (fun H locs hO hS => ?_)
      have hO : mO G lo ad (mU (mU (mU R r (frO (upd (upd φ 4 1) 2 ((φ 2) + (p_gain φ (ν 1)))))) v (vO (upd ν 0 ((ν 0) - (p_wax (upd φ 4 1) (p_gain φ (ν 1))))))) r (frO (upd (upd (upd φ 4 1) 2 ((φ 2) + (p_gain φ (ν 1)))) 3 (jmin 100 (((φ 3) + (ν 1)) / 2))))) H := hO
      rw [mU_sw hrv, mU_mU] at hO
      refine m_vret hF hr hlk hQ hO hS dX0_takeUp_74 ?_
      first | (rw [p_upF, if_pos (⟨b10, Int32.not_le.mp c22⟩ : φ 2 ≠ 0 ∧ φ 3 < 10)]; rfl) | (rw [p_upF, if_neg (fun h => absurd h.2 (Int32.not_lt.mpr c22) : ¬ (φ 2 ≠ 0 ∧ φ 3 < 10))]; rfl) | (rw [p_upF, if_neg (fun h => h.1 b10 : ¬ (φ 2 ≠ 0 ∧ φ 3 < 10))]; rfl)
theorem ok_X0_immerse : mOK RX0 yX0_immerse cX0_immerse 2 none 1 := ⟨q_450, q_451, q_5, q_452, by decide +kernel⟩
set_option maxHeartbeats 400000 in
set_option maxRecDepth 100000 in
theorem k_X0_immerse (l : Launch) (G : mG) (lo : Nat) (sa ad : Nat → Nat) (R : mM) (r : Nat) (v : Nat) (φ : Nat → Int32) (ν : Nat → Int32) (h0 : R r = some (frO φ)) (h1 : R v = some (vO ν)) (hrv : r ≠ v) : mV l yX0_immerse cX0_immerse 2 3 65 G lo sa ad R [.ref (ad r), .ref (ad v)] (fun R' => R' = (mU (mU R r (frO (p_dipF φ (ν 1)))) v (vO (p_dipV φ ν)))) := by
  refine mV_of (by decide) (Nat.le_of_ble_eq_true rfl) ?_
  intro p e s m args below meth c hF hr hlk hC ls hl hO hS Q hQ
  have hx := hF.1
  have hb := hF.2.1
  have hl : lv_has ls 2 [(0, .ref (ad r)), (1, .ref (ad v))] := hl
  have hO : mO G lo ad (mU (mU R r (frO φ)) v (vO ν)) s.heap := by
    rw [mU_id h0, mU_id h1]
    exact hO
  refine lv_aload_n hx hb dX0_immerse_0 rfl (lv_at hl 0 rfl) ?_
  refine lv_dup hx hb dX0_immerse_1 rfl ?_
  refine m_get inX0 hF hC hO ((mU_ne hrv).trans (mU_self)) rfl 6 (by decide) q_85 (v := .int (φ 6)) rfl dX0_immerse_2 ?_
  refine lv_iconst (v := 1) hx hb dX0_immerse_5 (by decide) ?_
  refine lv_iadd hx hb dX0_immerse_6 ?_
  refine m_put (ty := .int) tyX0 tyX0_ok nmX0 inX0 hF hC hO hS ((mU_ne hrv).trans (mU_self)) rfl 6 (by decide) q_85 rfl (by decide +kernel) rfl rfl (fs' := [.int (φ 0), .int (φ 1), .int (φ 2), .int (φ 3), .int (φ 4), .int (φ 5), .int ((φ 6) + 1)]) (Nat.le_of_ble_eq_true rfl) rfl dX0_immerse_7 (fun H locs hO hS => ?_)
  have hO : mO G lo ad (mU (mU (mU R r (frO φ)) v (vO ν)) r (frO (upd φ 6 ((φ 6) + 1)))) H := hO
  rw [mU_sw hrv, mU_mU] at hO
  refine lv_aload_n hx hb dX0_immerse_10 rfl (lv_at hl 0 rfl) ?_
  refine m_vI (As := []) (rest := []) (n := 0) hF hC hO hS (k_X0_meltsWhenDipped l G lo sa ad _ r (upd φ 6 ((φ 6) + 1)) ((mU_ne hrv).trans (mU_self))) ok_X0_meltsWhenDipped q_159 ((mU_ne hrv).trans (mU_self)) rfl ⟨Nat.le_of_ble_eq_true rfl, Nat.le_of_ble_eq_true rfl⟩ rfl hl.1 rfl (Nat.le_of_ble_eq_true rfl) ⟨Nat.le_of_ble_eq_true rfl, Nat.le_of_ble_eq_true rfl⟩ dX0_immerse_11 (fun v11 R' H locs hp hO hS => ?_)
  obtain ⟨⟨rfl, b11⟩ | ⟨rfl, b11⟩, hR⟩ := hp
  · rw [hR] at hO
    refine lv_if_eq (tgt := 28) hx hb dX0_immerse_14 (by decide) (fun c14 => absurd c14 (by decide)) (fun c14 => ?_)
    refine lv_aload_n hx hb dX0_immerse_17 rfl (lv_at hl 0 rfl) ?_
    refine lv_aload_n hx hb dX0_immerse_18 rfl (lv_at hl 1 rfl) ?_
    refine m_get inX4 hF hC hO (mU_self) rfl 1 (by decide) q_35 (v := .int (ν 1)) rfl dX0_immerse_19 ?_
    refine m_vV (As := [.int (ν 1)]) (rest := []) (n := 1) hF hC hO hS (k_X0_meltOff l G lo sa ad _ r (upd φ 6 ((φ 6) + 1)) (ν 1) ((mU_ne hrv).trans (mU_self))) ok_X0_meltOff q_453 ((mU_ne hrv).trans (mU_self)) rfl ⟨Nat.le_of_ble_eq_true rfl, Nat.le_of_ble_eq_true rfl⟩ rfl hl.1 rfl (Nat.le_of_ble_eq_true rfl) ⟨Nat.le_of_ble_eq_true rfl, Nat.le_of_ble_eq_true rfl⟩ dX0_immerse_22 (fun R' H locs hp hO hS => ?_)
    have hR := hp
    rw [hR] at hO
    have hO : mO G lo ad (mU (mU (mU R r (frO (upd φ 6 ((φ 6) + 1)))) v (vO ν)) r (frO (p_meltF (upd φ 6 ((φ 6) + 1)) (ν 1)))) H := hO
    rw [mU_sw hrv, mU_mU] at hO
    refine lv_goto (tgt := 33) hx hb dX0_immerse_25 (by decide) ?_
    refine m_vret hF hr hlk hQ hO hS dX0_immerse_33 ?_
    first | (rw [p_dipF, p_dipV, if_pos (show 70 < φ 3 from b11), if_pos (show 70 < φ 3 from b11)]; done) | (rw [p_dipF, p_dipV, if_neg (show ¬ 70 < φ 3 from b11), if_neg (show ¬ 70 < φ 3 from b11)]; done)
  · rw [hR] at hO
    refine lv_if_eq (tgt := 28) hx hb dX0_immerse_14 (by decide) (fun c14 => ?_) (fun c14 => absurd (by decide) c14)
    refine lv_aload_n hx hb dX0_immerse_28 rfl (lv_at hl 0 rfl) ?_
    refine lv_aload_n hx hb dX0_immerse_29 rfl (lv_at hl 1 rfl) ?_
    refine m_vV (As := [.ref (ad v)]) (rest := []) (n := 1) hF hC hO hS (k_X0_takeUp l G lo sa ad _ r v (upd φ 6 ((φ 6) + 1)) ν ((mU_ne hrv).trans (mU_self)) (mU_self) hrv) ok_X0_takeUp q_460 ((mU_ne hrv).trans (mU_self)) rfl ⟨Nat.le_of_ble_eq_true rfl, Nat.le_of_ble_eq_true rfl⟩ rfl hl.1 rfl (Nat.le_of_ble_eq_true rfl) ⟨Nat.le_of_ble_eq_true rfl, Nat.le_of_ble_eq_true rfl⟩ dX0_immerse_30 (fun R' H locs hp hO hS => ?_)
    have hR := hp
    rw [hR] at hO
    have hO : mO G lo ad (mU (mU (mU (mU R r (frO (upd φ 6 ((φ 6) + 1)))) v (vO ν)) r (frO (p_upF (upd φ 6 ((φ 6) + 1)) (ν 1)))) v (vO (p_upV (upd φ 6 ((φ 6) + 1)) ν))) H := hO
    rw [mU_sw hrv, mU_mU] at hO
    rw [mU_mU] at hO
    refine m_vret hF hr hlk hQ hO hS dX0_immerse_33 ?_
    first | (rw [p_dipF, p_dipV, if_pos (show 70 < φ 3 from b11), if_pos (show 70 < φ 3 from b11)]; done) | (rw [p_dipF, p_dipV, if_neg (show ¬ 70 < φ 3 from b11), if_neg (show ¬ 70 < φ 3 from b11)]; done)
theorem ok_X0_coolingOfPlace : mOK RX0 yX0_coolingOfPlace cX0_coolingOfPlace 1 (some .int) 0 := ⟨q_480, qs_13, q_5, q_481, by decide +kernel⟩
set_option maxHeartbeats 400000 in
set_option maxRecDepth 100000 in
theorem k_X0_coolingOfPlace (l : Launch) (G : mG) (lo : Nat) (sa ad : Nat → Nat) (R : mM) (r : Nat) (φ : Nat → Int32) (h0 : R r = some (frO φ)) : mI l yX0_coolingOfPlace cX0_coolingOfPlace 1 .int 1 20 G lo sa ad R [.ref (ad r)] (fun v R' => v = (p_cooling φ) ∧ R' = R) := by
  refine mI_of (by decide) (Nat.le_of_ble_eq_true rfl) ?_
  intro p e s m args below meth c hF hr hlk hC ls hl hO hS Q hQ
  have hx := hF.1
  have hb := hF.2.1
  have hl : lv_has ls 1 [(0, .ref (ad r))] := hl
  have hO : mO G lo ad (mU R r (frO φ)) s.heap := by
    rw [mU_id h0]
    exact hO
  refine lv_aload_n hx hb dX0_coolingOfPlace_0 rfl (lv_at hl 0 rfl) ?_
  refine m_vI (As := []) (rest := []) (n := 0) hF hC hO hS (k_X0_hangs l G lo sa ad _ r φ (mU_self)) ok_X0_hangs q_147 (mU_self) rfl ⟨Nat.le_of_ble_eq_true rfl, Nat.le_of_ble_eq_true rfl⟩ rfl hl.1 rfl (Nat.le_of_ble_eq_true rfl) ⟨Nat.le_of_ble_eq_true rfl, Nat.le_of_ble_eq_true rfl⟩ dX0_coolingOfPlace_1 (fun v1 R' H locs hp hO hS => ?_)
  obtain ⟨⟨rfl, b1⟩ | ⟨rfl, b1⟩, hR⟩ := hp
  · rw [hR] at hO
    refine lv_if_ne (tgt := 9) hx hb dX0_coolingOfPlace_4 (by decide) (fun c4 => ?_) (fun c4 => absurd c4 (by decide))
    refine lv_aload_n hx hb dX0_coolingOfPlace_9 rfl (lv_at hl 0 rfl) ?_
    refine m_get inX0 hF hC hO (mU_self) rfl 5 (by decide) q_83 (v := .int (φ 5)) rfl dX0_coolingOfPlace_10 ?_
    refine lv_bipush (v := 6) hx hb dX0_coolingOfPlace_13 (by decide) ?_
    refine lv_icmp_ge (tgt := 23) hx hb dX0_coolingOfPlace_15 (by decide) (fun c15 => ?_) (fun c15 => ?_)
    · refine lv_bipush (v := 6) hx hb dX0_coolingOfPlace_23 (by decide) ?_
      rw [mU_id (show R r = some (frO φ) from h0)] at hO
      refine m_iret hF hr hlk hQ rfl hO hS dX0_coolingOfPlace_25 ?_
      exact ⟨by rw [p_cooling, if_neg b1, if_neg (Int32.not_lt.mpr c15)], rfl⟩
    · refine lv_bipush (v := 12) hx hb dX0_coolingOfPlace_18 (by decide) ?_
      refine lv_goto (tgt := 25) hx hb dX0_coolingOfPlace_20 (by decide) ?_
      rw [mU_id (show R r = some (frO φ) from h0)] at hO
      refine m_iret hF hr hlk hQ rfl hO hS dX0_coolingOfPlace_25 ?_
      exact ⟨by rw [p_cooling, if_neg b1, if_pos (Int32.not_le.mp c15)], rfl⟩
  · rw [hR] at hO
    refine lv_if_ne (tgt := 9) hx hb dX0_coolingOfPlace_4 (by decide) (fun c4 => absurd (by decide) c4) (fun c4 => ?_)
    refine lv_iconst (v := 3) hx hb dX0_coolingOfPlace_7 (by decide) ?_
    rw [mU_id (show R r = some (frO φ) from h0)] at hO
    refine m_iret hF hr hlk hQ rfl hO hS dX0_coolingOfPlace_8 ?_
    exact ⟨(if_pos (Classical.not_not.mp b1)).symm, rfl⟩
theorem ok_X0_cool : mOK RX0 yX0_cool cX0_cool 1 none 0 := ⟨q_475, q_476, q_5, q_477, by decide +kernel⟩
set_option maxHeartbeats 400000 in
set_option maxRecDepth 100000 in
theorem k_X0_cool (l : Launch) (G : mG) (lo : Nat) (sa ad : Nat → Nat) (R : mM) (r : Nat) (φ : Nat → Int32) (h0 : R r = some (frO φ)) : mV l yX0_cool cX0_cool 1 2 40 G lo sa ad R [.ref (ad r)] (fun R' => R' = (mU R r (frO (p_coolF φ)))) := by
  refine mV_of (by decide) (Nat.le_of_ble_eq_true rfl) ?_
  intro p e s m args below meth c hF hr hlk hC ls hl hO hS Q hQ
  have hx := hF.1
  have hb := hF.2.1
  have hl : lv_has ls 1 [(0, .ref (ad r))] := hl
  have hO : mO G lo ad (mU R r (frO φ)) s.heap := by
    rw [mU_id h0]
    exact hO
  refine lv_aload_n hx hb dX0_cool_0 rfl (lv_at hl 0 rfl) ?_
  refine lv_iconst (v := 0) hx hb dX0_cool_1 (by decide) ?_
  refine lv_aload_n hx hb dX0_cool_2 rfl (lv_at hl 0 rfl) ?_
  refine m_get inX0 hF hC hO (mU_self) rfl 3 (by decide) q_79 (v := .int (φ 3)) rfl dX0_cool_3 ?_
  refine lv_aload_n hx hb dX0_cool_6 rfl (lv_at hl 0 rfl) ?_
  refine m_vI (As := []) (rest := [.int (φ 3), .int 0, .ref (ad r)]) (n := 0) hF hC hO hS (k_X0_coolingOfPlace l G lo sa ad _ r φ (mU_self)) ok_X0_coolingOfPlace q_478 (mU_self) rfl ⟨Nat.le_of_ble_eq_true rfl, Nat.le_of_ble_eq_true rfl⟩ rfl hl.1 rfl (Nat.le_of_ble_eq_true rfl) ⟨Nat.le_of_ble_eq_true rfl, Nat.le_of_ble_eq_true rfl⟩ dX0_cool_7 (fun v7 R' H locs hp hO hS => ?_)
  obtain ⟨rfl, hR⟩ := hp
  rw [hR] at hO
  refine lv_isub hx hb dX0_cool_10 ?_
  refine m_max hF hl.1 q_457 q_458 q_14 q_459 (Nat.le_of_ble_eq_true rfl) (Nat.le_of_ble_eq_true rfl) ⟨Nat.le_of_ble_eq_true rfl, Nat.le_of_ble_eq_true rfl⟩ dX0_cool_11 ?_
  refine m_put (ty := .int) tyX0 tyX0_ok nmX0 inX0 hF hC hO hS (mU_self) rfl 3 (by decide) q_79 rfl (by decide +kernel) rfl rfl (fs' := [.int (φ 0), .int (φ 1), .int (φ 2), .int (jmax 0 ((φ 3) - (p_cooling φ))), .int (φ 4), .int (φ 5), .int (φ 6)]) (Nat.le_of_ble_eq_true rfl) rfl dX0_cool_14 (fun H locs hO hS => ?_)
  have hO : mO G lo ad (mU (mU R r (frO φ)) r (frO (upd φ 3 (jmax 0 ((φ 3) - (p_cooling φ)))))) H := hO
  rw [mU_mU] at hO
  refine m_vret hF hr hlk hQ hO hS dX0_cool_17 ?_
  rfl
theorem ok_X0_size : mOK RX0 yX0_size cX0_size 1 (some .int) 0 := ⟨q_325, q_326, q_5, q_327, by decide +kernel⟩
set_option maxHeartbeats 400000 in
set_option maxRecDepth 100000 in
theorem k_X0_size (l : Launch) (G : mG) (lo : Nat) (sa ad : Nat → Nat) (R : mM) (r : Nat) (φ : Nat → Int32) (h0 : R r = some (frO φ)) : mI l yX0_size cX0_size 1 .int 1 21 G lo sa ad R [.ref (ad r)] (fun v R' => v = (p_size φ) ∧ R' = R) := by
  refine mI_of (by decide) (Nat.le_of_ble_eq_true rfl) ?_
  intro p e s m args below meth c hF hr hlk hC ls hl hO hS Q hQ
  have hx := hF.1
  have hb := hF.2.1
  have hl : lv_has ls 1 [(0, .ref (ad r))] := hl
  have hO : mO G lo ad (mU R r (frO φ)) s.heap := by
    rw [mU_id h0]
    exact hO
  refine lv_bipush (v := 9) hx hb dX0_size_0 (by decide) ?_
  refine lv_aload_n hx hb dX0_size_2 rfl (lv_at hl 0 rfl) ?_
  refine m_get inX0 hF hC hO (mU_self) rfl 2 (by decide) q_77 (v := .int (φ 2)) rfl dX0_size_3 ?_
  refine lv_aload_n hx hb dX0_size_6 rfl (lv_at hl 0 rfl) ?_
  refine m_get inX0 hF hC hO (mU_self) rfl 4 (by decide) q_81 (v := .int (φ 4)) rfl dX0_size_7 ?_
  refine lv_if_eq (tgt := 18) hx hb dX0_size_10 (by decide) (fun c10 => ?_) (fun c10 => ?_)
  · refine lv_bipush (v := 40) hx hb dX0_size_18 (by decide) ?_
    refine lv_idiv hx hb dX0_size_20 (by decide) ?_
    refine m_min hF hl.1 q_167 q_168 q_14 q_169 (Nat.le_of_ble_eq_true rfl) (Nat.le_of_ble_eq_true rfl) ⟨Nat.le_of_ble_eq_true rfl, Nat.le_of_ble_eq_true rfl⟩ dX0_size_21 ?_
    rw [mU_id (show R r = some (frO φ) from h0)] at hO
    refine m_iret hF hr hlk hQ rfl hO hS dX0_size_24 ?_
    exact ⟨by first | rw [p_size, if_pos c10] | rw [p_size, if_neg c10], rfl⟩
  · refine lv_bipush (v := 80) hx hb dX0_size_13 (by decide) ?_
    refine lv_goto (tgt := 20) hx hb dX0_size_15 (by decide) ?_
    refine lv_idiv hx hb dX0_size_20 (by decide) ?_
    refine m_min hF hl.1 q_167 q_168 q_14 q_169 (Nat.le_of_ble_eq_true rfl) (Nat.le_of_ble_eq_true rfl) ⟨Nat.le_of_ble_eq_true rfl, Nat.le_of_ble_eq_true rfl⟩ dX0_size_21 ?_
    rw [mU_id (show R r = some (frO φ) from h0)] at hO
    refine m_iret hF hr hlk hQ rfl hO hS dX0_size_24 ?_
    exact ⟨by first | rw [p_size, if_pos c10] | rw [p_size, if_neg c10], rfl⟩
theorem ok_X0_renewWicks : mOK RX0 yX0_renewWicks cX0_renewWicks 1 none 0 := ⟨q_509, q_510, q_5, q_511, by decide +kernel⟩
set_option maxHeartbeats 400000 in
set_option maxRecDepth 100000 in
theorem k_X0_renewWicks (l : Launch) (G : mG) (lo : Nat) (sa ad : Nat → Nat) (R : mM) (r : Nat) (φ : Nat → Int32) (h0 : R r = some (frO φ)) : mV l yX0_renewWicks cX0_renewWicks 1 0 0 G lo sa ad R [.ref (ad r)] (fun R' => R' = (mU R r (frO (p_renewF φ)))) := by
  refine mV_of (by decide) (Nat.le_of_ble_eq_true rfl) ?_
  intro p e s m args below meth c hF hr hlk hC ls hl hO hS Q hQ
  have hx := hF.1
  have hb := hF.2.1
  have hl : lv_has ls 1 [(0, .ref (ad r))] := hl
  have hO : mO G lo ad (mU R r (frO φ)) s.heap := by
    rw [mU_id h0]
    exact hO
  refine lv_aload_n hx hb dX0_renewWicks_0 rfl (lv_at hl 0 rfl) ?_
  refine lv_iconst (v := 0) hx hb dX0_renewWicks_1 (by decide) ?_
  refine m_put (ty := .int) tyX0 tyX0_ok nmX0 inX0 hF hC hO hS (mU_self) rfl 2 (by decide) q_77 rfl (by decide +kernel) rfl rfl (fs' := [.int (φ 0), .int (φ 1), .int 0, .int (φ 3), .int (φ 4), .int (φ 5), .int (φ 6)]) (Nat.le_of_ble_eq_true rfl) rfl dX0_renewWicks_2 (fun H locs hO hS => ?_)
  have hO : mO G lo ad (mU (mU R r (frO φ)) r (frO (upd φ 2 0))) H := hO
  rw [mU_mU] at hO
  refine lv_aload_n hx hb dX0_renewWicks_5 rfl (lv_at hl 0 rfl) ?_
  refine lv_iconst (v := 0) hx hb dX0_renewWicks_6 (by decide) ?_
  refine m_put (ty := .int) tyX0 tyX0_ok nmX0 inX0 hF hC hO hS (mU_self) rfl 3 (by decide) q_79 rfl (by decide +kernel) rfl rfl (fs' := [.int (φ 0), .int (φ 1), .int 0, .int 0, .int (φ 4), .int (φ 5), .int (φ 6)]) (Nat.le_of_ble_eq_true rfl) rfl dX0_renewWicks_7 (fun H locs hO hS => ?_)
  have hO : mO G lo ad (mU (mU R r (frO (upd φ 2 0))) r (frO (upd (upd φ 2 0) 3 0))) H := hO
  rw [mU_mU] at hO
  refine lv_aload_n hx hb dX0_renewWicks_10 rfl (lv_at hl 0 rfl) ?_
  refine lv_iconst (v := 0) hx hb dX0_renewWicks_11 (by decide) ?_
  refine m_put (ty := .boolean) tyX0 tyX0_ok nmX0 inX0 hF hC hO hS (mU_self) rfl 4 (by decide) q_81 rfl (by decide +kernel) rfl rfl (fs' := [.int (φ 0), .int (φ 1), .int 0, .int 0, .int 0, .int (φ 5), .int (φ 6)]) (Nat.le_of_ble_eq_true rfl) rfl dX0_renewWicks_12 (fun H locs hO hS => ?_)
  have hO : mO G lo ad (mU (mU R r (frO (upd (upd φ 2 0) 3 0))) r (frO (upd (upd (upd φ 2 0) 3 0) 4 0))) H := hO
  rw [mU_mU] at hO
  refine lv_aload_n hx hb dX0_renewWicks_15 rfl (lv_at hl 0 rfl) ?_
  refine lv_iconst (v := 0) hx hb dX0_renewWicks_16 (by decide) ?_
  refine m_put (ty := .int) tyX0 tyX0_ok nmX0 inX0 hF hC hO hS (mU_self) rfl 6 (by decide) q_85 rfl (by decide +kernel) rfl rfl (fs' := [.int (φ 0), .int (φ 1), .int 0, .int 0, .int 0, .int (φ 5), .int 0]) (Nat.le_of_ble_eq_true rfl) rfl dX0_renewWicks_17 (fun H locs hO hS => ?_)
  have hO : mO G lo ad (mU (mU R r (frO (upd (upd (upd φ 2 0) 3 0) 4 0))) r (frO (upd (upd (upd (upd φ 2 0) 3 0) 4 0) 6 0))) H := hO
  rw [mU_mU] at hO
  refine m_vret hF hr hlk hQ hO hS dX0_renewWicks_20 ?_
  rfl
theorem ok_X0_copyFrom : mOK RX0 yX0_copyFrom cX0_copyFrom 2 none 1 := ⟨q_611, q_612, q_5, q_613, by decide +kernel⟩
set_option maxHeartbeats 400000 in
set_option maxRecDepth 100000 in
theorem k_X0_copyFrom (l : Launch) (G : mG) (lo : Nat) (sa ad : Nat → Nat) (R : mM) (r : Nat) (v : Nat) (φ : Nat → Int32) (ψ : Nat → Int32) (h0 : R r = some (frO φ)) (h1 : R v = some (frO ψ)) (hrv : r ≠ v) (hb4 : ψ 4 = 0 ∨ ψ 4 = 1) : mV l yX0_copyFrom cX0_copyFrom 2 0 0 G lo sa ad R [.ref (ad r), .ref (ad v)] (fun R' => R' = (mU R r (frO ψ))) := by
  refine mV_of (by decide) (Nat.le_of_ble_eq_true rfl) ?_
  intro p e s m args below meth c hF hr hlk hC ls hl hO hS Q hQ
  have hx := hF.1
  have hb := hF.2.1
  have hl : lv_has ls 2 [(0, .ref (ad r)), (1, .ref (ad v))] := hl
  have hO : mO G lo ad (mU (mU R r (frO φ)) v (frO ψ)) s.heap := by
    rw [mU_id h0, mU_id h1]
    exact hO
  refine lv_aload_n hx hb dX0_copyFrom_0 rfl (lv_at hl 0 rfl) ?_
  refine lv_aload_n hx hb dX0_copyFrom_1 rfl (lv_at hl 1 rfl) ?_
  refine m_get inX0 hF hC hO (mU_self) rfl 0 (by decide) q_72 (v := .int (ψ 0)) rfl dX0_copyFrom_2 ?_
  refine m_put (ty := .int) tyX0 tyX0_ok nmX0 inX0 hF hC hO hS ((mU_ne hrv).trans (mU_self)) rfl 0 (by decide) q_72 rfl (by decide +kernel) rfl rfl (fs' := [.int (ψ 0), .int (φ 1), .int (φ 2), .int (φ 3), .int (φ 4), .int (φ 5), .int (φ 6)]) (Nat.le_of_ble_eq_true rfl) rfl dX0_copyFrom_5 (fun H locs hO hS => ?_)
  have hO : mO G lo ad (mU (mU (mU R r (frO φ)) v (frO ψ)) r (frO (upd φ 0 (ψ 0)))) H := hO
  rw [mU_sw hrv, mU_mU] at hO
  refine lv_aload_n hx hb dX0_copyFrom_8 rfl (lv_at hl 0 rfl) ?_
  refine lv_aload_n hx hb dX0_copyFrom_9 rfl (lv_at hl 1 rfl) ?_
  refine m_get inX0 hF hC hO (mU_self) rfl 1 (by decide) q_74 (v := .int (ψ 1)) rfl dX0_copyFrom_10 ?_
  refine m_put (ty := .int) tyX0 tyX0_ok nmX0 inX0 hF hC hO hS ((mU_ne hrv).trans (mU_self)) rfl 1 (by decide) q_74 rfl (by decide +kernel) rfl rfl (fs' := [.int (ψ 0), .int (ψ 1), .int (φ 2), .int (φ 3), .int (φ 4), .int (φ 5), .int (φ 6)]) (Nat.le_of_ble_eq_true rfl) rfl dX0_copyFrom_13 (fun H locs hO hS => ?_)
  have hO : mO G lo ad (mU (mU (mU R r (frO (upd φ 0 (ψ 0)))) v (frO ψ)) r (frO (upd (upd φ 0 (ψ 0)) 1 (ψ 1)))) H := hO
  rw [mU_sw hrv, mU_mU] at hO
  refine lv_aload_n hx hb dX0_copyFrom_16 rfl (lv_at hl 0 rfl) ?_
  refine lv_aload_n hx hb dX0_copyFrom_17 rfl (lv_at hl 1 rfl) ?_
  refine m_get inX0 hF hC hO (mU_self) rfl 2 (by decide) q_77 (v := .int (ψ 2)) rfl dX0_copyFrom_18 ?_
  refine m_put (ty := .int) tyX0 tyX0_ok nmX0 inX0 hF hC hO hS ((mU_ne hrv).trans (mU_self)) rfl 2 (by decide) q_77 rfl (by decide +kernel) rfl rfl (fs' := [.int (ψ 0), .int (ψ 1), .int (ψ 2), .int (φ 3), .int (φ 4), .int (φ 5), .int (φ 6)]) (Nat.le_of_ble_eq_true rfl) rfl dX0_copyFrom_21 (fun H locs hO hS => ?_)
  have hO : mO G lo ad (mU (mU (mU R r (frO (upd (upd φ 0 (ψ 0)) 1 (ψ 1)))) v (frO ψ)) r (frO (upd (upd (upd φ 0 (ψ 0)) 1 (ψ 1)) 2 (ψ 2)))) H := hO
  rw [mU_sw hrv, mU_mU] at hO
  refine lv_aload_n hx hb dX0_copyFrom_24 rfl (lv_at hl 0 rfl) ?_
  refine lv_aload_n hx hb dX0_copyFrom_25 rfl (lv_at hl 1 rfl) ?_
  refine m_get inX0 hF hC hO (mU_self) rfl 3 (by decide) q_79 (v := .int (ψ 3)) rfl dX0_copyFrom_26 ?_
  refine m_put (ty := .int) tyX0 tyX0_ok nmX0 inX0 hF hC hO hS ((mU_ne hrv).trans (mU_self)) rfl 3 (by decide) q_79 rfl (by decide +kernel) rfl rfl (fs' := [.int (ψ 0), .int (ψ 1), .int (ψ 2), .int (ψ 3), .int (φ 4), .int (φ 5), .int (φ 6)]) (Nat.le_of_ble_eq_true rfl) rfl dX0_copyFrom_29 (fun H locs hO hS => ?_)
  have hO : mO G lo ad (mU (mU (mU R r (frO (upd (upd (upd φ 0 (ψ 0)) 1 (ψ 1)) 2 (ψ 2)))) v (frO ψ)) r (frO (upd (upd (upd (upd φ 0 (ψ 0)) 1 (ψ 1)) 2 (ψ 2)) 3 (ψ 3)))) H := hO
  rw [mU_sw hrv, mU_mU] at hO
  refine lv_aload_n hx hb dX0_copyFrom_32 rfl (lv_at hl 0 rfl) ?_
  refine lv_aload_n hx hb dX0_copyFrom_33 rfl (lv_at hl 1 rfl) ?_
  refine m_get inX0 hF hC hO (mU_self) rfl 4 (by decide) q_81 (v := .int (ψ 4)) rfl dX0_copyFrom_34 ?_
  refine m_put (ty := .boolean) tyX0 tyX0_ok nmX0 inX0 hF hC hO hS ((mU_ne hrv).trans (mU_self)) rfl 4 (by decide) q_81 rfl (by decide +kernel) (by rcases hb4 with h | h <;> rw [h] <;> rfl) (by rcases hb4 with h | h <;> rw [h] <;> rfl) (fs' := [.int (ψ 0), .int (ψ 1), .int (ψ 2), .int (ψ 3), .int (ψ 4), .int (φ 5), .int (φ 6)]) (Nat.le_of_ble_eq_true rfl) rfl dX0_copyFrom_37 (fun H locs hO hS => ?_)
  have hO : mO G lo ad (mU (mU (mU R r (frO (upd (upd (upd (upd φ 0 (ψ 0)) 1 (ψ 1)) 2 (ψ 2)) 3 (ψ 3)))) v (frO ψ)) r (frO (upd (upd (upd (upd (upd φ 0 (ψ 0)) 1 (ψ 1)) 2 (ψ 2)) 3 (ψ 3)) 4 (ψ 4)))) H := hO
  rw [mU_sw hrv, mU_mU] at hO
  refine lv_aload_n hx hb dX0_copyFrom_40 rfl (lv_at hl 0 rfl) ?_
  refine lv_aload_n hx hb dX0_copyFrom_41 rfl (lv_at hl 1 rfl) ?_
  refine m_get inX0 hF hC hO (mU_self) rfl 5 (by decide) q_83 (v := .int (ψ 5)) rfl dX0_copyFrom_42 ?_
  refine m_put (ty := .int) tyX0 tyX0_ok nmX0 inX0 hF hC hO hS ((mU_ne hrv).trans (mU_self)) rfl 5 (by decide) q_83 rfl (by decide +kernel) rfl rfl (fs' := [.int (ψ 0), .int (ψ 1), .int (ψ 2), .int (ψ 3), .int (ψ 4), .int (ψ 5), .int (φ 6)]) (Nat.le_of_ble_eq_true rfl) rfl dX0_copyFrom_45 (fun H locs hO hS => ?_)
  have hO : mO G lo ad (mU (mU (mU R r (frO (upd (upd (upd (upd (upd φ 0 (ψ 0)) 1 (ψ 1)) 2 (ψ 2)) 3 (ψ 3)) 4 (ψ 4)))) v (frO ψ)) r (frO (upd (upd (upd (upd (upd (upd φ 0 (ψ 0)) 1 (ψ 1)) 2 (ψ 2)) 3 (ψ 3)) 4 (ψ 4)) 5 (ψ 5)))) H := hO
  rw [mU_sw hrv, mU_mU] at hO
  refine lv_aload_n hx hb dX0_copyFrom_48 rfl (lv_at hl 0 rfl) ?_
  refine lv_aload_n hx hb dX0_copyFrom_49 rfl (lv_at hl 1 rfl) ?_
  refine m_get inX0 hF hC hO (mU_self) rfl 6 (by decide) q_85 (v := .int (ψ 6)) rfl dX0_copyFrom_50 ?_
  refine m_put (ty := .int) tyX0 tyX0_ok nmX0 inX0 hF hC hO hS ((mU_ne hrv).trans (mU_self)) rfl 6 (by decide) q_85 rfl (by decide +kernel) rfl rfl (fs' := [.int (ψ 0), .int (ψ 1), .int (ψ 2), .int (ψ 3), .int (ψ 4), .int (ψ 5), .int (ψ 6)]) (Nat.le_of_ble_eq_true rfl) rfl dX0_copyFrom_53 (fun H locs hO hS => ?_)
  have hO : mO G lo ad (mU (mU (mU R r (frO (upd (upd (upd (upd (upd (upd φ 0 (ψ 0)) 1 (ψ 1)) 2 (ψ 2)) 3 (ψ 3)) 4 (ψ 4)) 5 (ψ 5)))) v (frO ψ)) r (frO (upd (upd (upd (upd (upd (upd (upd φ 0 (ψ 0)) 1 (ψ 1)) 2 (ψ 2)) 3 (ψ 3)) 4 (ψ 4)) 5 (ψ 5)) 6 (ψ 6)))) H := hO
  rw [mU_sw hrv, mU_mU] at hO
  rw [mU_id (show (mU R r (frO (upd (upd (upd (upd (upd (upd (upd φ 0 (ψ 0)) 1 (ψ 1)) 2 (ψ 2)) 3 (ψ 3)) 4 (ψ 4)) 5 (ψ 5)) 6 (ψ 6)))) v = some (frO ψ) from ((mU_ne (Ne.symm hrv)).trans h1))] at hO
  refine m_vret hF hr hlk hQ hO hS dX0_copyFrom_56 ?_
  rfl
theorem ok_X4_copyFrom : mOK RX4 yX4_copyFrom cX4_copyFrom 2 none 1 := ⟨q_615, q_616, q_2, q_617, by decide +kernel⟩
set_option maxHeartbeats 400000 in
set_option maxRecDepth 100000 in
theorem k_X4_copyFrom (l : Launch) (G : mG) (lo : Nat) (sa ad : Nat → Nat) (R : mM) (r : Nat) (v : Nat) (ν : Nat → Int32) (κ : Nat → Int32) (h0 : R r = some (vO ν)) (h1 : R v = some (vO κ)) (hrv : r ≠ v) : mV l yX4_copyFrom cX4_copyFrom 2 0 0 G lo sa ad R [.ref (ad r), .ref (ad v)] (fun R' => R' = (mU R r (vO κ))) := by
  refine mV_of (by decide) (Nat.le_of_ble_eq_true rfl) ?_
  intro p e s m args below meth c hF hr hlk hC ls hl hO hS Q hQ
  have hx := hF.1
  have hb := hF.2.1
  have hl : lv_has ls 2 [(0, .ref (ad r)), (1, .ref (ad v))] := hl
  have hO : mO G lo ad (mU (mU R r (vO ν)) v (vO κ)) s.heap := by
    rw [mU_id h0, mU_id h1]
    exact hO
  refine lv_aload_n hx hb dX4_copyFrom_0 rfl (lv_at hl 0 rfl) ?_
  refine lv_aload_n hx hb dX4_copyFrom_1 rfl (lv_at hl 1 rfl) ?_
  refine m_get inX4 hF hC hO (mU_self) rfl 0 (by decide) q_31 (v := .int (κ 0)) rfl dX4_copyFrom_2 ?_
  refine m_put (ty := .int) tyX4 tyX4_ok nmX4 inX4 hF hC hO hS ((mU_ne hrv).trans (mU_self)) rfl 0 (by decide) q_31 rfl (by decide +kernel) rfl rfl (fs' := [.int (κ 0), .int (ν 1), .int (ν 2)]) (Nat.le_of_ble_eq_true rfl) rfl dX4_copyFrom_5 (fun H locs hO hS => ?_)
  have hO : mO G lo ad (mU (mU (mU R r (vO ν)) v (vO κ)) r (vO (upd ν 0 (κ 0)))) H := hO
  rw [mU_sw hrv, mU_mU] at hO
  refine lv_aload_n hx hb dX4_copyFrom_8 rfl (lv_at hl 0 rfl) ?_
  refine lv_aload_n hx hb dX4_copyFrom_9 rfl (lv_at hl 1 rfl) ?_
  refine m_get inX4 hF hC hO (mU_self) rfl 1 (by decide) q_33 (v := .int (κ 1)) rfl dX4_copyFrom_10 ?_
  refine m_put (ty := .int) tyX4 tyX4_ok nmX4 inX4 hF hC hO hS ((mU_ne hrv).trans (mU_self)) rfl 1 (by decide) q_33 rfl (by decide +kernel) rfl rfl (fs' := [.int (κ 0), .int (κ 1), .int (ν 2)]) (Nat.le_of_ble_eq_true rfl) rfl dX4_copyFrom_13 (fun H locs hO hS => ?_)
  have hO : mO G lo ad (mU (mU (mU R r (vO (upd ν 0 (κ 0)))) v (vO κ)) r (vO (upd (upd ν 0 (κ 0)) 1 (κ 1)))) H := hO
  rw [mU_sw hrv, mU_mU] at hO
  refine lv_aload_n hx hb dX4_copyFrom_16 rfl (lv_at hl 0 rfl) ?_
  refine lv_aload_n hx hb dX4_copyFrom_17 rfl (lv_at hl 1 rfl) ?_
  refine m_get inX4 hF hC hO (mU_self) rfl 2 (by decide) q_37 (v := .int (κ 2)) rfl dX4_copyFrom_18 ?_
  refine m_put (ty := .int) tyX4 tyX4_ok nmX4 inX4 hF hC hO hS ((mU_ne hrv).trans (mU_self)) rfl 2 (by decide) q_37 rfl (by decide +kernel) rfl rfl (fs' := [.int (κ 0), .int (κ 1), .int (κ 2)]) (Nat.le_of_ble_eq_true rfl) rfl dX4_copyFrom_21 (fun H locs hO hS => ?_)
  have hO : mO G lo ad (mU (mU (mU R r (vO (upd (upd ν 0 (κ 0)) 1 (κ 1)))) v (vO κ)) r (vO (upd (upd (upd ν 0 (κ 0)) 1 (κ 1)) 2 (κ 2)))) H := hO
  rw [mU_sw hrv, mU_mU] at hO
  rw [mU_id (show (mU R r (vO (upd (upd (upd ν 0 (κ 0)) 1 (κ 1)) 2 (κ 2)))) v = some (vO κ) from ((mU_ne (Ne.symm hrv)).trans h1))] at hO
  refine m_vret hF hr hlk hQ hO hS dX4_copyFrom_24 ?_
  rfl
end
section
theorem ok_X5_within : mOS yX5_within cX5_within 3 (some .boolean) 3 := ⟨q_195, q_1, q_196, by decide +kernel⟩
set_option maxHeartbeats 400000 in
set_option maxRecDepth 100000 in
theorem k_X5_within (l : Launch) (G : mG) (lo : Nat) (sa ad : Nat → Nat) (R : mM) (x a b : Int32) : mI l yX5_within cX5_within 3 .boolean 0 0 G lo sa ad R [.int x, .int a, .int b] (fun v R' => mBo (p_in x a b) v ∧ R' = R) := by
  refine mI_of (by decide) (Nat.le_of_ble_eq_true rfl) ?_
  intro p e s m args below meth c hF hr hlk hC ls hl hO hS Q hQ
  have hx := hF.1
  have hb := hF.2.1
  have hl : lv_has ls 3 [(0, .int x), (1, .int a), (2, .int b)] := hl
  refine lv_iload_n hx hb dX5_within_0 rfl (lv_at hl 0 rfl) ?_
  refine lv_iload_n hx hb dX5_within_1 rfl (lv_at hl 1 rfl) ?_
  refine lv_icmp_lt (tgt := 14) hx hb dX5_within_2 (by decide) (fun c2 => ?_) (fun c2 => ?_)
  · refine lv_iconst (v := 0) hx hb dX5_within_14 (by decide) ?_
    refine m_iret hF hr hlk hQ rfl hO hS dX5_within_15 ?_
    first | exact ⟨mBo_f (fun h => absurd h.2 (Int32.not_le.mpr c7)), rfl⟩ | exact ⟨mBo_f (fun h => absurd h.1 (Int32.not_le.mpr c2)), rfl⟩
  · refine lv_iload_n hx hb dX5_within_5 rfl (lv_at hl 0 rfl) ?_
    refine lv_iload_n hx hb dX5_within_6 rfl (lv_at hl 2 rfl) ?_
    refine lv_icmp_gt (tgt := 14) hx hb dX5_within_7 (by decide) (fun c7 => ?_) (fun c7 => ?_)
    · refine lv_iconst (v := 0) hx hb dX5_within_14 (by decide) ?_
      refine m_iret hF hr hlk hQ rfl hO hS dX5_within_15 ?_
      first | exact ⟨mBo_f (fun h => absurd h.2 (Int32.not_le.mpr c7)), rfl⟩ | exact ⟨mBo_f (fun h => absurd h.1 (Int32.not_le.mpr c2)), rfl⟩
    · refine lv_iconst (v := 1) hx hb dX5_within_10 (by decide) ?_
      refine lv_goto (tgt := 15) hx hb dX5_within_11 (by decide) ?_
      refine m_iret hF hr hlk hQ rfl hO hS dX5_within_15 ?_
      exact ⟨mBo_t ⟨Int32.not_lt.mp c2, Int32.not_lt.mp c7⟩, rfl⟩
theorem ok_X2_hasShelf : mOS yX2_hasShelf cX2_hasShelf 2 (some .boolean) 2 := ⟨q_192, q_3, q_193, by decide +kernel⟩
set_option maxHeartbeats 400000 in
set_option maxRecDepth 100000 in
theorem k_X2_hasShelf (l : Launch) (G : mG) (lo : Nat) (sa ad : Nat → Nat) (R : mM) (k z : Int32) : mI l yX2_hasShelf cX2_hasShelf 2 .boolean 1 22 G lo sa ad R [.int k, .int z] (fun v R' => mBo (p_shelf k z) v ∧ R' = R) := by
  refine mI_of (by decide) (Nat.le_of_ble_eq_true rfl) ?_
  intro p e s m args below meth c hF hr hlk hC ls hl hO hS Q hQ
  have hx := hF.1
  have hb := hF.2.1
  have hl : lv_has ls 2 [(0, .int k), (1, .int z)] := hl
  refine lv_iload_n hx hb dX2_hasShelf_0 rfl (lv_at hl 0 rfl) ?_
  refine lv_iconst (v := 0) hx hb dX2_hasShelf_1 (by decide) ?_
  refine lv_iconst (v := 3) hx hb dX2_hasShelf_2 (by decide) ?_
  refine m_nI (As := [.int k, .int 0, .int 3]) (rest := []) (n := 3) hF hC hO hS (k_X5_within l G lo sa ad _ k 0 3 ) ok_X5_within ⟨Nat.le_of_ble_eq_true rfl, Nat.le_of_ble_eq_true rfl⟩ rfl hl.1 rfl (Nat.le_of_ble_eq_true rfl) ⟨Nat.le_of_ble_eq_true rfl, Nat.le_of_ble_eq_true rfl⟩ dX2_hasShelf_3 (fun v3 R' H locs hp hO hS => ?_)
  obtain ⟨⟨rfl, b3⟩ | ⟨rfl, b3⟩, hR⟩ := hp
  · rw [hR] at hO
    refine lv_if_eq (tgt := 23) hx hb dX2_hasShelf_6 (by decide) (fun c6 => absurd c6 (by decide)) (fun c6 => ?_)
    refine lv_iload_n hx hb dX2_hasShelf_9 rfl (lv_at hl 1 rfl) ?_
    refine lv_iconst (v := 1) hx hb dX2_hasShelf_10 (by decide) ?_
    refine lv_bipush (v := 9) hx hb dX2_hasShelf_11 (by decide) ?_
    refine m_nI (As := [.int z, .int 1, .int 9]) (rest := []) (n := 3) hF hC hO hS (k_X5_within l G lo sa ad _ z 1 9 ) ok_X5_within ⟨Nat.le_of_ble_eq_true rfl, Nat.le_of_ble_eq_true rfl⟩ rfl hl.1 rfl (Nat.le_of_ble_eq_true rfl) ⟨Nat.le_of_ble_eq_true rfl, Nat.le_of_ble_eq_true rfl⟩ dX2_hasShelf_13 (fun v13 R' H locs hp hO hS => ?_)
    obtain ⟨⟨rfl, b13⟩ | ⟨rfl, b13⟩, hR⟩ := hp
    · rw [hR] at hO
      refine lv_if_eq (tgt := 23) hx hb dX2_hasShelf_16 (by decide) (fun c16 => absurd c16 (by decide)) (fun c16 => ?_)
      refine lv_iconst (v := 1) hx hb dX2_hasShelf_19 (by decide) ?_
      refine lv_goto (tgt := 24) hx hb dX2_hasShelf_20 (by decide) ?_
      refine m_iret hF hr hlk hQ rfl hO hS dX2_hasShelf_24 ?_
      exact ⟨mBo_t ⟨b3, b13⟩, rfl⟩
    · rw [hR] at hO
      refine lv_if_eq (tgt := 23) hx hb dX2_hasShelf_16 (by decide) (fun c16 => ?_) (fun c16 => absurd (by decide) c16)
      refine lv_iconst (v := 0) hx hb dX2_hasShelf_23 (by decide) ?_
      refine m_iret hF hr hlk hQ rfl hO hS dX2_hasShelf_24 ?_
      first | exact ⟨mBo_f (fun h => b13 h.2), rfl⟩ | exact ⟨mBo_f (fun h => b3 h.1), rfl⟩
  · rw [hR] at hO
    refine lv_if_eq (tgt := 23) hx hb dX2_hasShelf_6 (by decide) (fun c6 => ?_) (fun c6 => absurd (by decide) c6)
    refine lv_iconst (v := 0) hx hb dX2_hasShelf_23 (by decide) ?_
    refine m_iret hF hr hlk hQ rfl hO hS dX2_hasShelf_24 ?_
    first | exact ⟨mBo_f (fun h => b13 h.2), rfl⟩ | exact ⟨mBo_f (fun h => b3 h.1), rfl⟩
theorem ok_X2_amount : mOK RX2 yX2_amount cX2_amount 3 (some .int) 2 := ⟨q_188, q_189, q_3, q_190, by decide +kernel⟩
set_option maxHeartbeats 400000 in
set_option maxRecDepth 100000 in
theorem k_X2_amount (l : Launch) (G : mG) (lo : Nat) (sa ad : Nat → Nat) (R : mM) (f : Nat → Int32) (k z : Nat) (h0 : R 3 = some (.inr (2, [.ref (ad 4)]))) (h1 : R 4 = some (.inl (G.2 0, 36, .inl f))) (hk : k < 4) (hz1 : 1 ≤ z) (hz9 : z ≤ 9) : mI l yX2_amount cX2_amount 3 .int 2 43 G lo sa ad R [.ref (ad 3), .int (nI k), .int (nI z)] (fun v R' => v = (f (9 * k + z - 1)) ∧ R' = R) := by
  refine mI_of (by decide) (Nat.le_of_ble_eq_true rfl) ?_
  intro p e s m args below meth c hF hr hlk hC ls hl hO hS Q hQ
  have hx := hF.1
  have hb := hF.2.1
  have hl : lv_has ls 3 [(0, .ref (ad 3)), (1, .int (nI k)), (2, .int (nI z))] := hl
  have hO : mO G lo ad (mU (mU R 3 (.inr (2, [.ref (ad 4)]))) 4 (.inl (G.2 0, 36, .inl f))) s.heap := by
    rw [mU_id h0, mU_id h1]
    exact hO
  refine lv_iload_n hx hb dX2_amount_0 rfl (lv_at hl 1 rfl) ?_
  refine lv_iload_n hx hb dX2_amount_1 rfl (lv_at hl 2 rfl) ?_
  refine m_sI (As := [.int (nI k), .int (nI z)]) (rest := []) (n := 2) hF hC hO hS (k_X2_hasShelf l G lo sa ad _ (nI k) (nI z) ) ok_X2_hasShelf q_191 ⟨Nat.le_of_ble_eq_true rfl, Nat.le_of_ble_eq_true rfl⟩ rfl hl.1 rfl (Nat.le_of_ble_eq_true rfl) ⟨Nat.le_of_ble_eq_true rfl, Nat.le_of_ble_eq_true rfl⟩ dX2_amount_2 (fun v2 R' H locs hp hO hS => ?_)
  obtain ⟨⟨rfl, b2⟩ | ⟨rfl, b2⟩, hR⟩ := hp
  · rw [hR] at hO
    refine lv_if_eq (tgt := 24) hx hb dX2_amount_5 (by decide) (fun c5 => absurd c5 (by decide)) (fun c5 => ?_)
    refine lv_aload_n hx hb dX2_amount_8 rfl (lv_at hl 0 rfl) ?_
    refine m_get inX2 hF hC hO ((mU_ne (by decide : (3 : Nat) ≠ 4)).trans (mU_self)) rfl 0 (by decide) q_53 (v := .ref (ad 4)) rfl dX2_amount_9 ?_
    refine lv_iload_n hx hb dX2_amount_12 rfl (lv_at hl 1 rfl) ?_
    refine lv_bipush (v := 9) hx hb dX2_amount_13 (by decide) ?_
    refine lv_imul hx hb dX2_amount_15 ?_
    refine lv_iload_n hx hb dX2_amount_16 rfl (lv_at hl 2 rfl) ?_
    refine lv_iadd hx hb dX2_amount_17 ?_
    refine lv_iconst (v := 1) hx hb dX2_amount_18 (by decide) ?_
    refine lv_isub hx hb dX2_amount_19 ?_
    refine m_iald hF hC hO (mU_self) (j := (9 * k + z - 1)) (by rw [p_ix hz1]; exact nI_clamp (by omega)) (by rw [p_ix hz1]; exact vp_in_nI (by omega) (by decide)) dX2_amount_20 ?_
    refine lv_goto (tgt := 25) hx hb dX2_amount_21 (by decide) ?_
    rw [mU_id (show R 3 = some (.inr (2, [.ref (ad 4)])) from h0)] at hO
    rw [mU_id (show R 4 = some (.inl (G.2 0, 36, .inl f)) from h1)] at hO
    refine m_iret hF hr hlk hQ rfl hO hS dX2_amount_25 ?_
    exact ⟨rfl, rfl⟩
  · exact absurd (p_shelf_nI hk hz1 hz9) b2
theorem ok_X2_put : mOK RX2 yX2_put cX2_put 4 none 3 := ⟨q_505, q_506, q_3, q_507, by decide +kernel⟩
set_option maxHeartbeats 400000 in
set_option maxRecDepth 100000 in
theorem k_X2_put (l : Launch) (G : mG) (lo : Nat) (sa ad : Nat → Nat) (R : mM) (f : Nat → Int32) (k z : Nat) (w : Int32) (h0 : R 3 = some (.inr (2, [.ref (ad 4)]))) (h1 : R 4 = some (.inl (G.2 0, 36, .inl f))) (hk : k < 4) (hz1 : 1 ≤ z) (hz9 : z ≤ 9) : mV l yX2_put cX2_put 4 2 43 G lo sa ad R [.ref (ad 3), .int (nI k), .int (nI z), .int w] (fun R' => R' = (mU R 4 (.inl (G.2 0, 36, .inl (upd f (9 * k + z - 1) (f (9 * k + z - 1) + w)))))) := by
  refine mV_of (by decide) (Nat.le_of_ble_eq_true rfl) ?_
  intro p e s m args below meth c hF hr hlk hC ls hl hO hS Q hQ
  have hx := hF.1
  have hb := hF.2.1
  have hl : lv_has ls 4 [(0, .ref (ad 3)), (1, .int (nI k)), (2, .int (nI z)), (3, .int w)] := hl
  have hO : mO G lo ad (mU (mU R 3 (.inr (2, [.ref (ad 4)]))) 4 (.inl (G.2 0, 36, .inl f))) s.heap := by
    rw [mU_id h0, mU_id h1]
    exact hO
  refine lv_iload_n hx hb dX2_put_0 rfl (lv_at hl 1 rfl) ?_
  refine lv_iload_n hx hb dX2_put_1 rfl (lv_at hl 2 rfl) ?_
  refine m_sI (As := [.int (nI k), .int (nI z)]) (rest := []) (n := 2) hF hC hO hS (k_X2_hasShelf l G lo sa ad _ (nI k) (nI z) ) ok_X2_hasShelf q_191 ⟨Nat.le_of_ble_eq_true rfl, Nat.le_of_ble_eq_true rfl⟩ rfl hl.1 rfl (Nat.le_of_ble_eq_true rfl) ⟨Nat.le_of_ble_eq_true rfl, Nat.le_of_ble_eq_true rfl⟩ dX2_put_2 (fun v2 R' H locs hp hO hS => ?_)
  obtain ⟨⟨rfl, b2⟩ | ⟨rfl, b2⟩, hR⟩ := hp
  · rw [hR] at hO
    refine lv_if_eq (tgt := 25) hx hb dX2_put_5 (by decide) (fun c5 => absurd c5 (by decide)) (fun c5 => ?_)
    refine lv_aload_n hx hb dX2_put_8 rfl (lv_at hl 0 rfl) ?_
    refine m_get inX2 hF hC hO ((mU_ne (by decide : (3 : Nat) ≠ 4)).trans (mU_self)) rfl 0 (by decide) q_53 (v := .ref (ad 4)) rfl dX2_put_9 ?_
    refine lv_iload_n hx hb dX2_put_12 rfl (lv_at hl 1 rfl) ?_
    refine lv_bipush (v := 9) hx hb dX2_put_13 (by decide) ?_
    refine lv_imul hx hb dX2_put_15 ?_
    refine lv_iload_n hx hb dX2_put_16 rfl (lv_at hl 2 rfl) ?_
    refine lv_iadd hx hb dX2_put_17 ?_
    refine lv_iconst (v := 1) hx hb dX2_put_18 (by decide) ?_
    refine lv_isub hx hb dX2_put_19 ?_
    refine lv_dup2_11 hx hb dX2_put_20 rfl rfl ?_
    refine m_iald hF hC hO (mU_self) (j := (9 * k + z - 1)) (by rw [p_ix hz1]; exact nI_clamp (by omega)) (by rw [p_ix hz1]; exact vp_in_nI (by omega) (by decide)) dX2_put_21 ?_
    refine lv_iload_n hx hb dX2_put_22 rfl (lv_at hl 3 rfl) ?_
    refine lv_iadd hx hb dX2_put_23 ?_
    refine m_iast hF hC hO hS (mU_self) (j := (9 * k + z - 1)) (by rw [p_ix hz1]; exact nI_clamp (by omega)) (by rw [p_ix hz1]; exact vp_in_nI (by omega) (by decide)) dX2_put_24 (fun H locs hO hS => ?_)
    have hO : mO G lo ad (mU (mU (mU R 3 (.inr (2, [.ref (ad 4)]))) 4 (.inl (G.2 0, 36, .inl f))) 4 (.inl (G.2 0, 36, .inl (upd f (9 * k + z - 1) ((f (9 * k + z - 1)) + w))))) H := hO
    rw [mU_mU] at hO
    rw [mU_id (show R 3 = some (.inr (2, [.ref (ad 4)])) from h0)] at hO
    refine m_vret hF hr hlk hQ hO hS dX2_put_25 ?_
    rfl
  · exact absurd (p_shelf_nI hk hz1 hz9) b2
theorem ok_X2_amountFrom : mOK RX2 yX2_amountFrom cX2_amountFrom 5 (some .int) 2 := ⟨q_184, q_185, q_3, q_186, by decide +kernel⟩
set_option maxHeartbeats 400000 in
set_option maxRecDepth 100000 in
theorem k_X2_amountFrom (l : Launch) (G : mG) (lo : Nat) (sa ad : Nat → Nat) (R : mM) (f : Nat → Int32) (k z : Nat) (h0 : R 3 = some (.inr (2, [.ref (ad 4)]))) (h1 : R 4 = some (.inl (G.2 0, 36, .inl f))) (hk : k < 4) (hz1 : 1 ≤ z) (hz9 : z ≤ 9) : mI l yX2_amountFrom cX2_amountFrom 5 .int 3 65 G lo sa ad R [.ref (ad 3), .int (nI k), .int (nI z)] (fun v R' => v = (p_amountFrom f k z) ∧ R' = R) := by
  refine mI_of (by decide) (Nat.le_of_ble_eq_true rfl) ?_
  intro p e s m args below meth c hF hr hlk hC ls hl hO hS Q hQ
  have hx := hF.1
  have hb := hF.2.1
  have hl : lv_has ls 5 [(0, .ref (ad 3)), (1, .int (nI k)), (2, .int (nI z))] := hl
  have hO : mO G lo ad (mU (mU R 3 (.inr (2, [.ref (ad 4)]))) 4 (.inl (G.2 0, 36, .inl f))) s.heap := by
    rw [mU_id h0, mU_id h1]
    exact hO
  refine lv_iconst (v := 0) hx hb dX2_amountFrom_0 (by decide) ?_
  refine lv_istore_n (lv' := [(3, .int 0), (0, .ref (ad 3)), (1, .int (nI k)), (2, .int (nI z))]) hx hb dX2_amountFrom_1 rfl hl (by decide) rfl (fun ls hl => ?_)
  refine lv_iload_n hx hb dX2_amountFrom_2 rfl (lv_at hl 3 rfl) ?_
  refine lv_istore (lv' := [(4, .int (nI z)), (3, .int 0), (0, .ref (ad 3)), (1, .int (nI k)), (2, .int (nI z))]) hx hb dX2_amountFrom_3 hl (by decide) rfl (fun ls hl => ?_)
  have L5 : ∀ (n : Nat) (i : Nat) (acc : Int32) (H : Heap) (locs : List Loc) (ls : Array Slot), 10 - i < n → i ≤ 10 → 1 ≤ i → p_from (10 - i) f k i acc = p_amountFrom f k z → lv_has ls 5 [(0, .ref (ad 3)), (1, .int (nI k)), (4, .int (nI i)), (3, .int acc)] → mO G lo ad (mU (mU R 3 (.inr (2, [.ref (ad 4)]))) 4 (.inl (G.2 0, 36, .inl f))) H → va_S (mA lo) s.heap H locs → W p l e (mRm 3 65) s m args below meth c H locs 0 0 Q (F0 m 5 ls []) := by
    intro n
    induction n with
    | zero => intro i acc H locs ls hn; exact absurd hn (Nat.not_lt_zero _)
    | succ n ih5 =>
      intro i acc H locs ls hn5 hi hi1 hv hl hO hS
      refine lv_iload hx hb dX2_amountFrom_5 (lv_at hl 2 rfl) ?_
      refine lv_bipush (v := 9) hx hb dX2_amountFrom_7 (by decide) ?_
      refine lv_icmp_gt (tgt := 28) hx hb dX2_amountFrom_9 (by decide) (fun c9 => ?_) (fun c9 => ?_)
      · refine lv_iload_n hx hb dX2_amountFrom_28 rfl (lv_at hl 3 rfl) ?_
        rw [mU_id (show R 3 = some (.inr (2, [.ref (ad 4)])) from h0)] at hO
        rw [mU_id (show R 4 = some (.inl (G.2 0, 36, .inl f)) from h1)] at hO
        refine m_iret hF hr hlk hQ rfl hO hS dX2_amountFrom_29 ?_
        have e : i = 10 := Nat.le_antisymm hi (nI_L (a := 9) (b := i) (by decide) (by omega) c9)
        subst e
        exact ⟨hv, rfl⟩
      · refine lv_iload_n hx hb dX2_amountFrom_12 rfl (lv_at hl 3 rfl) ?_
        refine lv_aload_n hx hb dX2_amountFrom_13 rfl (lv_at hl 0 rfl) ?_
        refine lv_iload_n hx hb dX2_amountFrom_14 rfl (lv_at hl 1 rfl) ?_
        refine lv_iload hx hb dX2_amountFrom_15 (lv_at hl 2 rfl) ?_
        refine m_vI (As := [.int (nI k), .int (nI i)]) (rest := [.int acc]) (n := 2) hF hC hO hS (k_X2_amount l G lo sa ad _ f k i ((mU_ne (by decide : (3 : Nat) ≠ 4)).trans (mU_self)) (mU_self) hk hi1 (nI_nL (a := 9) (b := i) (by decide) (by omega) c9)) ok_X2_amount q_187 ((mU_ne (by decide : (3 : Nat) ≠ 4)).trans (mU_self)) rfl ⟨Nat.le_of_ble_eq_true rfl, Nat.le_of_ble_eq_true rfl⟩ rfl hl.1 rfl (Nat.le_of_ble_eq_true rfl) ⟨Nat.le_of_ble_eq_true rfl, Nat.le_of_ble_eq_true rfl⟩ dX2_amountFrom_17 (fun v17 R' H locs hp hO hS => ?_)
        obtain ⟨rfl, hR⟩ := hp
        rw [hR] at hO
        refine lv_iadd hx hb dX2_amountFrom_20 ?_
        refine lv_istore_n (lv' := [(3, .int (acc + (f (9 * k + i - 1)))), (0, .ref (ad 3)), (1, .int (nI k)), (4, .int (nI i))]) hx hb dX2_amountFrom_21 rfl hl (by decide) rfl (fun ls hl => ?_)
        refine lv_iinc (v := (nI (i + 1))) (lv' := [(4, .int (nI (i + 1))), (3, .int (acc + (f (9 * k + i - 1)))), (0, .ref (ad 3)), (1, .int (nI k))]) hx hb dX2_amountFrom_22 hl (k := 3) rfl (nI_inc i) (by decide) rfl (fun ls hl => ?_)
        refine lv_goto (tgt := 5) hx hb dX2_amountFrom_25 (by decide) ?_
        exact ih5 (i + 1) (acc + f (9 * k + i - 1)) _ _ _ (by have := (nI_nL (a := 9) (b := i) (by decide) (by omega) c9); omega) (by have := (nI_nL (a := 9) (b := i) (by decide) (by omega) c9); omega) (by omega) (by have := (nI_nL (a := 9) (b := i) (by decide) (by omega) c9); rw [← hv, show 10 - i = (10 - (i + 1)) + 1 from by omega]; rfl) (lv_sub hl [2, 3, 0, 1] rfl) hO hS
  exact L5 _ z 0 _ _ _ (Nat.lt_succ_self _) (by omega) hz1 rfl (lv_sub hl [2, 3, 0, 1] rfl) hO hS
theorem ok_X2_total : mOK RX2 yX2_total cX2_total 6 (some .int) 0 := ⟨q_230, q_231, q_3, q_232, by decide +kernel⟩
set_option maxHeartbeats 400000 in
set_option maxRecDepth 100000 in
theorem k_X2_total (l : Launch) (G : mG) (lo : Nat) (sa ad : Nat → Nat) (R : mM) (f : Nat → Int32) (h0 : R 3 = some (.inr (2, [.ref (ad 4)]))) (h1 : R 4 = some (.inl (G.2 0, 36, .inl f))) : mI l yX2_total cX2_total 6 .int 0 0 G lo sa ad R [.ref (ad 3)] (fun v R' => v = (p_sum 36 f 0 0) ∧ R' = R) := by
  refine mI_of (by decide) (Nat.le_of_ble_eq_true rfl) ?_
  intro p e s m args below meth c hF hr hlk hC ls hl hO hS Q hQ
  have hx := hF.1
  have hb := hF.2.1
  have hl : lv_has ls 6 [(0, .ref (ad 3))] := hl
  have hO : mO G lo ad (mU (mU R 3 (.inr (2, [.ref (ad 4)]))) 4 (.inl (G.2 0, 36, .inl f))) s.heap := by
    rw [mU_id h0, mU_id h1]
    exact hO
  refine lv_iconst (v := 0) hx hb dX2_total_0 (by decide) ?_
  refine lv_istore_n (lv' := [(1, .int 0), (0, .ref (ad 3))]) hx hb dX2_total_1 rfl hl (by decide) rfl (fun ls hl => ?_)
  refine lv_aload_n hx hb dX2_total_2 rfl (lv_at hl 1 rfl) ?_
  refine m_get inX2 hF hC hO ((mU_ne (by decide : (3 : Nat) ≠ 4)).trans (mU_self)) rfl 0 (by decide) q_53 (v := .ref (ad 4)) rfl dX2_total_3 ?_
  refine lv_astore_n (lv' := [(2, .ref (ad 4)), (1, .int 0), (0, .ref (ad 3))]) hx hb dX2_total_6 rfl hl (by decide) rfl (fun ls hl => ?_)
  refine lv_aload_n hx hb dX2_total_7 rfl (lv_at hl 0 rfl) ?_
  refine m_alen 0 hF hC hO (mU_self) rfl (v := 36) rfl dX2_total_8 ?_
  refine lv_istore_n (lv' := [(3, .int 36), (2, .ref (ad 4)), (1, .int 0), (0, .ref (ad 3))]) hx hb dX2_total_9 rfl hl (by decide) rfl (fun ls hl => ?_)
  refine lv_iconst (v := 0) hx hb dX2_total_10 (by decide) ?_
  refine lv_istore (lv' := [(4, .int 0), (3, .int 36), (2, .ref (ad 4)), (1, .int 0), (0, .ref (ad 3))]) hx hb dX2_total_11 hl (by decide) rfl (fun ls hl => ?_)
  have L13 : ∀ (n : Nat) (i : Nat) (acc : Int32) (H : Heap) (locs : List Loc) (ls : Array Slot), 36 - i < n → i ≤ 36 → p_sum (36 - i) f i acc = p_sum 36 f 0 0 → lv_has ls 6 [(0, .ref (ad 3)), (2, .ref (ad 4)), (3, .int 36), (4, .int (nI i)), (1, .int acc)] → mO G lo ad (mU (mU R 3 (.inr (2, [.ref (ad 4)]))) 4 (.inl (G.2 0, 36, .inl f))) H → va_S (mA lo) s.heap H locs → W p l e (mRm 0 0) s m args below meth c H locs 0 0 Q (F0 m 13 ls []) := by
    intro n
    induction n with
    | zero => intro i acc H locs ls hn; exact absurd hn (Nat.not_lt_zero _)
    | succ n ih13 =>
      intro i acc H locs ls hn13 hi hv hl hO hS
      refine lv_iload hx hb dX2_total_13 (lv_at hl 3 rfl) ?_
      refine lv_iload_n hx hb dX2_total_15 rfl (lv_at hl 2 rfl) ?_
      refine lv_icmp_ge (tgt := 36) hx hb dX2_total_16 (by decide) (fun c16 => ?_) (fun c16 => ?_)
      · refine lv_iload_n hx hb dX2_total_36 rfl (lv_at hl 4 rfl) ?_
        rw [mU_id (show R 3 = some (.inr (2, [.ref (ad 4)])) from h0)] at hO
        rw [mU_id (show R 4 = some (.inl (G.2 0, 36, .inl f)) from h1)] at hO
        refine m_iret hF hr hlk hQ rfl hO hS dX2_total_37 ?_
        have e : i = 36 := Nat.le_antisymm hi (nI_E (a := 36) (b := i) (by decide) (by omega) c16)
        subst e
        exact ⟨hv, rfl⟩
      · refine lv_aload_n hx hb dX2_total_19 rfl (lv_at hl 1 rfl) ?_
        refine lv_iload hx hb dX2_total_20 (lv_at hl 3 rfl) ?_
        refine m_iald hF hC hO (mU_self) (j := i) (nI_clamp (by omega)) (vp_in_nI (nI_nE (a := 36) (b := i) (by decide) (by omega) c16) (by decide)) dX2_total_22 ?_
        refine lv_istore (lv' := [(5, .int (f i)), (0, .ref (ad 3)), (2, .ref (ad 4)), (3, .int 36), (4, .int (nI i)), (1, .int acc)]) hx hb dX2_total_23 hl (by decide) rfl (fun ls hl => ?_)
        refine lv_iload_n hx hb dX2_total_25 rfl (lv_at hl 5 rfl) ?_
        refine lv_iload hx hb dX2_total_26 (lv_at hl 0 rfl) ?_
        refine lv_iadd hx hb dX2_total_28 ?_
        refine lv_istore_n (lv' := [(1, .int (acc + (f i))), (5, .int (f i)), (0, .ref (ad 3)), (2, .ref (ad 4)), (3, .int 36), (4, .int (nI i))]) hx hb dX2_total_29 rfl hl (by decide) rfl (fun ls hl => ?_)
        refine lv_iinc (v := (nI (i + 1))) (lv' := [(4, .int (nI (i + 1))), (1, .int (acc + (f i))), (5, .int (f i)), (0, .ref (ad 3)), (2, .ref (ad 4)), (3, .int 36)]) hx hb dX2_total_30 hl (k := 5) rfl (nI_inc i) (by decide) rfl (fun ls hl => ?_)
        refine lv_goto (tgt := 13) hx hb dX2_total_33 (by decide) ?_
        exact ih13 (i + 1) (acc + f i) _ _ _ (by have := (nI_nE (a := 36) (b := i) (by decide) (by omega) c16); omega) (by have := (nI_nE (a := 36) (b := i) (by decide) (by omega) c16); omega) (by have := (nI_nE (a := 36) (b := i) (by decide) (by omega) c16); rw [← hv, show 36 - i = (36 - (i + 1)) + 1 from by omega]; rfl) (lv_sub hl [3, 4, 5, 0, 1] rfl) hO hS
  exact L13 _ 0 0 _ _ _ (Nat.lt_succ_self _) (by omega) rfl (lv_sub hl [4, 2, 1, 0, 3] rfl) hO hS
theorem ok_X2_take : mOK RX2 yX2_take cX2_take 7 none 3 := ⟨q_572, q_573, q_3, q_574, by decide +kernel⟩
set_option maxHeartbeats 400000 in
set_option maxRecDepth 100000 in
theorem k_X2_take (l : Launch) (G : mG) (lo : Nat) (sa ad : Nat → Nat) (R : mM) (f : Nat → Int32) (k z : Nat) (w : Int32) (h0 : R 3 = some (.inr (2, [.ref (ad 4)]))) (h1 : R 4 = some (.inl (G.2 0, 36, .inl f))) (hk : k < 4) (hz1 : 1 ≤ z) (hz9 : z ≤ 9) : mV l yX2_take cX2_take 7 3 66 G lo sa ad R [.ref (ad 3), .int (nI k), .int (nI z), .int w] (fun R' => R' = (mU R 4 (.inl (G.2 0, 36, .inl (p_take f k z w))))) := by
  refine mV_of (by decide) (Nat.le_of_ble_eq_true rfl) ?_
  intro p e s m args below meth c hF hr hlk hC ls hl hO hS Q hQ
  have hx := hF.1
  have hb := hF.2.1
  have hl : lv_has ls 7 [(0, .ref (ad 3)), (1, .int (nI k)), (2, .int (nI z)), (3, .int w)] := hl
  have hO : mO G lo ad (mU (mU R 3 (.inr (2, [.ref (ad 4)]))) 4 (.inl (G.2 0, 36, .inl f))) s.heap := by
    rw [mU_id h0, mU_id h1]
    exact hO
  refine lv_iload_n hx hb dX2_take_0 rfl (lv_at hl 3 rfl) ?_
  refine lv_istore (lv' := [(4, .int w), (0, .ref (ad 3)), (1, .int (nI k)), (2, .int (nI z)), (3, .int w)]) hx hb dX2_take_1 hl (by decide) rfl (fun ls hl => ?_)
  refine lv_iload_n hx hb dX2_take_3 rfl (lv_at hl 3 rfl) ?_
  refine lv_istore (lv' := [(5, .int (nI z)), (4, .int w), (0, .ref (ad 3)), (1, .int (nI k)), (2, .int (nI z)), (3, .int w)]) hx hb dX2_take_4 hl (by decide) rfl (fun ls hl => ?_)
  have L6 : ∀ (n : Nat) (i : Nat) (wl : Int32) (g : Nat → Int32) (H : Heap) (locs : List Loc) (ls : Array Slot), 10 - i < n → i ≤ 10 → 1 ≤ i → p_takeL (10 - i) g k i wl = p_take f k z w → lv_has ls 7 [(0, .ref (ad 3)), (1, .int (nI k)), (5, .int (nI i)), (4, .int wl)] → mO G lo ad (mU (mU R 3 (.inr (2, [.ref (ad 4)]))) 4 (.inl (G.2 0, 36, .inl g))) H → va_S (mA lo) s.heap H locs → W p l e (mRm 3 66) s m args below meth c H locs 0 0 Q (F0 m 6 ls []) := by
    intro n
    induction n with
    | zero => intro i wl g H locs ls hn; exact absurd hn (Nat.not_lt_zero _)
    | succ n ih6 =>
      intro i wl g H locs ls hn6 hi hi1 hv hl hO hS
      refine lv_iload hx hb dX2_take_6 (lv_at hl 2 rfl) ?_
      refine lv_bipush (v := 9) hx hb dX2_take_8 (by decide) ?_
      refine lv_icmp_gt (tgt := 50) hx hb dX2_take_10 (by decide) (fun c10 => ?_) (fun c10 => ?_)
      · rw [mU_id (show R 3 = some (.inr (2, [.ref (ad 4)])) from h0)] at hO
        refine m_vret hF hr hlk hQ hO hS dX2_take_50 ?_
        have e : i = 10 := Nat.le_antisymm hi (nI_L (a := 9) (b := i) (by decide) (by omega) c10)
        subst e
        rw [← hv]
        rfl
      · refine lv_iload hx hb dX2_take_13 (lv_at hl 3 rfl) ?_
        refine lv_aload_n hx hb dX2_take_15 rfl (lv_at hl 0 rfl) ?_
        refine lv_iload_n hx hb dX2_take_16 rfl (lv_at hl 1 rfl) ?_
        refine lv_iload hx hb dX2_take_17 (lv_at hl 2 rfl) ?_
        refine m_vI (As := [.int (nI k), .int (nI i)]) (rest := [.int wl]) (n := 2) hF hC hO hS (k_X2_amount l G lo sa ad _ g k i ((mU_ne (by decide : (3 : Nat) ≠ 4)).trans (mU_self)) (mU_self) hk hi1 (nI_nL (a := 9) (b := i) (by decide) (by omega) c10)) ok_X2_amount q_187 ((mU_ne (by decide : (3 : Nat) ≠ 4)).trans (mU_self)) rfl ⟨Nat.le_of_ble_eq_true rfl, Nat.le_of_ble_eq_true rfl⟩ rfl hl.1 rfl (Nat.le_of_ble_eq_true rfl) ⟨Nat.le_of_ble_eq_true rfl, Nat.le_of_ble_eq_true rfl⟩ dX2_take_19 (fun v19 R' H locs hp hO hS => ?_)
        obtain ⟨rfl, hR⟩ := hp
        rw [hR] at hO
        refine m_min hF hl.1 q_575 q_168 q_14 q_169 (Nat.le_of_ble_eq_true rfl) (Nat.le_of_ble_eq_true rfl) ⟨Nat.le_of_ble_eq_true rfl, Nat.le_of_ble_eq_true rfl⟩ dX2_take_22 ?_
        refine lv_istore (lv' := [(6, .int (jmin wl (g (9 * k + i - 1)))), (0, .ref (ad 3)), (1, .int (nI k)), (5, .int (nI i)), (4, .int wl)]) hx hb dX2_take_25 hl (by decide) rfl (fun ls hl => ?_)
        refine lv_aload_n hx hb dX2_take_27 rfl (lv_at hl 1 rfl) ?_
        refine lv_iload_n hx hb dX2_take_28 rfl (lv_at hl 2 rfl) ?_
        refine lv_iload hx hb dX2_take_29 (lv_at hl 3 rfl) ?_
        refine lv_iload hx hb dX2_take_31 (lv_at hl 0 rfl) ?_
        refine lv_ineg hx hb dX2_take_33 ?_
        refine m_vV (As := [.int (nI k), .int (nI i), .int (-(jmin wl (g (9 * k + i - 1))))]) (rest := []) (n := 3) hF hC hO hS (k_X2_put l G lo sa ad _ g k i (-(jmin wl (g (9 * k + i - 1)))) ((mU_ne (by decide : (3 : Nat) ≠ 4)).trans (mU_self)) (mU_self) hk hi1 (nI_nL (a := 9) (b := i) (by decide) (by omega) c10)) ok_X2_put q_576 ((mU_ne (by decide : (3 : Nat) ≠ 4)).trans (mU_self)) rfl ⟨Nat.le_of_ble_eq_true rfl, Nat.le_of_ble_eq_true rfl⟩ rfl hl.1 rfl (Nat.le_of_ble_eq_true rfl) ⟨Nat.le_of_ble_eq_true rfl, Nat.le_of_ble_eq_true rfl⟩ dX2_take_34 (fun R' H locs hp hO hS => ?_)
        have hR := hp
        rw [hR] at hO
        have hO : mO G lo ad (mU (mU (mU R 3 (.inr (2, [.ref (ad 4)]))) 4 (.inl (G.2 0, 36, .inl g))) 4 (.inl (G.2 0, 36, .inl (upd g (9 * k + i - 1) (g (9 * k + i - 1) + (-(jmin wl (g (9 * k + i - 1))))))))) H := hO
        rw [mU_mU] at hO
        refine lv_iload hx hb dX2_take_37 (lv_at hl 4 rfl) ?_
        refine lv_iload hx hb dX2_take_39 (lv_at hl 0 rfl) ?_
        refine lv_isub hx hb dX2_take_41 ?_
        refine lv_istore (lv' := [(4, .int (wl - (jmin wl (g (9 * k + i - 1))))), (6, .int (jmin wl (g (9 * k + i - 1)))), (0, .ref (ad 3)), (1, .int (nI k)), (5, .int (nI i))]) hx hb dX2_take_42 hl (by decide) rfl (fun ls hl => ?_)
        refine lv_iinc (v := (nI (i + 1))) (lv' := [(5, .int (nI (i + 1))), (4, .int (wl - (jmin wl (g (9 * k + i - 1))))), (6, .int (jmin wl (g (9 * k + i - 1)))), (0, .ref (ad 3)), (1, .int (nI k))]) hx hb dX2_take_44 hl (k := 4) rfl (nI_inc i) (by decide) rfl (fun ls hl => ?_)
        refine lv_goto (tgt := 6) hx hb dX2_take_47 (by decide) ?_
        exact ih6 (i + 1) (wl - (jmin wl (g (9 * k + i - 1)))) (upd g (9 * k + i - 1) (g (9 * k + i - 1) + (-(jmin wl (g (9 * k + i - 1)))))) _ _ _ (by have := (nI_nL (a := 9) (b := i) (by decide) (by omega) c10); omega) (by have := (nI_nL (a := 9) (b := i) (by decide) (by omega) c10); omega) (by omega) (by have := (nI_nL (a := 9) (b := i) (by decide) (by omega) c10); rw [← hv, show 10 - i = (10 - (i + 1)) + 1 from by omega]; rfl) (lv_sub hl [3, 4, 0, 1] rfl) hO hS
  exact L6 _ z w f _ _ _ (Nat.lt_succ_self _) (by omega) hz1 rfl (lv_sub hl [2, 3, 0, 1] rfl) hO hS
end
section
theorem ok_X1_isOpenFor : mOK RX1 yX1_isOpenFor cX1_isOpenFor 3 (some .boolean) 2 := ⟨q_198, q_199, q_15, q_200, by decide +kernel⟩
set_option maxHeartbeats 400000 in
set_option maxRecDepth 100000 in
theorem k_X1_isOpenFor (l : Launch) (G : mG) (lo : Nat) (sa ad : Nat → Nat) (R : mM) (r : Nat) (ω : Nat → Int32) (k z : Int32) (h0 : R r = some (orO ω)) : mI l yX1_isOpenFor cX1_isOpenFor 3 .boolean 0 0 G lo sa ad R [.ref (ad r), .int k, .int z] (fun v R' => mBo (ω 4 = 0 ∧ ω 0 = k ∧ ω 1 = z) v ∧ R' = R) := by
  refine mI_of (by decide) (Nat.le_of_ble_eq_true rfl) ?_
  intro p e s m args below meth c hF hr hlk hC ls hl hO hS Q hQ
  have hx := hF.1
  have hb := hF.2.1
  have hl : lv_has ls 3 [(0, .ref (ad r)), (1, .int k), (2, .int z)] := hl
  have hO : mO G lo ad (mU R r (orO ω)) s.heap := by
    rw [mU_id h0]
    exact hO
  refine lv_aload_n hx hb dX1_isOpenFor_0 rfl (lv_at hl 0 rfl) ?_
  refine m_get inX1 hF hC hO (mU_self) rfl 4 (by decide) q_550 (v := .int (ω 4)) rfl dX1_isOpenFor_1 ?_
  refine lv_if_ne (tgt := 27) hx hb dX1_isOpenFor_4 (by decide) (fun c4 => ?_) (fun c4 => ?_)
  · refine lv_iconst (v := 0) hx hb dX1_isOpenFor_27 (by decide) ?_
    rw [mU_id (show R r = some (orO ω) from h0)] at hO
    refine m_iret hF hr hlk hQ rfl hO hS dX1_isOpenFor_28 ?_
    first | exact ⟨mBo_f (fun h => c20 h.2.2), rfl⟩ | exact ⟨mBo_f (fun h => c12 h.2.1), rfl⟩ | exact ⟨mBo_f (fun h => c4 h.1), rfl⟩
  · refine lv_aload_n hx hb dX1_isOpenFor_7 rfl (lv_at hl 0 rfl) ?_
    refine m_get inX1 hF hC hO (mU_self) rfl 0 (by decide) q_542 (v := .int (ω 0)) rfl dX1_isOpenFor_8 ?_
    refine lv_iload_n hx hb dX1_isOpenFor_11 rfl (lv_at hl 1 rfl) ?_
    refine lv_icmp_ne (tgt := 27) hx hb dX1_isOpenFor_12 (by decide) (fun c12 => ?_) (fun c12 => ?_)
    · refine lv_iconst (v := 0) hx hb dX1_isOpenFor_27 (by decide) ?_
      rw [mU_id (show R r = some (orO ω) from h0)] at hO
      refine m_iret hF hr hlk hQ rfl hO hS dX1_isOpenFor_28 ?_
      first | exact ⟨mBo_f (fun h => c20 h.2.2), rfl⟩ | exact ⟨mBo_f (fun h => c12 h.2.1), rfl⟩ | exact ⟨mBo_f (fun h => c4 h.1), rfl⟩
    · refine lv_aload_n hx hb dX1_isOpenFor_15 rfl (lv_at hl 0 rfl) ?_
      refine m_get inX1 hF hC hO (mU_self) rfl 1 (by decide) q_544 (v := .int (ω 1)) rfl dX1_isOpenFor_16 ?_
      refine lv_iload_n hx hb dX1_isOpenFor_19 rfl (lv_at hl 2 rfl) ?_
      refine lv_icmp_ne (tgt := 27) hx hb dX1_isOpenFor_20 (by decide) (fun c20 => ?_) (fun c20 => ?_)
      · refine lv_iconst (v := 0) hx hb dX1_isOpenFor_27 (by decide) ?_
        rw [mU_id (show R r = some (orO ω) from h0)] at hO
        refine m_iret hF hr hlk hQ rfl hO hS dX1_isOpenFor_28 ?_
        first | exact ⟨mBo_f (fun h => c20 h.2.2), rfl⟩ | exact ⟨mBo_f (fun h => c12 h.2.1), rfl⟩ | exact ⟨mBo_f (fun h => c4 h.1), rfl⟩
      · refine lv_iconst (v := 1) hx hb dX1_isOpenFor_23 (by decide) ?_
        refine lv_goto (tgt := 28) hx hb dX1_isOpenFor_24 (by decide) ?_
        rw [mU_id (show R r = some (orO ω) from h0)] at hO
        refine m_iret hF hr hlk hQ rfl hO hS dX1_isOpenFor_28 ?_
        exact ⟨mBo_t ⟨c4, c12, c20⟩, rfl⟩
theorem ok_X1_canBeFilled : mOK RX1 yX1_canBeFilled cX1_canBeFilled 2 (some .boolean) 1 := ⟨q_346, q_347, q_15, q_348, by decide +kernel⟩
set_option maxHeartbeats 400000 in
set_option maxRecDepth 100000 in
theorem k_X1_canBeFilled (l : Launch) (G : mG) (lo : Nat) (sa ad : Nat → Nat) (R : mM) (r : Nat) (ω : Nat → Int32) (f : Nat → Int32) (k z : Nat) (h0 : R r = some (orO ω)) (h1 : R 3 = some (.inr (2, [.ref (ad 4)]))) (h2 : R 4 = some (.inl (G.2 0, 36, .inl f))) (hr3 : r ≠ 3) (hr4 : r ≠ 4) (hk : k < 4) (hz1 : 1 ≤ z) (hz9 : z ≤ 9) (hw0 : ω 0 = nI k) (hw1 : ω 1 = nI z) : mI l yX1_canBeFilled cX1_canBeFilled 2 .boolean 4 89 G lo sa ad R [.ref (ad r), .ref (ad 3)] (fun v R' => mBo (ω 4 ≠ 1 ∧ ω 2 ≤ p_amountFrom f k z) v ∧ R' = R) := by
  refine mI_of (by decide) (Nat.le_of_ble_eq_true rfl) ?_
  intro p e s m args below meth c hF hr hlk hC ls hl hO hS Q hQ
  have hx := hF.1
  have hb := hF.2.1
  have hl : lv_has ls 2 [(0, .ref (ad r)), (1, .ref (ad 3))] := hl
  have hO : mO G lo ad (mU (mU (mU R r (orO ω)) 3 (.inr (2, [.ref (ad 4)]))) 4 (.inl (G.2 0, 36, .inl f))) s.heap := by
    rw [mU_id h0, mU_id h1, mU_id h2]
    exact hO
  refine lv_aload_n hx hb dX1_canBeFilled_0 rfl (lv_at hl 0 rfl) ?_
  refine m_get inX1 hF hC hO ((mU_ne hr4).trans ((mU_ne hr3).trans (mU_self))) rfl 4 (by decide) q_550 (v := .int (ω 4)) rfl dX1_canBeFilled_1 ?_
  refine lv_iconst (v := 1) hx hb dX1_canBeFilled_4 (by decide) ?_
  refine lv_icmp_eq (tgt := 31) hx hb dX1_canBeFilled_5 (by decide) (fun c5 => ?_) (fun c5 => ?_)
  · refine lv_iconst (v := 0) hx hb dX1_canBeFilled_31 (by decide) ?_
    rw [mU_id (show R r = some (orO ω) from h0)] at hO
    rw [mU_id (show R 3 = some (.inr (2, [.ref (ad 4)])) from h1)] at hO
    rw [mU_id (show R 4 = some (.inl (G.2 0, 36, .inl f)) from h2)] at hO
    refine m_iret hF hr hlk hQ rfl hO hS dX1_canBeFilled_32 ?_
    first | exact ⟨mBo_f (fun h => absurd h.2 (Int32.not_le.mpr c24)), rfl⟩ | exact ⟨mBo_f (fun h => h.1 c5), rfl⟩
  · refine lv_aload_n hx hb dX1_canBeFilled_8 rfl (lv_at hl 1 rfl) ?_
    refine lv_aload_n hx hb dX1_canBeFilled_9 rfl (lv_at hl 0 rfl) ?_
    refine m_get inX1 hF hC hO ((mU_ne hr4).trans ((mU_ne hr3).trans (mU_self))) rfl 0 (by decide) q_542 (v := .int (ω 0)) rfl dX1_canBeFilled_10 ?_
    refine lv_aload_n hx hb dX1_canBeFilled_13 rfl (lv_at hl 0 rfl) ?_
    refine m_get inX1 hF hC hO ((mU_ne hr4).trans ((mU_ne hr3).trans (mU_self))) rfl 1 (by decide) q_544 (v := .int (ω 1)) rfl dX1_canBeFilled_14 ?_
    rw [hw0, hw1]
    refine m_vI (As := [.int (nI k), .int (nI z)]) (rest := []) (n := 2) hF hC hO hS (k_X2_amountFrom l G lo sa ad _ f k z ((mU_ne (by decide : (3 : Nat) ≠ 4)).trans (mU_self)) (mU_self) (by omega) (by omega) (by omega)) ok_X2_amountFrom q_349 ((mU_ne (by decide : (3 : Nat) ≠ 4)).trans (mU_self)) rfl ⟨Nat.le_of_ble_eq_true rfl, Nat.le_of_ble_eq_true rfl⟩ rfl hl.1 rfl (Nat.le_of_ble_eq_true rfl) ⟨Nat.le_of_ble_eq_true rfl, Nat.le_of_ble_eq_true rfl⟩ dX1_canBeFilled_17 (fun v17 R' H locs hp hO hS => ?_)
    obtain ⟨rfl, hR⟩ := hp
    rw [hR] at hO
    refine lv_aload_n hx hb dX1_canBeFilled_20 rfl (lv_at hl 0 rfl) ?_
    refine m_get inX1 hF hC hO ((mU_ne hr4).trans ((mU_ne hr3).trans (mU_self))) rfl 2 (by decide) q_546 (v := .int (ω 2)) rfl dX1_canBeFilled_21 ?_
    refine lv_icmp_lt (tgt := 31) hx hb dX1_canBeFilled_24 (by decide) (fun c24 => ?_) (fun c24 => ?_)
    · refine lv_iconst (v := 0) hx hb dX1_canBeFilled_31 (by decide) ?_
      rw [mU_id (show R r = some (orO ω) from h0)] at hO
      rw [mU_id (show R 3 = some (.inr (2, [.ref (ad 4)])) from h1)] at hO
      rw [mU_id (show R 4 = some (.inl (G.2 0, 36, .inl f)) from h2)] at hO
      refine m_iret hF hr hlk hQ rfl hO hS dX1_canBeFilled_32 ?_
      first | exact ⟨mBo_f (fun h => absurd h.2 (Int32.not_le.mpr c24)), rfl⟩ | exact ⟨mBo_f (fun h => h.1 c5), rfl⟩
    · refine lv_iconst (v := 1) hx hb dX1_canBeFilled_27 (by decide) ?_
      refine lv_goto (tgt := 32) hx hb dX1_canBeFilled_28 (by decide) ?_
      rw [mU_id (show R r = some (orO ω) from h0)] at hO
      rw [mU_id (show R 3 = some (.inr (2, [.ref (ad 4)])) from h1)] at hO
      rw [mU_id (show R 4 = some (.inl (G.2 0, 36, .inl f)) from h2)] at hO
      refine m_iret hF hr hlk hQ rfl hO hS dX1_canBeFilled_32 ?_
      exact ⟨mBo_t ⟨c5, Int32.not_lt.mp c24⟩, rfl⟩
theorem ok_X3_begin : mOK RX3 yX3_begin cX3_begin 3 none 2 := ⟨q_608, qs_15, q_4, q_609, by decide +kernel⟩
set_option maxHeartbeats 400000 in
set_option maxRecDepth 100000 in
theorem k_X3_begin (l : Launch) (G : mG) (lo : Nat) (sa ad : Nat → Nat) (R : mM) (r v : Nat) (φ ν ψ κ : Nat → Int32) (h0 : R 6 = some (.inr (3, [.ref (ad 7), .ref (ad 8)]))) (h1 : R 7 = some (frO φ)) (h2 : R 8 = some (vO ν)) (h3 : R r = some (frO ψ)) (h4 : R v = some (vO κ)) (hrv : r ≠ v) (h6r : 6 ≠ r) (h7r : 7 ≠ r) (h8r : 8 ≠ r) (h6v : 6 ≠ v) (h7v : 7 ≠ v) (h8v : 8 ≠ v) (hb4 : ψ 4 = 0 ∨ ψ 4 = 1) : mV l yX3_begin cX3_begin 3 1 21 G lo sa ad R [.ref (ad 6), .ref (ad r), .ref (ad v)] (fun R' => R' = (mU (mU R 7 (frO ψ)) 8 (vO κ))) := by
  refine mV_of (by decide) (Nat.le_of_ble_eq_true rfl) ?_
  intro p e s m args below meth c hF hr hlk hC ls hl hO hS Q hQ
  have hx := hF.1
  have hb := hF.2.1
  have hl : lv_has ls 3 [(0, .ref (ad 6)), (1, .ref (ad r)), (2, .ref (ad v))] := hl
  have hO : mO G lo ad (mU (mU (mU (mU (mU R 6 (.inr (3, [.ref (ad 7), .ref (ad 8)]))) 7 (frO φ)) 8 (vO ν)) r (frO ψ)) v (vO κ)) s.heap := by
    rw [mU_id h0, mU_id h1, mU_id h2, mU_id h3, mU_id h4]
    exact hO
  refine lv_aload_n hx hb dX3_begin_0 rfl (lv_at hl 0 rfl) ?_
  refine m_get inX3 hF hC hO ((mU_ne h6v).trans ((mU_ne h6r).trans ((mU_ne (by decide : (6 : Nat) ≠ 8)).trans ((mU_ne (by decide : (6 : Nat) ≠ 7)).trans (mU_self))))) rfl 0 (by decide) q_104 (v := .ref (ad 7)) rfl dX3_begin_1 ?_
  refine lv_aload_n hx hb dX3_begin_4 rfl (lv_at hl 1 rfl) ?_
  refine m_vV (As := [.ref (ad r)]) (rest := []) (n := 1) hF hC hO hS (k_X0_copyFrom l G lo sa ad _ 7 r φ ψ ((mU_ne h7v).trans ((mU_ne h7r).trans ((mU_ne (by decide : (7 : Nat) ≠ 8)).trans (mU_self)))) ((mU_ne hrv).trans (mU_self)) h7r hb4) ok_X0_copyFrom q_610 ((mU_ne h7v).trans ((mU_ne h7r).trans ((mU_ne (by decide : (7 : Nat) ≠ 8)).trans (mU_self)))) rfl ⟨Nat.le_of_ble_eq_true rfl, Nat.le_of_ble_eq_true rfl⟩ rfl hl.1 rfl (Nat.le_of_ble_eq_true rfl) ⟨Nat.le_of_ble_eq_true rfl, Nat.le_of_ble_eq_true rfl⟩ dX3_begin_5 (fun R' H locs hp hO hS => ?_)
  have hR := hp
  rw [hR] at hO
  have hO : mO G lo ad (mU (mU (mU (mU (mU (mU R 6 (.inr (3, [.ref (ad 7), .ref (ad 8)]))) 7 (frO φ)) 8 (vO ν)) r (frO ψ)) v (vO κ)) 7 (frO ψ)) H := hO
  rw [mU_sw h7v, mU_sw h7r, mU_sw (by decide : (7 : Nat) ≠ 8), mU_mU] at hO
  refine lv_aload_n hx hb dX3_begin_8 rfl (lv_at hl 0 rfl) ?_
  refine m_get inX3 hF hC hO ((mU_ne h6v).trans ((mU_ne h6r).trans ((mU_ne (by decide : (6 : Nat) ≠ 8)).trans ((mU_ne (by decide : (6 : Nat) ≠ 7)).trans (mU_self))))) rfl 1 (by decide) q_105 (v := .ref (ad 8)) rfl dX3_begin_9 ?_
  refine lv_aload_n hx hb dX3_begin_12 rfl (lv_at hl 2 rfl) ?_
  refine m_vV (As := [.ref (ad v)]) (rest := []) (n := 1) hF hC hO hS (k_X4_copyFrom l G lo sa ad _ 8 v ν κ ((mU_ne h8v).trans ((mU_ne h8r).trans (mU_self))) (mU_self) h8v) ok_X4_copyFrom q_614 ((mU_ne h8v).trans ((mU_ne h8r).trans (mU_self))) rfl ⟨Nat.le_of_ble_eq_true rfl, Nat.le_of_ble_eq_true rfl⟩ rfl hl.1 rfl (Nat.le_of_ble_eq_true rfl) ⟨Nat.le_of_ble_eq_true rfl, Nat.le_of_ble_eq_true rfl⟩ dX3_begin_13 (fun R' H locs hp hO hS => ?_)
  have hR := hp
  rw [hR] at hO
  have hO : mO G lo ad (mU (mU (mU (mU (mU (mU R 6 (.inr (3, [.ref (ad 7), .ref (ad 8)]))) 7 (frO ψ)) 8 (vO ν)) r (frO ψ)) v (vO κ)) 8 (vO κ)) H := hO
  rw [mU_sw h8v, mU_sw h8r, mU_mU] at hO
  rw [mU_id (show R 6 = some (.inr (3, [.ref (ad 7), .ref (ad 8)])) from h0)] at hO
  rw [mU_id (show (mU (mU R 7 (frO ψ)) 8 (vO κ)) r = some (frO ψ) from ((mU_ne (Ne.symm h8r)).trans ((mU_ne (Ne.symm h7r)).trans h3)))] at hO
  rw [mU_id (show (mU (mU R 7 (frO ψ)) 8 (vO κ)) v = some (vO κ) from ((mU_ne (Ne.symm h8v)).trans ((mU_ne (Ne.symm h7v)).trans h4)))] at hO
  refine m_vret hF hr hlk hQ hO hS dX3_begin_16 ?_
  rfl
theorem ok_X3_tryDip : mOK RX3 yX3_tryDip cX3_tryDip 1 (some .boolean) 0 := ⟨q_620, qs_16, q_4, q_621, by decide +kernel⟩
set_option maxHeartbeats 400000 in
set_option maxRecDepth 100000 in
theorem k_X3_tryDip (l : Launch) (G : mG) (lo : Nat) (sa ad : Nat → Nat) (R : mM) (φ ν : Nat → Int32) (h0 : R 6 = some (.inr (3, [.ref (ad 7), .ref (ad 8)]))) (h1 : R 7 = some (frO φ)) (h2 : R 8 = some (vO ν)) : mI l yX3_tryDip cX3_tryDip 1 .boolean 4 86 G lo sa ad R [.ref (ad 6)] (fun v R' => (v = 1 ∧ (p_can φ ν) ∧ R' = (mU (mU R 7 (frO (p_dipF φ (ν 1)))) 8 (vO (p_burnV (p_dipV φ ν))))) ∨ (v = 0 ∧ ¬ (p_can φ ν) ∧ R' = R)) := by
  refine mI_of (by decide) (Nat.le_of_ble_eq_true rfl) ?_
  intro p e s m args below meth c hF hr hlk hC ls hl hO hS Q hQ
  have hx := hF.1
  have hb := hF.2.1
  have hl : lv_has ls 1 [(0, .ref (ad 6))] := hl
  have hO : mO G lo ad (mU (mU (mU R 6 (.inr (3, [.ref (ad 7), .ref (ad 8)]))) 7 (frO φ)) 8 (vO ν)) s.heap := by
    rw [mU_id h0, mU_id h1, mU_id h2]
    exact hO
  refine lv_aload_n hx hb dX3_tryDip_0 rfl (lv_at hl 0 rfl) ?_
  refine m_get inX3 hF hC hO ((mU_ne (by decide : (6 : Nat) ≠ 8)).trans ((mU_ne (by decide : (6 : Nat) ≠ 7)).trans (mU_self))) rfl 0 (by decide) q_104 (v := .ref (ad 7)) rfl dX3_tryDip_1 ?_
  refine lv_aload_n hx hb dX3_tryDip_4 rfl (lv_at hl 0 rfl) ?_
  refine m_get inX3 hF hC hO ((mU_ne (by decide : (6 : Nat) ≠ 8)).trans ((mU_ne (by decide : (6 : Nat) ≠ 7)).trans (mU_self))) rfl 1 (by decide) q_105 (v := .ref (ad 8)) rfl dX3_tryDip_5 ?_
  refine m_vI (As := [.ref (ad 8)]) (rest := []) (n := 1) hF hC hO hS (k_X0_canBeDipped l G lo sa ad _ 7 8 φ ν ((mU_ne (by decide : (7 : Nat) ≠ 8)).trans (mU_self)) (mU_self) (by decide : (7 : Nat) ≠ 8)) ok_X0_canBeDipped q_622 ((mU_ne (by decide : (7 : Nat) ≠ 8)).trans (mU_self)) rfl ⟨Nat.le_of_ble_eq_true rfl, Nat.le_of_ble_eq_true rfl⟩ rfl hl.1 rfl (Nat.le_of_ble_eq_true rfl) ⟨Nat.le_of_ble_eq_true rfl, Nat.le_of_ble_eq_true rfl⟩ dX3_tryDip_8 (fun v8 R' H locs hp hO hS => ?_)
  obtain ⟨⟨rfl, b8⟩ | ⟨rfl, b8⟩, hR⟩ := hp
  · rw [hR] at hO
    refine lv_if_ne (tgt := 16) hx hb dX3_tryDip_11 (by decide) (fun c11 => ?_) (fun c11 => absurd c11 (by decide))
    refine lv_aload_n hx hb dX3_tryDip_16 rfl (lv_at hl 0 rfl) ?_
    refine m_get inX3 hF hC hO ((mU_ne (by decide : (6 : Nat) ≠ 8)).trans ((mU_ne (by decide : (6 : Nat) ≠ 7)).trans (mU_self))) rfl 0 (by decide) q_104 (v := .ref (ad 7)) rfl dX3_tryDip_17 ?_
    refine lv_aload_n hx hb dX3_tryDip_20 rfl (lv_at hl 0 rfl) ?_
    refine m_get inX3 hF hC hO ((mU_ne (by decide : (6 : Nat) ≠ 8)).trans ((mU_ne (by decide : (6 : Nat) ≠ 7)).trans (mU_self))) rfl 1 (by decide) q_105 (v := .ref (ad 8)) rfl dX3_tryDip_21 ?_
    refine m_vV (As := [.ref (ad 8)]) (rest := []) (n := 1) hF hC hO hS (k_X0_immerse l G lo sa ad _ 7 8 φ ν ((mU_ne (by decide : (7 : Nat) ≠ 8)).trans (mU_self)) (mU_self) (by decide : (7 : Nat) ≠ 8)) ok_X0_immerse q_623 ((mU_ne (by decide : (7 : Nat) ≠ 8)).trans (mU_self)) rfl ⟨Nat.le_of_ble_eq_true rfl, Nat.le_of_ble_eq_true rfl⟩ rfl hl.1 rfl (Nat.le_of_ble_eq_true rfl) ⟨Nat.le_of_ble_eq_true rfl, Nat.le_of_ble_eq_true rfl⟩ dX3_tryDip_24 (fun R' H locs hp hO hS => ?_)
    have hR := hp
    rw [hR] at hO
    have hO : mO G lo ad (mU (mU (mU (mU (mU R 6 (.inr (3, [.ref (ad 7), .ref (ad 8)]))) 7 (frO φ)) 8 (vO ν)) 7 (frO (p_dipF φ (ν 1)))) 8 (vO (p_dipV φ ν))) H := hO
    rw [mU_sw (by decide : (7 : Nat) ≠ 8), mU_mU] at hO
    rw [mU_mU] at hO
    refine lv_aload_n hx hb dX3_tryDip_27 rfl (lv_at hl 0 rfl) ?_
    refine m_get inX3 hF hC hO ((mU_ne (by decide : (6 : Nat) ≠ 8)).trans ((mU_ne (by decide : (6 : Nat) ≠ 7)).trans (mU_self))) rfl 1 (by decide) q_105 (v := .ref (ad 8)) rfl dX3_tryDip_28 ?_
    refine m_vV (As := []) (rest := []) (n := 0) hF hC hO hS (k_X4_burn l G lo sa ad _ 8 (p_dipV φ ν) (mU_self)) ok_X4_burn q_624 (mU_self) rfl ⟨Nat.le_of_ble_eq_true rfl, Nat.le_of_ble_eq_true rfl⟩ rfl hl.1 rfl (Nat.le_of_ble_eq_true rfl) ⟨Nat.le_of_ble_eq_true rfl, Nat.le_of_ble_eq_true rfl⟩ dX3_tryDip_31 (fun R' H locs hp hO hS => ?_)
    have hR := hp
    rw [hR] at hO
    have hO : mO G lo ad (mU (mU (mU (mU R 6 (.inr (3, [.ref (ad 7), .ref (ad 8)]))) 7 (frO (p_dipF φ (ν 1)))) 8 (vO (p_dipV φ ν))) 8 (vO (p_burnV (p_dipV φ ν)))) H := hO
    rw [mU_mU] at hO
    refine lv_iconst (v := 1) hx hb dX3_tryDip_34 (by decide) ?_
    rw [mU_id (show R 6 = some (.inr (3, [.ref (ad 7), .ref (ad 8)])) from h0)] at hO
    refine m_iret hF hr hlk hQ rfl hO hS dX3_tryDip_35 ?_
    exact Or.inl ⟨rfl, b8, rfl⟩
  · rw [hR] at hO
    refine lv_if_ne (tgt := 16) hx hb dX3_tryDip_11 (by decide) (fun c11 => absurd (by decide) c11) (fun c11 => ?_)
    refine lv_iconst (v := 0) hx hb dX3_tryDip_14 (by decide) ?_
    rw [mU_id (show R 6 = some (.inr (3, [.ref (ad 7), .ref (ad 8)])) from h0)] at hO
    refine m_iret hF hr hlk hQ rfl hO hS dX3_tryDip_15 ?_
    exact Or.inr ⟨rfl, b8, by rw [mU_id (show (mU R 7 (frO φ)) 8 = some (vO ν) from (mU_ne (by decide)).trans h2), mU_id h1]⟩
theorem ok_X3_letRest : mOK RX3 yX3_letRest cX3_letRest 3 none 1 := ⟨q_640, qs_17, q_4, q_641, by decide +kernel⟩
set_option maxHeartbeats 400000 in
set_option maxRecDepth 100000 in
theorem k_X3_letRest (l : Launch) (G : mG) (lo : Nat) (sa ad : Nat → Nat) (R : mM) (φ ν : Nat → Int32) (N : Nat) (h0 : R 6 = some (.inr (3, [.ref (ad 7), .ref (ad 8)]))) (h1 : R 7 = some (frO φ)) (h2 : R 8 = some (vO ν)) (hN : N < 1000) : mV l yX3_letRest cX3_letRest 3 3 60 G lo sa ad R [.ref (ad 6), .int (nI N)] (fun R' => R' = (mU (mU R 7 (frO (p_coolN N φ))) 8 (vO (p_burnN N ν)))) := by
  refine mV_of (by decide) (Nat.le_of_ble_eq_true rfl) ?_
  intro p e s m args below meth c hF hr hlk hC ls hl hO hS Q hQ
  have hx := hF.1
  have hb := hF.2.1
  have hl : lv_has ls 3 [(0, .ref (ad 6)), (1, .int (nI N))] := hl
  have hO : mO G lo ad (mU (mU (mU R 6 (.inr (3, [.ref (ad 7), .ref (ad 8)]))) 7 (frO φ)) 8 (vO ν)) s.heap := by
    rw [mU_id h0, mU_id h1, mU_id h2]
    exact hO
  refine lv_iconst (v := 0) hx hb dX3_letRest_0 (by decide) ?_
  refine lv_istore_n (lv' := [(2, .int 0), (0, .ref (ad 6)), (1, .int (nI N))]) hx hb dX3_letRest_1 rfl hl (by decide) rfl (fun ls hl => ?_)
  have L2 : ∀ (n : Nat) (i : Nat) (φ9 : Nat → Int32) (ν9 : Nat → Int32) (H : Heap) (locs : List Loc) (ls : Array Slot), N - i < n → i ≤ N → p_coolN (N - i) φ9 = p_coolN N φ → p_burnN (N - i) ν9 = p_burnN N ν → lv_has ls 3 [(0, .ref (ad 6)), (1, .int (nI N)), (2, .int (nI i))] → mO G lo ad (mU (mU (mU R 6 (.inr (3, [.ref (ad 7), .ref (ad 8)]))) 7 (frO φ9)) 8 (vO ν9)) H → va_S (mA lo) s.heap H locs → W p l e (mRm 3 60) s m args below meth c H locs 0 0 Q (F0 m 2 ls []) := by
    intro n
    induction n with
    | zero => intro i φ9 ν9 H locs ls hn; exact absurd hn (Nat.not_lt_zero _)
    | succ n ih2 =>
      intro i φ9 ν9 H locs ls hn2 hi hv hw hl hO hS
      refine lv_iload_n hx hb dX3_letRest_2 rfl (lv_at hl 2 rfl) ?_
      refine lv_iload_n hx hb dX3_letRest_3 rfl (lv_at hl 1 rfl) ?_
      refine lv_icmp_ge (tgt := 27) hx hb dX3_letRest_4 (by decide) (fun c4 => ?_) (fun c4 => ?_)
      · rw [mU_id (show R 6 = some (.inr (3, [.ref (ad 7), .ref (ad 8)])) from h0)] at hO
        refine m_vret hF hr hlk hQ hO hS dX3_letRest_27 ?_
        have e : i = N := Nat.le_antisymm hi (nI_E (a := N) (b := i) (by omega) (by omega) c4)
        subst e
        rw [Nat.sub_self] at hv hw
        rw [← hv, ← hw]
        rfl
      · refine lv_aload_n hx hb dX3_letRest_7 rfl (lv_at hl 0 rfl) ?_
        refine m_get inX3 hF hC hO ((mU_ne (by decide : (6 : Nat) ≠ 8)).trans ((mU_ne (by decide : (6 : Nat) ≠ 7)).trans (mU_self))) rfl 1 (by decide) q_105 (v := .ref (ad 8)) rfl dX3_letRest_8 ?_
        refine m_vV (As := []) (rest := []) (n := 0) hF hC hO hS (k_X4_burn l G lo sa ad _ 8 ν9 (mU_self)) ok_X4_burn q_624 (mU_self) rfl ⟨Nat.le_of_ble_eq_true rfl, Nat.le_of_ble_eq_true rfl⟩ rfl hl.1 rfl (Nat.le_of_ble_eq_true rfl) ⟨Nat.le_of_ble_eq_true rfl, Nat.le_of_ble_eq_true rfl⟩ dX3_letRest_11 (fun R' H locs hp hO hS => ?_)
        have hR := hp
        rw [hR] at hO
        have hO : mO G lo ad (mU (mU (mU (mU R 6 (.inr (3, [.ref (ad 7), .ref (ad 8)]))) 7 (frO φ9)) 8 (vO ν9)) 8 (vO (p_burnV ν9))) H := hO
        rw [mU_mU] at hO
        refine lv_aload_n hx hb dX3_letRest_14 rfl (lv_at hl 0 rfl) ?_
        refine m_get inX3 hF hC hO ((mU_ne (by decide : (6 : Nat) ≠ 8)).trans ((mU_ne (by decide : (6 : Nat) ≠ 7)).trans (mU_self))) rfl 0 (by decide) q_104 (v := .ref (ad 7)) rfl dX3_letRest_15 ?_
        refine m_vV (As := []) (rest := []) (n := 0) hF hC hO hS (k_X0_cool l G lo sa ad _ 7 φ9 ((mU_ne (by decide : (7 : Nat) ≠ 8)).trans (mU_self))) ok_X0_cool q_642 ((mU_ne (by decide : (7 : Nat) ≠ 8)).trans (mU_self)) rfl ⟨Nat.le_of_ble_eq_true rfl, Nat.le_of_ble_eq_true rfl⟩ rfl hl.1 rfl (Nat.le_of_ble_eq_true rfl) ⟨Nat.le_of_ble_eq_true rfl, Nat.le_of_ble_eq_true rfl⟩ dX3_letRest_18 (fun R' H locs hp hO hS => ?_)
        have hR := hp
        rw [hR] at hO
        have hO : mO G lo ad (mU (mU (mU (mU R 6 (.inr (3, [.ref (ad 7), .ref (ad 8)]))) 7 (frO φ9)) 8 (vO (p_burnV ν9))) 7 (frO (p_coolF φ9))) H := hO
        rw [mU_sw (by decide : (7 : Nat) ≠ 8), mU_mU] at hO
        refine lv_iinc (v := (nI (i + 1))) (lv' := [(2, .int (nI (i + 1))), (0, .ref (ad 6)), (1, .int (nI N))]) hx hb dX3_letRest_21 hl (k := 2) rfl (nI_inc i) (by decide) rfl (fun ls hl => ?_)
        refine lv_goto (tgt := 2) hx hb dX3_letRest_24 (by decide) ?_
        exact ih2 (i + 1) (p_coolF φ9) (p_burnV ν9) _ _ _ (by have := (nI_nE (a := N) (b := i) (by omega) (by omega) c4); omega) (by have := (nI_nE (a := N) (b := i) (by omega) (by omega) c4); omega) (by have := (nI_nE (a := N) (b := i) (by omega) (by omega) c4); rw [← hv, show N - i = (N - (i + 1)) + 1 from by omega]; rfl) (by have := (nI_nE (a := N) (b := i) (by omega) (by omega) c4); rw [← hw, show N - i = (N - (i + 1)) + 1 from by omega]; rfl) (lv_sub hl [1, 2, 0] rfl) hO hS
  exact L2 _ 0 φ ν _ _ _ (Nat.lt_succ_self _) (by omega) rfl rfl (lv_sub hl [1, 2, 0] rfl) hO hS
end
section
theorem ok_X3_thicknessAfter : mOK RX3 yX3_thicknessAfter cX3_thicknessAfter 5 (some .int) 3 := ⟨q_603, q_604, q_4, q_605, by decide +kernel⟩
set_option maxHeartbeats 400000 in
set_option maxRecDepth 100000 in
theorem k_X3_thicknessAfter (l : Launch) (G : mG) (lo : Nat) (sa ad : Nat → Nat) (R : mM) (r v : Nat) (φ ν ψ κ : Nat → Int32) (N : Nat) (h0 : R 6 = some (.inr (3, [.ref (ad 7), .ref (ad 8)]))) (h1 : R 7 = some (frO φ)) (h2 : R 8 = some (vO ν)) (h3 : R r = some (frO ψ)) (h4 : R v = some (vO κ)) (hrv : r ≠ v) (h6r : 6 ≠ r) (h7r : 7 ≠ r) (h8r : 8 ≠ r) (h6v : 6 ≠ v) (h7v : 7 ≠ v) (h8v : 8 ≠ v) (hb4 : ψ 4 = 0 ∨ ψ 4 = 1) (hN : N < 1000) : mI l yX3_thicknessAfter cX3_thicknessAfter 5 .int 5 106 G lo sa ad R [.ref (ad 6), .ref (ad r), .ref (ad v), .int (nI N)] (fun v R' => v = (p_try N ψ κ) ∧ ∃ (φ' : Nat → Int32), ∃ (ν' : Nat → Int32), R' = (mU (mU R 7 (frO φ')) 8 (vO ν'))) := by
  refine mI_of (by decide) (Nat.le_of_ble_eq_true rfl) ?_
  intro p e s m args below meth c hF hr hlk hC ls hl hO hS Q hQ
  have hx := hF.1
  have hb := hF.2.1
  have hl : lv_has ls 5 [(0, .ref (ad 6)), (1, .ref (ad r)), (2, .ref (ad v)), (3, .int (nI N))] := hl
  have hO : mO G lo ad (mU (mU (mU (mU (mU R 6 (.inr (3, [.ref (ad 7), .ref (ad 8)]))) 7 (frO φ)) 8 (vO ν)) r (frO ψ)) v (vO κ)) s.heap := by
    rw [mU_id h0, mU_id h1, mU_id h2, mU_id h3, mU_id h4]
    exact hO
  refine lv_aload_n hx hb dX3_thicknessAfter_0 rfl (lv_at hl 0 rfl) ?_
  refine lv_aload_n hx hb dX3_thicknessAfter_1 rfl (lv_at hl 1 rfl) ?_
  refine lv_aload_n hx hb dX3_thicknessAfter_2 rfl (lv_at hl 2 rfl) ?_
  refine m_vV (As := [.ref (ad r), .ref (ad v)]) (rest := []) (n := 2) hF hC hO hS (k_X3_begin l G lo sa ad _ r v φ ν ψ κ ((mU_ne h6v).trans ((mU_ne h6r).trans ((mU_ne (by decide : (6 : Nat) ≠ 8)).trans ((mU_ne (by decide : (6 : Nat) ≠ 7)).trans (mU_self))))) ((mU_ne h7v).trans ((mU_ne h7r).trans ((mU_ne (by decide : (7 : Nat) ≠ 8)).trans (mU_self)))) ((mU_ne h8v).trans ((mU_ne h8r).trans (mU_self))) ((mU_ne hrv).trans (mU_self)) (mU_self) hrv h6r h7r h8r h6v h7v h8v hb4) ok_X3_begin q_606 ((mU_ne h6v).trans ((mU_ne h6r).trans ((mU_ne (by decide : (6 : Nat) ≠ 8)).trans ((mU_ne (by decide : (6 : Nat) ≠ 7)).trans (mU_self))))) rfl ⟨Nat.le_of_ble_eq_true rfl, Nat.le_of_ble_eq_true rfl⟩ rfl hl.1 rfl (Nat.le_of_ble_eq_true rfl) ⟨Nat.le_of_ble_eq_true rfl, Nat.le_of_ble_eq_true rfl⟩ dX3_thicknessAfter_3 (fun R' H locs hp hO hS => ?_)
  have hR := hp
  rw [hR] at hO
  have hO : mO G lo ad (mU (mU (mU (mU (mU (mU (mU R 6 (.inr (3, [.ref (ad 7), .ref (ad 8)]))) 7 (frO φ)) 8 (vO ν)) r (frO ψ)) v (vO κ)) 7 (frO ψ)) 8 (vO κ)) H := hO
  rw [mU_sw h7v, mU_sw h7r, mU_sw (by decide : (7 : Nat) ≠ 8), mU_mU] at hO
  rw [mU_sw h8v, mU_sw h8r, mU_mU] at hO
  refine lv_iconst (v := 0) hx hb dX3_thicknessAfter_6 (by decide) ?_
  refine lv_istore (lv' := [(4, .int 0), (0, .ref (ad 6)), (1, .ref (ad r)), (2, .ref (ad v)), (3, .int (nI N))]) hx hb dX3_thicknessAfter_7 hl (by decide) rfl (fun ls hl => ?_)
  have L9 : ∀ (n : Nat) (i : Nat) (φ9 : Nat → Int32) (ν9 : Nat → Int32) (H : Heap) (locs : List Loc) (ls : Array Slot), N - i < n → i ≤ N → p_try (N - i) φ9 ν9 = p_try N ψ κ → lv_has ls 5 [(0, .ref (ad 6)), (3, .int (nI N)), (4, .int (nI i))] → mO G lo ad (mU (mU (mU (mU (mU R 6 (.inr (3, [.ref (ad 7), .ref (ad 8)]))) 7 (frO φ9)) 8 (vO ν9)) r (frO ψ)) v (vO κ)) H → va_S (mA lo) s.heap H locs → W p l e (mRm 5 106) s m args below meth c H locs 0 0 Q (F0 m 9 ls []) := by
    intro n
    induction n with
    | zero => intro i φ9 ν9 H locs ls hn; exact absurd hn (Nat.not_lt_zero _)
    | succ n ih9 =>
      intro i φ9 ν9 H locs ls hn9 hi hv hl hO hS
      refine lv_iload hx hb dX3_thicknessAfter_9 (lv_at hl 2 rfl) ?_
      refine lv_iload_n hx hb dX3_thicknessAfter_11 rfl (lv_at hl 1 rfl) ?_
      refine lv_icmp_ge (tgt := 31) hx hb dX3_thicknessAfter_12 (by decide) (fun c12 => ?_) (fun c12 => ?_)
      · refine lv_aload_n hx hb dX3_thicknessAfter_31 rfl (lv_at hl 0 rfl) ?_
        refine m_get inX3 hF hC hO ((mU_ne h6v).trans ((mU_ne h6r).trans ((mU_ne (by decide : (6 : Nat) ≠ 8)).trans ((mU_ne (by decide : (6 : Nat) ≠ 7)).trans (mU_self))))) rfl 0 (by decide) q_104 (v := .ref (ad 7)) rfl dX3_thicknessAfter_32 ?_
        refine m_get inX0 hF hC hO ((mU_ne h7v).trans ((mU_ne h7r).trans ((mU_ne (by decide : (7 : Nat) ≠ 8)).trans (mU_self)))) rfl 2 (by decide) q_76 (v := .int (φ9 2)) rfl dX3_thicknessAfter_35 ?_
        rw [mU_id (show R 6 = some (.inr (3, [.ref (ad 7), .ref (ad 8)])) from h0)] at hO
        rw [mU_id (show (mU (mU R 7 (frO φ9)) 8 (vO ν9)) r = some (frO ψ) from ((mU_ne (Ne.symm h8r)).trans ((mU_ne (Ne.symm h7r)).trans h3)))] at hO
        rw [mU_id (show (mU (mU R 7 (frO φ9)) 8 (vO ν9)) v = some (vO κ) from ((mU_ne (Ne.symm h8v)).trans ((mU_ne (Ne.symm h7v)).trans h4)))] at hO
        refine m_iret hF hr hlk hQ rfl hO hS dX3_thicknessAfter_38 ?_
        first
        | (have e : i = N := Nat.le_antisymm hi (nI_E (a := N) (b := i) (by omega) (by omega) c12)
           subst e
           rw [Nat.sub_self] at hv
           exact ⟨hv, _, _, rfl⟩)
        | (have h9 := (nI_nE (a := N) (b := i) (by omega) (by omega) c12)
           rw [show N - i = (N - (i + 1)) + 1 from by omega, p_try, if_neg b16] at hv
           exact ⟨hv, _, _, rfl⟩)
      · refine lv_aload_n hx hb dX3_thicknessAfter_15 rfl (lv_at hl 0 rfl) ?_
        refine m_vI (As := []) (rest := []) (n := 0) hF hC hO hS (k_X3_tryDip l G lo sa ad _ φ9 ν9 ((mU_ne h6v).trans ((mU_ne h6r).trans ((mU_ne (by decide : (6 : Nat) ≠ 8)).trans ((mU_ne (by decide : (6 : Nat) ≠ 7)).trans (mU_self))))) ((mU_ne h7v).trans ((mU_ne h7r).trans ((mU_ne (by decide : (7 : Nat) ≠ 8)).trans (mU_self)))) ((mU_ne h8v).trans ((mU_ne h8r).trans (mU_self)))) ok_X3_tryDip q_618 ((mU_ne h6v).trans ((mU_ne h6r).trans ((mU_ne (by decide : (6 : Nat) ≠ 8)).trans ((mU_ne (by decide : (6 : Nat) ≠ 7)).trans (mU_self))))) rfl ⟨Nat.le_of_ble_eq_true rfl, Nat.le_of_ble_eq_true rfl⟩ rfl hl.1 rfl (Nat.le_of_ble_eq_true rfl) ⟨Nat.le_of_ble_eq_true rfl, Nat.le_of_ble_eq_true rfl⟩ dX3_thicknessAfter_16 (fun v16 R' H locs hp hO hS => ?_)
        obtain ⟨rfl, b16, hR⟩ | ⟨rfl, b16, hR⟩ := hp
        · rw [hR] at hO
          have hO : mO G lo ad (mU (mU (mU (mU (mU (mU (mU R 6 (.inr (3, [.ref (ad 7), .ref (ad 8)]))) 7 (frO φ9)) 8 (vO ν9)) r (frO ψ)) v (vO κ)) 7 (frO (p_dipF φ9 (ν9 1)))) 8 (vO (p_burnV (p_dipV φ9 ν9)))) H := hO
          rw [mU_sw h7v, mU_sw h7r, mU_sw (by decide : (7 : Nat) ≠ 8), mU_mU] at hO
          rw [mU_sw h8v, mU_sw h8r, mU_mU] at hO
          refine lv_if_ne (tgt := 25) hx hb dX3_thicknessAfter_19 (by decide) (fun c19 => ?_) (fun c19 => absurd c19 (by decide))
          refine lv_iinc (v := (nI (i + 1))) (lv' := [(4, .int (nI (i + 1))), (0, .ref (ad 6)), (3, .int (nI N))]) hx hb dX3_thicknessAfter_25 hl (k := 2) rfl (nI_inc i) (by decide) rfl (fun ls hl => ?_)
          refine lv_goto (tgt := 9) hx hb dX3_thicknessAfter_28 (by decide) ?_
          exact ih9 (i + 1) (p_dipF φ9 (ν9 1)) (p_burnV (p_dipV φ9 ν9)) _ _ _ (by have := (nI_nE (a := N) (b := i) (by omega) (by omega) c12); omega) (by have := (nI_nE (a := N) (b := i) (by omega) (by omega) c12); omega) (by have := (nI_nE (a := N) (b := i) (by omega) (by omega) c12); rw [← hv, show N - i = (N - (i + 1)) + 1 from by omega, p_try, if_pos b16]) (lv_sub hl [1, 2, 0] rfl) hO hS
        · rw [hR] at hO
          refine lv_if_ne (tgt := 25) hx hb dX3_thicknessAfter_19 (by decide) (fun c19 => absurd (by decide) c19) (fun c19 => ?_)
          refine lv_goto (tgt := 31) hx hb dX3_thicknessAfter_22 (by decide) ?_
          refine lv_aload_n hx hb dX3_thicknessAfter_31 rfl (lv_at hl 0 rfl) ?_
          refine m_get inX3 hF hC hO ((mU_ne h6v).trans ((mU_ne h6r).trans ((mU_ne (by decide : (6 : Nat) ≠ 8)).trans ((mU_ne (by decide : (6 : Nat) ≠ 7)).trans (mU_self))))) rfl 0 (by decide) q_104 (v := .ref (ad 7)) rfl dX3_thicknessAfter_32 ?_
          refine m_get inX0 hF hC hO ((mU_ne h7v).trans ((mU_ne h7r).trans ((mU_ne (by decide : (7 : Nat) ≠ 8)).trans (mU_self)))) rfl 2 (by decide) q_76 (v := .int (φ9 2)) rfl dX3_thicknessAfter_35 ?_
          rw [mU_id (show R 6 = some (.inr (3, [.ref (ad 7), .ref (ad 8)])) from h0)] at hO
          rw [mU_id (show (mU (mU R 7 (frO φ9)) 8 (vO ν9)) r = some (frO ψ) from ((mU_ne (Ne.symm h8r)).trans ((mU_ne (Ne.symm h7r)).trans h3)))] at hO
          rw [mU_id (show (mU (mU R 7 (frO φ9)) 8 (vO ν9)) v = some (vO κ) from ((mU_ne (Ne.symm h8v)).trans ((mU_ne (Ne.symm h7v)).trans h4)))] at hO
          refine m_iret hF hr hlk hQ rfl hO hS dX3_thicknessAfter_38 ?_
          first
          | (have e : i = N := Nat.le_antisymm hi (nI_E (a := N) (b := i) (by omega) (by omega) c12)
             subst e
             rw [Nat.sub_self] at hv
             exact ⟨hv, _, _, rfl⟩)
          | (have h9 := (nI_nE (a := N) (b := i) (by omega) (by omega) c12)
             rw [show N - i = (N - (i + 1)) + 1 from by omega, p_try, if_neg b16] at hv
             exact ⟨hv, _, _, rfl⟩)
  exact L9 _ 0 ψ κ _ _ _ (Nat.lt_succ_self _) (by omega) rfl (lv_sub hl [1, 4, 0] rfl) hO hS
theorem ok_X3_dipsNeeded : mOK RX3 yX3_dipsNeeded cX3_dipsNeeded 6 (some .int) 4 := ⟨q_634, q_635, q_4, q_636, by decide +kernel⟩
set_option maxHeartbeats 400000 in
set_option maxRecDepth 100000 in
theorem k_X3_dipsNeeded (l : Launch) (G : mG) (lo : Nat) (sa ad : Nat → Nat) (R : mM) (r v : Nat) (φ ν ψ κ : Nat → Int32) (k : Nat) (z : Int32) (h0 : R 6 = some (.inr (3, [.ref (ad 7), .ref (ad 8)]))) (h1 : R 7 = some (frO φ)) (h2 : R 8 = some (vO ν)) (h3 : R r = some (frO ψ)) (h4 : R v = some (vO κ)) (hrv : r ≠ v) (h6r : 6 ≠ r) (h7r : 7 ≠ r) (h8r : 8 ≠ r) (h6v : 6 ≠ v) (h7v : 7 ≠ v) (h8v : 8 ≠ v) (hb4 : ψ 4 = 0 ∨ ψ 4 = 1) (hN : k < 1000) : mI l yX3_dipsNeeded cX3_dipsNeeded 6 .int 5 106 G lo sa ad R [.ref (ad 6), .ref (ad r), .ref (ad v), .int (nI k), .int z] (fun v R' => v = (p_need k z ψ κ) ∧ ∃ (φ' : Nat → Int32), ∃ (ν' : Nat → Int32), R' = (mU (mU R 7 (frO φ')) 8 (vO ν'))) := by
  refine mI_of (by decide) (Nat.le_of_ble_eq_true rfl) ?_
  intro p e s m args below meth c hF hr hlk hC ls hl hO hS Q hQ
  have hx := hF.1
  have hb := hF.2.1
  have hl : lv_has ls 6 [(0, .ref (ad 6)), (1, .ref (ad r)), (2, .ref (ad v)), (3, .int (nI k)), (4, .int z)] := hl
  have hO : mO G lo ad (mU (mU (mU (mU (mU R 6 (.inr (3, [.ref (ad 7), .ref (ad 8)]))) 7 (frO φ)) 8 (vO ν)) r (frO ψ)) v (vO κ)) s.heap := by
    rw [mU_id h0, mU_id h1, mU_id h2, mU_id h3, mU_id h4]
    exact hO
  refine lv_aload_n hx hb dX3_dipsNeeded_0 rfl (lv_at hl 0 rfl) ?_
  refine lv_aload_n hx hb dX3_dipsNeeded_1 rfl (lv_at hl 1 rfl) ?_
  refine lv_aload_n hx hb dX3_dipsNeeded_2 rfl (lv_at hl 2 rfl) ?_
  refine m_vV (As := [.ref (ad r), .ref (ad v)]) (rest := []) (n := 2) hF hC hO hS (k_X3_begin l G lo sa ad _ r v φ ν ψ κ ((mU_ne h6v).trans ((mU_ne h6r).trans ((mU_ne (by decide : (6 : Nat) ≠ 8)).trans ((mU_ne (by decide : (6 : Nat) ≠ 7)).trans (mU_self))))) ((mU_ne h7v).trans ((mU_ne h7r).trans ((mU_ne (by decide : (7 : Nat) ≠ 8)).trans (mU_self)))) ((mU_ne h8v).trans ((mU_ne h8r).trans (mU_self))) ((mU_ne hrv).trans (mU_self)) (mU_self) hrv h6r h7r h8r h6v h7v h8v hb4) ok_X3_begin q_606 ((mU_ne h6v).trans ((mU_ne h6r).trans ((mU_ne (by decide : (6 : Nat) ≠ 8)).trans ((mU_ne (by decide : (6 : Nat) ≠ 7)).trans (mU_self))))) rfl ⟨Nat.le_of_ble_eq_true rfl, Nat.le_of_ble_eq_true rfl⟩ rfl hl.1 rfl (Nat.le_of_ble_eq_true rfl) ⟨Nat.le_of_ble_eq_true rfl, Nat.le_of_ble_eq_true rfl⟩ dX3_dipsNeeded_3 (fun R' H locs hp hO hS => ?_)
  have hR := hp
  rw [hR] at hO
  have hO : mO G lo ad (mU (mU (mU (mU (mU (mU (mU R 6 (.inr (3, [.ref (ad 7), .ref (ad 8)]))) 7 (frO φ)) 8 (vO ν)) r (frO ψ)) v (vO κ)) 7 (frO ψ)) 8 (vO κ)) H := hO
  rw [mU_sw h7v, mU_sw h7r, mU_sw (by decide : (7 : Nat) ≠ 8), mU_mU] at hO
  rw [mU_sw h8v, mU_sw h8r, mU_mU] at hO
  refine lv_aload_n hx hb dX3_dipsNeeded_6 rfl (lv_at hl 0 rfl) ?_
  refine m_get inX3 hF hC hO ((mU_ne h6v).trans ((mU_ne h6r).trans ((mU_ne (by decide : (6 : Nat) ≠ 8)).trans ((mU_ne (by decide : (6 : Nat) ≠ 7)).trans (mU_self))))) rfl 0 (by decide) q_104 (v := .ref (ad 7)) rfl dX3_dipsNeeded_7 ?_
  refine m_vI (As := []) (rest := []) (n := 0) hF hC hO hS (k_X0_size l G lo sa ad _ 7 ψ ((mU_ne h7v).trans ((mU_ne h7r).trans ((mU_ne (by decide : (7 : Nat) ≠ 8)).trans (mU_self))))) ok_X0_size q_637 ((mU_ne h7v).trans ((mU_ne h7r).trans ((mU_ne (by decide : (7 : Nat) ≠ 8)).trans (mU_self)))) rfl ⟨Nat.le_of_ble_eq_true rfl, Nat.le_of_ble_eq_true rfl⟩ rfl hl.1 rfl (Nat.le_of_ble_eq_true rfl) ⟨Nat.le_of_ble_eq_true rfl, Nat.le_of_ble_eq_true rfl⟩ dX3_dipsNeeded_10 (fun v10 R' H locs hp hO hS => ?_)
  obtain ⟨rfl, hR⟩ := hp
  rw [hR] at hO
  refine lv_iload hx hb dX3_dipsNeeded_13 (lv_at hl 4 rfl) ?_
  refine lv_icmp_lt (tgt := 20) hx hb dX3_dipsNeeded_15 (by decide) (fun c15 => ?_) (fun c15 => ?_)
  · refine lv_iconst (v := 1) hx hb dX3_dipsNeeded_20 (by decide) ?_
    refine lv_istore (lv' := [(5, .int 1), (0, .ref (ad 6)), (1, .ref (ad r)), (2, .ref (ad v)), (3, .int (nI k)), (4, .int z)]) hx hb dX3_dipsNeeded_21 hl (by decide) rfl (fun ls hl => ?_)
    have L23 : ∀ (n : Nat) (i : Nat) (φ9 : Nat → Int32) (ν9 : Nat → Int32) (H : Heap) (locs : List Loc) (ls : Array Slot), 61 - i < n → i ≤ 61 → 1 ≤ i → p_needL (61 - i) i k z φ9 ν9 = p_need k z ψ κ → lv_has ls 6 [(0, .ref (ad 6)), (3, .int (nI k)), (4, .int z), (5, .int (nI i))] → mO G lo ad (mU (mU (mU (mU (mU R 6 (.inr (3, [.ref (ad 7), .ref (ad 8)]))) 7 (frO φ9)) 8 (vO ν9)) r (frO ψ)) v (vO κ)) H → va_S (mA lo) s.heap H locs → W p l e (mRm 5 106) s m args below meth c H locs 0 0 Q (F0 m 23 ls []) := by
      intro n
      induction n with
      | zero => intro i φ9 ν9 H locs ls hn; exact absurd hn (Nat.not_lt_zero _)
      | succ n ih23 =>
        intro i φ9 ν9 H locs ls hn23 hi hi1 hv hl hO hS
        refine lv_iload hx hb dX3_dipsNeeded_23 (lv_at hl 3 rfl) ?_
        refine lv_bipush (v := 60) hx hb dX3_dipsNeeded_25 (by decide) ?_
        refine lv_icmp_gt (tgt := 65) hx hb dX3_dipsNeeded_27 (by decide) (fun c27 => ?_) (fun c27 => ?_)
        · refine lv_iconst (v := -1) hx hb dX3_dipsNeeded_65 (by decide) ?_
          rw [mU_id (show R 6 = some (.inr (3, [.ref (ad 7), .ref (ad 8)])) from h0)] at hO
          rw [mU_id (show (mU (mU R 7 (frO φ9)) 8 (vO ν9)) r = some (frO ψ) from ((mU_ne (Ne.symm h8r)).trans ((mU_ne (Ne.symm h7r)).trans h3)))] at hO
          rw [mU_id (show (mU (mU R 7 (frO φ9)) 8 (vO ν9)) v = some (vO κ) from ((mU_ne (Ne.symm h8v)).trans ((mU_ne (Ne.symm h7v)).trans h4)))] at hO
          refine m_iret hF hr hlk hQ rfl hO hS dX3_dipsNeeded_66 ?_
          have e : i = 61 := Nat.le_antisymm hi (nI_L (a := 60) (b := i) (by decide) (by omega) c27)
          subst e
          exact ⟨hv, _, _, rfl⟩
        · refine lv_aload_n hx hb dX3_dipsNeeded_30 rfl (lv_at hl 0 rfl) ?_
          refine m_vI (As := []) (rest := []) (n := 0) hF hC hO hS (k_X3_tryDip l G lo sa ad _ φ9 ν9 ((mU_ne h6v).trans ((mU_ne h6r).trans ((mU_ne (by decide : (6 : Nat) ≠ 8)).trans ((mU_ne (by decide : (6 : Nat) ≠ 7)).trans (mU_self))))) ((mU_ne h7v).trans ((mU_ne h7r).trans ((mU_ne (by decide : (7 : Nat) ≠ 8)).trans (mU_self)))) ((mU_ne h8v).trans ((mU_ne h8r).trans (mU_self)))) ok_X3_tryDip q_618 ((mU_ne h6v).trans ((mU_ne h6r).trans ((mU_ne (by decide : (6 : Nat) ≠ 8)).trans ((mU_ne (by decide : (6 : Nat) ≠ 7)).trans (mU_self))))) rfl ⟨Nat.le_of_ble_eq_true rfl, Nat.le_of_ble_eq_true rfl⟩ rfl hl.1 rfl (Nat.le_of_ble_eq_true rfl) ⟨Nat.le_of_ble_eq_true rfl, Nat.le_of_ble_eq_true rfl⟩ dX3_dipsNeeded_31 (fun v31 R' H locs hp hO hS => ?_)
          obtain ⟨rfl, b31, hR⟩ | ⟨rfl, b31, hR⟩ := hp
          · rw [hR] at hO
            have hO : mO G lo ad (mU (mU (mU (mU (mU (mU (mU R 6 (.inr (3, [.ref (ad 7), .ref (ad 8)]))) 7 (frO φ9)) 8 (vO ν9)) r (frO ψ)) v (vO κ)) 7 (frO (p_dipF φ9 (ν9 1)))) 8 (vO (p_burnV (p_dipV φ9 ν9)))) H := hO
            rw [mU_sw h7v, mU_sw h7r, mU_sw (by decide : (7 : Nat) ≠ 8), mU_mU] at hO
            rw [mU_sw h8v, mU_sw h8r, mU_mU] at hO
            refine lv_if_ne (tgt := 39) hx hb dX3_dipsNeeded_34 (by decide) (fun c34 => ?_) (fun c34 => absurd c34 (by decide))
            refine lv_aload_n hx hb dX3_dipsNeeded_39 rfl (lv_at hl 0 rfl) ?_
            refine m_get inX3 hF hC hO ((mU_ne h6v).trans ((mU_ne h6r).trans ((mU_ne (by decide : (6 : Nat) ≠ 8)).trans ((mU_ne (by decide : (6 : Nat) ≠ 7)).trans (mU_self))))) rfl 0 (by decide) q_104 (v := .ref (ad 7)) rfl dX3_dipsNeeded_40 ?_
            refine m_vI (As := []) (rest := []) (n := 0) hF hC hO hS (k_X0_size l G lo sa ad _ 7 (p_dipF φ9 (ν9 1)) ((mU_ne h7v).trans ((mU_ne h7r).trans ((mU_ne (by decide : (7 : Nat) ≠ 8)).trans (mU_self))))) ok_X0_size q_637 ((mU_ne h7v).trans ((mU_ne h7r).trans ((mU_ne (by decide : (7 : Nat) ≠ 8)).trans (mU_self)))) rfl ⟨Nat.le_of_ble_eq_true rfl, Nat.le_of_ble_eq_true rfl⟩ rfl hl.1 rfl (Nat.le_of_ble_eq_true rfl) ⟨Nat.le_of_ble_eq_true rfl, Nat.le_of_ble_eq_true rfl⟩ dX3_dipsNeeded_43 (fun v43 R' H locs hp hO hS => ?_)
            obtain ⟨rfl, hR⟩ := hp
            rw [hR] at hO
            refine lv_iload hx hb dX3_dipsNeeded_46 (lv_at hl 2 rfl) ?_
            refine lv_icmp_lt (tgt := 54) hx hb dX3_dipsNeeded_48 (by decide) (fun c48 => ?_) (fun c48 => ?_)
            · refine lv_aload_n hx hb dX3_dipsNeeded_54 rfl (lv_at hl 0 rfl) ?_
              refine lv_iload_n hx hb dX3_dipsNeeded_55 rfl (lv_at hl 1 rfl) ?_
              refine m_vV (As := [.int (nI k)]) (rest := []) (n := 1) hF hC hO hS (k_X3_letRest l G lo sa ad _ (p_dipF φ9 (ν9 1)) (p_burnV (p_dipV φ9 ν9)) k ((mU_ne h6v).trans ((mU_ne h6r).trans ((mU_ne (by decide : (6 : Nat) ≠ 8)).trans ((mU_ne (by decide : (6 : Nat) ≠ 7)).trans (mU_self))))) ((mU_ne h7v).trans ((mU_ne h7r).trans ((mU_ne (by decide : (7 : Nat) ≠ 8)).trans (mU_self)))) ((mU_ne h8v).trans ((mU_ne h8r).trans (mU_self))) (by omega)) ok_X3_letRest q_638 ((mU_ne h6v).trans ((mU_ne h6r).trans ((mU_ne (by decide : (6 : Nat) ≠ 8)).trans ((mU_ne (by decide : (6 : Nat) ≠ 7)).trans (mU_self))))) rfl ⟨Nat.le_of_ble_eq_true rfl, Nat.le_of_ble_eq_true rfl⟩ rfl hl.1 rfl (Nat.le_of_ble_eq_true rfl) ⟨Nat.le_of_ble_eq_true rfl, Nat.le_of_ble_eq_true rfl⟩ dX3_dipsNeeded_56 (fun R' H locs hp hO hS => ?_)
              have hR := hp
              rw [hR] at hO
              have hO : mO G lo ad (mU (mU (mU (mU (mU (mU (mU R 6 (.inr (3, [.ref (ad 7), .ref (ad 8)]))) 7 (frO (p_dipF φ9 (ν9 1)))) 8 (vO (p_burnV (p_dipV φ9 ν9)))) r (frO ψ)) v (vO κ)) 7 (frO (p_coolN k (p_dipF φ9 (ν9 1))))) 8 (vO (p_burnN k (p_burnV (p_dipV φ9 ν9))))) H := hO
              rw [mU_sw h7v, mU_sw h7r, mU_sw (by decide : (7 : Nat) ≠ 8), mU_mU] at hO
              rw [mU_sw h8v, mU_sw h8r, mU_mU] at hO
              refine lv_iinc (v := (nI (i + 1))) (lv' := [(5, .int (nI (i + 1))), (0, .ref (ad 6)), (3, .int (nI k)), (4, .int z)]) hx hb dX3_dipsNeeded_59 hl (k := 3) rfl (nI_inc i) (by decide) rfl (fun ls hl => ?_)
              refine lv_goto (tgt := 23) hx hb dX3_dipsNeeded_62 (by decide) ?_
              exact ih23 (i + 1) (p_coolN k (p_dipF φ9 (ν9 1))) (p_burnN k (p_burnV (p_dipV φ9 ν9))) _ _ _ (by have := (nI_nL (a := 60) (b := i) (by decide) (by omega) c27); omega) (by have := (nI_nL (a := 60) (b := i) (by decide) (by omega) c27); omega) (by omega) (by have := (nI_nL (a := 60) (b := i) (by decide) (by omega) c27); rw [← hv, show 61 - i = (61 - (i + 1)) + 1 from by omega, p_needL, if_pos b31, if_neg (Int32.not_le.mpr c48)]) (lv_sub hl [1, 2, 3, 0] rfl) hO hS
            · refine lv_iload hx hb dX3_dipsNeeded_51 (lv_at hl 3 rfl) ?_
              rw [mU_id (show R 6 = some (.inr (3, [.ref (ad 7), .ref (ad 8)])) from h0)] at hO
              rw [mU_id (show (mU (mU R 7 (frO (p_dipF φ9 (ν9 1)))) 8 (vO (p_burnV (p_dipV φ9 ν9)))) r = some (frO ψ) from ((mU_ne (Ne.symm h8r)).trans ((mU_ne (Ne.symm h7r)).trans h3)))] at hO
              rw [mU_id (show (mU (mU R 7 (frO (p_dipF φ9 (ν9 1)))) 8 (vO (p_burnV (p_dipV φ9 ν9)))) v = some (vO κ) from ((mU_ne (Ne.symm h8v)).trans ((mU_ne (Ne.symm h7v)).trans h4)))] at hO
              refine m_iret hF hr hlk hQ rfl hO hS dX3_dipsNeeded_53 ?_
              have h9 := (nI_nL (a := 60) (b := i) (by decide) (by omega) c27)
              rw [show 61 - i = (61 - (i + 1)) + 1 from by omega, p_needL, if_pos b31, if_pos (Int32.not_lt.mp c48)] at hv
              exact ⟨hv, _, _, rfl⟩
          · rw [hR] at hO
            refine lv_if_ne (tgt := 39) hx hb dX3_dipsNeeded_34 (by decide) (fun c34 => absurd (by decide) c34) (fun c34 => ?_)
            refine lv_iconst (v := -1) hx hb dX3_dipsNeeded_37 (by decide) ?_
            rw [mU_id (show R 6 = some (.inr (3, [.ref (ad 7), .ref (ad 8)])) from h0)] at hO
            rw [mU_id (show (mU (mU R 7 (frO φ9)) 8 (vO ν9)) r = some (frO ψ) from ((mU_ne (Ne.symm h8r)).trans ((mU_ne (Ne.symm h7r)).trans h3)))] at hO
            rw [mU_id (show (mU (mU R 7 (frO φ9)) 8 (vO ν9)) v = some (vO κ) from ((mU_ne (Ne.symm h8v)).trans ((mU_ne (Ne.symm h7v)).trans h4)))] at hO
            refine m_iret hF hr hlk hQ rfl hO hS dX3_dipsNeeded_38 ?_
            have h9 := (nI_nL (a := 60) (b := i) (by decide) (by omega) c27)
            rw [show 61 - i = (61 - (i + 1)) + 1 from by omega, p_needL, if_neg b31] at hv
            exact ⟨hv, _, _, rfl⟩
    exact L23 _ 1 ψ κ _ _ _ (Nat.lt_succ_self _) (by omega) (by omega) (by rw [p_need, if_neg (Int32.not_le.mpr c15)]) (lv_sub hl [1, 4, 5, 0] rfl) hO hS
  · refine lv_iconst (v := 0) hx hb dX3_dipsNeeded_18 (by decide) ?_
    rw [mU_id (show R 6 = some (.inr (3, [.ref (ad 7), .ref (ad 8)])) from h0)] at hO
    rw [mU_id (show (mU (mU R 7 (frO ψ)) 8 (vO κ)) r = some (frO ψ) from ((mU_ne (Ne.symm h8r)).trans ((mU_ne (Ne.symm h7r)).trans h3)))] at hO
    rw [mU_id (show (mU (mU R 7 (frO ψ)) 8 (vO κ)) v = some (vO κ) from ((mU_ne (Ne.symm h8v)).trans ((mU_ne (Ne.symm h7v)).trans h4)))] at hO
    refine m_iret hF hr hlk hQ rfl hO hS dX3_dipsNeeded_19 ?_
    exact ⟨by rw [p_need, if_pos (Int32.not_lt.mp c15)], _, _, rfl⟩
theorem ok_X3_quickestRest : mOK RX3 yX3_quickestRest cX3_quickestRest 9 (some .int) 3 := ⟨q_652, q_653, q_4, q_654, by decide +kernel⟩
set_option maxHeartbeats 400000 in
set_option maxRecDepth 100000 in
theorem k_X3_quickestRest (l : Launch) (G : mG) (lo : Nat) (sa ad : Nat → Nat) (R : mM) (r v : Nat) (φ ν ψ κ : Nat → Int32) (z : Int32) (h0 : R 6 = some (.inr (3, [.ref (ad 7), .ref (ad 8)]))) (h1 : R 7 = some (frO φ)) (h2 : R 8 = some (vO ν)) (h3 : R r = some (frO ψ)) (h4 : R v = some (vO κ)) (hrv : r ≠ v) (h6r : 6 ≠ r) (h7r : 7 ≠ r) (h8r : 8 ≠ r) (h6v : 6 ≠ v) (h7v : 7 ≠ v) (h8v : 8 ≠ v) (hb4 : ψ 4 = 0 ∨ ψ 4 = 1) : mI l yX3_quickestRest cX3_quickestRest 9 .int 6 131 G lo sa ad R [.ref (ad 6), .ref (ad r), .ref (ad v), .int z] (fun v R' => v = (p_quickL 21 0 (-1) 0 z ψ κ) ∧ ∃ (φ' : Nat → Int32), ∃ (ν' : Nat → Int32), R' = (mU (mU R 7 (frO φ')) 8 (vO ν'))) := by
  refine mI_of (by decide) (Nat.le_of_ble_eq_true rfl) ?_
  intro p e s m args below meth c hF hr hlk hC ls hl hO hS Q hQ
  have hx := hF.1
  have hb := hF.2.1
  have hl : lv_has ls 9 [(0, .ref (ad 6)), (1, .ref (ad r)), (2, .ref (ad v)), (3, .int z)] := hl
  have hO : mO G lo ad (mU (mU (mU (mU (mU R 6 (.inr (3, [.ref (ad 7), .ref (ad 8)]))) 7 (frO φ)) 8 (vO ν)) r (frO ψ)) v (vO κ)) s.heap := by
    rw [mU_id h0, mU_id h1, mU_id h2, mU_id h3, mU_id h4]
    exact hO
  refine lv_iconst (v := -1) hx hb dX3_quickestRest_0 (by decide) ?_
  refine lv_istore (lv' := [(4, .int (-1)), (0, .ref (ad 6)), (1, .ref (ad r)), (2, .ref (ad v)), (3, .int z)]) hx hb dX3_quickestRest_1 hl (by decide) rfl (fun ls hl => ?_)
  refine lv_iconst (v := 0) hx hb dX3_quickestRest_3 (by decide) ?_
  refine lv_istore (lv' := [(5, .int 0), (4, .int (-1)), (0, .ref (ad 6)), (1, .ref (ad r)), (2, .ref (ad v)), (3, .int z)]) hx hb dX3_quickestRest_4 hl (by decide) rfl (fun ls hl => ?_)
  refine lv_iconst (v := 0) hx hb dX3_quickestRest_6 (by decide) ?_
  refine lv_istore (lv' := [(6, .int 0), (5, .int 0), (4, .int (-1)), (0, .ref (ad 6)), (1, .ref (ad r)), (2, .ref (ad v)), (3, .int z)]) hx hb dX3_quickestRest_7 hl (by decide) rfl (fun ls hl => ?_)
  have L9 : ∀ (n : Nat) (i : Nat) (best : Int32) (few : Int32) (φ9 : Nat → Int32) (ν9 : Nat → Int32) (H : Heap) (locs : List Loc) (ls : Array Slot), 21 - i < n → i ≤ 21 → p_quickL (21 - i) i best few z ψ κ = p_quickL 21 0 (-1) 0 z ψ κ → lv_has ls 9 [(0, .ref (ad 6)), (1, .ref (ad r)), (2, .ref (ad v)), (3, .int z), (6, .int (nI i)), (4, .int best), (5, .int few)] → mO G lo ad (mU (mU (mU (mU (mU R 6 (.inr (3, [.ref (ad 7), .ref (ad 8)]))) 7 (frO φ9)) 8 (vO ν9)) r (frO ψ)) v (vO κ)) H → va_S (mA lo) s.heap H locs → W p l e (mRm 6 131) s m args below meth c H locs 0 0 Q (F0 m 9 ls []) := by
    intro n
    induction n with
    | zero => intro i best few φ9 ν9 H locs ls hn; exact absurd hn (Nat.not_lt_zero _)
    | succ n ih9 =>
      intro i best few φ9 ν9 H locs ls hn9 hi hv hl hO hS
      refine lv_iload hx hb dX3_quickestRest_9 (lv_at hl 4 rfl) ?_
      refine lv_bipush (v := 20) hx hb dX3_quickestRest_11 (by decide) ?_
      refine lv_icmp_gt (tgt := 77) hx hb dX3_quickestRest_13 (by decide) (fun c13 => ?_) (fun c13 => ?_)
      · refine lv_iload hx hb dX3_quickestRest_77 (lv_at hl 5 rfl) ?_
        rw [mU_id (show R 6 = some (.inr (3, [.ref (ad 7), .ref (ad 8)])) from h0)] at hO
        rw [mU_id (show (mU (mU R 7 (frO φ9)) 8 (vO ν9)) r = some (frO ψ) from ((mU_ne (Ne.symm h8r)).trans ((mU_ne (Ne.symm h7r)).trans h3)))] at hO
        rw [mU_id (show (mU (mU R 7 (frO φ9)) 8 (vO ν9)) v = some (vO κ) from ((mU_ne (Ne.symm h8v)).trans ((mU_ne (Ne.symm h7v)).trans h4)))] at hO
        refine m_iret hF hr hlk hQ rfl hO hS dX3_quickestRest_79 ?_
        have e : i = 21 := Nat.le_antisymm hi (nI_L (a := 20) (b := i) (by decide) (by omega) c13)
        subst e
        exact ⟨hv, _, _, rfl⟩
      · refine lv_aload_n hx hb dX3_quickestRest_16 rfl (lv_at hl 0 rfl) ?_
        refine lv_aload_n hx hb dX3_quickestRest_17 rfl (lv_at hl 1 rfl) ?_
        refine lv_aload_n hx hb dX3_quickestRest_18 rfl (lv_at hl 2 rfl) ?_
        refine lv_iload hx hb dX3_quickestRest_19 (lv_at hl 4 rfl) ?_
        refine lv_iload_n hx hb dX3_quickestRest_21 rfl (lv_at hl 3 rfl) ?_
        refine m_vI (As := [.ref (ad r), .ref (ad v), .int (nI i), .int z]) (rest := []) (n := 4) hF hC hO hS (k_X3_dipsNeeded l G lo sa ad _ r v φ9 ν9 ψ κ i z ((mU_ne h6v).trans ((mU_ne h6r).trans ((mU_ne (by decide : (6 : Nat) ≠ 8)).trans ((mU_ne (by decide : (6 : Nat) ≠ 7)).trans (mU_self))))) ((mU_ne h7v).trans ((mU_ne h7r).trans ((mU_ne (by decide : (7 : Nat) ≠ 8)).trans (mU_self)))) ((mU_ne h8v).trans ((mU_ne h8r).trans (mU_self))) ((mU_ne hrv).trans (mU_self)) (mU_self) hrv h6r h7r h8r h6v h7v h8v hb4 (by omega)) ok_X3_dipsNeeded q_655 ((mU_ne h6v).trans ((mU_ne h6r).trans ((mU_ne (by decide : (6 : Nat) ≠ 8)).trans ((mU_ne (by decide : (6 : Nat) ≠ 7)).trans (mU_self))))) rfl ⟨Nat.le_of_ble_eq_true rfl, Nat.le_of_ble_eq_true rfl⟩ rfl hl.1 rfl (Nat.le_of_ble_eq_true rfl) ⟨Nat.le_of_ble_eq_true rfl, Nat.le_of_ble_eq_true rfl⟩ dX3_quickestRest_22 (fun v22 R' H locs hp hO hS => ?_)
        obtain ⟨rfl, φ_22, ν_22, hR⟩ := hp
        rw [hR] at hO
        have hO : mO G lo ad (mU (mU (mU (mU (mU (mU (mU R 6 (.inr (3, [.ref (ad 7), .ref (ad 8)]))) 7 (frO φ9)) 8 (vO ν9)) r (frO ψ)) v (vO κ)) 7 (frO φ_22)) 8 (vO ν_22)) H := hO
        rw [mU_sw h7v, mU_sw h7r, mU_sw (by decide : (7 : Nat) ≠ 8), mU_mU] at hO
        rw [mU_sw h8v, mU_sw h8r, mU_mU] at hO
        refine lv_istore (lv' := [(7, .int (p_need i z ψ κ)), (0, .ref (ad 6)), (1, .ref (ad r)), (2, .ref (ad v)), (3, .int z), (6, .int (nI i)), (4, .int best), (5, .int few)]) hx hb dX3_quickestRest_25 hl (by decide) rfl (fun ls hl => ?_)
        refine lv_iload hx hb dX3_quickestRest_27 (lv_at hl 0 rfl) ?_
        refine lv_if_ne (tgt := 34) hx hb dX3_quickestRest_29 (by decide) (fun c29 => ?_) (fun c29 => ?_)
        · refine lv_iload hx hb dX3_quickestRest_34 (lv_at hl 0 rfl) ?_
          refine lv_iload hx hb dX3_quickestRest_36 (lv_at hl 0 rfl) ?_
          refine lv_iconst (v := 1) hx hb dX3_quickestRest_38 (by decide) ?_
          refine lv_isub hx hb dX3_quickestRest_39 ?_
          refine lv_iload hx hb dX3_quickestRest_40 (lv_at hl 5 rfl) ?_
          refine lv_imul hx hb dX3_quickestRest_42 ?_
          refine lv_iadd hx hb dX3_quickestRest_43 ?_
          refine lv_istore (lv' := [(8, .int ((p_need i z ψ κ) + (((p_need i z ψ κ) - 1) * (nI i)))), (7, .int (p_need i z ψ κ)), (0, .ref (ad 6)), (1, .ref (ad r)), (2, .ref (ad v)), (3, .int z), (6, .int (nI i)), (4, .int best), (5, .int few)]) hx hb dX3_quickestRest_44 hl (by decide) rfl (fun ls hl => ?_)
          refine lv_iload hx hb dX3_quickestRest_46 (lv_at hl 1 rfl) ?_
          refine lv_if_le (tgt := 71) hx hb dX3_quickestRest_48 (by decide) (fun c48 => ?_) (fun c48 => ?_)
          · refine lv_iinc (v := (nI (i + 1))) (lv' := [(6, .int (nI (i + 1))), (8, .int ((p_need i z ψ κ) + (((p_need i z ψ κ) - 1) * (nI i)))), (7, .int (p_need i z ψ κ)), (0, .ref (ad 6)), (1, .ref (ad r)), (2, .ref (ad v)), (3, .int z), (4, .int best), (5, .int few)]) hx hb dX3_quickestRest_71 hl (k := 6) rfl (nI_inc i) (by decide) rfl (fun ls hl => ?_)
            refine lv_goto (tgt := 9) hx hb dX3_quickestRest_74 (by decide) ?_
            exact ih9 (i + 1) best few φ_22 ν_22 _ _ _ (by have := (nI_nL (a := 20) (b := i) (by decide) (by omega) c13); omega) (by have := (nI_nL (a := 20) (b := i) (by decide) (by omega) c13); omega) (by have := (nI_nL (a := 20) (b := i) (by decide) (by omega) c13); rw [← hv, show 21 - i = (21 - (i + 1)) + 1 from by omega, p_quickL, if_neg c29, if_neg (fun h => by first | exact absurd h.1 (Int32.not_lt.mpr c48) | exact h.2.elim (fun q => c53 q) (fun q => absurd q (Int32.not_lt.mpr c60)))]) (lv_sub hl [3, 4, 5, 6, 0, 7, 8] rfl) hO hS
          · refine lv_iload hx hb dX3_quickestRest_51 (lv_at hl 7 rfl) ?_
            refine lv_if_lt (tgt := 63) hx hb dX3_quickestRest_53 (by decide) (fun c53 => ?_) (fun c53 => ?_)
            · refine lv_iload hx hb dX3_quickestRest_63 (lv_at hl 6 rfl) ?_
              refine lv_istore (lv' := [(4, .int (nI i)), (8, .int ((p_need i z ψ κ) + (((p_need i z ψ κ) - 1) * (nI i)))), (7, .int (p_need i z ψ κ)), (0, .ref (ad 6)), (1, .ref (ad r)), (2, .ref (ad v)), (3, .int z), (6, .int (nI i)), (5, .int few)]) hx hb dX3_quickestRest_65 hl (by decide) rfl (fun ls hl => ?_)
              refine lv_iload hx hb dX3_quickestRest_67 (lv_at hl 1 rfl) ?_
              refine lv_istore (lv' := [(5, .int ((p_need i z ψ κ) + (((p_need i z ψ κ) - 1) * (nI i)))), (4, .int (nI i)), (8, .int ((p_need i z ψ κ) + (((p_need i z ψ κ) - 1) * (nI i)))), (7, .int (p_need i z ψ κ)), (0, .ref (ad 6)), (1, .ref (ad r)), (2, .ref (ad v)), (3, .int z), (6, .int (nI i))]) hx hb dX3_quickestRest_69 hl (by decide) rfl (fun ls hl => ?_)
              refine lv_iinc (v := (nI (i + 1))) (lv' := [(6, .int (nI (i + 1))), (5, .int ((p_need i z ψ κ) + (((p_need i z ψ κ) - 1) * (nI i)))), (4, .int (nI i)), (8, .int ((p_need i z ψ κ) + (((p_need i z ψ κ) - 1) * (nI i)))), (7, .int (p_need i z ψ κ)), (0, .ref (ad 6)), (1, .ref (ad r)), (2, .ref (ad v)), (3, .int z)]) hx hb dX3_quickestRest_71 hl (k := 8) rfl (nI_inc i) (by decide) rfl (fun ls hl => ?_)
              refine lv_goto (tgt := 9) hx hb dX3_quickestRest_74 (by decide) ?_
              exact ih9 (i + 1) (nI i) ((p_need i z ψ κ) + (((p_need i z ψ κ) - 1) * (nI i))) φ_22 ν_22 _ _ _ (by have := (nI_nL (a := 20) (b := i) (by decide) (by omega) c13); omega) (by have := (nI_nL (a := 20) (b := i) (by decide) (by omega) c13); omega) (by have := (nI_nL (a := 20) (b := i) (by decide) (by omega) c13); rw [← hv, show 21 - i = (21 - (i + 1)) + 1 from by omega, p_quickL, if_neg c29, if_pos (⟨Int32.not_le.mp c48, by first | exact Or.inl c53 | exact Or.inr (Int32.not_le.mp c60)⟩)]) (lv_sub hl [5, 6, 7, 8, 0, 2, 1] rfl) hO hS
            · refine lv_iload hx hb dX3_quickestRest_56 (lv_at hl 0 rfl) ?_
              refine lv_iload hx hb dX3_quickestRest_58 (lv_at hl 8 rfl) ?_
              refine lv_icmp_ge (tgt := 71) hx hb dX3_quickestRest_60 (by decide) (fun c60 => ?_) (fun c60 => ?_)
              · refine lv_iinc (v := (nI (i + 1))) (lv' := [(6, .int (nI (i + 1))), (8, .int ((p_need i z ψ κ) + (((p_need i z ψ κ) - 1) * (nI i)))), (7, .int (p_need i z ψ κ)), (0, .ref (ad 6)), (1, .ref (ad r)), (2, .ref (ad v)), (3, .int z), (4, .int best), (5, .int few)]) hx hb dX3_quickestRest_71 hl (k := 6) rfl (nI_inc i) (by decide) rfl (fun ls hl => ?_)
                refine lv_goto (tgt := 9) hx hb dX3_quickestRest_74 (by decide) ?_
                exact ih9 (i + 1) best few φ_22 ν_22 _ _ _ (by have := (nI_nL (a := 20) (b := i) (by decide) (by omega) c13); omega) (by have := (nI_nL (a := 20) (b := i) (by decide) (by omega) c13); omega) (by have := (nI_nL (a := 20) (b := i) (by decide) (by omega) c13); rw [← hv, show 21 - i = (21 - (i + 1)) + 1 from by omega, p_quickL, if_neg c29, if_neg (fun h => by first | exact absurd h.1 (Int32.not_lt.mpr c48) | exact h.2.elim (fun q => c53 q) (fun q => absurd q (Int32.not_lt.mpr c60)))]) (lv_sub hl [3, 4, 5, 6, 0, 7, 8] rfl) hO hS
              · refine lv_iload hx hb dX3_quickestRest_63 (lv_at hl 6 rfl) ?_
                refine lv_istore (lv' := [(4, .int (nI i)), (8, .int ((p_need i z ψ κ) + (((p_need i z ψ κ) - 1) * (nI i)))), (7, .int (p_need i z ψ κ)), (0, .ref (ad 6)), (1, .ref (ad r)), (2, .ref (ad v)), (3, .int z), (6, .int (nI i)), (5, .int few)]) hx hb dX3_quickestRest_65 hl (by decide) rfl (fun ls hl => ?_)
                refine lv_iload hx hb dX3_quickestRest_67 (lv_at hl 1 rfl) ?_
                refine lv_istore (lv' := [(5, .int ((p_need i z ψ κ) + (((p_need i z ψ κ) - 1) * (nI i)))), (4, .int (nI i)), (8, .int ((p_need i z ψ κ) + (((p_need i z ψ κ) - 1) * (nI i)))), (7, .int (p_need i z ψ κ)), (0, .ref (ad 6)), (1, .ref (ad r)), (2, .ref (ad v)), (3, .int z), (6, .int (nI i))]) hx hb dX3_quickestRest_69 hl (by decide) rfl (fun ls hl => ?_)
                refine lv_iinc (v := (nI (i + 1))) (lv' := [(6, .int (nI (i + 1))), (5, .int ((p_need i z ψ κ) + (((p_need i z ψ κ) - 1) * (nI i)))), (4, .int (nI i)), (8, .int ((p_need i z ψ κ) + (((p_need i z ψ κ) - 1) * (nI i)))), (7, .int (p_need i z ψ κ)), (0, .ref (ad 6)), (1, .ref (ad r)), (2, .ref (ad v)), (3, .int z)]) hx hb dX3_quickestRest_71 hl (k := 8) rfl (nI_inc i) (by decide) rfl (fun ls hl => ?_)
                refine lv_goto (tgt := 9) hx hb dX3_quickestRest_74 (by decide) ?_
                exact ih9 (i + 1) (nI i) ((p_need i z ψ κ) + (((p_need i z ψ κ) - 1) * (nI i))) φ_22 ν_22 _ _ _ (by have := (nI_nL (a := 20) (b := i) (by decide) (by omega) c13); omega) (by have := (nI_nL (a := 20) (b := i) (by decide) (by omega) c13); omega) (by have := (nI_nL (a := 20) (b := i) (by decide) (by omega) c13); rw [← hv, show 21 - i = (21 - (i + 1)) + 1 from by omega, p_quickL, if_neg c29, if_pos (⟨Int32.not_le.mp c48, by first | exact Or.inl c53 | exact Or.inr (Int32.not_le.mp c60)⟩)]) (lv_sub hl [5, 6, 7, 8, 0, 2, 1] rfl) hO hS
        · refine lv_iconst (v := 0) hx hb dX3_quickestRest_32 (by decide) ?_
          rw [mU_id (show R 6 = some (.inr (3, [.ref (ad 7), .ref (ad 8)])) from h0)] at hO
          rw [mU_id (show (mU (mU R 7 (frO φ_22)) 8 (vO ν_22)) r = some (frO ψ) from ((mU_ne (Ne.symm h8r)).trans ((mU_ne (Ne.symm h7r)).trans h3)))] at hO
          rw [mU_id (show (mU (mU R 7 (frO φ_22)) 8 (vO ν_22)) v = some (vO κ) from ((mU_ne (Ne.symm h8v)).trans ((mU_ne (Ne.symm h7v)).trans h4)))] at hO
          refine m_iret hF hr hlk hQ rfl hO hS dX3_quickestRest_33 ?_
          have h9 := (nI_nL (a := 20) (b := i) (by decide) (by omega) c13)
          rw [show 21 - i = (21 - (i + 1)) + 1 from by omega, p_quickL, if_pos c29] at hv
          exact ⟨hv, _, _, rfl⟩
  exact L9 _ 0 (-1) 0 φ ν _ _ _ (Nat.lt_succ_self _) (by omega) rfl (lv_sub hl [3, 4, 5, 6, 0, 2, 1] rfl) hO hS
end
section
/-! ===== the two worlds: the class's (roles 0 .. 9, frames 100 .., orders 120 ..) and the reference's (50 .. 55) ===== -/
abbrev xO (ad : Nat → Nat) (g : Nat → Int32) : va_E := .inr (5, [.ref (ad 1), .ref (ad 2), .ref (ad 3), .ref (ad 5), .ref (ad 6), .ref (ad 9), .int (g 3), .int (g 4), .int (g 5)])
abbrev adF (ad : Nat → Nat) (b n : Nat) : Nat → Option Nat := fun i => if i < n then some (ad (b + i)) else none
abbrev fsA (G : mG) (ad : Nat → Nat) (nf : Nat) : va_E := .inl (G.2 3, 12, .inr (.inr (.inr (.inr (adF ad 100 nf)))))
abbrev osA (G : mG) (ad : Nat → Nat) (no : Nat) : va_E := .inl (G.2 4, 20, .inr (.inr (.inr (.inr (adF ad 120 no)))))
def cX (G : mG) (ad : Nat → Nat) (g : Nat → Int32) (nf : Nat) (f : Nat → Int32) (no : Nat) (tf tv fw : Nat → Int32) (r : Nat) : va_E :=
  match r with
  | 0 => xO ad g
  | 1 => vO g
  | 2 => fsA G ad nf
  | 3 => .inr (2, [.ref (ad 4)])
  | 4 => .inl (G.2 0, 36, .inl f)
  | 5 => osA G ad no
  | 6 => .inr (3, [.ref (ad 7), .ref (ad 8)])
  | 7 => frO tf
  | 8 => vO tv
  | _ => .inl (G.2 0, 21, .inl fw)
def WC (G : mG) (ad : Nat → Nat) (g : Nat → Int32) (nf : Nat) (F : Nat → Nat → Int32) (f : Nat → Int32) (no : Nat) (O : Nat → Nat → Int32) (tf tv fw : Nat → Int32) (R : mM) : mM := fun r =>
  if r < 10 then some (cX G ad g nf f no tf tv fw r) else if 100 ≤ r ∧ r < 112 then (if r < 100 + nf then some (frO (F (r - 100))) else none)
  else if 120 ≤ r ∧ r < 140 then (if r < 120 + no then some (orO (O (r - 120))) else none) else R r
section WCs
variable {G : mG} {ad : Nat → Nat} {g g' : Nat → Int32} {nf no : Nat} {F O : Nat → Nat → Int32} {f tf tv fw x : Nat → Int32} {R : mM} {i : Nat}
theorem WC_F (hi : i < nf) (hn : nf ≤ 12) : WC G ad g nf F f no O tf tv fw R (100 + i) = some (frO (F i)) := by
  unfold WC
  rw [if_neg (by omega), if_pos (by omega), if_pos (by omega), Nat.add_sub_cancel_left]
theorem WC_O (hi : i < no) (hn : no ≤ 20) : WC G ad g nf F f no O tf tv fw R (120 + i) = some (orO (O i)) := by
  unfold WC
  rw [if_neg (by omega), if_neg (by omega), if_pos (by omega), if_pos (by omega), Nat.add_sub_cancel_left]
theorem WC_c {k : Nat} {e : va_E} {c : Nat → va_E} (hk : k < 10) (h : ∀ r, r < 10 → r ≠ k → c r = cX G ad g nf f no tf tv fw r) (he : c k = e) :
    mU (WC G ad g nf F f no O tf tv fw R) k e = fun r => if r < 10 then some (c r) else WC G ad g nf F f no O tf tv fw R r := by
  funext r
  by_cases hr : r = k
  · subst hr; rw [mU_self, if_pos hk, he]
  · rw [mU_ne hr]
    by_cases h10 : r < 10
    · rw [if_pos h10, h r h10 hr]
      simp [WC, h10]
    · rw [if_neg h10]
theorem WC_if {g1 : Nat → Int32} {f1 tf1 tv1 fw1 : Nat → Int32} : (fun r => if r < 10 then some (cX G ad g1 nf f1 no tf1 tv1 fw1 r) else WC G ad g nf F f no O tf tv fw R r) = WC G ad g1 nf F f1 no O tf1 tv1 fw1 R := by
  funext r
  by_cases h10 : r < 10
  · simp [WC, h10]
  · simp [WC, h10]
theorem co_10 {P : Nat → Prop} (h0 : P 0) (h1 : P 1) (h2 : P 2) (h3 : P 3) (h4 : P 4) (h5 : P 5) (h6 : P 6) (h7 : P 7) (h8 : P 8) (h9 : P 9) : ∀ r, r < 10 → P r := by
  intro r hr
  match r, hr with
  | 0, _ => exact h0
  | 1, _ => exact h1
  | 2, _ => exact h2
  | 3, _ => exact h3
  | 4, _ => exact h4
  | 5, _ => exact h5
  | 6, _ => exact h6
  | 7, _ => exact h7
  | 8, _ => exact h8
  | 9, _ => exact h9
  | n + 10, h => omega
theorem WC_w0 (h0 : g' 0 = g 0) (h1 : g' 1 = g 1) (h2 : g' 2 = g 2) : mU (WC G ad g nf F f no O tf tv fw R) 0 (xO ad g') = WC G ad g' nf F f no O tf tv fw R := by
  rw [← WC_if (g := g) (g1 := g') (f := f) (tf := tf) (tv := tv) (fw := fw)]
  exact WC_c (by decide) (co_10 (fun h => absurd rfl h) (fun _ => vO_congr (fun i hi => by rcases (show i = 0 ∨ i = 1 ∨ i = 2 by omega) with rfl | rfl | rfl <;> assumption)) (fun _ => rfl) (fun _ => rfl) (fun _ => rfl) (fun _ => rfl) (fun _ => rfl) (fun _ => rfl) (fun _ => rfl) (fun _ => rfl)) rfl
theorem WC_w1 (h3 : g' 3 = g 3) (h4 : g' 4 = g 4) (h5 : g' 5 = g 5) : mU (WC G ad g nf F f no O tf tv fw R) 1 (vO g') = WC G ad g' nf F f no O tf tv fw R := by
  rw [← WC_if (g := g) (g1 := g') (f := f) (tf := tf) (tv := tv) (fw := fw)]
  exact WC_c (by decide) (co_10 (fun _ => by show xO ad g' = xO ad g; simp only [xO]; rw [h3, h4, h5]) (fun h => absurd rfl h) (fun _ => rfl) (fun _ => rfl) (fun _ => rfl) (fun _ => rfl) (fun _ => rfl) (fun _ => rfl) (fun _ => rfl) (fun _ => rfl)) rfl
theorem WC_w4 : mU (WC G ad g nf F f no O tf tv fw R) 4 (.inl (G.2 0, 36, .inl x)) = WC G ad g nf F x no O tf tv fw R := by
  rw [← WC_if (g := g) (f := f) (f1 := x) (tf := tf) (tv := tv) (fw := fw)]
  exact WC_c (by decide) (co_10 (fun _ => rfl) (fun _ => rfl) (fun _ => rfl) (fun _ => rfl) (fun h => absurd rfl h) (fun _ => rfl) (fun _ => rfl) (fun _ => rfl) (fun _ => rfl) (fun _ => rfl)) rfl
theorem WC_w7 : mU (WC G ad g nf F f no O tf tv fw R) 7 (frO x) = WC G ad g nf F f no O x tv fw R := by
  rw [← WC_if (g := g) (f := f) (tf := tf) (tf1 := x) (tv := tv) (fw := fw)]
  exact WC_c (by decide) (co_10 (fun _ => rfl) (fun _ => rfl) (fun _ => rfl) (fun _ => rfl) (fun _ => rfl) (fun _ => rfl) (fun _ => rfl) (fun h => absurd rfl h) (fun _ => rfl) (fun _ => rfl)) rfl
theorem WC_w8 : mU (WC G ad g nf F f no O tf tv fw R) 8 (vO x) = WC G ad g nf F f no O tf x fw R := by
  rw [← WC_if (g := g) (f := f) (tf := tf) (tv := tv) (tv1 := x) (fw := fw)]
  exact WC_c (by decide) (co_10 (fun _ => rfl) (fun _ => rfl) (fun _ => rfl) (fun _ => rfl) (fun _ => rfl) (fun _ => rfl) (fun _ => rfl) (fun _ => rfl) (fun h => absurd rfl h) (fun _ => rfl)) rfl
theorem WC_w9 : mU (WC G ad g nf F f no O tf tv fw R) 9 (.inl (G.2 0, 21, .inl x)) = WC G ad g nf F f no O tf tv x R := by
  rw [← WC_if (g := g) (f := f) (tf := tf) (tv := tv) (fw := fw) (fw1 := x)]
  exact WC_c (by decide) (co_10 (fun _ => rfl) (fun _ => rfl) (fun _ => rfl) (fun _ => rfl) (fun _ => rfl) (fun _ => rfl) (fun _ => rfl) (fun _ => rfl) (fun _ => rfl) (fun h => absurd rfl h)) rfl
theorem WC_wF (hi : i < nf) (hn : nf ≤ 12) : mU (WC G ad g nf F f no O tf tv fw R) (100 + i) (frO x) = WC G ad g nf (va_up F i x) f no O tf tv fw R := by
  funext r
  by_cases hr : r = 100 + i
  · subst hr
    rw [mU_self, WC_F hi hn]
    simp [va_up]
  · rw [mU_ne hr]
    unfold WC
    by_cases h1 : r < 10
    · simp [h1]
    · by_cases h2 : 100 ≤ r ∧ r < 112
      · have h3 : ¬ r - 100 = i := by omega
        simp [h1, h2, va_up, h3]
      · simp [h1, h2]
theorem WC_wO (hi : i < no) (hn : no ≤ 20) : mU (WC G ad g nf F f no O tf tv fw R) (120 + i) (orO x) = WC G ad g nf F f no (va_up O i x) tf tv fw R := by
  funext r
  by_cases hr : r = 120 + i
  · subst hr
    rw [mU_self, WC_O hi hn]
    simp [va_up]
  · rw [mU_ne hr]
    unfold WC
    by_cases h1 : r < 10
    · simp [h1]
    · by_cases h2 : 100 ≤ r ∧ r < 112
      · simp [h1, h2]
      · by_cases h4 : 120 ≤ r ∧ r < 140
        · have h3 : ¬ r - 120 = i := by omega
          simp [h1, h2, h4, va_up, h3]
        · simp [h1, h2, h4]
end WCs
/-! the reference's world -/
abbrev tabF (F : Nat → Nat → Int32) : Nat → Int32 := fun j => F (j / 7) (j % 7)
abbrev otF (O : Nat → Nat → Int32) : Nat → Int32 := fun j => O (j / 5) (j % 5)
abbrev stF (f : Nat → Int32) : Nat → Int32 := fun j => if j % 10 = 0 then 0 else f (9 * (j / 10) + j % 10 - 1)
abbrev mxO (ad : Nat → Nat) (th : Int32) (g : Nat → Int32) (nf no : Nat) : va_E := .inr (6, [.int th, .int (g 0), .int (g 1), .int (g 2), .int (nI nf), .ref (ad 51), .ref (ad 52), .int (nI no), .ref (ad 53), .int (g 3), .int (g 4), .int (g 5), .ref (ad 54), .ref (ad 55)])
def mX (G : mG) (ad : Nat → Nat) (th : Int32) (g : Nat → Int32) (nf : Nat) (F : Nat → Nat → Int32) (f : Nat → Int32) (no : Nat) (O : Nat → Nat → Int32) (it ch : Nat → Int32) (r : Nat) : va_E :=
  match r with
  | 50 => mxO ad th g nf no
  | 51 => .inl (G.2 0, 84, .inl (tabF F))
  | 52 => .inl (G.2 0, 40, .inl (stF f))
  | 53 => .inl (G.2 0, 100, .inl (otF O))
  | 54 => .inl (G.2 0, 5, .inl it)
  | _ => .inl (G.2 2, 20, .inl ch)
def WM (G : mG) (ad : Nat → Nat) (th : Int32) (g : Nat → Int32) (nf : Nat) (F : Nat → Nat → Int32) (f : Nat → Int32) (no : Nat) (O : Nat → Nat → Int32) (it ch : Nat → Int32) (R : mM) : mM := fun r =>
  if 50 ≤ r ∧ r < 56 then some (mX G ad th g nf F f no O it ch r) else R r
section WMs
variable {G : mG} {ad : Nat → Nat} {th th' : Int32} {g g' : Nat → Int32} {nf no nf' no' : Nat} {F O F' O' : Nat → Nat → Int32} {f f' it ch x it' ch' : Nat → Int32} {R : mM} {i : Nat}
theorem co_6 {P : Nat → Prop} (h0 : P 50) (h1 : P 51) (h2 : P 52) (h3 : P 53) (h4 : P 54) (h5 : P 55) : ∀ r, 50 ≤ r ∧ r < 56 → P r := by
  intro r hr
  rcases (show r = 50 ∨ r = 51 ∨ r = 52 ∨ r = 53 ∨ r = 54 ∨ r = 55 by omega) with rfl | rfl | rfl | rfl | rfl | rfl <;> assumption
theorem WM_c {k : Nat} {e : va_E} (hk : 50 ≤ k ∧ k < 56) (h : ∀ r, 50 ≤ r ∧ r < 56 → r ≠ k → mX G ad th' g' nf' F' f' no' O' it' ch' r = mX G ad th g nf F f no O it ch r) (he : mX G ad th' g' nf' F' f' no' O' it' ch' k = e) :
    mU (WM G ad th g nf F f no O it ch R) k e = WM G ad th' g' nf' F' f' no' O' it' ch' R := by
  funext r
  by_cases hr : r = k
  · subst hr; rw [mU_self]; simp only [WM, if_pos hk, he]
  · rw [mU_ne hr]
    by_cases h10 : 50 ≤ r ∧ r < 56
    · simp only [WM, if_pos h10, h r h10 hr]
    · simp only [WM, if_neg h10]
theorem WM_w0 : mU (WM G ad th g nf F f no O it ch R) 50 (mxO ad th' g' nf' no') = WM G ad th' g' nf' F f no' O it ch R :=
  WM_c (by decide) (co_6 (fun h => absurd rfl h) (fun _ => rfl) (fun _ => rfl) (fun _ => rfl) (fun _ => rfl) (fun _ => rfl)) rfl
theorem WM_w1 (h : x = tabF F') : mU (WM G ad th g nf F f no O it ch R) 51 (.inl (G.2 0, 84, .inl x)) = WM G ad th g nf F' f no O it ch R :=
  WM_c (by decide) (co_6 (fun _ => rfl) (fun h => absurd rfl h) (fun _ => rfl) (fun _ => rfl) (fun _ => rfl) (fun _ => rfl)) (by rw [h]; rfl)
theorem WM_w2 (h : x = stF f') : mU (WM G ad th g nf F f no O it ch R) 52 (.inl (G.2 0, 40, .inl x)) = WM G ad th g nf F f' no O it ch R :=
  WM_c (by decide) (co_6 (fun _ => rfl) (fun _ => rfl) (fun h => absurd rfl h) (fun _ => rfl) (fun _ => rfl) (fun _ => rfl)) (by rw [h]; rfl)
theorem WM_w3 (h : x = otF O') : mU (WM G ad th g nf F f no O it ch R) 53 (.inl (G.2 0, 100, .inl x)) = WM G ad th g nf F f no O' it ch R :=
  WM_c (by decide) (co_6 (fun _ => rfl) (fun _ => rfl) (fun _ => rfl) (fun h => absurd rfl h) (fun _ => rfl) (fun _ => rfl)) (by rw [h]; rfl)
theorem WM_w4 : mU (WM G ad th g nf F f no O it ch R) 54 (.inl (G.2 0, 5, .inl x)) = WM G ad th g nf F f no O x ch R :=
  WM_c (by decide) (co_6 (fun _ => rfl) (fun _ => rfl) (fun _ => rfl) (fun _ => rfl) (fun h => absurd rfl h) (fun _ => rfl)) rfl
theorem WM_w5 : mU (WM G ad th g nf F f no O it ch R) 55 (.inl (G.2 2, 20, .inl x)) = WM G ad th g nf F f no O it x R :=
  WM_c (by decide) (co_6 (fun _ => rfl) (fun _ => rfl) (fun _ => rfl) (fun _ => rfl) (fun _ => rfl) (fun h => absurd rfl h)) rfl
end WMs
theorem tab_rd {F : Nat → Nat → Int32} {i k : Nat} (hk : k < 7) : tabF F (7 * i + k) = F i k := by
  show F ((7 * i + k) / 7) ((7 * i + k) % 7) = F i k
  rw [show (7 * i + k) / 7 = i by omega, show (7 * i + k) % 7 = k by omega]
theorem tab_wr {F : Nat → Nat → Int32} {i k : Nat} {v : Int32} (hk : k < 7) : upd (tabF F) (7 * i + k) v = tabF (va_up F i (upd (F i) k v)) := by
  funext j
  show (if j = 7 * i + k then v else F (j / 7) (j % 7)) = (if j / 7 = i then upd (F i) k v else F (j / 7)) (j % 7)
  by_cases h1 : j = 7 * i + k
  · rw [if_pos h1, if_pos (by omega), show j % 7 = k by omega]
    simp [upd]
  · rw [if_neg h1]
    by_cases h2 : j / 7 = i
    · rw [if_pos h2, h2]
      have : ¬ j % 7 = k := by omega
      simp [upd, this]
    · rw [if_neg h2]
theorem ot_rd {F : Nat → Nat → Int32} {i k : Nat} (hk : k < 5) : otF F (5 * i + k) = F i k := by
  show F ((5 * i + k) / 5) ((5 * i + k) % 5) = F i k
  rw [show (5 * i + k) / 5 = i by omega, show (5 * i + k) % 5 = k by omega]
theorem ot_wr {F : Nat → Nat → Int32} {i k : Nat} {v : Int32} (hk : k < 5) : upd (otF F) (5 * i + k) v = otF (va_up F i (upd (F i) k v)) := by
  funext j
  show (if j = 5 * i + k then v else F (j / 5) (j % 5)) = (if j / 5 = i then upd (F i) k v else F (j / 5)) (j % 5)
  by_cases h1 : j = 5 * i + k
  · rw [if_pos h1, if_pos (by omega), show j % 5 = k by omega]
    simp [upd]
  · rw [if_neg h1]
    by_cases h2 : j / 5 = i
    · rw [if_pos h2, h2]
      have : ¬ j % 5 = k := by omega
      simp [upd, this]
    · rw [if_neg h2]
theorem st_rd {f : Nat → Int32} {k z : Nat} (h1 : 1 ≤ z) (h9 : z ≤ 9) : stF f (10 * k + z) = f (9 * k + z - 1) := by
  show (if (10 * k + z) % 10 = 0 then (0 : Int32) else f (9 * ((10 * k + z) / 10) + (10 * k + z) % 10 - 1)) = f (9 * k + z - 1)
  rw [if_neg (by omega), show (10 * k + z) / 10 = k by omega, show (10 * k + z) % 10 = z by omega]
theorem st_wr {f : Nat → Int32} {k z : Nat} {v : Int32} (h1 : 1 ≤ z) (h9 : z ≤ 9) : upd (stF f) (10 * k + z) v = stF (upd f (9 * k + z - 1) v) := by
  funext j
  show (if j = 10 * k + z then v else if j % 10 = 0 then (0 : Int32) else f (9 * (j / 10) + j % 10 - 1)) = if j % 10 = 0 then (0 : Int32) else (if 9 * (j / 10) + j % 10 - 1 = 9 * k + z - 1 then v else f (9 * (j / 10) + j % 10 - 1))
  by_cases h : j = 10 * k + z
  · rw [if_pos h, if_neg (by omega), if_pos (by omega)]
  · rw [if_neg h]
    by_cases h0 : j % 10 = 0
    · rw [if_pos h0, if_pos h0]
    · rw [if_neg h0, if_neg h0, if_neg (by omega)]
/-! what the reference's small methods do (word for word) -/
theorem p_ixT (i k : Nat) : (7 : Int32) * nI i + nI k = nI (7 * i + k) := by
  rw [show (7 : Int32) = nI 7 from rfl, pk_mul, nI_add]
theorem p_ixO (i k : Nat) : (5 : Int32) * nI i + nI k = nI (5 * i + k) := by
  rw [show (5 : Int32) = nI 5 from rfl, pk_mul, nI_add]
theorem p_ixS (i k : Nat) : (10 : Int32) * nI i + nI k = nI (10 * i + k) := by
  rw [show (10 : Int32) = nI 10 from rfl, pk_mul, nI_add]
def m_grow (it φ : Nat → Int32) : Int32 :=
  if 70 < it 3 then -(jmin (it 2) ((it 1 - 55) / 5)) else jmin (12 - (it 1 - 60) / 8 + (if it 2 = 0 then 4 else 0) - (if φ 0 = 3 then 3 else 0)) (400 - it 2)
abbrev m_can (it φ : Nat → Int32) : Prop := 60 ≤ it 1 ∧ (70 < it 3 ∨ p_wax φ (m_grow it φ) ≤ it 0)
def m_dip (it φ : Nat → Int32) : Nat → Int32 :=
  if 70 < it 3 then (if it 2 + m_grow it φ = 0 then upd (upd (upd it 2 (it 2 + m_grow it φ)) 4 0) 3 100 else upd (upd it 2 (it 2 + m_grow it φ)) 3 100)
  else if 0 < it 2 ∧ it 3 < 10 then upd (upd (upd (upd it 4 1) 0 (it 0 - p_wax φ (m_grow it φ))) 2 (it 2 + m_grow it φ)) 3 (jmin 100 ((it 3 + it 1) / 2))
  else upd (upd (upd it 0 (it 0 - p_wax φ (m_grow it φ))) 2 (it 2 + m_grow it φ)) 3 (jmin 100 ((it 3 + it 1) / 2))
def m_take (it g φ : Nat → Int32) : Nat → Int32 := upd (upd (upd (upd (upd it 0 (g 0)) 1 (g 1)) 2 (φ 2)) 3 (φ 3)) 4 (φ 4)
def m_vat (g : Nat → Int32) (w : Int32) : Int32 := if w = 0 then g 0 else if w = 1 then g 1 else if w = 2 then g 2 else if 60 ≤ g 1 then 1 else 0
def m_atL : Nat → Nat → (Nat → Nat → Int32) → Int32 → Int32
  | 0, _, _, _ => -1
  | n + 1, i, F, h => if F i 5 = h then nI i else m_atL n (i + 1) F h
def m_at (nf : Nat) (F : Nat → Nat → Int32) (h : Int32) : Int32 := m_atL nf 0 F h
def m_size (th cr : Int32) : Int32 := jmin 9 (th / (if cr = 1 then 80 else 40))
def m_frame (φ : Nat → Int32) (k : Nat) : Int32 := if k < 7 then φ k else m_size (φ 2) (φ 4)
def m_withL : Nat → Nat → (Nat → Nat → Int32) → Int32 → Int32 → Int32
  | 0, _, _, _, acc => acc
  | n + 1, j, O, z, acc => m_withL n (j + 1) O z (acc + (if O j 4 = z then 1 else 0))
def m_with (no : Nat) (O : Nat → Nat → Int32) (z : Int32) : Int32 := m_withL no 0 O z 0
def m_hangL : Nat → Nat → (Nat → Nat → Int32) → Int32 → Int32
  | 0, _, _, acc => acc
  | n + 1, j, F, acc => m_hangL n (j + 1) F (acc + (if F j 5 ≠ -1 then 1 else 0))
def m_coolTo (n b : Nat) (F : Nat → Nat → Int32) : Nat → Nat → Int32 := fun i => if i < n ∧ i ≠ b then p_coolF (F i) else F i
def m_lateTo (n : Nat) (q : Int32) (O : Nat → Nat → Int32) : Nat → Nat → Int32 := fun j => if j < n ∧ O j 4 = 0 ∧ O j 3 < q then upd (O j) 4 2 else O j
def m_qG (g : Nat → Int32) : Nat → Int32 := upd (p_burnV g) 3 (g 3 + 1)
def m_qO (no : Nat) (g : Nat → Int32) (O : Nat → Nat → Int32) : Nat → Nat → Int32 := if (g 3 + 1) - (g 3 + 1) / 40 * 40 = 0 then m_lateTo no ((g 3 + 1) / 40) O else O
theorem m_coolTo_s {n b : Nat} {F : Nat → Nat → Int32} (h : n ≠ b) : va_up (m_coolTo n b F) n (p_coolF (m_coolTo n b F n)) = m_coolTo (n + 1) b F := by
  funext i
  by_cases hi : i = n
  · subst hi
    have e1 : m_coolTo i b F i = F i := by simp [m_coolTo]
    simp [va_up, e1]
    simp [m_coolTo, h]
  · simp only [va_up, if_neg hi, m_coolTo]
    by_cases h2 : i < n
    · simp [h2, show i < n + 1 by omega]
    · simp [h2, show ¬ i < n + 1 by omega]
theorem m_coolTo_b {n b : Nat} {F : Nat → Nat → Int32} (h : n = b) : m_coolTo n b F = m_coolTo (n + 1) b F := by
  funext i
  simp only [m_coolTo]
  by_cases h2 : i < n
  · simp [h2, show i < n + 1 by omega]
  · by_cases h3 : i = n
    · simp [h3, h]
    · simp [h2, show ¬ i < n + 1 by omega]
theorem m_coolTo_0 {b : Nat} {F : Nat → Nat → Int32} : m_coolTo 0 b F = F := by funext i; simp [m_coolTo]
theorem m_lateTo_0 {q : Int32} {O : Nat → Nat → Int32} : m_lateTo 0 q O = O := by funext i; simp [m_lateTo]
theorem m_lateTo_s {n : Nat} {q : Int32} {O : Nat → Nat → Int32} (h : O n 4 = 0 ∧ O n 3 < q) : va_up (m_lateTo n q O) n (upd (m_lateTo n q O n) 4 2) = m_lateTo (n + 1) q O := by
  funext i
  by_cases hi : i = n
  · subst hi
    simp [va_up, m_lateTo, h]
  · simp only [va_up, if_neg hi, m_lateTo]
    by_cases h2 : i < n
    · simp [h2, show i < n + 1 by omega]
    · simp [h2, show ¬ i < n + 1 by omega]
theorem m_lateTo_b {n : Nat} {q : Int32} {O : Nat → Nat → Int32} (h : ¬ (O n 4 = 0 ∧ O n 3 < q)) : m_lateTo n q O = m_lateTo (n + 1) q O := by
  funext i
  simp only [m_lateTo]
  by_cases h3 : i = n
  · subst h3
    simp [h]
  · by_cases h2 : i < n
    · simp [h2, show i < n + 1 by omega]
    · simp [h2, show ¬ i < n + 1 by omega]
theorem m_lateTo_at {n : Nat} {q : Int32} {O : Nat → Nat → Int32} : m_lateTo n q O n = O n := by simp [m_lateTo]
theorem m_coolTo_at {n b : Nat} {F : Nat → Nat → Int32} : m_coolTo n b F n = F n := by simp [m_coolTo]
end
section
theorem ok_X6_isIn : mOS yX6_isIn cX6_isIn 3 (some .boolean) 3 := ⟨q_715, q_6, q_716, by decide +kernel⟩
set_option maxHeartbeats 400000 in
set_option maxRecDepth 100000 in
theorem k_X6_isIn (l : Launch) (G : mG) (lo : Nat) (sa ad : Nat → Nat) (R : mM) (x a b : Int32) : mI l yX6_isIn cX6_isIn 3 .boolean 0 0 G lo sa ad R [.int x, .int a, .int b] (fun v R' => mBo (p_in x a b) v ∧ R' = R) := by
  refine mI_of (by decide) (Nat.le_of_ble_eq_true rfl) ?_
  intro p e s m args below meth c hF hr hlk hC ls hl hO hS Q hQ
  have hx := hF.1
  have hb := hF.2.1
  have hl : lv_has ls 3 [(0, .int x), (1, .int a), (2, .int b)] := hl
  refine lv_iload_n hx hb dX6_isIn_0 rfl (lv_at hl 0 rfl) ?_
  refine lv_iload_n hx hb dX6_isIn_1 rfl (lv_at hl 1 rfl) ?_
  refine lv_icmp_lt (tgt := 14) hx hb dX6_isIn_2 (by decide) (fun c2 => ?_) (fun c2 => ?_)
  · refine lv_iconst (v := 0) hx hb dX6_isIn_14 (by decide) ?_
    refine m_iret hF hr hlk hQ rfl hO hS dX6_isIn_15 ?_
    first | exact ⟨mBo_f (fun h => absurd h.2 (Int32.not_le.mpr c7)), rfl⟩ | exact ⟨mBo_f (fun h => absurd h.1 (Int32.not_le.mpr c2)), rfl⟩
  · refine lv_iload_n hx hb dX6_isIn_5 rfl (lv_at hl 0 rfl) ?_
    refine lv_iload_n hx hb dX6_isIn_6 rfl (lv_at hl 2 rfl) ?_
    refine lv_icmp_gt (tgt := 14) hx hb dX6_isIn_7 (by decide) (fun c7 => ?_) (fun c7 => ?_)
    · refine lv_iconst (v := 0) hx hb dX6_isIn_14 (by decide) ?_
      refine m_iret hF hr hlk hQ rfl hO hS dX6_isIn_15 ?_
      first | exact ⟨mBo_f (fun h => absurd h.2 (Int32.not_le.mpr c7)), rfl⟩ | exact ⟨mBo_f (fun h => absurd h.1 (Int32.not_le.mpr c2)), rfl⟩
    · refine lv_iconst (v := 1) hx hb dX6_isIn_10 (by decide) ?_
      refine lv_goto (tgt := 15) hx hb dX6_isIn_11 (by decide) ?_
      refine m_iret hF hr hlk hQ rfl hO hS dX6_isIn_15 ?_
      exact ⟨mBo_t ⟨Int32.not_lt.mp c2, Int32.not_lt.mp c7⟩, rfl⟩
theorem ok_X6_size : mOS yX6_size cX6_size 2 (some .int) 2 := ⟨q_815, q_6, q_816, by decide +kernel⟩
set_option maxHeartbeats 400000 in
set_option maxRecDepth 100000 in
theorem k_X6_size (l : Launch) (G : mG) (lo : Nat) (sa ad : Nat → Nat) (R : mM) (t r : Int32) : mI l yX6_size cX6_size 2 .int 1 21 G lo sa ad R [.int t, .int r] (fun v R' => v = (m_size t r) ∧ R' = R) := by
  refine mI_of (by decide) (Nat.le_of_ble_eq_true rfl) ?_
  intro p e s m args below meth c hF hr hlk hC ls hl hO hS Q hQ
  have hx := hF.1
  have hb := hF.2.1
  have hl : lv_has ls 2 [(0, .int t), (1, .int r)] := hl
  refine lv_bipush (v := 9) hx hb dX6_size_0 (by decide) ?_
  refine lv_iload_n hx hb dX6_size_2 rfl (lv_at hl 0 rfl) ?_
  refine lv_iload_n hx hb dX6_size_3 rfl (lv_at hl 1 rfl) ?_
  refine lv_iconst (v := 1) hx hb dX6_size_4 (by decide) ?_
  refine lv_icmp_ne (tgt := 13) hx hb dX6_size_5 (by decide) (fun c5 => ?_) (fun c5 => ?_)
  · refine lv_bipush (v := 40) hx hb dX6_size_13 (by decide) ?_
    refine lv_idiv hx hb dX6_size_15 (by decide) ?_
    refine m_min hF hl.1 q_784 q_168 q_14 q_169 (Nat.le_of_ble_eq_true rfl) (Nat.le_of_ble_eq_true rfl) ⟨Nat.le_of_ble_eq_true rfl, Nat.le_of_ble_eq_true rfl⟩ dX6_size_16 ?_
    refine m_iret hF hr hlk hQ rfl hO hS dX6_size_19 ?_
    exact ⟨by first | rw [m_size, if_pos c5] | rw [m_size, if_neg c5], rfl⟩
  · refine lv_bipush (v := 80) hx hb dX6_size_8 (by decide) ?_
    refine lv_goto (tgt := 15) hx hb dX6_size_10 (by decide) ?_
    refine lv_idiv hx hb dX6_size_15 (by decide) ?_
    refine m_min hF hl.1 q_784 q_168 q_14 q_169 (Nat.le_of_ble_eq_true rfl) (Nat.le_of_ble_eq_true rfl) ⟨Nat.le_of_ble_eq_true rfl, Nat.le_of_ble_eq_true rfl⟩ dX6_size_16 ?_
    refine m_iret hF hr hlk hQ rfl hO hS dX6_size_19 ?_
    exact ⟨by first | rw [m_size, if_pos c5] | rw [m_size, if_neg c5], rfl⟩
theorem ok_X6_thrown : mOK RX6 yX6_thrown cX6_thrown 1 (some .int) 0 := ⟨q_707, q_708, q_6, q_709, by decide +kernel⟩
set_option maxHeartbeats 400000 in
set_option maxRecDepth 100000 in
theorem k_X6_thrown (l : Launch) (G : mG) (lo : Nat) (sa ad : Nat → Nat) (R : mM) (th : Int32) (g : Nat → Int32) (nf : Nat) (F : Nat → Nat → Int32) (f : Nat → Int32) (no : Nat) (O : Nat → Nat → Int32) (it ch : Nat → Int32) (hnf : nf ≤ 12) (hno : no ≤ 20) : mI l yX6_thrown cX6_thrown 1 .int 0 0 G lo sa ad (WM G ad th g nf F f no O it ch R) [.ref (ad 50)] (fun v R' => v = th ∧ R' = (WM G ad th g nf F f no O it ch R)) := by
  refine mI_of (by decide) (Nat.le_of_ble_eq_true rfl) ?_
  intro p e s m args below meth c hF hr hlk hC ls hl hO hS Q hQ
  have hx := hF.1
  have hb := hF.2.1
  have hl : lv_has ls 1 [(0, .ref (ad 50))] := hl
  refine lv_aload_n hx hb dX6_thrown_0 rfl (lv_at hl 0 rfl) ?_
  refine m_get inX6 hF hC hO rfl rfl 0 (by decide) q_662 (v := .int th) rfl dX6_thrown_1 ?_
  refine m_iret hF hr hlk hQ rfl hO hS dX6_thrown_4 ?_
  exact ⟨rfl, rfl⟩
theorem ok_X6_fail : mOK RX6 yX6_fail cX6_fail 2 (some .int) 1 := ⟨q_719, qs_18, q_6, q_720, by decide +kernel⟩
set_option maxHeartbeats 400000 in
set_option maxRecDepth 100000 in
theorem k_X6_fail (l : Launch) (G : mG) (lo : Nat) (sa ad : Nat → Nat) (R : mM) (th : Int32) (g : Nat → Int32) (nf : Nat) (F : Nat → Nat → Int32) (f : Nat → Int32) (no : Nat) (O : Nat → Nat → Int32) (it ch : Nat → Int32) (x : Int32) (hnf : nf ≤ 12) (hno : no ≤ 20) : mI l yX6_fail cX6_fail 2 .int 0 0 G lo sa ad (WM G ad th g nf F f no O it ch R) [.ref (ad 50), .int x] (fun v R' => v = 0 ∧ R' = (WM G ad x g nf F f no O it ch R)) := by
  refine mI_of (by decide) (Nat.le_of_ble_eq_true rfl) ?_
  intro p e s m args below meth c hF hr hlk hC ls hl hO hS Q hQ
  have hx := hF.1
  have hb := hF.2.1
  have hl : lv_has ls 2 [(0, .ref (ad 50)), (1, .int x)] := hl
  refine lv_aload_n hx hb dX6_fail_0 rfl (lv_at hl 0 rfl) ?_
  refine lv_iload_n hx hb dX6_fail_1 rfl (lv_at hl 1 rfl) ?_
  refine m_put (ty := .int) tyX6 tyX6_ok nmX6 inX6 hF hC hO hS rfl rfl 0 (by decide) q_662 rfl (by decide +kernel) rfl rfl (fs' := [.int x, .int (g 0), .int (g 1), .int (g 2), .int (nI nf), .ref (ad 51), .ref (ad 52), .int (nI no), .ref (ad 53), .int (g 3), .int (g 4), .int (g 5), .ref (ad 54), .ref (ad 55)]) (Nat.le_of_ble_eq_true rfl) rfl dX6_fail_2 (fun H locs hO hS => ?_)
  have hO : mO G lo ad (mU (WM G ad th g nf F f no O it ch R) 50 (mxO ad x g nf no)) H := hO
  rw [WM_w0] at hO
  refine lv_iconst (v := 0) hx hb dX6_fail_5 (by decide) ?_
  refine m_iret hF hr hlk hQ rfl hO hS dX6_fail_6 ?_
  exact ⟨rfl, rfl⟩
theorem ok_X6_fr : mOK RX6 yX6_fr cX6_fr 3 (some .int) 2 := ⟨q_754, qs_22, q_6, q_755, by decide +kernel⟩
set_option maxHeartbeats 400000 in
set_option maxRecDepth 100000 in
theorem k_X6_fr (l : Launch) (G : mG) (lo : Nat) (sa ad : Nat → Nat) (R : mM) (th : Int32) (g : Nat → Int32) (nf : Nat) (F : Nat → Nat → Int32) (f : Nat → Int32) (no : Nat) (O : Nat → Nat → Int32) (it ch : Nat → Int32) (i k : Nat) (hnf : nf ≤ 12) (hno : no ≤ 20) (hi : i < 12) (hk : k < 7) : mI l yX6_fr cX6_fr 3 .int 0 0 G lo sa ad (WM G ad th g nf F f no O it ch R) [.ref (ad 50), .int (nI i), .int (nI k)] (fun v R' => v = (F i k) ∧ R' = (WM G ad th g nf F f no O it ch R)) := by
  refine mI_of (by decide) (Nat.le_of_ble_eq_true rfl) ?_
  intro p e s m args below meth c hF hr hlk hC ls hl hO hS Q hQ
  have hx := hF.1
  have hb := hF.2.1
  have hl : lv_has ls 3 [(0, .ref (ad 50)), (1, .int (nI i)), (2, .int (nI k))] := hl
  refine lv_aload_n hx hb dX6_fr_0 rfl (lv_at hl 0 rfl) ?_
  refine m_get inX6 hF hC hO rfl rfl 5 (by decide) q_667 (v := .ref (ad 51)) rfl dX6_fr_1 ?_
  refine lv_bipush (v := 7) hx hb dX6_fr_4 (by decide) ?_
  refine lv_iload_n hx hb dX6_fr_6 rfl (lv_at hl 1 rfl) ?_
  refine lv_imul hx hb dX6_fr_7 ?_
  refine lv_iload_n hx hb dX6_fr_8 rfl (lv_at hl 2 rfl) ?_
  refine lv_iadd hx hb dX6_fr_9 ?_
  refine m_iald hF hC hO rfl (j := (7 * i + k)) (by rw [p_ixT]; exact nI_clamp (by omega)) (by rw [p_ixT]; exact vp_in_nI (by omega) (by decide)) dX6_fr_10 ?_
  rw [show ((tabF F) (7 * i + k)) = (F i k) from tab_rd hk]
  refine m_iret hF hr hlk hQ rfl hO hS dX6_fr_11 ?_
  exact ⟨rfl, rfl⟩
theorem ok_X6_set : mOK RX6 yX6_set cX6_set 4 none 3 := ⟨q_758, qs_23, q_6, q_759, by decide +kernel⟩
set_option maxHeartbeats 400000 in
set_option maxRecDepth 100000 in
theorem k_X6_set (l : Launch) (G : mG) (lo : Nat) (sa ad : Nat → Nat) (R : mM) (th : Int32) (g : Nat → Int32) (nf : Nat) (F : Nat → Nat → Int32) (f : Nat → Int32) (no : Nat) (O : Nat → Nat → Int32) (it ch : Nat → Int32) (i k : Nat) (w : Int32) (hnf : nf ≤ 12) (hno : no ≤ 20) (hi : i < 12) (hk : k < 7) : mV l yX6_set cX6_set 4 0 0 G lo sa ad (WM G ad th g nf F f no O it ch R) [.ref (ad 50), .int (nI i), .int (nI k), .int w] (fun R' => R' = (WM G ad th g nf (va_up F i (upd (F i) k w)) f no O it ch R)) := by
  refine mV_of (by decide) (Nat.le_of_ble_eq_true rfl) ?_
  intro p e s m args below meth c hF hr hlk hC ls hl hO hS Q hQ
  have hx := hF.1
  have hb := hF.2.1
  have hl : lv_has ls 4 [(0, .ref (ad 50)), (1, .int (nI i)), (2, .int (nI k)), (3, .int w)] := hl
  refine lv_aload_n hx hb dX6_set_0 rfl (lv_at hl 0 rfl) ?_
  refine m_get inX6 hF hC hO rfl rfl 5 (by decide) q_667 (v := .ref (ad 51)) rfl dX6_set_1 ?_
  refine lv_bipush (v := 7) hx hb dX6_set_4 (by decide) ?_
  refine lv_iload_n hx hb dX6_set_6 rfl (lv_at hl 1 rfl) ?_
  refine lv_imul hx hb dX6_set_7 ?_
  refine lv_iload_n hx hb dX6_set_8 rfl (lv_at hl 2 rfl) ?_
  refine lv_iadd hx hb dX6_set_9 ?_
  refine lv_iload_n hx hb dX6_set_10 rfl (lv_at hl 3 rfl) ?_
  refine m_iast hF hC hO hS rfl (j := (7 * i + k)) (by rw [p_ixT]; exact nI_clamp (by omega)) (by rw [p_ixT]; exact vp_in_nI (by omega) (by decide)) dX6_set_11 (fun H locs hO hS => ?_)
  have hO : mO G lo ad (mU (WM G ad th g nf F f no O it ch R) 51 (.inl (G.2 0, 84, .inl (upd (tabF F) (7 * i + k) w)))) H := hO
  rw [WM_w1 (tab_wr hk)] at hO
  refine m_vret hF hr hlk hQ hO hS dX6_set_12 ?_
  rfl
theorem ok_X6_or : mOK RX6 yX6_or cX6_or 3 (some .int) 2 := ⟨q_808, qs_33, q_6, q_809, by decide +kernel⟩
set_option maxHeartbeats 400000 in
set_option maxRecDepth 100000 in
theorem k_X6_or (l : Launch) (G : mG) (lo : Nat) (sa ad : Nat → Nat) (R : mM) (th : Int32) (g : Nat → Int32) (nf : Nat) (F : Nat → Nat → Int32) (f : Nat → Int32) (no : Nat) (O : Nat → Nat → Int32) (it ch : Nat → Int32) (i k : Nat) (hnf : nf ≤ 12) (hno : no ≤ 20) (hi : i < 20) (hk : k < 5) : mI l yX6_or cX6_or 3 .int 0 0 G lo sa ad (WM G ad th g nf F f no O it ch R) [.ref (ad 50), .int (nI i), .int (nI k)] (fun v R' => v = (O i k) ∧ R' = (WM G ad th g nf F f no O it ch R)) := by
  refine mI_of (by decide) (Nat.le_of_ble_eq_true rfl) ?_
  intro p e s m args below meth c hF hr hlk hC ls hl hO hS Q hQ
  have hx := hF.1
  have hb := hF.2.1
  have hl : lv_has ls 3 [(0, .ref (ad 50)), (1, .int (nI i)), (2, .int (nI k))] := hl
  refine lv_aload_n hx hb dX6_or_0 rfl (lv_at hl 0 rfl) ?_
  refine m_get inX6 hF hC hO rfl rfl 8 (by decide) q_670 (v := .ref (ad 53)) rfl dX6_or_1 ?_
  refine lv_iconst (v := 5) hx hb dX6_or_4 (by decide) ?_
  refine lv_iload_n hx hb dX6_or_5 rfl (lv_at hl 1 rfl) ?_
  refine lv_imul hx hb dX6_or_6 ?_
  refine lv_iload_n hx hb dX6_or_7 rfl (lv_at hl 2 rfl) ?_
  refine lv_iadd hx hb dX6_or_8 ?_
  refine m_iald hF hC hO rfl (j := (5 * i + k)) (by rw [p_ixO]; exact nI_clamp (by omega)) (by rw [p_ixO]; exact vp_in_nI (by omega) (by decide)) dX6_or_9 ?_
  rw [show ((otF O) (5 * i + k)) = (O i k) from ot_rd hk]
  refine m_iret hF hr hlk hQ rfl hO hS dX6_or_10 ?_
  exact ⟨rfl, rfl⟩
theorem ok_X6_isFrame : mOK RX6 yX6_isFrame cX6_isFrame 2 (some .boolean) 1 := ⟨q_746, qs_20, q_6, q_747, by decide +kernel⟩
set_option maxHeartbeats 400000 in
set_option maxRecDepth 100000 in
theorem k_X6_isFrame (l : Launch) (G : mG) (lo : Nat) (sa ad : Nat → Nat) (R : mM) (th : Int32) (g : Nat → Int32) (nf : Nat) (F : Nat → Nat → Int32) (f : Nat → Int32) (no : Nat) (O : Nat → Nat → Int32) (it ch : Nat → Int32) (x : Int32) (hnf : nf ≤ 12) (hno : no ≤ 20) : mI l yX6_isFrame cX6_isFrame 2 .boolean 1 22 G lo sa ad (WM G ad th g nf F f no O it ch R) [.ref (ad 50), .int x] (fun v R' => mBo (p_in x 0 (nI nf - 1)) v ∧ R' = (WM G ad th g nf F f no O it ch R)) := by
  refine mI_of (by decide) (Nat.le_of_ble_eq_true rfl) ?_
  intro p e s m args below meth c hF hr hlk hC ls hl hO hS Q hQ
  have hx := hF.1
  have hb := hF.2.1
  have hl : lv_has ls 2 [(0, .ref (ad 50)), (1, .int x)] := hl
  refine lv_iload_n hx hb dX6_isFrame_0 rfl (lv_at hl 1 rfl) ?_
  refine lv_iconst (v := 0) hx hb dX6_isFrame_1 (by decide) ?_
  refine lv_aload_n hx hb dX6_isFrame_2 rfl (lv_at hl 0 rfl) ?_
  refine m_get inX6 hF hC hO rfl rfl 4 (by decide) q_666 (v := .int (nI nf)) rfl dX6_isFrame_3 ?_
  refine lv_iconst (v := 1) hx hb dX6_isFrame_6 (by decide) ?_
  refine lv_isub hx hb dX6_isFrame_7 ?_
  refine m_sI (As := [.int x, .int 0, .int ((nI nf) - 1)]) (rest := []) (n := 3) hF hC hO hS (k_X6_isIn l G lo sa ad _ x 0 ((nI nf) - 1) ) ok_X6_isIn q_714 ⟨Nat.le_of_ble_eq_true rfl, Nat.le_of_ble_eq_true rfl⟩ rfl hl.1 rfl (Nat.le_of_ble_eq_true rfl) ⟨Nat.le_of_ble_eq_true rfl, Nat.le_of_ble_eq_true rfl⟩ dX6_isFrame_8 (fun v8 R' H locs hp hO hS => ?_)
  obtain ⟨⟨rfl, b8⟩ | ⟨rfl, b8⟩, hR⟩ := hp
  · rw [hR] at hO
    refine m_iret hF hr hlk hQ rfl hO hS dX6_isFrame_11 ?_
    exact ⟨mBo_t b8, rfl⟩
  · rw [hR] at hO
    refine m_iret hF hr hlk hQ rfl hO hS dX6_isFrame_11 ?_
    exact ⟨mBo_f b8, rfl⟩
theorem ok_X6_vatTold : mOK RX6 yX6_vatTold cX6_vatTold 2 (some .int) 1 := ⟨q_731, qs_19, q_6, q_732, by decide +kernel⟩
set_option maxHeartbeats 400000 in
set_option maxRecDepth 100000 in
theorem k_X6_vatTold (l : Launch) (G : mG) (lo : Nat) (sa ad : Nat → Nat) (R : mM) (th : Int32) (g : Nat → Int32) (nf : Nat) (F : Nat → Nat → Int32) (f : Nat → Int32) (no : Nat) (O : Nat → Nat → Int32) (it ch : Nat → Int32) (w : Int32) (hnf : nf ≤ 12) (hno : no ≤ 20) : mI l yX6_vatTold cX6_vatTold 2 .int 0 0 G lo sa ad (WM G ad th g nf F f no O it ch R) [.ref (ad 50), .int w] (fun v R' => v = (m_vat g w) ∧ R' = (WM G ad th g nf F f no O it ch R)) := by
  refine mI_of (by decide) (Nat.le_of_ble_eq_true rfl) ?_
  intro p e s m args below meth c hF hr hlk hC ls hl hO hS Q hQ
  have hx := hF.1
  have hb := hF.2.1
  have hl : lv_has ls 2 [(0, .ref (ad 50)), (1, .int w)] := hl
  refine lv_iload_n hx hb dX6_vatTold_0 rfl (lv_at hl 1 rfl) ?_
  refine lv_if_ne (tgt := 11) hx hb dX6_vatTold_1 (by decide) (fun c1 => ?_) (fun c1 => ?_)
  · refine lv_iload_n hx hb dX6_vatTold_11 rfl (lv_at hl 1 rfl) ?_
    refine lv_iconst (v := 1) hx hb dX6_vatTold_12 (by decide) ?_
    refine lv_icmp_ne (tgt := 23) hx hb dX6_vatTold_13 (by decide) (fun c13 => ?_) (fun c13 => ?_)
    · refine lv_iload_n hx hb dX6_vatTold_23 rfl (lv_at hl 1 rfl) ?_
      refine lv_iconst (v := 2) hx hb dX6_vatTold_24 (by decide) ?_
      refine lv_icmp_ne (tgt := 35) hx hb dX6_vatTold_25 (by decide) (fun c25 => ?_) (fun c25 => ?_)
      · refine lv_aload_n hx hb dX6_vatTold_35 rfl (lv_at hl 0 rfl) ?_
        refine m_get inX6 hF hC hO rfl rfl 2 (by decide) q_664 (v := .int (g 1)) rfl dX6_vatTold_36 ?_
        refine lv_bipush (v := 60) hx hb dX6_vatTold_39 (by decide) ?_
        refine lv_icmp_lt (tgt := 48) hx hb dX6_vatTold_41 (by decide) (fun c41 => ?_) (fun c41 => ?_)
        · refine lv_iconst (v := 0) hx hb dX6_vatTold_48 (by decide) ?_
          refine m_iret hF hr hlk hQ rfl hO hS dX6_vatTold_49 ?_
          exact ⟨by first | rw [m_vat, if_pos c1] | rw [m_vat, if_neg c1, if_pos c13] | rw [m_vat, if_neg c1, if_neg c13, if_pos c25] | rw [m_vat, if_neg c1, if_neg c13, if_neg c25, if_neg (Int32.not_le.mpr c41)] | rw [m_vat, if_neg c1, if_neg c13, if_neg c25, if_pos (Int32.not_lt.mp c41)], rfl⟩
        · refine lv_iconst (v := 1) hx hb dX6_vatTold_44 (by decide) ?_
          refine lv_goto (tgt := 49) hx hb dX6_vatTold_45 (by decide) ?_
          refine m_iret hF hr hlk hQ rfl hO hS dX6_vatTold_49 ?_
          exact ⟨by first | rw [m_vat, if_pos c1] | rw [m_vat, if_neg c1, if_pos c13] | rw [m_vat, if_neg c1, if_neg c13, if_pos c25] | rw [m_vat, if_neg c1, if_neg c13, if_neg c25, if_neg (Int32.not_le.mpr c41)] | rw [m_vat, if_neg c1, if_neg c13, if_neg c25, if_pos (Int32.not_lt.mp c41)], rfl⟩
      · refine lv_aload_n hx hb dX6_vatTold_28 rfl (lv_at hl 0 rfl) ?_
        refine m_get inX6 hF hC hO rfl rfl 3 (by decide) q_665 (v := .int (g 2)) rfl dX6_vatTold_29 ?_
        refine lv_goto (tgt := 49) hx hb dX6_vatTold_32 (by decide) ?_
        refine m_iret hF hr hlk hQ rfl hO hS dX6_vatTold_49 ?_
        exact ⟨by first | rw [m_vat, if_pos c1] | rw [m_vat, if_neg c1, if_pos c13] | rw [m_vat, if_neg c1, if_neg c13, if_pos c25] | rw [m_vat, if_neg c1, if_neg c13, if_neg c25, if_neg (Int32.not_le.mpr c41)] | rw [m_vat, if_neg c1, if_neg c13, if_neg c25, if_pos (Int32.not_lt.mp c41)], rfl⟩
    · refine lv_aload_n hx hb dX6_vatTold_16 rfl (lv_at hl 0 rfl) ?_
      refine m_get inX6 hF hC hO rfl rfl 2 (by decide) q_664 (v := .int (g 1)) rfl dX6_vatTold_17 ?_
      refine lv_goto (tgt := 49) hx hb dX6_vatTold_20 (by decide) ?_
      refine m_iret hF hr hlk hQ rfl hO hS dX6_vatTold_49 ?_
      exact ⟨by first | rw [m_vat, if_pos c1] | rw [m_vat, if_neg c1, if_pos c13] | rw [m_vat, if_neg c1, if_neg c13, if_pos c25] | rw [m_vat, if_neg c1, if_neg c13, if_neg c25, if_neg (Int32.not_le.mpr c41)] | rw [m_vat, if_neg c1, if_neg c13, if_neg c25, if_pos (Int32.not_lt.mp c41)], rfl⟩
  · refine lv_aload_n hx hb dX6_vatTold_4 rfl (lv_at hl 0 rfl) ?_
    refine m_get inX6 hF hC hO rfl rfl 1 (by decide) q_663 (v := .int (g 0)) rfl dX6_vatTold_5 ?_
    refine lv_goto (tgt := 49) hx hb dX6_vatTold_8 (by decide) ?_
    refine m_iret hF hr hlk hQ rfl hO hS dX6_vatTold_49 ?_
    exact ⟨by first | rw [m_vat, if_pos c1] | rw [m_vat, if_neg c1, if_pos c13] | rw [m_vat, if_neg c1, if_neg c13, if_pos c25] | rw [m_vat, if_neg c1, if_neg c13, if_neg c25, if_neg (Int32.not_le.mpr c41)] | rw [m_vat, if_neg c1, if_neg c13, if_neg c25, if_pos (Int32.not_lt.mp c41)], rfl⟩
theorem ok_X6_at : mOK RX6 yX6_at cX6_at 3 (some .int) 1 := ⟨q_750, qs_21, q_6, q_751, by decide +kernel⟩
set_option maxHeartbeats 400000 in
set_option maxRecDepth 100000 in
theorem k_X6_at (l : Launch) (G : mG) (lo : Nat) (sa ad : Nat → Nat) (R : mM) (th : Int32) (g : Nat → Int32) (nf : Nat) (F : Nat → Nat → Int32) (f : Nat → Int32) (no : Nat) (O : Nat → Nat → Int32) (it ch : Nat → Int32) (h : Int32) (hnf : nf ≤ 12) (hno : no ≤ 20) : mI l yX6_at cX6_at 3 .int 1 22 G lo sa ad (WM G ad th g nf F f no O it ch R) [.ref (ad 50), .int h] (fun v R' => v = (m_at nf F h) ∧ R' = (WM G ad th g nf F f no O it ch R)) := by
  refine mI_of (by decide) (Nat.le_of_ble_eq_true rfl) ?_
  intro p e s m args below meth c hF hr hlk hC ls hl hO hS Q hQ
  have hx := hF.1
  have hb := hF.2.1
  have hl : lv_has ls 3 [(0, .ref (ad 50)), (1, .int h)] := hl
  refine lv_iconst (v := 0) hx hb dX6_at_0 (by decide) ?_
  refine lv_istore_n (lv' := [(2, .int 0), (0, .ref (ad 50)), (1, .int h)]) hx hb dX6_at_1 rfl hl (by decide) rfl (fun ls hl => ?_)
  have L2 : ∀ (n : Nat) (i : Nat) (H : Heap) (locs : List Loc) (ls : Array Slot), nf - i < n → i ≤ nf → m_atL (nf - i) i F h = m_at nf F h → lv_has ls 3 [(0, .ref (ad 50)), (1, .int h), (2, .int (nI i))] → mO G lo ad (WM G ad th g nf F f no O it ch R) H → va_S (mA lo) s.heap H locs → W p l e (mRm 1 22) s m args below meth c H locs 0 0 Q (F0 m 2 ls []) := by
    intro n
    induction n with
    | zero => intro i H locs ls hn; exact absurd hn (Nat.not_lt_zero _)
    | succ n ih2 =>
      intro i H locs ls hn2 hi hv hl hO hS
      refine lv_iload_n hx hb dX6_at_2 rfl (lv_at hl 2 rfl) ?_
      refine lv_aload_n hx hb dX6_at_3 rfl (lv_at hl 0 rfl) ?_
      refine m_get inX6 hF hC hO rfl rfl 4 (by decide) q_666 (v := .int (nI nf)) rfl dX6_at_4 ?_
      refine lv_icmp_ge (tgt := 28) hx hb dX6_at_7 (by decide) (fun c7 => ?_) (fun c7 => ?_)
      · refine lv_iconst (v := -1) hx hb dX6_at_28 (by decide) ?_
        refine m_iret hF hr hlk hQ rfl hO hS dX6_at_29 ?_
        have e : i = nf := Nat.le_antisymm hi (nI_E (a := nf) (b := i) (by omega) (by omega) c7)
        subst e
        rw [Nat.sub_self] at hv
        exact ⟨hv, rfl⟩
      · refine lv_aload_n hx hb dX6_at_10 rfl (lv_at hl 0 rfl) ?_
        refine lv_iload_n hx hb dX6_at_11 rfl (lv_at hl 2 rfl) ?_
        refine lv_iconst (v := 5) hx hb dX6_at_12 (by decide) ?_
        refine m_vI (As := [.int (nI i), .int 5]) (rest := []) (n := 2) hF hC hO hS (k_X6_fr l G lo sa ad R th g nf F f no O it ch i 5 hnf hno (by have := (nI_nE (a := nf) (b := i) (by omega) (by omega) c7); omega) (by omega)) ok_X6_fr q_752 rfl rfl ⟨Nat.le_of_ble_eq_true rfl, Nat.le_of_ble_eq_true rfl⟩ rfl hl.1 rfl (Nat.le_of_ble_eq_true rfl) ⟨Nat.le_of_ble_eq_true rfl, Nat.le_of_ble_eq_true rfl⟩ dX6_at_13 (fun v13 R' H locs hp hO hS => ?_)
        obtain ⟨rfl, hR⟩ := hp
        rw [hR] at hO
        refine lv_iload_n hx hb dX6_at_16 rfl (lv_at hl 1 rfl) ?_
        refine lv_icmp_ne (tgt := 22) hx hb dX6_at_17 (by decide) (fun c17 => ?_) (fun c17 => ?_)
        · refine lv_iinc (v := (nI (i + 1))) (lv' := [(2, .int (nI (i + 1))), (0, .ref (ad 50)), (1, .int h)]) hx hb dX6_at_22 hl (k := 2) rfl (nI_inc i) (by decide) rfl (fun ls hl => ?_)
          refine lv_goto (tgt := 2) hx hb dX6_at_25 (by decide) ?_
          exact ih2 (i + 1) _ _ _ (by have := (nI_nE (a := nf) (b := i) (by omega) (by omega) c7); omega) (by have := (nI_nE (a := nf) (b := i) (by omega) (by omega) c7); omega) (by have := (nI_nE (a := nf) (b := i) (by omega) (by omega) c7); rw [← hv, show nf - i = (nf - (i + 1)) + 1 from by omega, m_atL, if_neg c17]) (lv_sub hl [1, 2, 0] rfl) hO hS
        · refine lv_iload_n hx hb dX6_at_20 rfl (lv_at hl 2 rfl) ?_
          refine m_iret hF hr hlk hQ rfl hO hS dX6_at_21 ?_
          have h9 := (nI_nE (a := nf) (b := i) (by omega) (by omega) c7)
          rw [show nf - i = (nf - (i + 1)) + 1 from by omega, m_atL, if_pos c17] at hv
          exact ⟨hv, rfl⟩
  exact L2 _ 0 _ _ _ (Nat.lt_succ_self _) (by omega) rfl (lv_sub hl [1, 2, 0] rfl) hO hS
theorem ok_X6_take : mOK RX6 yX6_take cX6_take 2 none 1 := ⟨q_770, qs_24, q_6, q_771, by decide +kernel⟩
set_option maxHeartbeats 400000 in
set_option maxRecDepth 100000 in
theorem k_X6_take (l : Launch) (G : mG) (lo : Nat) (sa ad : Nat → Nat) (R : mM) (th : Int32) (g : Nat → Int32) (nf : Nat) (F : Nat → Nat → Int32) (f : Nat → Int32) (no : Nat) (O : Nat → Nat → Int32) (it ch : Nat → Int32) (i : Nat) (hnf : nf ≤ 12) (hno : no ≤ 20) (hi : i < 12) : mV l yX6_take cX6_take 2 1 22 G lo sa ad (WM G ad th g nf F f no O it ch R) [.ref (ad 50), .int (nI i)] (fun R' => R' = (WM G ad th g nf F f no O (m_take it g (F i)) ch R)) := by
  refine mV_of (by decide) (Nat.le_of_ble_eq_true rfl) ?_
  intro p e s m args below meth c hF hr hlk hC ls hl hO hS Q hQ
  have hx := hF.1
  have hb := hF.2.1
  have hl : lv_has ls 2 [(0, .ref (ad 50)), (1, .int (nI i))] := hl
  refine lv_aload_n hx hb dX6_take_0 rfl (lv_at hl 0 rfl) ?_
  refine m_get inX6 hF hC hO rfl rfl 12 (by decide) q_674 (v := .ref (ad 54)) rfl dX6_take_1 ?_
  refine lv_iconst (v := 0) hx hb dX6_take_4 (by decide) ?_
  refine lv_aload_n hx hb dX6_take_5 rfl (lv_at hl 0 rfl) ?_
  refine m_get inX6 hF hC hO rfl rfl 1 (by decide) q_663 (v := .int (g 0)) rfl dX6_take_6 ?_
  refine m_iast hF hC hO hS rfl (j := 0) (by decide) (vp_in_nI (n := 0) (by decide) (by decide)) dX6_take_9 (fun H locs hO hS => ?_)
  have hO : mO G lo ad (mU (WM G ad th g nf F f no O it ch R) 54 (.inl (G.2 0, 5, .inl (upd it 0 (g 0))))) H := hO
  rw [WM_w4] at hO
  refine lv_aload_n hx hb dX6_take_10 rfl (lv_at hl 0 rfl) ?_
  refine m_get inX6 hF hC hO rfl rfl 12 (by decide) q_674 (v := .ref (ad 54)) rfl dX6_take_11 ?_
  refine lv_iconst (v := 1) hx hb dX6_take_14 (by decide) ?_
  refine lv_aload_n hx hb dX6_take_15 rfl (lv_at hl 0 rfl) ?_
  refine m_get inX6 hF hC hO rfl rfl 2 (by decide) q_664 (v := .int (g 1)) rfl dX6_take_16 ?_
  refine m_iast hF hC hO hS rfl (j := 1) (by decide) (vp_in_nI (n := 1) (by decide) (by decide)) dX6_take_19 (fun H locs hO hS => ?_)
  have hO : mO G lo ad (mU (WM G ad th g nf F f no O (upd it 0 (g 0)) ch R) 54 (.inl (G.2 0, 5, .inl (upd (upd it 0 (g 0)) 1 (g 1))))) H := hO
  rw [WM_w4] at hO
  refine lv_aload_n hx hb dX6_take_20 rfl (lv_at hl 0 rfl) ?_
  refine m_get inX6 hF hC hO rfl rfl 12 (by decide) q_674 (v := .ref (ad 54)) rfl dX6_take_21 ?_
  refine lv_iconst (v := 2) hx hb dX6_take_24 (by decide) ?_
  refine lv_aload_n hx hb dX6_take_25 rfl (lv_at hl 0 rfl) ?_
  refine lv_iload_n hx hb dX6_take_26 rfl (lv_at hl 1 rfl) ?_
  refine lv_iconst (v := 2) hx hb dX6_take_27 (by decide) ?_
  refine m_vI (As := [.int (nI i), .int 2]) (rest := [.int 2, .ref (ad 54)]) (n := 2) hF hC hO hS (k_X6_fr l G lo sa ad R th g nf F f no O (upd (upd it 0 (g 0)) 1 (g 1)) ch i 2 hnf hno (by omega) (by omega)) ok_X6_fr q_752 rfl rfl ⟨Nat.le_of_ble_eq_true rfl, Nat.le_of_ble_eq_true rfl⟩ rfl hl.1 rfl (Nat.le_of_ble_eq_true rfl) ⟨Nat.le_of_ble_eq_true rfl, Nat.le_of_ble_eq_true rfl⟩ dX6_take_28 (fun v28 R' H locs hp hO hS => ?_)
  obtain ⟨rfl, hR⟩ := hp
  rw [hR] at hO
  refine m_iast hF hC hO hS rfl (j := 2) (by decide) (vp_in_nI (n := 2) (by decide) (by decide)) dX6_take_31 (fun H locs hO hS => ?_)
  have hO : mO G lo ad (mU (WM G ad th g nf F f no O (upd (upd it 0 (g 0)) 1 (g 1)) ch R) 54 (.inl (G.2 0, 5, .inl (upd (upd (upd it 0 (g 0)) 1 (g 1)) 2 (F i 2))))) H := hO
  rw [WM_w4] at hO
  refine lv_aload_n hx hb dX6_take_32 rfl (lv_at hl 0 rfl) ?_
  refine m_get inX6 hF hC hO rfl rfl 12 (by decide) q_674 (v := .ref (ad 54)) rfl dX6_take_33 ?_
  refine lv_iconst (v := 3) hx hb dX6_take_36 (by decide) ?_
  refine lv_aload_n hx hb dX6_take_37 rfl (lv_at hl 0 rfl) ?_
  refine lv_iload_n hx hb dX6_take_38 rfl (lv_at hl 1 rfl) ?_
  refine lv_iconst (v := 3) hx hb dX6_take_39 (by decide) ?_
  refine m_vI (As := [.int (nI i), .int 3]) (rest := [.int 3, .ref (ad 54)]) (n := 2) hF hC hO hS (k_X6_fr l G lo sa ad R th g nf F f no O (upd (upd (upd it 0 (g 0)) 1 (g 1)) 2 (F i 2)) ch i 3 hnf hno (by omega) (by omega)) ok_X6_fr q_752 rfl rfl ⟨Nat.le_of_ble_eq_true rfl, Nat.le_of_ble_eq_true rfl⟩ rfl hl.1 rfl (Nat.le_of_ble_eq_true rfl) ⟨Nat.le_of_ble_eq_true rfl, Nat.le_of_ble_eq_true rfl⟩ dX6_take_40 (fun v40 R' H locs hp hO hS => ?_)
  obtain ⟨rfl, hR⟩ := hp
  rw [hR] at hO
  refine m_iast hF hC hO hS rfl (j := 3) (by decide) (vp_in_nI (n := 3) (by decide) (by decide)) dX6_take_43 (fun H locs hO hS => ?_)
  have hO : mO G lo ad (mU (WM G ad th g nf F f no O (upd (upd (upd it 0 (g 0)) 1 (g 1)) 2 (F i 2)) ch R) 54 (.inl (G.2 0, 5, .inl (upd (upd (upd (upd it 0 (g 0)) 1 (g 1)) 2 (F i 2)) 3 (F i 3))))) H := hO
  rw [WM_w4] at hO
  refine lv_aload_n hx hb dX6_take_44 rfl (lv_at hl 0 rfl) ?_
  refine m_get inX6 hF hC hO rfl rfl 12 (by decide) q_674 (v := .ref (ad 54)) rfl dX6_take_45 ?_
  refine lv_iconst (v := 4) hx hb dX6_take_48 (by decide) ?_
  refine lv_aload_n hx hb dX6_take_49 rfl (lv_at hl 0 rfl) ?_
  refine lv_iload_n hx hb dX6_take_50 rfl (lv_at hl 1 rfl) ?_
  refine lv_iconst (v := 4) hx hb dX6_take_51 (by decide) ?_
  refine m_vI (As := [.int (nI i), .int 4]) (rest := [.int 4, .ref (ad 54)]) (n := 2) hF hC hO hS (k_X6_fr l G lo sa ad R th g nf F f no O (upd (upd (upd (upd it 0 (g 0)) 1 (g 1)) 2 (F i 2)) 3 (F i 3)) ch i 4 hnf hno (by omega) (by omega)) ok_X6_fr q_752 rfl rfl ⟨Nat.le_of_ble_eq_true rfl, Nat.le_of_ble_eq_true rfl⟩ rfl hl.1 rfl (Nat.le_of_ble_eq_true rfl) ⟨Nat.le_of_ble_eq_true rfl, Nat.le_of_ble_eq_true rfl⟩ dX6_take_52 (fun v52 R' H locs hp hO hS => ?_)
  obtain ⟨rfl, hR⟩ := hp
  rw [hR] at hO
  refine m_iast hF hC hO hS rfl (j := 4) (by decide) (vp_in_nI (n := 4) (by decide) (by decide)) dX6_take_55 (fun H locs hO hS => ?_)
  have hO : mO G lo ad (mU (WM G ad th g nf F f no O (upd (upd (upd (upd it 0 (g 0)) 1 (g 1)) 2 (F i 2)) 3 (F i 3)) ch R) 54 (.inl (G.2 0, 5, .inl (upd (upd (upd (upd (upd it 0 (g 0)) 1 (g 1)) 2 (F i 2)) 3 (F i 3)) 4 (F i 4))))) H := hO
  rw [WM_w4] at hO
  refine m_vret hF hr hlk hQ hO hS dX6_take_56 ?_
  rfl
theorem ok_X6_grows : mOK RX6 yX6_grows cX6_grows 3 (some .int) 1 := ⟨q_782, qs_27, q_6, q_783, by decide +kernel⟩
set_option maxHeartbeats 400000 in
set_option maxRecDepth 100000 in
theorem k_X6_grows (l : Launch) (G : mG) (lo : Nat) (sa ad : Nat → Nat) (R : mM) (th : Int32) (g : Nat → Int32) (nf : Nat) (F : Nat → Nat → Int32) (f : Nat → Int32) (no : Nat) (O : Nat → Nat → Int32) (it ch : Nat → Int32) (i : Nat) (hnf : nf ≤ 12) (hno : no ≤ 20) (hi : i < 12) : mI l yX6_grows cX6_grows 3 .int 1 22 G lo sa ad (WM G ad th g nf F f no O it ch R) [.ref (ad 50), .int (nI i)] (fun v R' => v = (m_grow it (F i)) ∧ R' = (WM G ad th g nf F f no O it ch R)) := by
  refine mI_of (by decide) (Nat.le_of_ble_eq_true rfl) ?_
  intro p e s m args below meth c hF hr hlk hC ls hl hO hS Q hQ
  have hx := hF.1
  have hb := hF.2.1
  have hl : lv_has ls 3 [(0, .ref (ad 50)), (1, .int (nI i))] := hl
  refine lv_aload_n hx hb dX6_grows_0 rfl (lv_at hl 0 rfl) ?_
  refine m_get inX6 hF hC hO rfl rfl 12 (by decide) q_674 (v := .ref (ad 54)) rfl dX6_grows_1 ?_
  refine lv_iconst (v := 3) hx hb dX6_grows_4 (by decide) ?_
  refine m_iald hF hC hO rfl (j := 3) (by decide) (vp_in_nI (n := 3) (by decide) (by decide)) dX6_grows_5 ?_
  refine lv_bipush (v := 70) hx hb dX6_grows_6 (by decide) ?_
  refine lv_icmp_le (tgt := 33) hx hb dX6_grows_8 (by decide) (fun c8 => ?_) (fun c8 => ?_)
  · refine lv_bipush (v := 12) hx hb dX6_grows_33 (by decide) ?_
    refine lv_aload_n hx hb dX6_grows_35 rfl (lv_at hl 0 rfl) ?_
    refine m_get inX6 hF hC hO rfl rfl 12 (by decide) q_674 (v := .ref (ad 54)) rfl dX6_grows_36 ?_
    refine lv_iconst (v := 1) hx hb dX6_grows_39 (by decide) ?_
    refine m_iald hF hC hO rfl (j := 1) (by decide) (vp_in_nI (n := 1) (by decide) (by decide)) dX6_grows_40 ?_
    refine lv_bipush (v := 60) hx hb dX6_grows_41 (by decide) ?_
    refine lv_isub hx hb dX6_grows_43 ?_
    refine lv_bipush (v := 8) hx hb dX6_grows_44 (by decide) ?_
    refine lv_idiv hx hb dX6_grows_46 (by decide) ?_
    refine lv_isub hx hb dX6_grows_47 ?_
    refine lv_aload_n hx hb dX6_grows_48 rfl (lv_at hl 0 rfl) ?_
    refine m_get inX6 hF hC hO rfl rfl 12 (by decide) q_674 (v := .ref (ad 54)) rfl dX6_grows_49 ?_
    refine lv_iconst (v := 2) hx hb dX6_grows_52 (by decide) ?_
    refine m_iald hF hC hO rfl (j := 2) (by decide) (vp_in_nI (n := 2) (by decide) (by decide)) dX6_grows_53 ?_
    refine lv_if_ne (tgt := 61) hx hb dX6_grows_54 (by decide) (fun c54 => ?_) (fun c54 => ?_)
    · refine lv_iconst (v := 0) hx hb dX6_grows_61 (by decide) ?_
      refine lv_iadd hx hb dX6_grows_62 ?_
      refine lv_aload_n hx hb dX6_grows_63 rfl (lv_at hl 0 rfl) ?_
      refine lv_iload_n hx hb dX6_grows_64 rfl (lv_at hl 1 rfl) ?_
      refine lv_iconst (v := 0) hx hb dX6_grows_65 (by decide) ?_
      refine m_vI (As := [.int (nI i), .int 0]) (rest := [.int ((12 - (((it 1) - 60) / 8)) + 0)]) (n := 2) hF hC hO hS (k_X6_fr l G lo sa ad R th g nf F f no O it ch i 0 hnf hno (by omega) (by omega)) ok_X6_fr q_752 rfl rfl ⟨Nat.le_of_ble_eq_true rfl, Nat.le_of_ble_eq_true rfl⟩ rfl hl.1 rfl (Nat.le_of_ble_eq_true rfl) ⟨Nat.le_of_ble_eq_true rfl, Nat.le_of_ble_eq_true rfl⟩ dX6_grows_66 (fun v66 R' H locs hp hO hS => ?_)
      obtain ⟨rfl, hR⟩ := hp
      rw [hR] at hO
      refine lv_iconst (v := 3) hx hb dX6_grows_69 (by decide) ?_
      refine lv_icmp_ne (tgt := 77) hx hb dX6_grows_70 (by decide) (fun c70 => ?_) (fun c70 => ?_)
      · refine lv_iconst (v := 0) hx hb dX6_grows_77 (by decide) ?_
        refine lv_isub hx hb dX6_grows_78 ?_
        refine lv_istore_n (lv' := [(2, .int (((12 - (((it 1) - 60) / 8)) + 0) - 0)), (0, .ref (ad 50)), (1, .int (nI i))]) hx hb dX6_grows_79 rfl hl (by decide) rfl (fun ls hl => ?_)
        refine lv_iload_n hx hb dX6_grows_80 rfl (lv_at hl 0 rfl) ?_
        refine lv_sipush (v := 400) hx hb dX6_grows_81 (by decide) ?_
        refine lv_aload_n hx hb dX6_grows_84 rfl (lv_at hl 1 rfl) ?_
        refine m_get inX6 hF hC hO rfl rfl 12 (by decide) q_674 (v := .ref (ad 54)) rfl dX6_grows_85 ?_
        refine lv_iconst (v := 2) hx hb dX6_grows_88 (by decide) ?_
        refine m_iald hF hC hO rfl (j := 2) (by decide) (vp_in_nI (n := 2) (by decide) (by decide)) dX6_grows_89 ?_
        refine lv_isub hx hb dX6_grows_90 ?_
        refine m_min hF hl.1 q_784 q_168 q_14 q_169 (Nat.le_of_ble_eq_true rfl) (Nat.le_of_ble_eq_true rfl) ⟨Nat.le_of_ble_eq_true rfl, Nat.le_of_ble_eq_true rfl⟩ dX6_grows_91 ?_
        refine m_iret hF hr hlk hQ rfl hO hS dX6_grows_94 ?_
        exact ⟨by first | rw [m_grow, if_neg (Int32.not_lt.mpr c8), if_pos c54, if_pos c70] | rw [m_grow, if_neg (Int32.not_lt.mpr c8), if_pos c54, if_neg c70] | rw [m_grow, if_neg (Int32.not_lt.mpr c8), if_neg c54, if_pos c70] | rw [m_grow, if_neg (Int32.not_lt.mpr c8), if_neg c54, if_neg c70], rfl⟩
      · refine lv_iconst (v := 3) hx hb dX6_grows_73 (by decide) ?_
        refine lv_goto (tgt := 78) hx hb dX6_grows_74 (by decide) ?_
        refine lv_isub hx hb dX6_grows_78 ?_
        refine lv_istore_n (lv' := [(2, .int (((12 - (((it 1) - 60) / 8)) + 0) - 3)), (0, .ref (ad 50)), (1, .int (nI i))]) hx hb dX6_grows_79 rfl hl (by decide) rfl (fun ls hl => ?_)
        refine lv_iload_n hx hb dX6_grows_80 rfl (lv_at hl 0 rfl) ?_
        refine lv_sipush (v := 400) hx hb dX6_grows_81 (by decide) ?_
        refine lv_aload_n hx hb dX6_grows_84 rfl (lv_at hl 1 rfl) ?_
        refine m_get inX6 hF hC hO rfl rfl 12 (by decide) q_674 (v := .ref (ad 54)) rfl dX6_grows_85 ?_
        refine lv_iconst (v := 2) hx hb dX6_grows_88 (by decide) ?_
        refine m_iald hF hC hO rfl (j := 2) (by decide) (vp_in_nI (n := 2) (by decide) (by decide)) dX6_grows_89 ?_
        refine lv_isub hx hb dX6_grows_90 ?_
        refine m_min hF hl.1 q_784 q_168 q_14 q_169 (Nat.le_of_ble_eq_true rfl) (Nat.le_of_ble_eq_true rfl) ⟨Nat.le_of_ble_eq_true rfl, Nat.le_of_ble_eq_true rfl⟩ dX6_grows_91 ?_
        refine m_iret hF hr hlk hQ rfl hO hS dX6_grows_94 ?_
        exact ⟨by first | rw [m_grow, if_neg (Int32.not_lt.mpr c8), if_pos c54, if_pos c70] | rw [m_grow, if_neg (Int32.not_lt.mpr c8), if_pos c54, if_neg c70] | rw [m_grow, if_neg (Int32.not_lt.mpr c8), if_neg c54, if_pos c70] | rw [m_grow, if_neg (Int32.not_lt.mpr c8), if_neg c54, if_neg c70], rfl⟩
    · refine lv_iconst (v := 4) hx hb dX6_grows_57 (by decide) ?_
      refine lv_goto (tgt := 62) hx hb dX6_grows_58 (by decide) ?_
      refine lv_iadd hx hb dX6_grows_62 ?_
      refine lv_aload_n hx hb dX6_grows_63 rfl (lv_at hl 0 rfl) ?_
      refine lv_iload_n hx hb dX6_grows_64 rfl (lv_at hl 1 rfl) ?_
      refine lv_iconst (v := 0) hx hb dX6_grows_65 (by decide) ?_
      refine m_vI (As := [.int (nI i), .int 0]) (rest := [.int ((12 - (((it 1) - 60) / 8)) + 4)]) (n := 2) hF hC hO hS (k_X6_fr l G lo sa ad R th g nf F f no O it ch i 0 hnf hno (by omega) (by omega)) ok_X6_fr q_752 rfl rfl ⟨Nat.le_of_ble_eq_true rfl, Nat.le_of_ble_eq_true rfl⟩ rfl hl.1 rfl (Nat.le_of_ble_eq_true rfl) ⟨Nat.le_of_ble_eq_true rfl, Nat.le_of_ble_eq_true rfl⟩ dX6_grows_66 (fun v66 R' H locs hp hO hS => ?_)
      obtain ⟨rfl, hR⟩ := hp
      rw [hR] at hO
      refine lv_iconst (v := 3) hx hb dX6_grows_69 (by decide) ?_
      refine lv_icmp_ne (tgt := 77) hx hb dX6_grows_70 (by decide) (fun c70 => ?_) (fun c70 => ?_)
      · refine lv_iconst (v := 0) hx hb dX6_grows_77 (by decide) ?_
        refine lv_isub hx hb dX6_grows_78 ?_
        refine lv_istore_n (lv' := [(2, .int (((12 - (((it 1) - 60) / 8)) + 4) - 0)), (0, .ref (ad 50)), (1, .int (nI i))]) hx hb dX6_grows_79 rfl hl (by decide) rfl (fun ls hl => ?_)
        refine lv_iload_n hx hb dX6_grows_80 rfl (lv_at hl 0 rfl) ?_
        refine lv_sipush (v := 400) hx hb dX6_grows_81 (by decide) ?_
        refine lv_aload_n hx hb dX6_grows_84 rfl (lv_at hl 1 rfl) ?_
        refine m_get inX6 hF hC hO rfl rfl 12 (by decide) q_674 (v := .ref (ad 54)) rfl dX6_grows_85 ?_
        refine lv_iconst (v := 2) hx hb dX6_grows_88 (by decide) ?_
        refine m_iald hF hC hO rfl (j := 2) (by decide) (vp_in_nI (n := 2) (by decide) (by decide)) dX6_grows_89 ?_
        refine lv_isub hx hb dX6_grows_90 ?_
        refine m_min hF hl.1 q_784 q_168 q_14 q_169 (Nat.le_of_ble_eq_true rfl) (Nat.le_of_ble_eq_true rfl) ⟨Nat.le_of_ble_eq_true rfl, Nat.le_of_ble_eq_true rfl⟩ dX6_grows_91 ?_
        refine m_iret hF hr hlk hQ rfl hO hS dX6_grows_94 ?_
        exact ⟨by first | rw [m_grow, if_neg (Int32.not_lt.mpr c8), if_pos c54, if_pos c70] | rw [m_grow, if_neg (Int32.not_lt.mpr c8), if_pos c54, if_neg c70] | rw [m_grow, if_neg (Int32.not_lt.mpr c8), if_neg c54, if_pos c70] | rw [m_grow, if_neg (Int32.not_lt.mpr c8), if_neg c54, if_neg c70], rfl⟩
      · refine lv_iconst (v := 3) hx hb dX6_grows_73 (by decide) ?_
        refine lv_goto (tgt := 78) hx hb dX6_grows_74 (by decide) ?_
        refine lv_isub hx hb dX6_grows_78 ?_
        refine lv_istore_n (lv' := [(2, .int (((12 - (((it 1) - 60) / 8)) + 4) - 3)), (0, .ref (ad 50)), (1, .int (nI i))]) hx hb dX6_grows_79 rfl hl (by decide) rfl (fun ls hl => ?_)
        refine lv_iload_n hx hb dX6_grows_80 rfl (lv_at hl 0 rfl) ?_
        refine lv_sipush (v := 400) hx hb dX6_grows_81 (by decide) ?_
        refine lv_aload_n hx hb dX6_grows_84 rfl (lv_at hl 1 rfl) ?_
        refine m_get inX6 hF hC hO rfl rfl 12 (by decide) q_674 (v := .ref (ad 54)) rfl dX6_grows_85 ?_
        refine lv_iconst (v := 2) hx hb dX6_grows_88 (by decide) ?_
        refine m_iald hF hC hO rfl (j := 2) (by decide) (vp_in_nI (n := 2) (by decide) (by decide)) dX6_grows_89 ?_
        refine lv_isub hx hb dX6_grows_90 ?_
        refine m_min hF hl.1 q_784 q_168 q_14 q_169 (Nat.le_of_ble_eq_true rfl) (Nat.le_of_ble_eq_true rfl) ⟨Nat.le_of_ble_eq_true rfl, Nat.le_of_ble_eq_true rfl⟩ dX6_grows_91 ?_
        refine m_iret hF hr hlk hQ rfl hO hS dX6_grows_94 ?_
        exact ⟨by first | rw [m_grow, if_neg (Int32.not_lt.mpr c8), if_pos c54, if_pos c70] | rw [m_grow, if_neg (Int32.not_lt.mpr c8), if_pos c54, if_neg c70] | rw [m_grow, if_neg (Int32.not_lt.mpr c8), if_neg c54, if_pos c70] | rw [m_grow, if_neg (Int32.not_lt.mpr c8), if_neg c54, if_neg c70], rfl⟩
  · refine lv_aload_n hx hb dX6_grows_11 rfl (lv_at hl 0 rfl) ?_
    refine m_get inX6 hF hC hO rfl rfl 12 (by decide) q_674 (v := .ref (ad 54)) rfl dX6_grows_12 ?_
    refine lv_iconst (v := 2) hx hb dX6_grows_15 (by decide) ?_
    refine m_iald hF hC hO rfl (j := 2) (by decide) (vp_in_nI (n := 2) (by decide) (by decide)) dX6_grows_16 ?_
    refine lv_aload_n hx hb dX6_grows_17 rfl (lv_at hl 0 rfl) ?_
    refine m_get inX6 hF hC hO rfl rfl 12 (by decide) q_674 (v := .ref (ad 54)) rfl dX6_grows_18 ?_
    refine lv_iconst (v := 1) hx hb dX6_grows_21 (by decide) ?_
    refine m_iald hF hC hO rfl (j := 1) (by decide) (vp_in_nI (n := 1) (by decide) (by decide)) dX6_grows_22 ?_
    refine lv_bipush (v := 55) hx hb dX6_grows_23 (by decide) ?_
    refine lv_isub hx hb dX6_grows_25 ?_
    refine lv_iconst (v := 5) hx hb dX6_grows_26 (by decide) ?_
    refine lv_idiv hx hb dX6_grows_27 (by decide) ?_
    refine m_min hF hl.1 q_784 q_168 q_14 q_169 (Nat.le_of_ble_eq_true rfl) (Nat.le_of_ble_eq_true rfl) ⟨Nat.le_of_ble_eq_true rfl, Nat.le_of_ble_eq_true rfl⟩ dX6_grows_28 ?_
    refine lv_ineg hx hb dX6_grows_31 ?_
    refine m_iret hF hr hlk hQ rfl hO hS dX6_grows_32 ?_
    exact ⟨by rw [m_grow, if_pos (Int32.not_le.mp c8)], rfl⟩
theorem ok_X6_waxOf : mOK RX6 yX6_waxOf cX6_waxOf 3 (some .int) 2 := ⟨q_787, qs_28, q_6, q_788, by decide +kernel⟩
set_option maxHeartbeats 400000 in
set_option maxRecDepth 100000 in
theorem k_X6_waxOf (l : Launch) (G : mG) (lo : Nat) (sa ad : Nat → Nat) (R : mM) (th : Int32) (g : Nat → Int32) (nf : Nat) (F : Nat → Nat → Int32) (f : Nat → Int32) (no : Nat) (O : Nat → Nat → Int32) (it ch : Nat → Int32) (i : Nat) (t : Int32) (hnf : nf ≤ 12) (hno : no ≤ 20) (hi : i < 12) : mI l yX6_waxOf cX6_waxOf 3 .int 1 22 G lo sa ad (WM G ad th g nf F f no O it ch R) [.ref (ad 50), .int (nI i), .int t] (fun v R' => v = (p_wax (F i) t) ∧ R' = (WM G ad th g nf F f no O it ch R)) := by
  refine mI_of (by decide) (Nat.le_of_ble_eq_true rfl) ?_
  intro p e s m args below meth c hF hr hlk hC ls hl hO hS Q hQ
  have hx := hF.1
  have hb := hF.2.1
  have hl : lv_has ls 3 [(0, .ref (ad 50)), (1, .int (nI i)), (2, .int t)] := hl
  refine lv_iload_n hx hb dX6_waxOf_0 rfl (lv_at hl 2 rfl) ?_
  refine lv_bipush (v := 8) hx hb dX6_waxOf_1 (by decide) ?_
  refine lv_aload_n hx hb dX6_waxOf_3 rfl (lv_at hl 0 rfl) ?_
  refine lv_iload_n hx hb dX6_waxOf_4 rfl (lv_at hl 1 rfl) ?_
  refine lv_iconst (v := 0) hx hb dX6_waxOf_5 (by decide) ?_
  refine m_vI (As := [.int (nI i), .int 0]) (rest := [.int 8, .int t]) (n := 2) hF hC hO hS (k_X6_fr l G lo sa ad R th g nf F f no O it ch i 0 hnf hno (by omega) (by omega)) ok_X6_fr q_752 rfl rfl ⟨Nat.le_of_ble_eq_true rfl, Nat.le_of_ble_eq_true rfl⟩ rfl hl.1 rfl (Nat.le_of_ble_eq_true rfl) ⟨Nat.le_of_ble_eq_true rfl, Nat.le_of_ble_eq_true rfl⟩ dX6_waxOf_6 (fun v6 R' H locs hp hO hS => ?_)
  obtain ⟨rfl, hR⟩ := hp
  rw [hR] at hO
  refine lv_iadd hx hb dX6_waxOf_9 ?_
  refine lv_imul hx hb dX6_waxOf_10 ?_
  refine lv_aload_n hx hb dX6_waxOf_11 rfl (lv_at hl 0 rfl) ?_
  refine lv_iload_n hx hb dX6_waxOf_12 rfl (lv_at hl 1 rfl) ?_
  refine lv_iconst (v := 1) hx hb dX6_waxOf_13 (by decide) ?_
  refine m_vI (As := [.int (nI i), .int 1]) (rest := [.int (t * (8 + (F i 0)))]) (n := 2) hF hC hO hS (k_X6_fr l G lo sa ad R th g nf F f no O it ch i 1 hnf hno (by omega) (by omega)) ok_X6_fr q_752 rfl rfl ⟨Nat.le_of_ble_eq_true rfl, Nat.le_of_ble_eq_true rfl⟩ rfl hl.1 rfl (Nat.le_of_ble_eq_true rfl) ⟨Nat.le_of_ble_eq_true rfl, Nat.le_of_ble_eq_true rfl⟩ dX6_waxOf_14 (fun v14 R' H locs hp hO hS => ?_)
  obtain ⟨rfl, hR⟩ := hp
  rw [hR] at hO
  refine lv_imul hx hb dX6_waxOf_17 ?_
  refine lv_bipush (v := 10) hx hb dX6_waxOf_18 (by decide) ?_
  refine lv_idiv hx hb dX6_waxOf_20 (by decide) ?_
  refine m_iret hF hr hlk hQ rfl hO hS dX6_waxOf_21 ?_
  exact ⟨rfl, rfl⟩
theorem ok_X6_can : mOK RX6 yX6_can cX6_can 2 (some .boolean) 1 := ⟨q_778, qs_26, q_6, q_779, by decide +kernel⟩
set_option maxHeartbeats 400000 in
set_option maxRecDepth 100000 in
theorem k_X6_can (l : Launch) (G : mG) (lo : Nat) (sa ad : Nat → Nat) (R : mM) (th : Int32) (g : Nat → Int32) (nf : Nat) (F : Nat → Nat → Int32) (f : Nat → Int32) (no : Nat) (O : Nat → Nat → Int32) (it ch : Nat → Int32) (i : Nat) (hnf : nf ≤ 12) (hno : no ≤ 20) (hi : i < 12) : mI l yX6_can cX6_can 2 .boolean 2 44 G lo sa ad (WM G ad th g nf F f no O it ch R) [.ref (ad 50), .int (nI i)] (fun v R' => mBo (m_can it (F i)) v ∧ R' = (WM G ad th g nf F f no O it ch R)) := by
  refine mI_of (by decide) (Nat.le_of_ble_eq_true rfl) ?_
  intro p e s m args below meth c hF hr hlk hC ls hl hO hS Q hQ
  have hx := hF.1
  have hb := hF.2.1
  have hl : lv_has ls 2 [(0, .ref (ad 50)), (1, .int (nI i))] := hl
  refine lv_aload_n hx hb dX6_can_0 rfl (lv_at hl 0 rfl) ?_
  refine m_get inX6 hF hC hO rfl rfl 12 (by decide) q_674 (v := .ref (ad 54)) rfl dX6_can_1 ?_
  refine lv_iconst (v := 1) hx hb dX6_can_4 (by decide) ?_
  refine m_iald hF hC hO rfl (j := 1) (by decide) (vp_in_nI (n := 1) (by decide) (by decide)) dX6_can_5 ?_
  refine lv_bipush (v := 60) hx hb dX6_can_6 (by decide) ?_
  refine lv_icmp_lt (tgt := 45) hx hb dX6_can_8 (by decide) (fun c8 => ?_) (fun c8 => ?_)
  · refine lv_iconst (v := 0) hx hb dX6_can_45 (by decide) ?_
    refine m_iret hF hr hlk hQ rfl hO hS dX6_can_46 ?_
    first | exact ⟨mBo_f (fun h => h.2.elim (fun q => c19 q) (fun q => absurd q (Int32.not_le.mpr c38))), rfl⟩ | exact ⟨mBo_f (fun h => absurd h.1 (Int32.not_le.mpr c8)), rfl⟩
  · refine lv_aload_n hx hb dX6_can_11 rfl (lv_at hl 0 rfl) ?_
    refine m_get inX6 hF hC hO rfl rfl 12 (by decide) q_674 (v := .ref (ad 54)) rfl dX6_can_12 ?_
    refine lv_iconst (v := 3) hx hb dX6_can_15 (by decide) ?_
    refine m_iald hF hC hO rfl (j := 3) (by decide) (vp_in_nI (n := 3) (by decide) (by decide)) dX6_can_16 ?_
    refine lv_bipush (v := 70) hx hb dX6_can_17 (by decide) ?_
    refine lv_icmp_gt (tgt := 41) hx hb dX6_can_19 (by decide) (fun c19 => ?_) (fun c19 => ?_)
    · refine lv_iconst (v := 1) hx hb dX6_can_41 (by decide) ?_
      refine lv_goto (tgt := 46) hx hb dX6_can_42 (by decide) ?_
      refine m_iret hF hr hlk hQ rfl hO hS dX6_can_46 ?_
      first | exact ⟨mBo_t ⟨Int32.not_lt.mp c8, Or.inl c19⟩, rfl⟩ | exact ⟨mBo_t ⟨Int32.not_lt.mp c8, Or.inr (Int32.not_lt.mp c38)⟩, rfl⟩
    · refine lv_aload_n hx hb dX6_can_22 rfl (lv_at hl 0 rfl) ?_
      refine lv_iload_n hx hb dX6_can_23 rfl (lv_at hl 1 rfl) ?_
      refine lv_aload_n hx hb dX6_can_24 rfl (lv_at hl 0 rfl) ?_
      refine lv_iload_n hx hb dX6_can_25 rfl (lv_at hl 1 rfl) ?_
      refine m_vI (As := [.int (nI i)]) (rest := [.int (nI i), .ref (ad 50)]) (n := 1) hF hC hO hS (k_X6_grows l G lo sa ad R th g nf F f no O it ch i hnf hno (by omega)) ok_X6_grows q_780 rfl rfl ⟨Nat.le_of_ble_eq_true rfl, Nat.le_of_ble_eq_true rfl⟩ rfl hl.1 rfl (Nat.le_of_ble_eq_true rfl) ⟨Nat.le_of_ble_eq_true rfl, Nat.le_of_ble_eq_true rfl⟩ dX6_can_26 (fun v26 R' H locs hp hO hS => ?_)
      obtain ⟨rfl, hR⟩ := hp
      rw [hR] at hO
      refine m_vI (As := [.int (nI i), .int (m_grow it (F i))]) (rest := []) (n := 2) hF hC hO hS (k_X6_waxOf l G lo sa ad R th g nf F f no O it ch i (m_grow it (F i)) hnf hno (by omega)) ok_X6_waxOf q_785 rfl rfl ⟨Nat.le_of_ble_eq_true rfl, Nat.le_of_ble_eq_true rfl⟩ rfl hl.1 rfl (Nat.le_of_ble_eq_true rfl) ⟨Nat.le_of_ble_eq_true rfl, Nat.le_of_ble_eq_true rfl⟩ dX6_can_29 (fun v29 R' H locs hp hO hS => ?_)
      obtain ⟨rfl, hR⟩ := hp
      rw [hR] at hO
      refine lv_aload_n hx hb dX6_can_32 rfl (lv_at hl 0 rfl) ?_
      refine m_get inX6 hF hC hO rfl rfl 12 (by decide) q_674 (v := .ref (ad 54)) rfl dX6_can_33 ?_
      refine lv_iconst (v := 0) hx hb dX6_can_36 (by decide) ?_
      refine m_iald hF hC hO rfl (j := 0) (by decide) (vp_in_nI (n := 0) (by decide) (by decide)) dX6_can_37 ?_
      refine lv_icmp_gt (tgt := 45) hx hb dX6_can_38 (by decide) (fun c38 => ?_) (fun c38 => ?_)
      · refine lv_iconst (v := 0) hx hb dX6_can_45 (by decide) ?_
        refine m_iret hF hr hlk hQ rfl hO hS dX6_can_46 ?_
        first | exact ⟨mBo_f (fun h => h.2.elim (fun q => c19 q) (fun q => absurd q (Int32.not_le.mpr c38))), rfl⟩ | exact ⟨mBo_f (fun h => absurd h.1 (Int32.not_le.mpr c8)), rfl⟩
      · refine lv_iconst (v := 1) hx hb dX6_can_41 (by decide) ?_
        refine lv_goto (tgt := 46) hx hb dX6_can_42 (by decide) ?_
        refine m_iret hF hr hlk hQ rfl hO hS dX6_can_46 ?_
        first | exact ⟨mBo_t ⟨Int32.not_lt.mp c8, Or.inl c19⟩, rfl⟩ | exact ⟨mBo_t ⟨Int32.not_lt.mp c8, Or.inr (Int32.not_lt.mp c38)⟩, rfl⟩
theorem ok_X6_dipIt : mOK RX6 yX6_dipIt cX6_dipIt 3 none 1 := ⟨q_791, qs_29, q_6, q_792, by decide +kernel⟩
set_option maxHeartbeats 400000 in
set_option maxRecDepth 100000 in
theorem k_X6_dipIt (l : Launch) (G : mG) (lo : Nat) (sa ad : Nat → Nat) (R : mM) (th : Int32) (g : Nat → Int32) (nf : Nat) (F : Nat → Nat → Int32) (f : Nat → Int32) (no : Nat) (O : Nat → Nat → Int32) (it ch : Nat → Int32) (i : Nat) (hnf : nf ≤ 12) (hno : no ≤ 20) (hi : i < 12) : mV l yX6_dipIt cX6_dipIt 3 2 44 G lo sa ad (WM G ad th g nf F f no O it ch R) [.ref (ad 50), .int (nI i)] (fun R' => R' = (WM G ad th g nf F f no O (m_dip it (F i)) ch R)) := by
  refine mV_of (by decide) (Nat.le_of_ble_eq_true rfl) ?_
  intro p e s m args below meth c hF hr hlk hC ls hl hO hS Q hQ
  have hx := hF.1
  have hb := hF.2.1
  have hl : lv_has ls 3 [(0, .ref (ad 50)), (1, .int (nI i))] := hl
  refine lv_aload_n hx hb dX6_dipIt_0 rfl (lv_at hl 0 rfl) ?_
  refine lv_iload_n hx hb dX6_dipIt_1 rfl (lv_at hl 1 rfl) ?_
  refine m_vI (As := [.int (nI i)]) (rest := []) (n := 1) hF hC hO hS (k_X6_grows l G lo sa ad R th g nf F f no O it ch i hnf hno (by omega)) ok_X6_grows q_780 rfl rfl ⟨Nat.le_of_ble_eq_true rfl, Nat.le_of_ble_eq_true rfl⟩ rfl hl.1 rfl (Nat.le_of_ble_eq_true rfl) ⟨Nat.le_of_ble_eq_true rfl, Nat.le_of_ble_eq_true rfl⟩ dX6_dipIt_2 (fun v2 R' H locs hp hO hS => ?_)
  obtain ⟨rfl, hR⟩ := hp
  rw [hR] at hO
  refine lv_istore_n (lv' := [(2, .int (m_grow it (F i))), (0, .ref (ad 50)), (1, .int (nI i))]) hx hb dX6_dipIt_5 rfl hl (by decide) rfl (fun ls hl => ?_)
  refine lv_aload_n hx hb dX6_dipIt_6 rfl (lv_at hl 1 rfl) ?_
  refine m_get inX6 hF hC hO rfl rfl 12 (by decide) q_674 (v := .ref (ad 54)) rfl dX6_dipIt_7 ?_
  refine lv_iconst (v := 3) hx hb dX6_dipIt_10 (by decide) ?_
  refine m_iald hF hC hO rfl (j := 3) (by decide) (vp_in_nI (n := 3) (by decide) (by decide)) dX6_dipIt_11 ?_
  refine lv_bipush (v := 70) hx hb dX6_dipIt_12 (by decide) ?_
  refine lv_icmp_le (tgt := 52) hx hb dX6_dipIt_14 (by decide) (fun c14 => ?_) (fun c14 => ?_)
  · refine lv_aload_n hx hb dX6_dipIt_52 rfl (lv_at hl 1 rfl) ?_
    refine m_get inX6 hF hC hO rfl rfl 12 (by decide) q_674 (v := .ref (ad 54)) rfl dX6_dipIt_53 ?_
    refine lv_iconst (v := 2) hx hb dX6_dipIt_56 (by decide) ?_
    refine m_iald hF hC hO rfl (j := 2) (by decide) (vp_in_nI (n := 2) (by decide) (by decide)) dX6_dipIt_57 ?_
    refine lv_if_le (tgt := 79) hx hb dX6_dipIt_58 (by decide) (fun c58 => ?_) (fun c58 => ?_)
    · refine lv_aload_n hx hb dX6_dipIt_79 rfl (lv_at hl 1 rfl) ?_
      refine m_get inX6 hF hC hO rfl rfl 12 (by decide) q_674 (v := .ref (ad 54)) rfl dX6_dipIt_80 ?_
      refine lv_iconst (v := 0) hx hb dX6_dipIt_83 (by decide) ?_
      refine lv_dup2_11 hx hb dX6_dipIt_84 rfl rfl ?_
      refine m_iald hF hC hO rfl (j := 0) (by decide) (vp_in_nI (n := 0) (by decide) (by decide)) dX6_dipIt_85 ?_
      refine lv_aload_n hx hb dX6_dipIt_86 rfl (lv_at hl 1 rfl) ?_
      refine lv_iload_n hx hb dX6_dipIt_87 rfl (lv_at hl 2 rfl) ?_
      refine lv_iload_n hx hb dX6_dipIt_88 rfl (lv_at hl 0 rfl) ?_
      refine m_vI (As := [.int (nI i), .int (m_grow it (F i))]) (rest := [.int (it 0), .int 0, .ref (ad 54)]) (n := 2) hF hC hO hS (k_X6_waxOf l G lo sa ad R th g nf F f no O it ch i (m_grow it (F i)) hnf hno (by omega)) ok_X6_waxOf q_785 rfl rfl ⟨Nat.le_of_ble_eq_true rfl, Nat.le_of_ble_eq_true rfl⟩ rfl hl.1 rfl (Nat.le_of_ble_eq_true rfl) ⟨Nat.le_of_ble_eq_true rfl, Nat.le_of_ble_eq_true rfl⟩ dX6_dipIt_89 (fun v89 R' H locs hp hO hS => ?_)
      obtain ⟨rfl, hR⟩ := hp
      rw [hR] at hO
      refine lv_isub hx hb dX6_dipIt_92 ?_
      refine m_iast hF hC hO hS rfl (j := 0) (by decide) (vp_in_nI (n := 0) (by decide) (by decide)) dX6_dipIt_93 (fun H locs hO hS => ?_)
      have hO : mO G lo ad (mU (WM G ad th g nf F f no O it ch R) 54 (.inl (G.2 0, 5, .inl (upd it 0 ((it 0) - (p_wax (F i) (m_grow it (F i)))))))) H := hO
      rw [WM_w4] at hO
      refine lv_aload_n hx hb dX6_dipIt_94 rfl (lv_at hl 1 rfl) ?_
      refine m_get inX6 hF hC hO rfl rfl 12 (by decide) q_674 (v := .ref (ad 54)) rfl dX6_dipIt_95 ?_
      refine lv_iconst (v := 2) hx hb dX6_dipIt_98 (by decide) ?_
      refine lv_dup2_11 hx hb dX6_dipIt_99 rfl rfl ?_
      refine m_iald hF hC hO rfl (j := 2) (by decide) (vp_in_nI (n := 2) (by decide) (by decide)) dX6_dipIt_100 ?_
      rw [show ((upd it 0 ((it 0) - (p_wax (F i) (m_grow it (F i))))) 2) = (it 2) from rfl]
      refine lv_iload_n hx hb dX6_dipIt_101 rfl (lv_at hl 0 rfl) ?_
      refine lv_iadd hx hb dX6_dipIt_102 ?_
      refine m_iast hF hC hO hS rfl (j := 2) (by decide) (vp_in_nI (n := 2) (by decide) (by decide)) dX6_dipIt_103 (fun H locs hO hS => ?_)
      have hO : mO G lo ad (mU (WM G ad th g nf F f no O (upd it 0 ((it 0) - (p_wax (F i) (m_grow it (F i))))) ch R) 54 (.inl (G.2 0, 5, .inl (upd (upd it 0 ((it 0) - (p_wax (F i) (m_grow it (F i))))) 2 ((it 2) + (m_grow it (F i))))))) H := hO
      rw [WM_w4] at hO
      refine lv_aload_n hx hb dX6_dipIt_104 rfl (lv_at hl 1 rfl) ?_
      refine m_get inX6 hF hC hO rfl rfl 12 (by decide) q_674 (v := .ref (ad 54)) rfl dX6_dipIt_105 ?_
      refine lv_iconst (v := 3) hx hb dX6_dipIt_108 (by decide) ?_
      refine lv_bipush (v := 100) hx hb dX6_dipIt_109 (by decide) ?_
      refine lv_aload_n hx hb dX6_dipIt_111 rfl (lv_at hl 1 rfl) ?_
      refine m_get inX6 hF hC hO rfl rfl 12 (by decide) q_674 (v := .ref (ad 54)) rfl dX6_dipIt_112 ?_
      refine lv_iconst (v := 3) hx hb dX6_dipIt_115 (by decide) ?_
      refine m_iald hF hC hO rfl (j := 3) (by decide) (vp_in_nI (n := 3) (by decide) (by decide)) dX6_dipIt_116 ?_
      rw [show ((upd (upd it 0 ((it 0) - (p_wax (F i) (m_grow it (F i))))) 2 ((it 2) + (m_grow it (F i)))) 3) = (it 3) from rfl]
      refine lv_aload_n hx hb dX6_dipIt_117 rfl (lv_at hl 1 rfl) ?_
      refine m_get inX6 hF hC hO rfl rfl 12 (by decide) q_674 (v := .ref (ad 54)) rfl dX6_dipIt_118 ?_
      refine lv_iconst (v := 1) hx hb dX6_dipIt_121 (by decide) ?_
      refine m_iald hF hC hO rfl (j := 1) (by decide) (vp_in_nI (n := 1) (by decide) (by decide)) dX6_dipIt_122 ?_
      rw [show ((upd (upd it 0 ((it 0) - (p_wax (F i) (m_grow it (F i))))) 2 ((it 2) + (m_grow it (F i)))) 1) = (it 1) from rfl]
      refine lv_iadd hx hb dX6_dipIt_123 ?_
      refine lv_iconst (v := 2) hx hb dX6_dipIt_124 (by decide) ?_
      refine lv_idiv hx hb dX6_dipIt_125 (by decide) ?_
      refine m_min hF hl.1 q_784 q_168 q_14 q_169 (Nat.le_of_ble_eq_true rfl) (Nat.le_of_ble_eq_true rfl) ⟨Nat.le_of_ble_eq_true rfl, Nat.le_of_ble_eq_true rfl⟩ dX6_dipIt_126 ?_
      refine m_iast hF hC hO hS rfl (j := 3) (by decide) (vp_in_nI (n := 3) (by decide) (by decide)) dX6_dipIt_129 (fun H locs hO hS => ?_)
      have hO : mO G lo ad (mU (WM G ad th g nf F f no O (upd (upd it 0 ((it 0) - (p_wax (F i) (m_grow it (F i))))) 2 ((it 2) + (m_grow it (F i)))) ch R) 54 (.inl (G.2 0, 5, .inl (upd (upd (upd it 0 ((it 0) - (p_wax (F i) (m_grow it (F i))))) 2 ((it 2) + (m_grow it (F i)))) 3 (jmin 100 (((it 3) + (it 1)) / 2)))))) H := hO
      rw [WM_w4] at hO
      refine m_vret hF hr hlk hQ hO hS dX6_dipIt_130 ?_
      rw [m_dip, if_neg (Int32.not_lt.mpr c14), if_neg (fun h => absurd h.1 (Int32.not_lt.mpr c58))]
    · refine lv_aload_n hx hb dX6_dipIt_61 rfl (lv_at hl 1 rfl) ?_
      refine m_get inX6 hF hC hO rfl rfl 12 (by decide) q_674 (v := .ref (ad 54)) rfl dX6_dipIt_62 ?_
      refine lv_iconst (v := 3) hx hb dX6_dipIt_65 (by decide) ?_
      refine m_iald hF hC hO rfl (j := 3) (by decide) (vp_in_nI (n := 3) (by decide) (by decide)) dX6_dipIt_66 ?_
      refine lv_bipush (v := 10) hx hb dX6_dipIt_67 (by decide) ?_
      refine lv_icmp_ge (tgt := 79) hx hb dX6_dipIt_69 (by decide) (fun c69 => ?_) (fun c69 => ?_)
      · refine lv_aload_n hx hb dX6_dipIt_79 rfl (lv_at hl 1 rfl) ?_
        refine m_get inX6 hF hC hO rfl rfl 12 (by decide) q_674 (v := .ref (ad 54)) rfl dX6_dipIt_80 ?_
        refine lv_iconst (v := 0) hx hb dX6_dipIt_83 (by decide) ?_
        refine lv_dup2_11 hx hb dX6_dipIt_84 rfl rfl ?_
        refine m_iald hF hC hO rfl (j := 0) (by decide) (vp_in_nI (n := 0) (by decide) (by decide)) dX6_dipIt_85 ?_
        refine lv_aload_n hx hb dX6_dipIt_86 rfl (lv_at hl 1 rfl) ?_
        refine lv_iload_n hx hb dX6_dipIt_87 rfl (lv_at hl 2 rfl) ?_
        refine lv_iload_n hx hb dX6_dipIt_88 rfl (lv_at hl 0 rfl) ?_
        refine m_vI (As := [.int (nI i), .int (m_grow it (F i))]) (rest := [.int (it 0), .int 0, .ref (ad 54)]) (n := 2) hF hC hO hS (k_X6_waxOf l G lo sa ad R th g nf F f no O it ch i (m_grow it (F i)) hnf hno (by omega)) ok_X6_waxOf q_785 rfl rfl ⟨Nat.le_of_ble_eq_true rfl, Nat.le_of_ble_eq_true rfl⟩ rfl hl.1 rfl (Nat.le_of_ble_eq_true rfl) ⟨Nat.le_of_ble_eq_true rfl, Nat.le_of_ble_eq_true rfl⟩ dX6_dipIt_89 (fun v89 R' H locs hp hO hS => ?_)
        obtain ⟨rfl, hR⟩ := hp
        rw [hR] at hO
        refine lv_isub hx hb dX6_dipIt_92 ?_
        refine m_iast hF hC hO hS rfl (j := 0) (by decide) (vp_in_nI (n := 0) (by decide) (by decide)) dX6_dipIt_93 (fun H locs hO hS => ?_)
        have hO : mO G lo ad (mU (WM G ad th g nf F f no O it ch R) 54 (.inl (G.2 0, 5, .inl (upd it 0 ((it 0) - (p_wax (F i) (m_grow it (F i)))))))) H := hO
        rw [WM_w4] at hO
        refine lv_aload_n hx hb dX6_dipIt_94 rfl (lv_at hl 1 rfl) ?_
        refine m_get inX6 hF hC hO rfl rfl 12 (by decide) q_674 (v := .ref (ad 54)) rfl dX6_dipIt_95 ?_
        refine lv_iconst (v := 2) hx hb dX6_dipIt_98 (by decide) ?_
        refine lv_dup2_11 hx hb dX6_dipIt_99 rfl rfl ?_
        refine m_iald hF hC hO rfl (j := 2) (by decide) (vp_in_nI (n := 2) (by decide) (by decide)) dX6_dipIt_100 ?_
        rw [show ((upd it 0 ((it 0) - (p_wax (F i) (m_grow it (F i))))) 2) = (it 2) from rfl]
        refine lv_iload_n hx hb dX6_dipIt_101 rfl (lv_at hl 0 rfl) ?_
        refine lv_iadd hx hb dX6_dipIt_102 ?_
        refine m_iast hF hC hO hS rfl (j := 2) (by decide) (vp_in_nI (n := 2) (by decide) (by decide)) dX6_dipIt_103 (fun H locs hO hS => ?_)
        have hO : mO G lo ad (mU (WM G ad th g nf F f no O (upd it 0 ((it 0) - (p_wax (F i) (m_grow it (F i))))) ch R) 54 (.inl (G.2 0, 5, .inl (upd (upd it 0 ((it 0) - (p_wax (F i) (m_grow it (F i))))) 2 ((it 2) + (m_grow it (F i))))))) H := hO
        rw [WM_w4] at hO
        refine lv_aload_n hx hb dX6_dipIt_104 rfl (lv_at hl 1 rfl) ?_
        refine m_get inX6 hF hC hO rfl rfl 12 (by decide) q_674 (v := .ref (ad 54)) rfl dX6_dipIt_105 ?_
        refine lv_iconst (v := 3) hx hb dX6_dipIt_108 (by decide) ?_
        refine lv_bipush (v := 100) hx hb dX6_dipIt_109 (by decide) ?_
        refine lv_aload_n hx hb dX6_dipIt_111 rfl (lv_at hl 1 rfl) ?_
        refine m_get inX6 hF hC hO rfl rfl 12 (by decide) q_674 (v := .ref (ad 54)) rfl dX6_dipIt_112 ?_
        refine lv_iconst (v := 3) hx hb dX6_dipIt_115 (by decide) ?_
        refine m_iald hF hC hO rfl (j := 3) (by decide) (vp_in_nI (n := 3) (by decide) (by decide)) dX6_dipIt_116 ?_
        rw [show ((upd (upd it 0 ((it 0) - (p_wax (F i) (m_grow it (F i))))) 2 ((it 2) + (m_grow it (F i)))) 3) = (it 3) from rfl]
        refine lv_aload_n hx hb dX6_dipIt_117 rfl (lv_at hl 1 rfl) ?_
        refine m_get inX6 hF hC hO rfl rfl 12 (by decide) q_674 (v := .ref (ad 54)) rfl dX6_dipIt_118 ?_
        refine lv_iconst (v := 1) hx hb dX6_dipIt_121 (by decide) ?_
        refine m_iald hF hC hO rfl (j := 1) (by decide) (vp_in_nI (n := 1) (by decide) (by decide)) dX6_dipIt_122 ?_
        rw [show ((upd (upd it 0 ((it 0) - (p_wax (F i) (m_grow it (F i))))) 2 ((it 2) + (m_grow it (F i)))) 1) = (it 1) from rfl]
        refine lv_iadd hx hb dX6_dipIt_123 ?_
        refine lv_iconst (v := 2) hx hb dX6_dipIt_124 (by decide) ?_
        refine lv_idiv hx hb dX6_dipIt_125 (by decide) ?_
        refine m_min hF hl.1 q_784 q_168 q_14 q_169 (Nat.le_of_ble_eq_true rfl) (Nat.le_of_ble_eq_true rfl) ⟨Nat.le_of_ble_eq_true rfl, Nat.le_of_ble_eq_true rfl⟩ dX6_dipIt_126 ?_
        refine m_iast hF hC hO hS rfl (j := 3) (by decide) (vp_in_nI (n := 3) (by decide) (by decide)) dX6_dipIt_129 (fun H locs hO hS => ?_)
        have hO : mO G lo ad (mU (WM G ad th g nf F f no O (upd (upd it 0 ((it 0) - (p_wax (F i) (m_grow it (F i))))) 2 ((it 2) + (m_grow it (F i)))) ch R) 54 (.inl (G.2 0, 5, .inl (upd (upd (upd it 0 ((it 0) - (p_wax (F i) (m_grow it (F i))))) 2 ((it 2) + (m_grow it (F i)))) 3 (jmin 100 (((it 3) + (it 1)) / 2)))))) H := hO
        rw [WM_w4] at hO
        refine m_vret hF hr hlk hQ hO hS dX6_dipIt_130 ?_
        rw [m_dip, if_neg (Int32.not_lt.mpr c14), if_neg (fun h => absurd h.2 (Int32.not_lt.mpr c69))]
      · refine lv_aload_n hx hb dX6_dipIt_72 rfl (lv_at hl 1 rfl) ?_
        refine m_get inX6 hF hC hO rfl rfl 12 (by decide) q_674 (v := .ref (ad 54)) rfl dX6_dipIt_73 ?_
        refine lv_iconst (v := 4) hx hb dX6_dipIt_76 (by decide) ?_
        refine lv_iconst (v := 1) hx hb dX6_dipIt_77 (by decide) ?_
        refine m_iast hF hC hO hS rfl (j := 4) (by decide) (vp_in_nI (n := 4) (by decide) (by decide)) dX6_dipIt_78 (fun H locs hO hS => ?_)
        have hO : mO G lo ad (mU (WM G ad th g nf F f no O it ch R) 54 (.inl (G.2 0, 5, .inl (upd it 4 1)))) H := hO
        rw [WM_w4] at hO
        refine lv_aload_n hx hb dX6_dipIt_79 rfl (lv_at hl 1 rfl) ?_
        refine m_get inX6 hF hC hO rfl rfl 12 (by decide) q_674 (v := .ref (ad 54)) rfl dX6_dipIt_80 ?_
        refine lv_iconst (v := 0) hx hb dX6_dipIt_83 (by decide) ?_
        refine lv_dup2_11 hx hb dX6_dipIt_84 rfl rfl ?_
        refine m_iald hF hC hO rfl (j := 0) (by decide) (vp_in_nI (n := 0) (by decide) (by decide)) dX6_dipIt_85 ?_
        rw [show ((upd it 4 1) 0) = (it 0) from rfl]
        refine lv_aload_n hx hb dX6_dipIt_86 rfl (lv_at hl 1 rfl) ?_
        refine lv_iload_n hx hb dX6_dipIt_87 rfl (lv_at hl 2 rfl) ?_
        refine lv_iload_n hx hb dX6_dipIt_88 rfl (lv_at hl 0 rfl) ?_
        refine m_vI (As := [.int (nI i), .int (m_grow it (F i))]) (rest := [.int (it 0), .int 0, .ref (ad 54)]) (n := 2) hF hC hO hS (k_X6_waxOf l G lo sa ad R th g nf F f no O (upd it 4 1) ch i (m_grow it (F i)) hnf hno (by omega)) ok_X6_waxOf q_785 rfl rfl ⟨Nat.le_of_ble_eq_true rfl, Nat.le_of_ble_eq_true rfl⟩ rfl hl.1 rfl (Nat.le_of_ble_eq_true rfl) ⟨Nat.le_of_ble_eq_true rfl, Nat.le_of_ble_eq_true rfl⟩ dX6_dipIt_89 (fun v89 R' H locs hp hO hS => ?_)
        obtain ⟨rfl, hR⟩ := hp
        rw [hR] at hO
        refine lv_isub hx hb dX6_dipIt_92 ?_
        refine m_iast hF hC hO hS rfl (j := 0) (by decide) (vp_in_nI (n := 0) (by decide) (by decide)) dX6_dipIt_93 (fun H locs hO hS => ?_)
        have hO : mO G lo ad (mU (WM G ad th g nf F f no O (upd it 4 1) ch R) 54 (.inl (G.2 0, 5, .inl (upd (upd it 4 1) 0 ((it 0) - (p_wax (F i) (m_grow it (F i)))))))) H := hO
        rw [WM_w4] at hO
        refine lv_aload_n hx hb dX6_dipIt_94 rfl (lv_at hl 1 rfl) ?_
        refine m_get inX6 hF hC hO rfl rfl 12 (by decide) q_674 (v := .ref (ad 54)) rfl dX6_dipIt_95 ?_
        refine lv_iconst (v := 2) hx hb dX6_dipIt_98 (by decide) ?_
        refine lv_dup2_11 hx hb dX6_dipIt_99 rfl rfl ?_
        refine m_iald hF hC hO rfl (j := 2) (by decide) (vp_in_nI (n := 2) (by decide) (by decide)) dX6_dipIt_100 ?_
        rw [show ((upd (upd it 4 1) 0 ((it 0) - (p_wax (F i) (m_grow it (F i))))) 2) = (it 2) from rfl]
        refine lv_iload_n hx hb dX6_dipIt_101 rfl (lv_at hl 0 rfl) ?_
        refine lv_iadd hx hb dX6_dipIt_102 ?_
        refine m_iast hF hC hO hS rfl (j := 2) (by decide) (vp_in_nI (n := 2) (by decide) (by decide)) dX6_dipIt_103 (fun H locs hO hS => ?_)
        have hO : mO G lo ad (mU (WM G ad th g nf F f no O (upd (upd it 4 1) 0 ((it 0) - (p_wax (F i) (m_grow it (F i))))) ch R) 54 (.inl (G.2 0, 5, .inl (upd (upd (upd it 4 1) 0 ((it 0) - (p_wax (F i) (m_grow it (F i))))) 2 ((it 2) + (m_grow it (F i))))))) H := hO
        rw [WM_w4] at hO
        refine lv_aload_n hx hb dX6_dipIt_104 rfl (lv_at hl 1 rfl) ?_
        refine m_get inX6 hF hC hO rfl rfl 12 (by decide) q_674 (v := .ref (ad 54)) rfl dX6_dipIt_105 ?_
        refine lv_iconst (v := 3) hx hb dX6_dipIt_108 (by decide) ?_
        refine lv_bipush (v := 100) hx hb dX6_dipIt_109 (by decide) ?_
        refine lv_aload_n hx hb dX6_dipIt_111 rfl (lv_at hl 1 rfl) ?_
        refine m_get inX6 hF hC hO rfl rfl 12 (by decide) q_674 (v := .ref (ad 54)) rfl dX6_dipIt_112 ?_
        refine lv_iconst (v := 3) hx hb dX6_dipIt_115 (by decide) ?_
        refine m_iald hF hC hO rfl (j := 3) (by decide) (vp_in_nI (n := 3) (by decide) (by decide)) dX6_dipIt_116 ?_
        rw [show ((upd (upd (upd it 4 1) 0 ((it 0) - (p_wax (F i) (m_grow it (F i))))) 2 ((it 2) + (m_grow it (F i)))) 3) = (it 3) from rfl]
        refine lv_aload_n hx hb dX6_dipIt_117 rfl (lv_at hl 1 rfl) ?_
        refine m_get inX6 hF hC hO rfl rfl 12 (by decide) q_674 (v := .ref (ad 54)) rfl dX6_dipIt_118 ?_
        refine lv_iconst (v := 1) hx hb dX6_dipIt_121 (by decide) ?_
        refine m_iald hF hC hO rfl (j := 1) (by decide) (vp_in_nI (n := 1) (by decide) (by decide)) dX6_dipIt_122 ?_
        rw [show ((upd (upd (upd it 4 1) 0 ((it 0) - (p_wax (F i) (m_grow it (F i))))) 2 ((it 2) + (m_grow it (F i)))) 1) = (it 1) from rfl]
        refine lv_iadd hx hb dX6_dipIt_123 ?_
        refine lv_iconst (v := 2) hx hb dX6_dipIt_124 (by decide) ?_
        refine lv_idiv hx hb dX6_dipIt_125 (by decide) ?_
        refine m_min hF hl.1 q_784 q_168 q_14 q_169 (Nat.le_of_ble_eq_true rfl) (Nat.le_of_ble_eq_true rfl) ⟨Nat.le_of_ble_eq_true rfl, Nat.le_of_ble_eq_true rfl⟩ dX6_dipIt_126 ?_
        refine m_iast hF hC hO hS rfl (j := 3) (by decide) (vp_in_nI (n := 3) (by decide) (by decide)) dX6_dipIt_129 (fun H locs hO hS => ?_)
        have hO : mO G lo ad (mU (WM G ad th g nf F f no O (upd (upd (upd it 4 1) 0 ((it 0) - (p_wax (F i) (m_grow it (F i))))) 2 ((it 2) + (m_grow it (F i)))) ch R) 54 (.inl (G.2 0, 5, .inl (upd (upd (upd (upd it 4 1) 0 ((it 0) - (p_wax (F i) (m_grow it (F i))))) 2 ((it 2) + (m_grow it (F i)))) 3 (jmin 100 (((it 3) + (it 1)) / 2)))))) H := hO
        rw [WM_w4] at hO
        refine m_vret hF hr hlk hQ hO hS dX6_dipIt_130 ?_
        rw [m_dip, if_neg (Int32.not_lt.mpr c14), if_pos ⟨Int32.not_le.mp c58, Int32.not_le.mp c69⟩]
  · refine lv_aload_n hx hb dX6_dipIt_17 rfl (lv_at hl 1 rfl) ?_
    refine m_get inX6 hF hC hO rfl rfl 12 (by decide) q_674 (v := .ref (ad 54)) rfl dX6_dipIt_18 ?_
    refine lv_iconst (v := 2) hx hb dX6_dipIt_21 (by decide) ?_
    refine lv_dup2_11 hx hb dX6_dipIt_22 rfl rfl ?_
    refine m_iald hF hC hO rfl (j := 2) (by decide) (vp_in_nI (n := 2) (by decide) (by decide)) dX6_dipIt_23 ?_
    refine lv_iload_n hx hb dX6_dipIt_24 rfl (lv_at hl 0 rfl) ?_
    refine lv_iadd hx hb dX6_dipIt_25 ?_
    refine m_iast hF hC hO hS rfl (j := 2) (by decide) (vp_in_nI (n := 2) (by decide) (by decide)) dX6_dipIt_26 (fun H locs hO hS => ?_)
    have hO : mO G lo ad (mU (WM G ad th g nf F f no O it ch R) 54 (.inl (G.2 0, 5, .inl (upd it 2 ((it 2) + (m_grow it (F i))))))) H := hO
    rw [WM_w4] at hO
    refine lv_aload_n hx hb dX6_dipIt_27 rfl (lv_at hl 1 rfl) ?_
    refine m_get inX6 hF hC hO rfl rfl 12 (by decide) q_674 (v := .ref (ad 54)) rfl dX6_dipIt_28 ?_
    refine lv_iconst (v := 2) hx hb dX6_dipIt_31 (by decide) ?_
    refine m_iald hF hC hO rfl (j := 2) (by decide) (vp_in_nI (n := 2) (by decide) (by decide)) dX6_dipIt_32 ?_
    rw [show ((upd it 2 ((it 2) + (m_grow it (F i)))) 2) = ((it 2) + (m_grow it (F i))) from rfl]
    refine lv_if_ne (tgt := 43) hx hb dX6_dipIt_33 (by decide) (fun c33 => ?_) (fun c33 => ?_)
    · refine lv_aload_n hx hb dX6_dipIt_43 rfl (lv_at hl 1 rfl) ?_
      refine m_get inX6 hF hC hO rfl rfl 12 (by decide) q_674 (v := .ref (ad 54)) rfl dX6_dipIt_44 ?_
      refine lv_iconst (v := 3) hx hb dX6_dipIt_47 (by decide) ?_
      refine lv_bipush (v := 100) hx hb dX6_dipIt_48 (by decide) ?_
      refine m_iast hF hC hO hS rfl (j := 3) (by decide) (vp_in_nI (n := 3) (by decide) (by decide)) dX6_dipIt_50 (fun H locs hO hS => ?_)
      have hO : mO G lo ad (mU (WM G ad th g nf F f no O (upd it 2 ((it 2) + (m_grow it (F i)))) ch R) 54 (.inl (G.2 0, 5, .inl (upd (upd it 2 ((it 2) + (m_grow it (F i)))) 3 100)))) H := hO
      rw [WM_w4] at hO
      refine m_vret hF hr hlk hQ hO hS dX6_dipIt_51 ?_
      first | rw [m_dip, if_pos (Int32.not_le.mp c14), if_pos c33] | rw [m_dip, if_pos (Int32.not_le.mp c14), if_neg c33]
    · refine lv_aload_n hx hb dX6_dipIt_36 rfl (lv_at hl 1 rfl) ?_
      refine m_get inX6 hF hC hO rfl rfl 12 (by decide) q_674 (v := .ref (ad 54)) rfl dX6_dipIt_37 ?_
      refine lv_iconst (v := 4) hx hb dX6_dipIt_40 (by decide) ?_
      refine lv_iconst (v := 0) hx hb dX6_dipIt_41 (by decide) ?_
      refine m_iast hF hC hO hS rfl (j := 4) (by decide) (vp_in_nI (n := 4) (by decide) (by decide)) dX6_dipIt_42 (fun H locs hO hS => ?_)
      have hO : mO G lo ad (mU (WM G ad th g nf F f no O (upd it 2 ((it 2) + (m_grow it (F i)))) ch R) 54 (.inl (G.2 0, 5, .inl (upd (upd it 2 ((it 2) + (m_grow it (F i)))) 4 0)))) H := hO
      rw [WM_w4] at hO
      refine lv_aload_n hx hb dX6_dipIt_43 rfl (lv_at hl 1 rfl) ?_
      refine m_get inX6 hF hC hO rfl rfl 12 (by decide) q_674 (v := .ref (ad 54)) rfl dX6_dipIt_44 ?_
      refine lv_iconst (v := 3) hx hb dX6_dipIt_47 (by decide) ?_
      refine lv_bipush (v := 100) hx hb dX6_dipIt_48 (by decide) ?_
      refine m_iast hF hC hO hS rfl (j := 3) (by decide) (vp_in_nI (n := 3) (by decide) (by decide)) dX6_dipIt_50 (fun H locs hO hS => ?_)
      have hO : mO G lo ad (mU (WM G ad th g nf F f no O (upd (upd it 2 ((it 2) + (m_grow it (F i)))) 4 0) ch R) 54 (.inl (G.2 0, 5, .inl (upd (upd (upd it 2 ((it 2) + (m_grow it (F i)))) 4 0) 3 100)))) H := hO
      rw [WM_w4] at hO
      refine m_vret hF hr hlk hQ hO hS dX6_dipIt_51 ?_
      first | rw [m_dip, if_pos (Int32.not_le.mp c14), if_pos c33] | rw [m_dip, if_pos (Int32.not_le.mp c14), if_neg c33]
theorem ok_X6_heatBehind : mOK RX6 yX6_heatBehind cX6_heatBehind 3 (some .int) 1 := ⟨q_799, qs_31, q_6, q_800, by decide +kernel⟩
set_option maxHeartbeats 400000 in
set_option maxRecDepth 100000 in
theorem k_X6_heatBehind (l : Launch) (G : mG) (lo : Nat) (sa ad : Nat → Nat) (R : mM) (th : Int32) (g : Nat → Int32) (nf : Nat) (F : Nat → Nat → Int32) (f : Nat → Int32) (no : Nat) (O : Nat → Nat → Int32) (it ch : Nat → Int32) (h : Int32) (hnf : nf ≤ 12) (hno : no ≤ 20) : mI l yX6_heatBehind cX6_heatBehind 3 .int 1 21 G lo sa ad (WM G ad th g nf F f no O it ch R) [.ref (ad 50), .int h] (fun v R' => v = (p_burn (g 2) h) ∧ R' = (WM G ad th g nf F f no O it ch R)) := by
  refine mI_of (by decide) (Nat.le_of_ble_eq_true rfl) ?_
  intro p e s m args below meth c hF hr hlk hC ls hl hO hS Q hQ
  have hx := hF.1
  have hb := hF.2.1
  have hl : lv_has ls 3 [(0, .ref (ad 50)), (1, .int h)] := hl
  refine lv_iload_n hx hb dX6_heatBehind_0 rfl (lv_at hl 1 rfl) ?_
  refine lv_bipush (v := 6) hx hb dX6_heatBehind_1 (by decide) ?_
  refine lv_aload_n hx hb dX6_heatBehind_3 rfl (lv_at hl 0 rfl) ?_
  refine m_get inX6 hF hC hO rfl rfl 3 (by decide) q_665 (v := .int (g 2)) rfl dX6_heatBehind_4 ?_
  refine lv_imul hx hb dX6_heatBehind_7 ?_
  refine lv_iadd hx hb dX6_heatBehind_8 ?_
  refine lv_istore_n (lv' := [(2, .int (h + (6 * (g 2)))), (0, .ref (ad 50)), (1, .int h)]) hx hb dX6_heatBehind_9 rfl hl (by decide) rfl (fun ls hl => ?_)
  refine lv_iconst (v := 0) hx hb dX6_heatBehind_10 (by decide) ?_
  refine lv_bipush (v := 120) hx hb dX6_heatBehind_11 (by decide) ?_
  refine lv_iload_n hx hb dX6_heatBehind_13 rfl (lv_at hl 0 rfl) ?_
  refine lv_iload_n hx hb dX6_heatBehind_14 rfl (lv_at hl 0 rfl) ?_
  refine lv_bipush (v := 20) hx hb dX6_heatBehind_15 (by decide) ?_
  refine lv_isub hx hb dX6_heatBehind_17 ?_
  refine lv_bipush (v := 10) hx hb dX6_heatBehind_18 (by decide) ?_
  refine lv_idiv hx hb dX6_heatBehind_20 (by decide) ?_
  refine lv_isub hx hb dX6_heatBehind_21 ?_
  refine m_min hF hl.1 q_784 q_168 q_14 q_169 (Nat.le_of_ble_eq_true rfl) (Nat.le_of_ble_eq_true rfl) ⟨Nat.le_of_ble_eq_true rfl, Nat.le_of_ble_eq_true rfl⟩ dX6_heatBehind_22 ?_
  refine m_max hF hl.1 q_801 q_458 q_14 q_459 (Nat.le_of_ble_eq_true rfl) (Nat.le_of_ble_eq_true rfl) ⟨Nat.le_of_ble_eq_true rfl, Nat.le_of_ble_eq_true rfl⟩ dX6_heatBehind_25 ?_
  refine m_iret hF hr hlk hQ rfl hO hS dX6_heatBehind_28 ?_
  exact ⟨rfl, rfl⟩
theorem ok_X6_cools : mOK RX6 yX6_cools cX6_cools 2 (some .int) 1 := ⟨q_804, qs_32, q_6, q_805, by decide +kernel⟩
set_option maxHeartbeats 400000 in
set_option maxRecDepth 100000 in
theorem k_X6_cools (l : Launch) (G : mG) (lo : Nat) (sa ad : Nat → Nat) (R : mM) (th : Int32) (g : Nat → Int32) (nf : Nat) (F : Nat → Nat → Int32) (f : Nat → Int32) (no : Nat) (O : Nat → Nat → Int32) (it ch : Nat → Int32) (i : Nat) (hnf : nf ≤ 12) (hno : no ≤ 20) (hi : i < 12) : mI l yX6_cools cX6_cools 2 .int 1 22 G lo sa ad (WM G ad th g nf F f no O it ch R) [.ref (ad 50), .int (nI i)] (fun v R' => v = (p_cooling (F i)) ∧ R' = (WM G ad th g nf F f no O it ch R)) := by
  refine mI_of (by decide) (Nat.le_of_ble_eq_true rfl) ?_
  intro p e s m args below meth c hF hr hlk hC ls hl hO hS Q hQ
  have hx := hF.1
  have hb := hF.2.1
  have hl : lv_has ls 2 [(0, .ref (ad 50)), (1, .int (nI i))] := hl
  refine lv_aload_n hx hb dX6_cools_0 rfl (lv_at hl 0 rfl) ?_
  refine lv_iload_n hx hb dX6_cools_1 rfl (lv_at hl 1 rfl) ?_
  refine lv_iconst (v := 5) hx hb dX6_cools_2 (by decide) ?_
  refine m_vI (As := [.int (nI i), .int 5]) (rest := []) (n := 2) hF hC hO hS (k_X6_fr l G lo sa ad R th g nf F f no O it ch i 5 hnf hno (by omega) (by omega)) ok_X6_fr q_752 rfl rfl ⟨Nat.le_of_ble_eq_true rfl, Nat.le_of_ble_eq_true rfl⟩ rfl hl.1 rfl (Nat.le_of_ble_eq_true rfl) ⟨Nat.le_of_ble_eq_true rfl, Nat.le_of_ble_eq_true rfl⟩ dX6_cools_3 (fun v3 R' H locs hp hO hS => ?_)
  obtain ⟨rfl, hR⟩ := hp
  rw [hR] at hO
  refine lv_iconst (v := -1) hx hb dX6_cools_6 (by decide) ?_
  refine lv_icmp_ne (tgt := 14) hx hb dX6_cools_7 (by decide) (fun c7 => ?_) (fun c7 => ?_)
  · refine lv_aload_n hx hb dX6_cools_14 rfl (lv_at hl 0 rfl) ?_
    refine lv_iload_n hx hb dX6_cools_15 rfl (lv_at hl 1 rfl) ?_
    refine lv_iconst (v := 5) hx hb dX6_cools_16 (by decide) ?_
    refine m_vI (As := [.int (nI i), .int 5]) (rest := []) (n := 2) hF hC hO hS (k_X6_fr l G lo sa ad R th g nf F f no O it ch i 5 hnf hno (by omega) (by omega)) ok_X6_fr q_752 rfl rfl ⟨Nat.le_of_ble_eq_true rfl, Nat.le_of_ble_eq_true rfl⟩ rfl hl.1 rfl (Nat.le_of_ble_eq_true rfl) ⟨Nat.le_of_ble_eq_true rfl, Nat.le_of_ble_eq_true rfl⟩ dX6_cools_17 (fun v17 R' H locs hp hO hS => ?_)
    obtain ⟨rfl, hR⟩ := hp
    rw [hR] at hO
    refine lv_bipush (v := 6) hx hb dX6_cools_20 (by decide) ?_
    refine lv_icmp_ge (tgt := 30) hx hb dX6_cools_22 (by decide) (fun c22 => ?_) (fun c22 => ?_)
    · refine lv_bipush (v := 6) hx hb dX6_cools_30 (by decide) ?_
      refine m_iret hF hr hlk hQ rfl hO hS dX6_cools_32 ?_
      exact ⟨by first | rw [p_cooling, if_pos c7] | rw [p_cooling, if_neg c7, if_pos (Int32.not_le.mp c22)] | rw [p_cooling, if_neg c7, if_neg (Int32.not_lt.mpr c22)], rfl⟩
    · refine lv_bipush (v := 12) hx hb dX6_cools_25 (by decide) ?_
      refine lv_goto (tgt := 32) hx hb dX6_cools_27 (by decide) ?_
      refine m_iret hF hr hlk hQ rfl hO hS dX6_cools_32 ?_
      exact ⟨by first | rw [p_cooling, if_pos c7] | rw [p_cooling, if_neg c7, if_pos (Int32.not_le.mp c22)] | rw [p_cooling, if_neg c7, if_neg (Int32.not_lt.mpr c22)], rfl⟩
  · refine lv_iconst (v := 3) hx hb dX6_cools_10 (by decide) ?_
    refine lv_goto (tgt := 32) hx hb dX6_cools_11 (by decide) ?_
    refine m_iret hF hr hlk hQ rfl hO hS dX6_cools_32 ?_
    exact ⟨by first | rw [p_cooling, if_pos c7] | rw [p_cooling, if_neg c7, if_pos (Int32.not_le.mp c22)] | rw [p_cooling, if_neg c7, if_neg (Int32.not_lt.mpr c22)], rfl⟩
theorem ok_X6_hangs : mOK RX6 yX6_hangs cX6_hangs 2 (some .boolean) 1 := ⟨q_774, qs_25, q_6, q_775, by decide +kernel⟩
set_option maxHeartbeats 400000 in
set_option maxRecDepth 100000 in
theorem k_X6_hangs (l : Launch) (G : mG) (lo : Nat) (sa ad : Nat → Nat) (R : mM) (th : Int32) (g : Nat → Int32) (nf : Nat) (F : Nat → Nat → Int32) (f : Nat → Int32) (no : Nat) (O : Nat → Nat → Int32) (it ch : Nat → Int32) (i : Nat) (hnf : nf ≤ 12) (hno : no ≤ 20) (hi : i < 12) : mI l yX6_hangs cX6_hangs 2 .boolean 1 22 G lo sa ad (WM G ad th g nf F f no O it ch R) [.ref (ad 50), .int (nI i)] (fun v R' => mBo (F i 5 ≠ -1) v ∧ R' = (WM G ad th g nf F f no O it ch R)) := by
  refine mI_of (by decide) (Nat.le_of_ble_eq_true rfl) ?_
  intro p e s m args below meth c hF hr hlk hC ls hl hO hS Q hQ
  have hx := hF.1
  have hb := hF.2.1
  have hl : lv_has ls 2 [(0, .ref (ad 50)), (1, .int (nI i))] := hl
  refine lv_aload_n hx hb dX6_hangs_0 rfl (lv_at hl 0 rfl) ?_
  refine lv_iload_n hx hb dX6_hangs_1 rfl (lv_at hl 1 rfl) ?_
  refine lv_iconst (v := 5) hx hb dX6_hangs_2 (by decide) ?_
  refine m_vI (As := [.int (nI i), .int 5]) (rest := []) (n := 2) hF hC hO hS (k_X6_fr l G lo sa ad R th g nf F f no O it ch i 5 hnf hno (by omega) (by omega)) ok_X6_fr q_752 rfl rfl ⟨Nat.le_of_ble_eq_true rfl, Nat.le_of_ble_eq_true rfl⟩ rfl hl.1 rfl (Nat.le_of_ble_eq_true rfl) ⟨Nat.le_of_ble_eq_true rfl, Nat.le_of_ble_eq_true rfl⟩ dX6_hangs_3 (fun v3 R' H locs hp hO hS => ?_)
  obtain ⟨rfl, hR⟩ := hp
  rw [hR] at hO
  refine lv_iconst (v := -1) hx hb dX6_hangs_6 (by decide) ?_
  refine lv_icmp_eq (tgt := 14) hx hb dX6_hangs_7 (by decide) (fun c7 => ?_) (fun c7 => ?_)
  · refine lv_iconst (v := 0) hx hb dX6_hangs_14 (by decide) ?_
    refine m_iret hF hr hlk hQ rfl hO hS dX6_hangs_15 ?_
    exact ⟨mBo_f (fun h => h c7), rfl⟩
  · refine lv_iconst (v := 1) hx hb dX6_hangs_10 (by decide) ?_
    refine lv_goto (tgt := 15) hx hb dX6_hangs_11 (by decide) ?_
    refine m_iret hF hr hlk hQ rfl hO hS dX6_hangs_15 ?_
    exact ⟨mBo_t c7, rfl⟩
theorem ok_X6_frameTold : mOK RX6 yX6_frameTold cX6_frameTold 3 (some .int) 2 := ⟨q_823, qs_34, q_6, q_824, by decide +kernel⟩
set_option maxHeartbeats 400000 in
set_option maxRecDepth 100000 in
theorem k_X6_frameTold (l : Launch) (G : mG) (lo : Nat) (sa ad : Nat → Nat) (R : mM) (th : Int32) (g : Nat → Int32) (nf : Nat) (F : Nat → Nat → Int32) (f : Nat → Int32) (no : Nat) (O : Nat → Nat → Int32) (it ch : Nat → Int32) (i k : Nat) (hnf : nf ≤ 12) (hno : no ≤ 20) (hi : i < 12) (hk8 : k < 8) : mI l yX6_frameTold cX6_frameTold 3 .int 2 42 G lo sa ad (WM G ad th g nf F f no O it ch R) [.ref (ad 50), .int (nI i), .int (nI k)] (fun v R' => v = (m_frame (F i) k) ∧ R' = (WM G ad th g nf F f no O it ch R)) := by
  refine mI_of (by decide) (Nat.le_of_ble_eq_true rfl) ?_
  intro p e s m args below meth c hF hr hlk hC ls hl hO hS Q hQ
  have hx := hF.1
  have hb := hF.2.1
  have hl : lv_has ls 3 [(0, .ref (ad 50)), (1, .int (nI i)), (2, .int (nI k))] := hl
  refine lv_iload_n hx hb dX6_frameTold_0 rfl (lv_at hl 2 rfl) ?_
  refine lv_bipush (v := 7) hx hb dX6_frameTold_1 (by decide) ?_
  refine lv_icmp_ge (tgt := 15) hx hb dX6_frameTold_3 (by decide) (fun c3 => ?_) (fun c3 => ?_)
  · refine lv_aload_n hx hb dX6_frameTold_15 rfl (lv_at hl 0 rfl) ?_
    refine lv_iload_n hx hb dX6_frameTold_16 rfl (lv_at hl 1 rfl) ?_
    refine lv_iconst (v := 2) hx hb dX6_frameTold_17 (by decide) ?_
    refine m_vI (As := [.int (nI i), .int 2]) (rest := []) (n := 2) hF hC hO hS (k_X6_fr l G lo sa ad R th g nf F f no O it ch i 2 hnf hno (by omega) (by omega)) ok_X6_fr q_752 rfl rfl ⟨Nat.le_of_ble_eq_true rfl, Nat.le_of_ble_eq_true rfl⟩ rfl hl.1 rfl (Nat.le_of_ble_eq_true rfl) ⟨Nat.le_of_ble_eq_true rfl, Nat.le_of_ble_eq_true rfl⟩ dX6_frameTold_18 (fun v18 R' H locs hp hO hS => ?_)
    obtain ⟨rfl, hR⟩ := hp
    rw [hR] at hO
    refine lv_aload_n hx hb dX6_frameTold_21 rfl (lv_at hl 0 rfl) ?_
    refine lv_iload_n hx hb dX6_frameTold_22 rfl (lv_at hl 1 rfl) ?_
    refine lv_iconst (v := 4) hx hb dX6_frameTold_23 (by decide) ?_
    refine m_vI (As := [.int (nI i), .int 4]) (rest := [.int (F i 2)]) (n := 2) hF hC hO hS (k_X6_fr l G lo sa ad R th g nf F f no O it ch i 4 hnf hno (by omega) (by omega)) ok_X6_fr q_752 rfl rfl ⟨Nat.le_of_ble_eq_true rfl, Nat.le_of_ble_eq_true rfl⟩ rfl hl.1 rfl (Nat.le_of_ble_eq_true rfl) ⟨Nat.le_of_ble_eq_true rfl, Nat.le_of_ble_eq_true rfl⟩ dX6_frameTold_24 (fun v24 R' H locs hp hO hS => ?_)
    obtain ⟨rfl, hR⟩ := hp
    rw [hR] at hO
    refine m_sI (As := [.int (F i 2), .int (F i 4)]) (rest := []) (n := 2) hF hC hO hS (k_X6_size l G lo sa ad _ (F i 2) (F i 4) ) ok_X6_size q_814 ⟨Nat.le_of_ble_eq_true rfl, Nat.le_of_ble_eq_true rfl⟩ rfl hl.1 rfl (Nat.le_of_ble_eq_true rfl) ⟨Nat.le_of_ble_eq_true rfl, Nat.le_of_ble_eq_true rfl⟩ dX6_frameTold_27 (fun v27 R' H locs hp hO hS => ?_)
    obtain ⟨rfl, hR⟩ := hp
    rw [hR] at hO
    refine m_iret hF hr hlk hQ rfl hO hS dX6_frameTold_30 ?_
    exact ⟨by first | rw [m_frame, if_pos (nI_nE (a := 7) (b := k) (by decide) (by omega) c3)] | rw [m_frame, if_neg (Nat.not_lt.mpr (nI_E (a := 7) (b := k) (by decide) (by omega) c3))], rfl⟩
  · refine lv_aload_n hx hb dX6_frameTold_6 rfl (lv_at hl 0 rfl) ?_
    refine lv_iload_n hx hb dX6_frameTold_7 rfl (lv_at hl 1 rfl) ?_
    refine lv_iload_n hx hb dX6_frameTold_8 rfl (lv_at hl 2 rfl) ?_
    refine m_vI (As := [.int (nI i), .int (nI k)]) (rest := []) (n := 2) hF hC hO hS (k_X6_fr l G lo sa ad R th g nf F f no O it ch i k hnf hno (by omega) (nI_nE (a := 7) (b := k) (by decide) (by omega) c3)) ok_X6_fr q_752 rfl rfl ⟨Nat.le_of_ble_eq_true rfl, Nat.le_of_ble_eq_true rfl⟩ rfl hl.1 rfl (Nat.le_of_ble_eq_true rfl) ⟨Nat.le_of_ble_eq_true rfl, Nat.le_of_ble_eq_true rfl⟩ dX6_frameTold_9 (fun v9 R' H locs hp hO hS => ?_)
    obtain ⟨rfl, hR⟩ := hp
    rw [hR] at hO
    refine lv_goto (tgt := 30) hx hb dX6_frameTold_12 (by decide) ?_
    refine m_iret hF hr hlk hQ rfl hO hS dX6_frameTold_30 ?_
    exact ⟨by first | rw [m_frame, if_pos (nI_nE (a := 7) (b := k) (by decide) (by omega) c3)] | rw [m_frame, if_neg (Nat.not_lt.mpr (nI_E (a := 7) (b := k) (by decide) (by omega) c3))], rfl⟩
theorem ok_X6_enough : mOK RX6 yX6_enough cX6_enough 5 (some .int) 2 := ⟨q_847, qs_36, q_6, q_848, by decide +kernel⟩
set_option maxHeartbeats 400000 in
set_option maxRecDepth 100000 in
theorem k_X6_enough (l : Launch) (G : mG) (lo : Nat) (sa ad : Nat → Nat) (R : mM) (th : Int32) (g : Nat → Int32) (nf : Nat) (F : Nat → Nat → Int32) (f : Nat → Int32) (no : Nat) (O : Nat → Nat → Int32) (it ch : Nat → Int32) (k z : Nat) (hnf : nf ≤ 12) (hno : no ≤ 20) (hk : k < 4) (hz1 : 1 ≤ z) (hz9 : z ≤ 9) : mI l yX6_enough cX6_enough 5 .int 0 0 G lo sa ad (WM G ad th g nf F f no O it ch R) [.ref (ad 50), .int (nI k), .int (nI z)] (fun v R' => v = (p_amountFrom f k z) ∧ R' = (WM G ad th g nf F f no O it ch R)) := by
  refine mI_of (by decide) (Nat.le_of_ble_eq_true rfl) ?_
  intro p e s m args below meth c hF hr hlk hC ls hl hO hS Q hQ
  have hx := hF.1
  have hb := hF.2.1
  have hl : lv_has ls 5 [(0, .ref (ad 50)), (1, .int (nI k)), (2, .int (nI z))] := hl
  refine lv_iconst (v := 0) hx hb dX6_enough_0 (by decide) ?_
  refine lv_istore_n (lv' := [(3, .int 0), (0, .ref (ad 50)), (1, .int (nI k)), (2, .int (nI z))]) hx hb dX6_enough_1 rfl hl (by decide) rfl (fun ls hl => ?_)
  refine lv_iload_n hx hb dX6_enough_2 rfl (lv_at hl 3 rfl) ?_
  refine lv_istore (lv' := [(4, .int (nI z)), (3, .int 0), (0, .ref (ad 50)), (1, .int (nI k)), (2, .int (nI z))]) hx hb dX6_enough_3 hl (by decide) rfl (fun ls hl => ?_)
  have L5 : ∀ (n : Nat) (i : Nat) (acc : Int32) (H : Heap) (locs : List Loc) (ls : Array Slot), 10 - i < n → i ≤ 10 → 1 ≤ i → p_from (10 - i) f k i acc = p_amountFrom f k z → lv_has ls 5 [(0, .ref (ad 50)), (1, .int (nI k)), (4, .int (nI i)), (3, .int acc)] → mO G lo ad (WM G ad th g nf F f no O it ch R) H → va_S (mA lo) s.heap H locs → W p l e (mRm 0 0) s m args below meth c H locs 0 0 Q (F0 m 5 ls []) := by
    intro n
    induction n with
    | zero => intro i acc H locs ls hn; exact absurd hn (Nat.not_lt_zero _)
    | succ n ih5 =>
      intro i acc H locs ls hn5 hi hi1 hv hl hO hS
      refine lv_iload hx hb dX6_enough_5 (lv_at hl 2 rfl) ?_
      refine lv_bipush (v := 10) hx hb dX6_enough_7 (by decide) ?_
      refine lv_icmp_ge (tgt := 33) hx hb dX6_enough_9 (by decide) (fun c9 => ?_) (fun c9 => ?_)
      · refine lv_iload_n hx hb dX6_enough_33 rfl (lv_at hl 3 rfl) ?_
        refine m_iret hF hr hlk hQ rfl hO hS dX6_enough_34 ?_
        have e : i = 10 := Nat.le_antisymm hi (nI_E (a := 10) (b := i) (by decide) (by omega) c9)
        subst e
        exact ⟨hv, rfl⟩
      · refine lv_iload_n hx hb dX6_enough_12 rfl (lv_at hl 3 rfl) ?_
        refine lv_aload_n hx hb dX6_enough_13 rfl (lv_at hl 0 rfl) ?_
        refine m_get inX6 hF hC hO rfl rfl 6 (by decide) q_668 (v := .ref (ad 52)) rfl dX6_enough_14 ?_
        refine lv_bipush (v := 10) hx hb dX6_enough_17 (by decide) ?_
        refine lv_iload_n hx hb dX6_enough_19 rfl (lv_at hl 1 rfl) ?_
        refine lv_imul hx hb dX6_enough_20 ?_
        refine lv_iload hx hb dX6_enough_21 (lv_at hl 2 rfl) ?_
        refine lv_iadd hx hb dX6_enough_23 ?_
        refine m_iald hF hC hO rfl (j := (10 * k + i)) (by rw [p_ixS]; exact nI_clamp (by omega)) (by have := (nI_nE (a := 10) (b := i) (by decide) (by omega) c9); rw [p_ixS]; exact vp_in_nI (by omega) (by decide)) dX6_enough_24 ?_
        rw [show ((stF f) (10 * k + i)) = (f (9 * k + i - 1)) from st_rd hi1 (by have := (nI_nE (a := 10) (b := i) (by decide) (by omega) c9); omega)]
        refine lv_iadd hx hb dX6_enough_25 ?_
        refine lv_istore_n (lv' := [(3, .int (acc + (f (9 * k + i - 1)))), (0, .ref (ad 50)), (1, .int (nI k)), (4, .int (nI i))]) hx hb dX6_enough_26 rfl hl (by decide) rfl (fun ls hl => ?_)
        refine lv_iinc (v := (nI (i + 1))) (lv' := [(4, .int (nI (i + 1))), (3, .int (acc + (f (9 * k + i - 1)))), (0, .ref (ad 50)), (1, .int (nI k))]) hx hb dX6_enough_27 hl (k := 3) rfl (nI_inc i) (by decide) rfl (fun ls hl => ?_)
        refine lv_goto (tgt := 5) hx hb dX6_enough_30 (by decide) ?_
        exact ih5 (i + 1) (acc + f (9 * k + i - 1)) _ _ _ (by have := (nI_nE (a := 10) (b := i) (by decide) (by omega) c9); omega) (by have := (nI_nE (a := 10) (b := i) (by decide) (by omega) c9); omega) (by omega) (by have := (nI_nE (a := 10) (b := i) (by decide) (by omega) c9); rw [← hv, show 10 - i = (10 - (i + 1)) + 1 from by omega]; rfl) (lv_sub hl [2, 3, 0, 1] rfl) hO hS
  exact L5 _ z 0 _ _ _ (Nat.lt_succ_self _) (by omega) hz1 rfl (lv_sub hl [2, 3, 0, 1] rfl) hO hS
theorem ok_X6_inStore : mOK RX6 yX6_inStore cX6_inStore 6 (some .int) 0 := ⟨q_851, qs_37, q_6, q_852, by decide +kernel⟩
set_option maxHeartbeats 400000 in
set_option maxRecDepth 100000 in
theorem k_X6_inStore (l : Launch) (G : mG) (lo : Nat) (sa ad : Nat → Nat) (R : mM) (th : Int32) (g : Nat → Int32) (nf : Nat) (F : Nat → Nat → Int32) (f : Nat → Int32) (no : Nat) (O : Nat → Nat → Int32) (it ch : Nat → Int32) (hnf : nf ≤ 12) (hno : no ≤ 20) : mI l yX6_inStore cX6_inStore 6 .int 0 0 G lo sa ad (WM G ad th g nf F f no O it ch R) [.ref (ad 50)] (fun v R' => v = (p_sum 40 (stF f) 0 0) ∧ R' = (WM G ad th g nf F f no O it ch R)) := by
  refine mI_of (by decide) (Nat.le_of_ble_eq_true rfl) ?_
  intro p e s m args below meth c hF hr hlk hC ls hl hO hS Q hQ
  have hx := hF.1
  have hb := hF.2.1
  have hl : lv_has ls 6 [(0, .ref (ad 50))] := hl
  refine lv_iconst (v := 0) hx hb dX6_inStore_0 (by decide) ?_
  refine lv_istore_n (lv' := [(1, .int 0), (0, .ref (ad 50))]) hx hb dX6_inStore_1 rfl hl (by decide) rfl (fun ls hl => ?_)
  refine lv_aload_n hx hb dX6_inStore_2 rfl (lv_at hl 1 rfl) ?_
  refine m_get inX6 hF hC hO rfl rfl 6 (by decide) q_668 (v := .ref (ad 52)) rfl dX6_inStore_3 ?_
  refine lv_astore_n (lv' := [(2, .ref (ad 52)), (1, .int 0), (0, .ref (ad 50))]) hx hb dX6_inStore_6 rfl hl (by decide) rfl (fun ls hl => ?_)
  refine lv_aload_n hx hb dX6_inStore_7 rfl (lv_at hl 0 rfl) ?_
  refine m_alen 0 hF hC hO rfl rfl (v := 40) rfl dX6_inStore_8 ?_
  refine lv_istore_n (lv' := [(3, .int 40), (2, .ref (ad 52)), (1, .int 0), (0, .ref (ad 50))]) hx hb dX6_inStore_9 rfl hl (by decide) rfl (fun ls hl => ?_)
  refine lv_iconst (v := 0) hx hb dX6_inStore_10 (by decide) ?_
  refine lv_istore (lv' := [(4, .int 0), (3, .int 40), (2, .ref (ad 52)), (1, .int 0), (0, .ref (ad 50))]) hx hb dX6_inStore_11 hl (by decide) rfl (fun ls hl => ?_)
  have L13 : ∀ (n : Nat) (i : Nat) (acc : Int32) (H : Heap) (locs : List Loc) (ls : Array Slot), 40 - i < n → i ≤ 40 → p_sum (40 - i) (stF f) i acc = p_sum 40 (stF f) 0 0 → lv_has ls 6 [(0, .ref (ad 50)), (2, .ref (ad 52)), (3, .int 40), (4, .int (nI i)), (1, .int acc)] → mO G lo ad (WM G ad th g nf F f no O it ch R) H → va_S (mA lo) s.heap H locs → W p l e (mRm 0 0) s m args below meth c H locs 0 0 Q (F0 m 13 ls []) := by
    intro n
    induction n with
    | zero => intro i acc H locs ls hn; exact absurd hn (Nat.not_lt_zero _)
    | succ n ih13 =>
      intro i acc H locs ls hn13 hi hv hl hO hS
      refine lv_iload hx hb dX6_inStore_13 (lv_at hl 3 rfl) ?_
      refine lv_iload_n hx hb dX6_inStore_15 rfl (lv_at hl 2 rfl) ?_
      refine lv_icmp_ge (tgt := 36) hx hb dX6_inStore_16 (by decide) (fun c16 => ?_) (fun c16 => ?_)
      · refine lv_iload_n hx hb dX6_inStore_36 rfl (lv_at hl 4 rfl) ?_
        refine m_iret hF hr hlk hQ rfl hO hS dX6_inStore_37 ?_
        have e : i = 40 := Nat.le_antisymm hi (nI_E (a := 40) (b := i) (by decide) (by omega) c16)
        subst e
        exact ⟨hv, rfl⟩
      · refine lv_aload_n hx hb dX6_inStore_19 rfl (lv_at hl 1 rfl) ?_
        refine lv_iload hx hb dX6_inStore_20 (lv_at hl 3 rfl) ?_
        refine m_iald hF hC hO rfl (j := i) (nI_clamp (by omega)) (vp_in_nI (nI_nE (a := 40) (b := i) (by decide) (by omega) c16) (by decide)) dX6_inStore_22 ?_
        refine lv_istore (lv' := [(5, .int ((stF f) i)), (0, .ref (ad 50)), (2, .ref (ad 52)), (3, .int 40), (4, .int (nI i)), (1, .int acc)]) hx hb dX6_inStore_23 hl (by decide) rfl (fun ls hl => ?_)
        refine lv_iload_n hx hb dX6_inStore_25 rfl (lv_at hl 5 rfl) ?_
        refine lv_iload hx hb dX6_inStore_26 (lv_at hl 0 rfl) ?_
        refine lv_iadd hx hb dX6_inStore_28 ?_
        refine lv_istore_n (lv' := [(1, .int (acc + ((stF f) i))), (5, .int ((stF f) i)), (0, .ref (ad 50)), (2, .ref (ad 52)), (3, .int 40), (4, .int (nI i))]) hx hb dX6_inStore_29 rfl hl (by decide) rfl (fun ls hl => ?_)
        refine lv_iinc (v := (nI (i + 1))) (lv' := [(4, .int (nI (i + 1))), (1, .int (acc + ((stF f) i))), (5, .int ((stF f) i)), (0, .ref (ad 50)), (2, .ref (ad 52)), (3, .int 40)]) hx hb dX6_inStore_30 hl (k := 5) rfl (nI_inc i) (by decide) rfl (fun ls hl => ?_)
        refine lv_goto (tgt := 13) hx hb dX6_inStore_33 (by decide) ?_
        exact ih13 (i + 1) (acc + stF f i) _ _ _ (by have := (nI_nE (a := 40) (b := i) (by decide) (by omega) c16); omega) (by have := (nI_nE (a := 40) (b := i) (by decide) (by omega) c16); omega) (by have := (nI_nE (a := 40) (b := i) (by decide) (by omega) c16); rw [← hv, show 40 - i = (40 - (i + 1)) + 1 from by omega]; rfl) (lv_sub hl [3, 4, 5, 0, 1] rfl) hO hS
  exact L13 _ 0 0 _ _ _ (Nat.lt_succ_self _) (by omega) rfl (lv_sub hl [4, 2, 1, 0, 3] rfl) hO hS
theorem ok_X6_canFill : mOK RX6 yX6_canFill cX6_canFill 2 (some .boolean) 1 := ⟨q_843, qs_35, q_6, q_844, by decide +kernel⟩
set_option maxHeartbeats 400000 in
set_option maxRecDepth 100000 in
theorem k_X6_canFill (l : Launch) (G : mG) (lo : Nat) (sa ad : Nat → Nat) (R : mM) (th : Int32) (g : Nat → Int32) (nf : Nat) (F : Nat → Nat → Int32) (f : Nat → Int32) (no : Nat) (O : Nat → Nat → Int32) (it ch : Nat → Int32) (i k z : Nat) (hnf : nf ≤ 12) (hno : no ≤ 20) (hi : i < 20) (hk : k < 4) (hz1 : 1 ≤ z) (hz9 : z ≤ 9) (hw0 : O i 0 = nI k) (hw1 : O i 1 = nI z) : mI l yX6_canFill cX6_canFill 2 .boolean 1 24 G lo sa ad (WM G ad th g nf F f no O it ch R) [.ref (ad 50), .int (nI i)] (fun v R' => mBo (O i 4 ≠ 1 ∧ O i 2 ≤ p_amountFrom f k z) v ∧ R' = (WM G ad th g nf F f no O it ch R)) := by
  refine mI_of (by decide) (Nat.le_of_ble_eq_true rfl) ?_
  intro p e s m args below meth c hF hr hlk hC ls hl hO hS Q hQ
  have hx := hF.1
  have hb := hF.2.1
  have hl : lv_has ls 2 [(0, .ref (ad 50)), (1, .int (nI i))] := hl
  refine lv_aload_n hx hb dX6_canFill_0 rfl (lv_at hl 0 rfl) ?_
  refine lv_iload_n hx hb dX6_canFill_1 rfl (lv_at hl 1 rfl) ?_
  refine lv_iconst (v := 4) hx hb dX6_canFill_2 (by decide) ?_
  refine m_vI (As := [.int (nI i), .int 4]) (rest := []) (n := 2) hF hC hO hS (k_X6_or l G lo sa ad R th g nf F f no O it ch i 4 hnf hno (by omega) (by omega)) ok_X6_or q_806 rfl rfl ⟨Nat.le_of_ble_eq_true rfl, Nat.le_of_ble_eq_true rfl⟩ rfl hl.1 rfl (Nat.le_of_ble_eq_true rfl) ⟨Nat.le_of_ble_eq_true rfl, Nat.le_of_ble_eq_true rfl⟩ dX6_canFill_3 (fun v3 R' H locs hp hO hS => ?_)
  obtain ⟨rfl, hR⟩ := hp
  rw [hR] at hO
  refine lv_iconst (v := 1) hx hb dX6_canFill_6 (by decide) ?_
  refine lv_icmp_eq (tgt := 39) hx hb dX6_canFill_7 (by decide) (fun c7 => ?_) (fun c7 => ?_)
  · refine lv_iconst (v := 0) hx hb dX6_canFill_39 (by decide) ?_
    refine m_iret hF hr hlk hQ rfl hO hS dX6_canFill_40 ?_
    first | exact ⟨mBo_f (fun h => absurd h.2 (Int32.not_le.mpr c32)), rfl⟩ | exact ⟨mBo_f (fun h => h.1 c7), rfl⟩
  · refine lv_aload_n hx hb dX6_canFill_10 rfl (lv_at hl 0 rfl) ?_
    refine lv_aload_n hx hb dX6_canFill_11 rfl (lv_at hl 0 rfl) ?_
    refine lv_iload_n hx hb dX6_canFill_12 rfl (lv_at hl 1 rfl) ?_
    refine lv_iconst (v := 0) hx hb dX6_canFill_13 (by decide) ?_
    refine m_vI (As := [.int (nI i), .int 0]) (rest := [.ref (ad 50)]) (n := 2) hF hC hO hS (k_X6_or l G lo sa ad R th g nf F f no O it ch i 0 hnf hno (by omega) (by omega)) ok_X6_or q_806 rfl rfl ⟨Nat.le_of_ble_eq_true rfl, Nat.le_of_ble_eq_true rfl⟩ rfl hl.1 rfl (Nat.le_of_ble_eq_true rfl) ⟨Nat.le_of_ble_eq_true rfl, Nat.le_of_ble_eq_true rfl⟩ dX6_canFill_14 (fun v14 R' H locs hp hO hS => ?_)
    obtain ⟨rfl, hR⟩ := hp
    rw [hR] at hO
    refine lv_aload_n hx hb dX6_canFill_17 rfl (lv_at hl 0 rfl) ?_
    refine lv_iload_n hx hb dX6_canFill_18 rfl (lv_at hl 1 rfl) ?_
    refine lv_iconst (v := 1) hx hb dX6_canFill_19 (by decide) ?_
    refine m_vI (As := [.int (nI i), .int 1]) (rest := [.int (O i 0), .ref (ad 50)]) (n := 2) hF hC hO hS (k_X6_or l G lo sa ad R th g nf F f no O it ch i 1 hnf hno (by omega) (by omega)) ok_X6_or q_806 rfl rfl ⟨Nat.le_of_ble_eq_true rfl, Nat.le_of_ble_eq_true rfl⟩ rfl hl.1 rfl (Nat.le_of_ble_eq_true rfl) ⟨Nat.le_of_ble_eq_true rfl, Nat.le_of_ble_eq_true rfl⟩ dX6_canFill_20 (fun v20 R' H locs hp hO hS => ?_)
    obtain ⟨rfl, hR⟩ := hp
    rw [hR] at hO
    rw [hw0, hw1]
    refine m_vI (As := [.int (nI k), .int (nI z)]) (rest := []) (n := 2) hF hC hO hS (k_X6_enough l G lo sa ad R th g nf F f no O it ch k z hnf hno (by omega) (by omega) (by omega)) ok_X6_enough q_845 rfl rfl ⟨Nat.le_of_ble_eq_true rfl, Nat.le_of_ble_eq_true rfl⟩ rfl hl.1 rfl (Nat.le_of_ble_eq_true rfl) ⟨Nat.le_of_ble_eq_true rfl, Nat.le_of_ble_eq_true rfl⟩ dX6_canFill_23 (fun v23 R' H locs hp hO hS => ?_)
    obtain ⟨rfl, hR⟩ := hp
    rw [hR] at hO
    refine lv_aload_n hx hb dX6_canFill_26 rfl (lv_at hl 0 rfl) ?_
    refine lv_iload_n hx hb dX6_canFill_27 rfl (lv_at hl 1 rfl) ?_
    refine lv_iconst (v := 2) hx hb dX6_canFill_28 (by decide) ?_
    refine m_vI (As := [.int (nI i), .int 2]) (rest := [.int (p_amountFrom f k z)]) (n := 2) hF hC hO hS (k_X6_or l G lo sa ad R th g nf F f no O it ch i 2 hnf hno (by omega) (by omega)) ok_X6_or q_806 rfl rfl ⟨Nat.le_of_ble_eq_true rfl, Nat.le_of_ble_eq_true rfl⟩ rfl hl.1 rfl (Nat.le_of_ble_eq_true rfl) ⟨Nat.le_of_ble_eq_true rfl, Nat.le_of_ble_eq_true rfl⟩ dX6_canFill_29 (fun v29 R' H locs hp hO hS => ?_)
    obtain ⟨rfl, hR⟩ := hp
    rw [hR] at hO
    refine lv_icmp_lt (tgt := 39) hx hb dX6_canFill_32 (by decide) (fun c32 => ?_) (fun c32 => ?_)
    · refine lv_iconst (v := 0) hx hb dX6_canFill_39 (by decide) ?_
      refine m_iret hF hr hlk hQ rfl hO hS dX6_canFill_40 ?_
      first | exact ⟨mBo_f (fun h => absurd h.2 (Int32.not_le.mpr c32)), rfl⟩ | exact ⟨mBo_f (fun h => h.1 c7), rfl⟩
    · refine lv_iconst (v := 1) hx hb dX6_canFill_35 (by decide) ?_
      refine lv_goto (tgt := 40) hx hb dX6_canFill_36 (by decide) ?_
      refine m_iret hF hr hlk hQ rfl hO hS dX6_canFill_40 ?_
      exact ⟨mBo_t ⟨c7, Int32.not_lt.mp c32⟩, rfl⟩
theorem ok_X6_with : mOK RX6 yX6_with cX6_with 4 (some .int) 1 := ⟨q_875, qs_40, q_6, q_876, by decide +kernel⟩
set_option maxHeartbeats 400000 in
set_option maxRecDepth 100000 in
theorem k_X6_with (l : Launch) (G : mG) (lo : Nat) (sa ad : Nat → Nat) (R : mM) (th : Int32) (g : Nat → Int32) (nf : Nat) (F : Nat → Nat → Int32) (f : Nat → Int32) (no : Nat) (O : Nat → Nat → Int32) (it ch : Nat → Int32) (x : Int32) (hnf : nf ≤ 12) (hno : no ≤ 20) : mI l yX6_with cX6_with 4 .int 1 22 G lo sa ad (WM G ad th g nf F f no O it ch R) [.ref (ad 50), .int x] (fun v R' => v = (m_with no O x) ∧ R' = (WM G ad th g nf F f no O it ch R)) := by
  refine mI_of (by decide) (Nat.le_of_ble_eq_true rfl) ?_
  intro p e s m args below meth c hF hr hlk hC ls hl hO hS Q hQ
  have hx := hF.1
  have hb := hF.2.1
  have hl : lv_has ls 4 [(0, .ref (ad 50)), (1, .int x)] := hl
  refine lv_iconst (v := 0) hx hb dX6_with_0 (by decide) ?_
  refine lv_istore_n (lv' := [(2, .int 0), (0, .ref (ad 50)), (1, .int x)]) hx hb dX6_with_1 rfl hl (by decide) rfl (fun ls hl => ?_)
  refine lv_iconst (v := 0) hx hb dX6_with_2 (by decide) ?_
  refine lv_istore_n (lv' := [(3, .int 0), (2, .int 0), (0, .ref (ad 50)), (1, .int x)]) hx hb dX6_with_3 rfl hl (by decide) rfl (fun ls hl => ?_)
  have L4 : ∀ (n : Nat) (i : Nat) (acc : Int32) (H : Heap) (locs : List Loc) (ls : Array Slot), no - i < n → i ≤ no → m_withL (no - i) i O x acc = m_with no O x → lv_has ls 4 [(0, .ref (ad 50)), (1, .int x), (3, .int (nI i)), (2, .int acc)] → mO G lo ad (WM G ad th g nf F f no O it ch R) H → va_S (mA lo) s.heap H locs → W p l e (mRm 1 22) s m args below meth c H locs 0 0 Q (F0 m 4 ls []) := by
    intro n
    induction n with
    | zero => intro i acc H locs ls hn; exact absurd hn (Nat.not_lt_zero _)
    | succ n ih4 =>
      intro i acc H locs ls hn4 hi hv hl hO hS
      refine lv_iload_n hx hb dX6_with_4 rfl (lv_at hl 2 rfl) ?_
      refine lv_aload_n hx hb dX6_with_5 rfl (lv_at hl 0 rfl) ?_
      refine m_get inX6 hF hC hO rfl rfl 7 (by decide) q_669 (v := .int (nI no)) rfl dX6_with_6 ?_
      refine lv_icmp_ge (tgt := 36) hx hb dX6_with_9 (by decide) (fun c9 => ?_) (fun c9 => ?_)
      · refine lv_iload_n hx hb dX6_with_36 rfl (lv_at hl 3 rfl) ?_
        refine m_iret hF hr hlk hQ rfl hO hS dX6_with_37 ?_
        have e : i = no := Nat.le_antisymm hi (nI_E (a := no) (b := i) (by omega) (by omega) c9)
        subst e
        rw [Nat.sub_self] at hv
        exact ⟨hv, rfl⟩
      · refine lv_iload_n hx hb dX6_with_12 rfl (lv_at hl 3 rfl) ?_
        refine lv_aload_n hx hb dX6_with_13 rfl (lv_at hl 0 rfl) ?_
        refine lv_iload_n hx hb dX6_with_14 rfl (lv_at hl 2 rfl) ?_
        refine lv_iconst (v := 4) hx hb dX6_with_15 (by decide) ?_
        refine m_vI (As := [.int (nI i), .int 4]) (rest := [.int acc]) (n := 2) hF hC hO hS (k_X6_or l G lo sa ad R th g nf F f no O it ch i 4 hnf hno (by have := (nI_nE (a := no) (b := i) (by omega) (by omega) c9); omega) (by omega)) ok_X6_or q_806 rfl rfl ⟨Nat.le_of_ble_eq_true rfl, Nat.le_of_ble_eq_true rfl⟩ rfl hl.1 rfl (Nat.le_of_ble_eq_true rfl) ⟨Nat.le_of_ble_eq_true rfl, Nat.le_of_ble_eq_true rfl⟩ dX6_with_16 (fun v16 R' H locs hp hO hS => ?_)
        obtain ⟨rfl, hR⟩ := hp
        rw [hR] at hO
        refine lv_iload_n hx hb dX6_with_19 rfl (lv_at hl 1 rfl) ?_
        refine lv_icmp_ne (tgt := 27) hx hb dX6_with_20 (by decide) (fun c20 => ?_) (fun c20 => ?_)
        · refine lv_iconst (v := 0) hx hb dX6_with_27 (by decide) ?_
          refine lv_iadd hx hb dX6_with_28 ?_
          refine lv_istore_n (lv' := [(2, .int (acc + 0)), (0, .ref (ad 50)), (1, .int x), (3, .int (nI i))]) hx hb dX6_with_29 rfl hl (by decide) rfl (fun ls hl => ?_)
          refine lv_iinc (v := (nI (i + 1))) (lv' := [(3, .int (nI (i + 1))), (2, .int (acc + 0)), (0, .ref (ad 50)), (1, .int x)]) hx hb dX6_with_30 hl (k := 3) rfl (nI_inc i) (by decide) rfl (fun ls hl => ?_)
          refine lv_goto (tgt := 4) hx hb dX6_with_33 (by decide) ?_
          exact ih4 (i + 1) (acc + 0) _ _ _ (by have := (nI_nE (a := no) (b := i) (by omega) (by omega) c9); omega) (by have := (nI_nE (a := no) (b := i) (by omega) (by omega) c9); omega) (by have := (nI_nE (a := no) (b := i) (by omega) (by omega) c9); rw [← hv, show no - i = (no - (i + 1)) + 1 from by omega, m_withL, if_neg c20]) (lv_sub hl [2, 3, 0, 1] rfl) hO hS
        · refine lv_iconst (v := 1) hx hb dX6_with_23 (by decide) ?_
          refine lv_goto (tgt := 28) hx hb dX6_with_24 (by decide) ?_
          refine lv_iadd hx hb dX6_with_28 ?_
          refine lv_istore_n (lv' := [(2, .int (acc + 1)), (0, .ref (ad 50)), (1, .int x), (3, .int (nI i))]) hx hb dX6_with_29 rfl hl (by decide) rfl (fun ls hl => ?_)
          refine lv_iinc (v := (nI (i + 1))) (lv' := [(3, .int (nI (i + 1))), (2, .int (acc + 1)), (0, .ref (ad 50)), (1, .int x)]) hx hb dX6_with_30 hl (k := 3) rfl (nI_inc i) (by decide) rfl (fun ls hl => ?_)
          refine lv_goto (tgt := 4) hx hb dX6_with_33 (by decide) ?_
          exact ih4 (i + 1) (acc + 1) _ _ _ (by have := (nI_nE (a := no) (b := i) (by omega) (by omega) c9); omega) (by have := (nI_nE (a := no) (b := i) (by omega) (by omega) c9); omega) (by have := (nI_nE (a := no) (b := i) (by omega) (by omega) c9); rw [← hv, show no - i = (no - (i + 1)) + 1 from by omega, m_withL, if_pos c20]) (lv_sub hl [2, 3, 0, 1] rfl) hO hS
  exact L4 _ 0 0 _ _ _ (Nat.lt_succ_self _) (by omega) rfl (lv_sub hl [2, 3, 0, 1] rfl) hO hS
end
section
theorem zz_t : True := trivial
end
