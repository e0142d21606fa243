section
-- ===== PART A: goes FIRST, ahead of the names: the tables' words, and 'selects' of the private methods out of them =====
/-- a private method of a class that the tables say can be made, by its rows of tables_1 -/
def lw_okq (q : MethodName × Nat) : Prop := (q.1.cls ≠ "java/lang/invoke/MethodHandle" ∧ q.1.cls ≠ "java/lang/invoke/VarHandle") ∧ Cond.instantiable q.1.cls q.2 ∈ tables_1 ∧ Cond.privateMethod q.1 ∈ tables_1 ∧ Cond.instanceMethod q.1 ∈ tables_1
theorem lw_p0 : lw_okq (⟨"LentPiles$Pad", "faultOfPart", "(I)I"⟩, 10) := ⟨⟨by decide +kernel, by decide +kernel⟩, List.mem_of_getElem? (i := 69) (by decide +kernel), List.mem_of_getElem? (i := 221) (by decide +kernel), List.mem_of_getElem? (i := 222) (by decide +kernel)⟩
theorem lw_p1 : lw_okq (⟨"LentPiles$Pad", "signAt", "(I)C"⟩, 10) := ⟨⟨by decide +kernel, by decide +kernel⟩, List.mem_of_getElem? (i := 69) (by decide +kernel), List.mem_of_getElem? (i := 225) (by decide +kernel), List.mem_of_getElem? (i := 226) (by decide +kernel)⟩
theorem lw_p2 : lw_okq (⟨"LentPiles$Pad", "takePart", "(I)I"⟩, 10) := ⟨⟨by decide +kernel, by decide +kernel⟩, List.mem_of_getElem? (i := 69) (by decide +kernel), List.mem_of_getElem? (i := 235) (by decide +kernel), List.mem_of_getElem? (i := 236) (by decide +kernel)⟩
theorem lw_p3 : lw_okq (⟨"LentPiles$Pad", "addPart", "(IIII)V"⟩, 10) := ⟨⟨by decide +kernel, by decide +kernel⟩, List.mem_of_getElem? (i := 69) (by decide +kernel), List.mem_of_getElem? (i := 239) (by decide +kernel), List.mem_of_getElem? (i := 240) (by decide +kernel)⟩
theorem lw_p4 : lw_okq (⟨"LentPiles$Pad", "performPart", "(LLentPiles$Valley;I)I"⟩, 10) := ⟨⟨by decide +kernel, by decide +kernel⟩, List.mem_of_getElem? (i := 69) (by decide +kernel), List.mem_of_getElem? (i := 258) (by decide +kernel), List.mem_of_getElem? (i := 259) (by decide +kernel)⟩
theorem lw_p5 : lw_okq (⟨"LentPiles$Pad", "manOf", "(I)I"⟩, 10) := ⟨⟨by decide +kernel, by decide +kernel⟩, List.mem_of_getElem? (i := 69) (by decide +kernel), List.mem_of_getElem? (i := 272) (by decide +kernel), List.mem_of_getElem? (i := 273) (by decide +kernel)⟩
theorem lw_p6 : lw_okq (⟨"LentPiles$Valley", "notLater", "(III)Z"⟩, 11) := ⟨⟨by decide +kernel, by decide +kernel⟩, List.mem_of_getElem? (i := 21) (by decide +kernel), List.mem_of_getElem? (i := 297) (by decide +kernel), List.mem_of_getElem? (i := 298) (by decide +kernel)⟩
theorem lw_p7 : lw_okq (⟨"LentPiles$Valley", "drop", "(II)V"⟩, 11) := ⟨⟨by decide +kernel, by decide +kernel⟩, List.mem_of_getElem? (i := 21) (by decide +kernel), List.mem_of_getElem? (i := 311) (by decide +kernel), List.mem_of_getElem? (i := 312) (by decide +kernel)⟩
theorem lw_p8 : lw_okq (⟨"LentPiles$Payings", "canPay", "(I)Z"⟩, 10) := ⟨⟨by decide +kernel, by decide +kernel⟩, List.mem_of_getElem? (i := 111) (by decide +kernel), List.mem_of_getElem? (i := 408) (by decide +kernel), List.mem_of_getElem? (i := 409) (by decide +kernel)⟩
theorem lw_p9 : lw_okq (⟨"LentPiles$Payings", "isPaidUp", "(I)Z"⟩, 10) := ⟨⟨by decide +kernel, by decide +kernel⟩, List.mem_of_getElem? (i := 111) (by decide +kernel), List.mem_of_getElem? (i := 412) (by decide +kernel), List.mem_of_getElem? (i := 413) (by decide +kernel)⟩
theorem lw_p10 : lw_okq (⟨"LentPiles$Payings", "pay", "(I)V"⟩, 10) := ⟨⟨by decide +kernel, by decide +kernel⟩, List.mem_of_getElem? (i := 111) (by decide +kernel), List.mem_of_getElem? (i := 416) (by decide +kernel), List.mem_of_getElem? (i := 417) (by decide +kernel)⟩
theorem lw_p11 : lw_okq (⟨"LentPiles$Payings", "setLimits", "(II)V"⟩, 10) := ⟨⟨by decide +kernel, by decide +kernel⟩, List.mem_of_getElem? (i := 111) (by decide +kernel), List.mem_of_getElem? (i := 421) (by decide +kernel), List.mem_of_getElem? (i := 422) (by decide +kernel)⟩
theorem lw_p12 : lw_okq (⟨"LentPiles$Payings", "mark", "(I)V"⟩, 10) := ⟨⟨by decide +kernel, by decide +kernel⟩, List.mem_of_getElem? (i := 111) (by decide +kernel), List.mem_of_getElem? (i := 429) (by decide +kernel), List.mem_of_getElem? (i := 430) (by decide +kernel)⟩
theorem lw_p13 : lw_okq (⟨"LentPiles$Payings", "spread", "(I)Z"⟩, 10) := ⟨⟨by decide +kernel, by decide +kernel⟩, List.mem_of_getElem? (i := 111) (by decide +kernel), List.mem_of_getElem? (i := 434) (by decide +kernel), List.mem_of_getElem? (i := 435) (by decide +kernel)⟩
theorem lw_p14 : lw_okq (⟨"LentPiles$Payings", "leave", "(II)Z"⟩, 10) := ⟨⟨by decide +kernel, by decide +kernel⟩, List.mem_of_getElem? (i := 111) (by decide +kernel), List.mem_of_getElem? (i := 445) (by decide +kernel), List.mem_of_getElem? (i := 446) (by decide +kernel)⟩
theorem lw_p15 : lw_okq (⟨"LentPiles$Payings", "standAt", "(I)V"⟩, 10) := ⟨⟨by decide +kernel, by decide +kernel⟩, List.mem_of_getElem? (i := 111) (by decide +kernel), List.mem_of_getElem? (i := 449) (by decide +kernel), List.mem_of_getElem? (i := 450) (by decide +kernel)⟩
def lw_privs_1 : List (MethodName × Nat) := [(⟨"LentPiles$Pad", "faultOfPart", "(I)I"⟩, 10), (⟨"LentPiles$Pad", "signAt", "(I)C"⟩, 10), (⟨"LentPiles$Pad", "takePart", "(I)I"⟩, 10), (⟨"LentPiles$Pad", "addPart", "(IIII)V"⟩, 10), (⟨"LentPiles$Pad", "performPart", "(LLentPiles$Valley;I)I"⟩, 10), (⟨"LentPiles$Pad", "manOf", "(I)I"⟩, 10), (⟨"LentPiles$Valley", "notLater", "(III)Z"⟩, 11), (⟨"LentPiles$Valley", "drop", "(II)V"⟩, 11), (⟨"LentPiles$Payings", "canPay", "(I)Z"⟩, 10), (⟨"LentPiles$Payings", "isPaidUp", "(I)Z"⟩, 10), (⟨"LentPiles$Payings", "pay", "(I)V"⟩, 10), (⟨"LentPiles$Payings", "setLimits", "(II)V"⟩, 10), (⟨"LentPiles$Payings", "mark", "(I)V"⟩, 10), (⟨"LentPiles$Payings", "spread", "(I)Z"⟩, 10), (⟨"LentPiles$Payings", "leave", "(II)Z"⟩, 10), (⟨"LentPiles$Payings", "standAt", "(I)V"⟩, 10)]
theorem lw_r1 : ∀ q ∈ lw_privs_1, lw_okq q := List.forall_mem_cons.mpr ⟨lw_p0, List.forall_mem_cons.mpr ⟨lw_p1, List.forall_mem_cons.mpr ⟨lw_p2, List.forall_mem_cons.mpr ⟨lw_p3, List.forall_mem_cons.mpr ⟨lw_p4, List.forall_mem_cons.mpr ⟨lw_p5, List.forall_mem_cons.mpr ⟨lw_p6, List.forall_mem_cons.mpr ⟨lw_p7, List.forall_mem_cons.mpr ⟨lw_p8, List.forall_mem_cons.mpr ⟨lw_p9, List.forall_mem_cons.mpr ⟨lw_p10, List.forall_mem_cons.mpr ⟨lw_p11, List.forall_mem_cons.mpr ⟨lw_p12, List.forall_mem_cons.mpr ⟨lw_p13, List.forall_mem_cons.mpr ⟨lw_p14, List.forall_mem_cons.mpr ⟨lw_p15, fun _ h => absurd h List.not_mem_nil⟩⟩⟩⟩⟩⟩⟩⟩⟩⟩⟩⟩⟩⟩⟩⟩
theorem lw_p16 : lw_okq (⟨"LentPiles", "leastHelp", "(I)I"⟩, 8) := ⟨⟨by decide +kernel, by decide +kernel⟩, List.mem_of_getElem? (i := 13) (by decide +kernel), List.mem_of_getElem? (i := 468) (by decide +kernel), List.mem_of_getElem? (i := 469) (by decide +kernel)⟩
theorem lw_p17 : lw_okq (⟨"LentPiles$Valley", "lower", "(III)V"⟩, 11) := ⟨⟨by decide +kernel, by decide +kernel⟩, List.mem_of_getElem? (i := 21) (by decide +kernel), List.mem_of_getElem? (i := 498) (by decide +kernel), List.mem_of_getElem? (i := 499) (by decide +kernel)⟩
theorem lw_p18 : lw_okq (⟨"LentPiles", "luckyShares", "(IIII)J"⟩, 8) := ⟨⟨by decide +kernel, by decide +kernel⟩, List.mem_of_getElem? (i := 13) (by decide +kernel), List.mem_of_getElem? (i := 526) (by decide +kernel), List.mem_of_getElem? (i := 527) (by decide +kernel)⟩
theorem lw_p19 : lw_okq (⟨"LentPiles", "liveYear", "(II)I"⟩, 8) := ⟨⟨by decide +kernel, by decide +kernel⟩, List.mem_of_getElem? (i := 13) (by decide +kernel), List.mem_of_getElem? (i := 545) (by decide +kernel), List.mem_of_getElem? (i := 546) (by decide +kernel)⟩
theorem lw_p20 : lw_okq (⟨"LentPiles", "imageOf", "(I)LLentPiles$Valley;"⟩, 8) := ⟨⟨by decide +kernel, by decide +kernel⟩, List.mem_of_getElem? (i := 13) (by decide +kernel), List.mem_of_getElem? (i := 564) (by decide +kernel), List.mem_of_getElem? (i := 565) (by decide +kernel)⟩
theorem lw_p21 : lw_okq (⟨"LentPilesModel", "faultOf", "()I"⟩, 21) := ⟨⟨by decide +kernel, by decide +kernel⟩, List.mem_of_getElem? (i := 577) (by decide +kernel), List.mem_of_getElem? (i := 675) (by decide +kernel), List.mem_of_getElem? (i := 676) (by decide +kernel)⟩
theorem lw_p22 : lw_okq (⟨"LentPilesModel", "opens", "()I"⟩, 21) := ⟨⟨by decide +kernel, by decide +kernel⟩, List.mem_of_getElem? (i := 577) (by decide +kernel), List.mem_of_getElem? (i := 683) (by decide +kernel), List.mem_of_getElem? (i := 684) (by decide +kernel)⟩
theorem lw_p23 : lw_okq (⟨"LentPilesModel", "goText", "(I)I"⟩, 21) := ⟨⟨by decide +kernel, by decide +kernel⟩, List.mem_of_getElem? (i := 577) (by decide +kernel), List.mem_of_getElem? (i := 687) (by decide +kernel), List.mem_of_getElem? (i := 688) (by decide +kernel)⟩
theorem lw_p24 : lw_okq (⟨"LentPilesModel", "asNow", "()V"⟩, 21) := ⟨⟨by decide +kernel, by decide +kernel⟩, List.mem_of_getElem? (i := 577) (by decide +kernel), List.mem_of_getElem? (i := 691) (by decide +kernel), List.mem_of_getElem? (i := 692) (by decide +kernel)⟩
theorem lw_p25 : lw_okq (⟨"LentPilesModel", "pass", "()V"⟩, 21) := ⟨⟨by decide +kernel, by decide +kernel⟩, List.mem_of_getElem? (i := 577) (by decide +kernel), List.mem_of_getElem? (i := 695) (by decide +kernel), List.mem_of_getElem? (i := 696) (by decide +kernel)⟩
theorem lw_p26 : lw_okq (⟨"LentPilesModel", "dueNow", "(I)I"⟩, 21) := ⟨⟨by decide +kernel, by decide +kernel⟩, List.mem_of_getElem? (i := 577) (by decide +kernel), List.mem_of_getElem? (i := 702) (by decide +kernel), List.mem_of_getElem? (i := 703) (by decide +kernel)⟩
theorem lw_p27 : lw_okq (⟨"LentPilesModel", "canPay", "(I)Z"⟩, 21) := ⟨⟨by decide +kernel, by decide +kernel⟩, List.mem_of_getElem? (i := 577) (by decide +kernel), List.mem_of_getElem? (i := 706) (by decide +kernel), List.mem_of_getElem? (i := 707) (by decide +kernel)⟩
theorem lw_p28 : lw_okq (⟨"LentPilesModel", "penceDue", "(I)I"⟩, 21) := ⟨⟨by decide +kernel, by decide +kernel⟩, List.mem_of_getElem? (i := 577) (by decide +kernel), List.mem_of_getElem? (i := 710) (by decide +kernel), List.mem_of_getElem? (i := 711) (by decide +kernel)⟩
theorem lw_p29 : lw_okq (⟨"LentPilesModel", "pay", "(I)V"⟩, 21) := ⟨⟨by decide +kernel, by decide +kernel⟩, List.mem_of_getElem? (i := 577) (by decide +kernel), List.mem_of_getElem? (i := 714) (by decide +kernel), List.mem_of_getElem? (i := 715) (by decide +kernel)⟩
theorem lw_p30 : lw_okq (⟨"LentPilesModel", "takeOut", "(II)V"⟩, 21) := ⟨⟨by decide +kernel, by decide +kernel⟩, List.mem_of_getElem? (i := 577) (by decide +kernel), List.mem_of_getElem? (i := 718) (by decide +kernel), List.mem_of_getElem? (i := 719) (by decide +kernel)⟩
theorem lw_p31 : lw_okq (⟨"LentPilesModel", "keepNow", "()V"⟩, 21) := ⟨⟨by decide +kernel, by decide +kernel⟩, List.mem_of_getElem? (i := 577) (by decide +kernel), List.mem_of_getElem? (i := 726) (by decide +kernel), List.mem_of_getElem? (i := 727) (by decide +kernel)⟩
def lw_privs_2 : List (MethodName × Nat) := [(⟨"LentPiles", "leastHelp", "(I)I"⟩, 8), (⟨"LentPiles$Valley", "lower", "(III)V"⟩, 11), (⟨"LentPiles", "luckyShares", "(IIII)J"⟩, 8), (⟨"LentPiles", "liveYear", "(II)I"⟩, 8), (⟨"LentPiles", "imageOf", "(I)LLentPiles$Valley;"⟩, 8), (⟨"LentPilesModel", "faultOf", "()I"⟩, 21), (⟨"LentPilesModel", "opens", "()I"⟩, 21), (⟨"LentPilesModel", "goText", "(I)I"⟩, 21), (⟨"LentPilesModel", "asNow", "()V"⟩, 21), (⟨"LentPilesModel", "pass", "()V"⟩, 21), (⟨"LentPilesModel", "dueNow", "(I)I"⟩, 21), (⟨"LentPilesModel", "canPay", "(I)Z"⟩, 21), (⟨"LentPilesModel", "penceDue", "(I)I"⟩, 21), (⟨"LentPilesModel", "pay", "(I)V"⟩, 21), (⟨"LentPilesModel", "takeOut", "(II)V"⟩, 21), (⟨"LentPilesModel", "keepNow", "()V"⟩, 21)]
theorem lw_r2 : ∀ q ∈ lw_privs_2, lw_okq q := List.forall_mem_cons.mpr ⟨lw_p16, List.forall_mem_cons.mpr ⟨lw_p17, List.forall_mem_cons.mpr ⟨lw_p18, List.forall_mem_cons.mpr ⟨lw_p19, List.forall_mem_cons.mpr ⟨lw_p20, List.forall_mem_cons.mpr ⟨lw_p21, List.forall_mem_cons.mpr ⟨lw_p22, List.forall_mem_cons.mpr ⟨lw_p23, List.forall_mem_cons.mpr ⟨lw_p24, List.forall_mem_cons.mpr ⟨lw_p25, List.forall_mem_cons.mpr ⟨lw_p26, List.forall_mem_cons.mpr ⟨lw_p27, List.forall_mem_cons.mpr ⟨lw_p28, List.forall_mem_cons.mpr ⟨lw_p29, List.forall_mem_cons.mpr ⟨lw_p30, List.forall_mem_cons.mpr ⟨lw_p31, fun _ h => absurd h List.not_mem_nil⟩⟩⟩⟩⟩⟩⟩⟩⟩⟩⟩⟩⟩⟩⟩⟩
theorem lw_p32 : lw_okq (⟨"LentPilesModel", "isDebt", "(II)Z"⟩, 21) := ⟨⟨by decide +kernel, by decide +kernel⟩, List.mem_of_getElem? (i := 577) (by decide +kernel), List.mem_of_getElem? (i := 734) (by decide +kernel), List.mem_of_getElem? (i := 735) (by decide +kernel)⟩
theorem lw_p33 : lw_okq (⟨"LentPilesModel", "isFit", "(I)Z"⟩, 21) := ⟨⟨by decide +kernel, by decide +kernel⟩, List.mem_of_getElem? (i := 577) (by decide +kernel), List.mem_of_getElem? (i := 758) (by decide +kernel), List.mem_of_getElem? (i := 759) (by decide +kernel)⟩
theorem lw_p34 : lw_okq (⟨"LentPilesModel", "layTurns", "()V"⟩, 21) := ⟨⟨by decide +kernel, by decide +kernel⟩, List.mem_of_getElem? (i := 577) (by decide +kernel), List.mem_of_getElem? (i := 766) (by decide +kernel), List.mem_of_getElem? (i := 767) (by decide +kernel)⟩
theorem lw_p35 : lw_okq (⟨"LentPilesModel", "paidOf", "(II)I"⟩, 21) := ⟨⟨by decide +kernel, by decide +kernel⟩, List.mem_of_getElem? (i := 577) (by decide +kernel), List.mem_of_getElem? (i := 774) (by decide +kernel), List.mem_of_getElem? (i := 775) (by decide +kernel)⟩
theorem lw_p36 : lw_okq (⟨"LentPilesModel", "moneyBy", "(II)I"⟩, 21) := ⟨⟨by decide +kernel, by decide +kernel⟩, List.mem_of_getElem? (i := 577) (by decide +kernel), List.mem_of_getElem? (i := 778) (by decide +kernel), List.mem_of_getElem? (i := 779) (by decide +kernel)⟩
theorem lw_p37 : lw_okq (⟨"LentPilesModel", "payAll", "()V"⟩, 21) := ⟨⟨by decide +kernel, by decide +kernel⟩, List.mem_of_getElem? (i := 577) (by decide +kernel), List.mem_of_getElem? (i := 786) (by decide +kernel), List.mem_of_getElem? (i := 787) (by decide +kernel)⟩
theorem lw_p38 : lw_okq (⟨"LentPilesModel", "leftNow", "()I"⟩, 21) := ⟨⟨by decide +kernel, by decide +kernel⟩, List.mem_of_getElem? (i := 577) (by decide +kernel), List.mem_of_getElem? (i := 790) (by decide +kernel), List.mem_of_getElem? (i := 791) (by decide +kernel)⟩
theorem lw_p39 : lw_okq (⟨"LentPilesModel", "helpOf", "(I)I"⟩, 21) := ⟨⟨by decide +kernel, by decide +kernel⟩, List.mem_of_getElem? (i := 577) (by decide +kernel), List.mem_of_getElem? (i := 798) (by decide +kernel), List.mem_of_getElem? (i := 799) (by decide +kernel)⟩
theorem lw_p40 : lw_okq (⟨"LentPilesModel", "isEnough", "(II)Z"⟩, 21) := ⟨⟨by decide +kernel, by decide +kernel⟩, List.mem_of_getElem? (i := 577) (by decide +kernel), List.mem_of_getElem? (i := 802) (by decide +kernel), List.mem_of_getElem? (i := 803) (by decide +kernel)⟩
theorem lw_p41 : lw_okq (⟨"LentPilesModel", "ringOf", "(I)I"⟩, 21) := ⟨⟨by decide +kernel, by decide +kernel⟩, List.mem_of_getElem? (i := 577) (by decide +kernel), List.mem_of_getElem? (i := 814) (by decide +kernel), List.mem_of_getElem? (i := 815) (by decide +kernel)⟩
def lw_privs_3 : List (MethodName × Nat) := [(⟨"LentPilesModel", "isDebt", "(II)Z"⟩, 21), (⟨"LentPilesModel", "isFit", "(I)Z"⟩, 21), (⟨"LentPilesModel", "layTurns", "()V"⟩, 21), (⟨"LentPilesModel", "paidOf", "(II)I"⟩, 21), (⟨"LentPilesModel", "moneyBy", "(II)I"⟩, 21), (⟨"LentPilesModel", "payAll", "()V"⟩, 21), (⟨"LentPilesModel", "leftNow", "()I"⟩, 21), (⟨"LentPilesModel", "helpOf", "(I)I"⟩, 21), (⟨"LentPilesModel", "isEnough", "(II)Z"⟩, 21), (⟨"LentPilesModel", "ringOf", "(I)I"⟩, 21)]
theorem lw_r3 : ∀ q ∈ lw_privs_3, lw_okq q := List.forall_mem_cons.mpr ⟨lw_p32, List.forall_mem_cons.mpr ⟨lw_p33, List.forall_mem_cons.mpr ⟨lw_p34, List.forall_mem_cons.mpr ⟨lw_p35, List.forall_mem_cons.mpr ⟨lw_p36, List.forall_mem_cons.mpr ⟨lw_p37, List.forall_mem_cons.mpr ⟨lw_p38, List.forall_mem_cons.mpr ⟨lw_p39, List.forall_mem_cons.mpr ⟨lw_p40, List.forall_mem_cons.mpr ⟨lw_p41, fun _ h => absurd h List.not_mem_nil⟩⟩⟩⟩⟩⟩⟩⟩⟩⟩
def lw_privs : List (MethodName × Nat) := lw_privs_1 ++ (lw_privs_2 ++ (lw_privs_3))
def lw_tbl : List Cond := k2_sels lw_privs ++ tables_1
theorem lw_privs_ok : ∀ q ∈ lw_privs, lw_okq q := by
  show ∀ q ∈ lw_privs_1 ++ (lw_privs_2 ++ (lw_privs_3)), lw_okq q
  exact List.forall_mem_append.mpr ⟨lw_r1, List.forall_mem_append.mpr ⟨lw_r2, lw_r3⟩⟩
-- ===== end of PART A; then your names; then what follows =====
/-! ===== BEGIN words of one list among another's, by their places ===== -/
theorem goodIn_r {big : List Cond} (ws : List Cond) (ps : List Nat) (hp : ws = ps.filterMap (fun i => big[i]?)) (h : ws.all goodWord = true) : GoodIn big ws := by
  intro w hw
  have h1 := List.all_eq_true.mp h w hw
  rw [hp] at hw
  obtain ⟨i, -, hi⟩ := List.mem_filterMap.mp hw
  have hm : w ∈ big := by first | exact List.mem_of_getElem? hi | exact List.getElem?_mem hi
  exact ⟨hm, good_of_word h1⟩
theorem goodIn_app {big a b : List Cond} (ha : GoodIn big a) (hb : GoodIn big b) : GoodIn big (a ++ b) := fun w h => (List.mem_append.mp h).elim (ha w) (hb w)
theorem goodIn_ca {big a b : List Cond} {c : Cond} (ha : GoodIn big (c :: a)) (hb : GoodIn big b) : GoodIn big (c :: (a ++ b)) := fun w h => (List.mem_cons.mp h).elim (fun e => ha w (List.mem_cons.mpr (Or.inl e))) (fun h => (List.mem_append.mp h).elim (fun h => ha w (List.mem_cons.mpr (Or.inr h))) (hb w))
theorem goodIn_sub {big ws : List Cond} (hm : ∀ w ∈ ws, w ∈ big) (h : ws.all goodWord = true) : GoodIn big ws := fun w hw => ⟨hm w hw, good_of_word (List.all_eq_true.mp h w hw)⟩
/-! ===== END ===== -/

/-! ===== BEGIN printed: names, fields, word lists, decode rows ===== -/
def RX0 : String := "LentPiles$Pad"
def TX0 : u_T := fun k => match k with
  | 0 => ("LentPiles$Pad", "signs", "[C", true)
  | 1 => ("LentPiles$Pad", "kind", "[I", true)
  | 2 => ("LentPiles$Pad", "doer", "[I", true)
  | 3 => ("LentPiles$Pad", "borrower", "[I", true)
  | 4 => ("LentPiles$Pad", "pence", "[I", true)
  | 5 => ("LentPiles$Pad", "guess", "[I", true)
  | 6 => ("LentPiles$Pad", "length", "I", false)
  | 7 => ("LentPiles$Pad", "parts", "I", false)
  | 8 => ("LentPiles$Pad", "asks", "I", false)
  | _ => ("LentPiles$Pad", "why", "I", false)
def tyX0 : Nat → FieldType := fun k => match k with
  | 0 => .array .char
  | 1 => .array .int
  | 2 => .array .int
  | 3 => .array .int
  | 4 => .array .int
  | 5 => .array .int
  | 6 => .int
  | 7 => .int
  | 8 => .int
  | _ => .int
abbrev wsX00 : List Cond := u_ws RX0 TX0 10
theorem nmX0 : ∀ a, a < 10 → ∀ b, b < 10 → a ≠ b → (TX0 a).2.1 ≠ (TX0 b).2.1 := by decide +kernel
theorem tyX0_ok : ∀ k, k < 10 → parseFieldDescriptor (TX0 k).2.2.1 = some (tyX0 k) := by decide +kernel
abbrev cX0_init : ByteArray := prog_2_method_1_code
def yX0_init : MethodName := ⟨RX0, "<init>", "()V"⟩
abbrev cX0_write : ByteArray := prog_2_method_2_code
def yX0_write : MethodName := ⟨RX0, "write", "(C)Z"⟩
abbrev cX0_clear : ByteArray := prog_2_method_3_code
def yX0_clear : MethodName := ⟨RX0, "clear", "()V"⟩
abbrev cX0_read : ByteArray := prog_2_method_4_code
def yX0_read : MethodName := ⟨RX0, "read", "()I"⟩
abbrev cX0_signAt : ByteArray := prog_2_method_5_code
def yX0_signAt : MethodName := ⟨RX0, "signAt", "(I)C"⟩
abbrev cX0_isLetter : ByteArray := prog_2_method_6_code
def yX0_isLetter : MethodName := ⟨RX0, "isLetter", "(C)Z"⟩
abbrev cX0_isDigit : ByteArray := prog_2_method_7_code
def yX0_isDigit : MethodName := ⟨RX0, "isDigit", "(C)Z"⟩
abbrev cX0_faultOfPart : ByteArray := prog_2_method_8_code
def yX0_faultOfPart : MethodName := ⟨RX0, "faultOfPart", "(I)I"⟩
abbrev cX0_takePart : ByteArray := prog_2_method_9_code
def yX0_takePart : MethodName := ⟨RX0, "takePart", "(I)I"⟩
abbrev cX0_addPart : ByteArray := prog_2_method_10_code
def yX0_addPart : MethodName := ⟨RX0, "addPart", "(IIII)V"⟩
abbrev cX0_guesses : ByteArray := prog_2_method_11_code
def yX0_guesses : MethodName := ⟨RX0, "guesses", "()I"⟩
abbrev cX0_writeMen : ByteArray := prog_2_method_12_code
def yX0_writeMen : MethodName := ⟨RX0, "writeMen", "(I)V"⟩
abbrev cX0_manFor : ByteArray := prog_2_method_13_code
def yX0_manFor : MethodName := ⟨RX0, "manFor", "(I)I"⟩
abbrev cX0_manOf : ByteArray := prog_2_method_14_code
def yX0_manOf : MethodName := ⟨RX0, "manOf", "(I)I"⟩
abbrev cX0_lendsToHimself : ByteArray := prog_2_method_15_code
def yX0_lendsToHimself : MethodName := ⟨RX0, "lendsToHimself", "()Z"⟩
abbrev cX0_perform : ByteArray := prog_2_method_16_code
def yX0_perform : MethodName := ⟨RX0, "perform", "(LLentPiles$Valley;LLentPiles$Valley;)I"⟩
abbrev cX0_performPart : ByteArray := prog_2_method_17_code
def yX0_performPart : MethodName := ⟨RX0, "performPart", "(LLentPiles$Valley;I)I"⟩
def RX1 : String := "LentPiles$Payings"
def TX1 : u_T := fun k => match k with
  | 0 => ("LentPiles$Payings", "firstPurse", "[I", true)
  | 1 => ("LentPiles$Payings", "purse", "[I", true)
  | 2 => ("LentPiles$Payings", "height", "[I", true)
  | 3 => ("LentPiles$Payings", "lender", "[I", true)
  | 4 => ("LentPiles$Payings", "pence", "[I", true)
  | 5 => ("LentPiles$Payings", "paid", "[I", true)
  | 6 => ("LentPiles$Payings", "limit", "[I", true)
  | 7 => ("LentPiles$Payings", "weight", "[I", true)
  | 8 => ("LentPiles$Payings", "layer", "[J", true)
  | _ => ("LentPiles$Payings", "words", "I", false)
def tyX1 : Nat → FieldType := fun k => match k with
  | 0 => .array .int
  | 1 => .array .int
  | 2 => .array .int
  | 3 => .array .int
  | 4 => .array .int
  | 5 => .array .int
  | 6 => .array .int
  | 7 => .array .int
  | 8 => .array .long
  | _ => .int
abbrev wsX10 : List Cond := u_ws RX1 TX1 10
theorem nmX1 : ∀ a, a < 10 → ∀ b, b < 10 → a ≠ b → (TX1 a).2.1 ≠ (TX1 b).2.1 := by decide +kernel
theorem tyX1_ok : ∀ k, k < 10 → parseFieldDescriptor (TX1 k).2.2.1 = some (tyX1 k) := by decide +kernel
abbrev cX1_init : ByteArray := prog_3_method_1_code
def yX1_init : MethodName := ⟨RX1, "<init>", "()V"⟩
abbrev cX1_load : ByteArray := prog_3_method_2_code
def yX1_load : MethodName := ⟨RX1, "load", "(LLentPiles$Valley;)V"⟩
abbrev cX1_isPaidUp : ByteArray := prog_3_method_3_code
def yX1_isPaidUp : MethodName := ⟨RX1, "isPaidUp", "(I)Z"⟩
abbrev cX1_canPay : ByteArray := prog_3_method_4_code
def yX1_canPay : MethodName := ⟨RX1, "canPay", "(I)Z"⟩
abbrev cX1_pay : ByteArray := prog_3_method_5_code
def yX1_pay : MethodName := ⟨RX1, "pay", "(I)V"⟩
abbrev cX1_payAllThatCan : ByteArray := prog_3_method_6_code
def yX1_payAllThatCan : MethodName := ⟨RX1, "payAllThatCan", "()V"⟩
abbrev cX1_stillOwing : ByteArray := prog_3_method_7_code
def yX1_stillOwing : MethodName := ⟨RX1, "stillOwing", "()I"⟩
abbrev cX1_leastHelp : ByteArray := prog_3_method_8_code
def yX1_leastHelp : MethodName := ⟨RX1, "leastHelp", "(I)I"⟩
abbrev cX1_fewest : ByteArray := prog_3_method_9_code
def yX1_fewest : MethodName := ⟨RX1, "fewest", "(II)I"⟩
abbrev cX1_setLimits : ByteArray := prog_3_method_10_code
def yX1_setLimits : MethodName := ⟨RX1, "setLimits", "(II)V"⟩
abbrev cX1_spread : ByteArray := prog_3_method_11_code
def yX1_spread : MethodName := ⟨RX1, "spread", "(I)Z"⟩
abbrev cX1_leave : ByteArray := prog_3_method_12_code
def yX1_leave : MethodName := ⟨RX1, "leave", "(II)Z"⟩
abbrev cX1_standAt : ByteArray := prog_3_method_13_code
def yX1_standAt : MethodName := ⟨RX1, "standAt", "(I)V"⟩
abbrev cX1_mark : ByteArray := prog_3_method_14_code
def yX1_mark : MethodName := ⟨RX1, "mark", "(I)V"⟩
def RX2 : String := "LentPiles$Valley"
def TX2 : u_T := fun k => match k with
  | 0 => ("LentPiles$Valley", "purse", "[I", true)
  | 1 => ("LentPiles$Valley", "height", "[I", true)
  | 2 => ("LentPiles$Valley", "lender", "[I", true)
  | 3 => ("LentPiles$Valley", "pence", "[I", true)
  | 4 => ("LentPiles$Valley", "made", "[I", true)
  | 5 => ("LentPiles$Valley", "sightMan", "[I", true)
  | 6 => ("LentPiles$Valley", "sightPence", "[I", true)
  | 7 => ("LentPiles$Valley", "sights", "I", false)
  | 8 => ("LentPiles$Valley", "days", "I", false)
  | 9 => ("LentPiles$Valley", "law", "I", false)
  | _ => ("LentPiles$Valley", "rate", "I", false)
def tyX2 : Nat → FieldType := fun k => match k with
  | 0 => .array .int
  | 1 => .array .int
  | 2 => .array .int
  | 3 => .array .int
  | 4 => .array .int
  | 5 => .array .int
  | 6 => .array .int
  | 7 => .int
  | 8 => .int
  | 9 => .int
  | _ => .int
abbrev wsX20 : List Cond := u_ws RX2 TX2 11
theorem nmX2 : ∀ a, a < 11 → ∀ b, b < 11 → a ≠ b → (TX2 a).2.1 ≠ (TX2 b).2.1 := by decide +kernel
theorem tyX2_ok : ∀ k, k < 11 → parseFieldDescriptor (TX2 k).2.2.1 = some (tyX2 k) := by decide +kernel
abbrev cX2_init : ByteArray := prog_4_method_1_code
def yX2_init : MethodName := ⟨RX2, "<init>", "()V"⟩
abbrev cX2_copyFrom : ByteArray := prog_4_method_2_code
def yX2_copyFrom : MethodName := ⟨RX2, "copyFrom", "(LLentPiles$Valley;)V"⟩
abbrev cX2_purseOf : ByteArray := prog_4_method_3_code
def yX2_purseOf : MethodName := ⟨RX2, "purseOf", "(I)I"⟩
abbrev cX2_fillPurse : ByteArray := prog_4_method_4_code
def yX2_fillPurse : MethodName := ⟨RX2, "fillPurse", "(II)V"⟩
abbrev cX2_debtsOf : ByteArray := prog_4_method_5_code
def yX2_debtsOf : MethodName := ⟨RX2, "debtsOf", "(I)I"⟩
abbrev cX2_hasDebt : ByteArray := prog_4_method_6_code
def yX2_hasDebt : MethodName := ⟨RX2, "hasDebt", "(II)Z"⟩
abbrev cX2_lenderOf : ByteArray := prog_4_method_7_code
def yX2_lenderOf : MethodName := ⟨RX2, "lenderOf", "(II)I"⟩
abbrev cX2_penceOf : ByteArray := prog_4_method_8_code
def yX2_penceOf : MethodName := ⟨RX2, "penceOf", "(II)I"⟩
abbrev cX2_dayOf : ByteArray := prog_4_method_9_code
def yX2_dayOf : MethodName := ⟨RX2, "dayOf", "(II)I"⟩
abbrev cX2_changeLender : ByteArray := prog_4_method_10_code
def yX2_changeLender : MethodName := ⟨RX2, "changeLender", "(III)V"⟩
abbrev cX2_notLater : ByteArray := prog_4_method_11_code
def yX2_notLater : MethodName := ⟨RX2, "notLater", "(III)Z"⟩
abbrev cX2_dueOf : ByteArray := prog_4_method_12_code
def yX2_dueOf : MethodName := ⟨RX2, "dueOf", "(I)I"⟩
abbrev cX2_turnOf : ByteArray := prog_4_method_13_code
def yX2_turnOf : MethodName := ⟨RX2, "turnOf", "(II)I"⟩
abbrev cX2_penceTill : ByteArray := prog_4_method_14_code
def yX2_penceTill : MethodName := ⟨RX2, "penceTill", "(II)I"⟩
abbrev cX2_owedTo : ByteArray := prog_4_method_15_code
def yX2_owedTo : MethodName := ⟨RX2, "owedTo", "(II)I"⟩
abbrev cX2_allDebts : ByteArray := prog_4_method_16_code
def yX2_allDebts : MethodName := ⟨RX2, "allDebts", "()I"⟩
abbrev cX2_allPence : ByteArray := prog_4_method_17_code
def yX2_allPence : MethodName := ⟨RX2, "allPence", "()I"⟩
abbrev cX2_lend : ByteArray := prog_4_method_18_code
def yX2_lend : MethodName := ⟨RX2, "lend", "(III)I"⟩
abbrev cX2_repay : ByteArray := prog_4_method_19_code
def yX2_repay : MethodName := ⟨RX2, "repay", "(I)I"⟩
abbrev cX2_drop : ByteArray := prog_4_method_20_code
def yX2_drop : MethodName := ⟨RX2, "drop", "(II)V"⟩
abbrev cX2_passDay : ByteArray := prog_4_method_21_code
def yX2_passDay : MethodName := ⟨RX2, "passDay", "()V"⟩
abbrev cX2_ringOf : ByteArray := prog_4_method_22_code
def yX2_ringOf : MethodName := ⟨RX2, "ringOf", "(I)I"⟩
abbrev cX2_setOffDues : ByteArray := prog_4_method_23_code
def yX2_setOffDues : MethodName := ⟨RX2, "setOffDues", "(I)I"⟩
abbrev cX2_lower : ByteArray := prog_4_method_24_code
def yX2_lower : MethodName := ⟨RX2, "lower", "(III)V"⟩
abbrev cX2_addSight : ByteArray := prog_4_method_25_code
def yX2_addSight : MethodName := ⟨RX2, "addSight", "(II)Z"⟩
abbrev cX2_sightsHold : ByteArray := prog_4_method_26_code
def yX2_sightsHold : MethodName := ⟨RX2, "sightsHold", "()Z"⟩
def RX3 : String := "LentPiles"
def TX3 : u_T := fun k => match k with
  | 0 => ("LentPiles", "now", "LLentPiles$Valley;", true)
  | 1 => ("LentPiles", "trial", "LLentPiles$Valley;", true)
  | 2 => ("LentPiles", "firstImage", "LLentPiles$Valley;", true)
  | 3 => ("LentPiles", "secondImage", "LLentPiles$Valley;", true)
  | 4 => ("LentPiles", "pad", "LLentPiles$Pad;", true)
  | 5 => ("LentPiles", "payings", "LLentPiles$Payings;", true)
  | 6 => ("LentPiles", "shares", "[J", true)
  | _ => ("LentPiles", "imagesKept", "I", false)
def tyX3 : Nat → FieldType := fun k => match k with
  | 0 => .object "LentPiles$Valley"
  | 1 => .object "LentPiles$Valley"
  | 2 => .object "LentPiles$Valley"
  | 3 => .object "LentPiles$Valley"
  | 4 => .object "LentPiles$Pad"
  | 5 => .object "LentPiles$Payings"
  | 6 => .array .long
  | _ => .int
abbrev wsX30 : List Cond := u_ws RX3 TX3 8
theorem nmX3 : ∀ a, a < 8 → ∀ b, b < 8 → a ≠ b → (TX3 a).2.1 ≠ (TX3 b).2.1 := by decide +kernel
theorem tyX3_ok : ∀ k, k < 8 → parseFieldDescriptor (TX3 k).2.2.1 = some (tyX3 k) := by decide +kernel
abbrev cX3_init : ByteArray := prog_1_method_1_code
def yX3_init : MethodName := ⟨RX3, "<init>", "()V"⟩
abbrev cX3_money : ByteArray := prog_1_method_2_code
def yX3_money : MethodName := ⟨RX3, "money", "(II)I"⟩
abbrev cX3_set : ByteArray := prog_1_method_3_code
def yX3_set : MethodName := ⟨RX3, "set", "(II)I"⟩
abbrev cX3_say : ByteArray := prog_1_method_4_code
def yX3_say : MethodName := ⟨RX3, "say", "(I)I"⟩
abbrev cX3_wipe : ByteArray := prog_1_method_5_code
def yX3_wipe : MethodName := ⟨RX3, "wipe", "()I"⟩
abbrev cX3_fault : ByteArray := prog_1_method_6_code
def yX3_fault : MethodName := ⟨RX3, "fault", "()I"⟩
abbrev cX3_judge : ByteArray := prog_1_method_7_code
def yX3_judge : MethodName := ⟨RX3, "judge", "(I)I"⟩
abbrev cX3_done : ByteArray := prog_1_method_8_code
def yX3_done : MethodName := ⟨RX3, "done", "()I"⟩
abbrev cX3_debt : ByteArray := prog_1_method_9_code
def yX3_debt : MethodName := ⟨RX3, "debt", "(III)I"⟩
abbrev cX3_due : ByteArray := prog_1_method_10_code
def yX3_due : MethodName := ⟨RX3, "due", "(I)I"⟩
abbrev cX3_owes : ByteArray := prog_1_method_11_code
def yX3_owes : MethodName := ⟨RX3, "owes", "(II)I"⟩
abbrev cX3_seen : ByteArray := prog_1_method_12_code
def yX3_seen : MethodName := ⟨RX3, "seen", "(II)I"⟩
abbrev cX3_forget : ByteArray := prog_1_method_13_code
def yX3_forget : MethodName := ⟨RX3, "forget", "()I"⟩
abbrev cX3_filled : ByteArray := prog_1_method_14_code
def yX3_filled : MethodName := ⟨RX3, "filled", "(I)I"⟩
abbrev cX3_soon : ByteArray := prog_1_method_15_code
def yX3_soon : MethodName := ⟨RX3, "soon", "(II)I"⟩
abbrev cX3_barred : ByteArray := prog_1_method_16_code
def yX3_barred : MethodName := ⟨RX3, "barred", "()I"⟩
abbrev cX3_help : ByteArray := prog_1_method_17_code
def yX3_help : MethodName := ⟨RX3, "help", "(I)I"⟩
abbrev cX3_whom : ByteArray := prog_1_method_18_code
def yX3_whom : MethodName := ⟨RX3, "whom", "()I"⟩
abbrev cX3_ring : ByteArray := prog_1_method_19_code
def yX3_ring : MethodName := ⟨RX3, "ring", "(I)I"⟩
abbrev cX3_setOff : ByteArray := prog_1_method_20_code
def yX3_setOff : MethodName := ⟨RX3, "setOff", "(I)I"⟩
abbrev cX3_give : ByteArray := prog_1_method_21_code
def yX3_give : MethodName := ⟨RX3, "give", "(III)I"⟩
abbrev cX3_pawn : ByteArray := prog_1_method_22_code
def yX3_pawn : MethodName := ⟨RX3, "pawn", "(II)I"⟩
abbrev cX3_odds : ByteArray := prog_1_method_23_code
def yX3_odds : MethodName := ⟨RX3, "odds", "(IIIII)J"⟩
abbrev cX3_year : ByteArray := prog_1_method_24_code
def yX3_year : MethodName := ⟨RX3, "year", "(III)I"⟩
abbrev cX3_image : ByteArray := prog_1_method_25_code
def yX3_image : MethodName := ⟨RX3, "image", "(I)I"⟩
abbrev cX3_restore : ByteArray := prog_1_method_26_code
def yX3_restore : MethodName := ⟨RX3, "restore", "(I)I"⟩
abbrev cX3_told : ByteArray := prog_1_method_27_code
def yX3_told : MethodName := ⟨RX3, "told", "(I)I"⟩
abbrev cX3_isMan : ByteArray := prog_1_method_28_code
def yX3_isMan : MethodName := ⟨RX3, "isMan", "(I)Z"⟩
abbrev cX3_isWithin : ByteArray := prog_1_method_29_code
def yX3_isWithin : MethodName := ⟨RX3, "isWithin", "(III)Z"⟩
abbrev cX3_grown : ByteArray := prog_1_method_30_code
def yX3_grown : MethodName := ⟨RX3, "grown", "(II)I"⟩
abbrev cX3_imageOf : ByteArray := prog_1_method_31_code
def yX3_imageOf : MethodName := ⟨RX3, "imageOf", "(I)LLentPiles$Valley;"⟩
abbrev cX3_leastHelp : ByteArray := prog_1_method_32_code
def yX3_leastHelp : MethodName := ⟨RX3, "leastHelp", "(I)I"⟩
abbrev cX3_luckyShares : ByteArray := prog_1_method_33_code
def yX3_luckyShares : MethodName := ⟨RX3, "luckyShares", "(IIII)J"⟩
abbrev cX3_allShares : ByteArray := prog_1_method_34_code
def yX3_allShares : MethodName := ⟨RX3, "allShares", "(I)J"⟩
abbrev cX3_lowestTerms : ByteArray := prog_1_method_35_code
def yX3_lowestTerms : MethodName := ⟨RX3, "lowestTerms", "(JJI)J"⟩
abbrev cX3_commonDivisor : ByteArray := prog_1_method_36_code
def yX3_commonDivisor : MethodName := ⟨RX3, "commonDivisor", "(JJ)J"⟩
abbrev cX3_liveYear : ByteArray := prog_1_method_37_code
def yX3_liveYear : MethodName := ⟨RX3, "liveYear", "(II)I"⟩
def RX4 : String := "LentPilesModel"
def TX4 : u_T := fun k => match k with
  | 0 => ("LentPilesModel", "law", "I", false)
  | 1 => ("LentPilesModel", "rate", "I", false)
  | 2 => ("LentPilesModel", "days", "I", false)
  | 3 => ("LentPilesModel", "money", "[I", true)
  | 4 => ("LentPilesModel", "size", "[I", true)
  | 5 => ("LentPilesModel", "pile", "[I", true)
  | 6 => ("LentPilesModel", "sights", "I", false)
  | 7 => ("LentPilesModel", "sight", "[I", true)
  | 8 => ("LentPilesModel", "signs", "I", false)
  | 9 => ("LentPilesModel", "pad", "[I", true)
  | 10 => ("LentPilesModel", "nowDays", "I", false)
  | 11 => ("LentPilesModel", "nowMoney", "[I", true)
  | 12 => ("LentPilesModel", "nowSize", "[I", true)
  | 13 => ("LentPilesModel", "nowPile", "[I", true)
  | 14 => ("LentPilesModel", "parts", "I", false)
  | 15 => ("LentPilesModel", "reason", "I", false)
  | 16 => ("LentPilesModel", "turn", "[I", true)
  | 17 => ("LentPilesModel", "power", "[I", true)
  | 18 => ("LentPilesModel", "comes", "[Z", true)
  | 19 => ("LentPilesModel", "image", "[I", true)
  | _ => ("LentPilesModel", "isKept", "[Z", true)
def tyX4 : Nat → FieldType := fun k => match k with
  | 0 => .int
  | 1 => .int
  | 2 => .int
  | 3 => .array .int
  | 4 => .array .int
  | 5 => .array .int
  | 6 => .int
  | 7 => .array .int
  | 8 => .int
  | 9 => .array .int
  | 10 => .int
  | 11 => .array .int
  | 12 => .array .int
  | 13 => .array .int
  | 14 => .int
  | 15 => .int
  | 16 => .array .int
  | 17 => .array .int
  | 18 => .array .boolean
  | 19 => .array .int
  | _ => .array .boolean
abbrev wsX40 : List Cond := u_ws RX4 TX4 21
theorem nmX4 : ∀ a, a < 21 → ∀ b, b < 21 → a ≠ b → (TX4 a).2.1 ≠ (TX4 b).2.1 := by decide +kernel
theorem tyX4_ok : ∀ k, k < 21 → parseFieldDescriptor (TX4 k).2.2.1 = some (tyX4 k) := by decide +kernel
abbrev cX4_init : ByteArray := prog_6_method_1_code
def yX4_init : MethodName := ⟨RX4, "<init>", "()V"⟩
abbrev cX4_in : ByteArray := prog_6_method_2_code
def yX4_in : MethodName := ⟨RX4, "in", "(III)Z"⟩
abbrev cX4_has : ByteArray := prog_6_method_3_code
def yX4_has : MethodName := ⟨RX4, "has", "(II)Z"⟩
abbrev cX4_isMan : ByteArray := prog_6_method_4_code
def yX4_isMan : MethodName := ⟨RX4, "isMan", "(I)Z"⟩
abbrev cX4_at : ByteArray := prog_6_method_5_code
def yX4_at : MethodName := ⟨RX4, "at", "(II)I"⟩
abbrev cX4_isDebt : ByteArray := prog_6_method_6_code
def yX4_isDebt : MethodName := ⟨RX4, "isDebt", "(II)Z"⟩
abbrev cX4_money : ByteArray := prog_6_method_7_code
def yX4_money : MethodName := ⟨RX4, "money", "(II)I"⟩
abbrev cX4_set : ByteArray := prog_6_method_8_code
def yX4_set : MethodName := ⟨RX4, "set", "(II)I"⟩
abbrev cX4_say : ByteArray := prog_6_method_9_code
def yX4_say : MethodName := ⟨RX4, "say", "(I)I"⟩
abbrev cX4_wipe : ByteArray := prog_6_method_10_code
def yX4_wipe : MethodName := ⟨RX4, "wipe", "()I"⟩
abbrev cX4_faultOf : ByteArray := prog_6_method_11_code
def yX4_faultOf : MethodName := ⟨RX4, "faultOf", "()I"⟩
abbrev cX4_fault : ByteArray := prog_6_method_12_code
def yX4_fault : MethodName := ⟨RX4, "fault", "()I"⟩
abbrev cX4_opens : ByteArray := prog_6_method_13_code
def yX4_opens : MethodName := ⟨RX4, "opens", "()I"⟩
abbrev cX4_asNow : ByteArray := prog_6_method_14_code
def yX4_asNow : MethodName := ⟨RX4, "asNow", "()V"⟩
abbrev cX4_keepNow : ByteArray := prog_6_method_15_code
def yX4_keepNow : MethodName := ⟨RX4, "keepNow", "()V"⟩
abbrev cX4_dueNow : ByteArray := prog_6_method_16_code
def yX4_dueNow : MethodName := ⟨RX4, "dueNow", "(I)I"⟩
abbrev cX4_takeOut : ByteArray := prog_6_method_17_code
def yX4_takeOut : MethodName := ⟨RX4, "takeOut", "(II)V"⟩
abbrev cX4_penceDue : ByteArray := prog_6_method_18_code
def yX4_penceDue : MethodName := ⟨RX4, "penceDue", "(I)I"⟩
abbrev cX4_canPay : ByteArray := prog_6_method_19_code
def yX4_canPay : MethodName := ⟨RX4, "canPay", "(I)Z"⟩
abbrev cX4_pay : ByteArray := prog_6_method_20_code
def yX4_pay : MethodName := ⟨RX4, "pay", "(I)V"⟩
abbrev cX4_pass : ByteArray := prog_6_method_21_code
def yX4_pass : MethodName := ⟨RX4, "pass", "()V"⟩
abbrev cX4_goText : ByteArray := prog_6_method_22_code
def yX4_goText : MethodName := ⟨RX4, "goText", "(I)I"⟩
abbrev cX4_judge : ByteArray := prog_6_method_23_code
def yX4_judge : MethodName := ⟨RX4, "judge", "(I)I"⟩
abbrev cX4_done : ByteArray := prog_6_method_24_code
def yX4_done : MethodName := ⟨RX4, "done", "()I"⟩
abbrev cX4_debt : ByteArray := prog_6_method_25_code
def yX4_debt : MethodName := ⟨RX4, "debt", "(III)I"⟩
abbrev cX4_due : ByteArray := prog_6_method_26_code
def yX4_due : MethodName := ⟨RX4, "due", "(I)I"⟩
abbrev cX4_owes : ByteArray := prog_6_method_27_code
def yX4_owes : MethodName := ⟨RX4, "owes", "(II)I"⟩
abbrev cX4_seen : ByteArray := prog_6_method_28_code
def yX4_seen : MethodName := ⟨RX4, "seen", "(II)I"⟩
abbrev cX4_forget : ByteArray := prog_6_method_29_code
def yX4_forget : MethodName := ⟨RX4, "forget", "()I"⟩
abbrev cX4_isFit : ByteArray := prog_6_method_30_code
def yX4_isFit : MethodName := ⟨RX4, "isFit", "(I)Z"⟩
abbrev cX4_filled : ByteArray := prog_6_method_31_code
def yX4_filled : MethodName := ⟨RX4, "filled", "(I)I"⟩
abbrev cX4_layTurns : ByteArray := prog_6_method_32_code
def yX4_layTurns : MethodName := ⟨RX4, "layTurns", "()V"⟩
abbrev cX4_paidOf : ByteArray := prog_6_method_33_code
def yX4_paidOf : MethodName := ⟨RX4, "paidOf", "(II)I"⟩
abbrev cX4_moneyBy : ByteArray := prog_6_method_34_code
def yX4_moneyBy : MethodName := ⟨RX4, "moneyBy", "(II)I"⟩
abbrev cX4_soon : ByteArray := prog_6_method_35_code
def yX4_soon : MethodName := ⟨RX4, "soon", "(II)I"⟩
abbrev cX4_payAll : ByteArray := prog_6_method_36_code
def yX4_payAll : MethodName := ⟨RX4, "payAll", "()V"⟩
abbrev cX4_leftNow : ByteArray := prog_6_method_37_code
def yX4_leftNow : MethodName := ⟨RX4, "leftNow", "()I"⟩
abbrev cX4_barred : ByteArray := prog_6_method_38_code
def yX4_barred : MethodName := ⟨RX4, "barred", "()I"⟩
abbrev cX4_isEnough : ByteArray := prog_6_method_39_code
def yX4_isEnough : MethodName := ⟨RX4, "isEnough", "(II)Z"⟩
abbrev cX4_helpOf : ByteArray := prog_6_method_40_code
def yX4_helpOf : MethodName := ⟨RX4, "helpOf", "(I)I"⟩
abbrev cX4_help : ByteArray := prog_6_method_41_code
def yX4_help : MethodName := ⟨RX4, "help", "(I)I"⟩
abbrev cX4_whom : ByteArray := prog_6_method_42_code
def yX4_whom : MethodName := ⟨RX4, "whom", "()I"⟩
abbrev cX4_ringOf : ByteArray := prog_6_method_43_code
def yX4_ringOf : MethodName := ⟨RX4, "ringOf", "(I)I"⟩
abbrev cX4_ring : ByteArray := prog_6_method_44_code
def yX4_ring : MethodName := ⟨RX4, "ring", "(I)I"⟩
abbrev cX4_setOff : ByteArray := prog_6_method_45_code
def yX4_setOff : MethodName := ⟨RX4, "setOff", "(I)I"⟩
abbrev cX4_give : ByteArray := prog_6_method_46_code
def yX4_give : MethodName := ⟨RX4, "give", "(III)I"⟩
abbrev cX4_pawn : ByteArray := prog_6_method_47_code
def yX4_pawn : MethodName := ⟨RX4, "pawn", "(II)I"⟩
abbrev cX4_choose : ByteArray := prog_6_method_48_code
def yX4_choose : MethodName := ⟨RX4, "choose", "(II)J"⟩
abbrev cX4_times : ByteArray := prog_6_method_49_code
def yX4_times : MethodName := ⟨RX4, "times", "(JI)J"⟩
abbrev cX4_odds : ByteArray := prog_6_method_50_code
def yX4_odds : MethodName := ⟨RX4, "odds", "(IIIII)J"⟩
abbrev cX4_year : ByteArray := prog_6_method_51_code
def yX4_year : MethodName := ⟨RX4, "year", "(III)I"⟩
abbrev cX4_image : ByteArray := prog_6_method_52_code
def yX4_image : MethodName := ⟨RX4, "image", "(I)I"⟩
abbrev cX4_restore : ByteArray := prog_6_method_53_code
def yX4_restore : MethodName := ⟨RX4, "restore", "(I)I"⟩
abbrev cX4_told : ByteArray := prog_6_method_54_code
def yX4_told : MethodName := ⟨RX4, "told", "(I)I"⟩
def RJx145de : String := "java/io/Serializable"
def TJx145de : u_T := fun k => match k with
  | _ => ("", "", "", false)
def tyJx145de : Nat → FieldType := fun k => match k with
  | _ => .int
abbrev wsJx145de0 : List Cond := u_ws RJx145de TJx145de 0
theorem nmJx145de : ∀ a, a < 0 → ∀ b, b < 0 → a ≠ b → (TJx145de a).2.1 ≠ (TJx145de b).2.1 := by decide +kernel
theorem tyJx145de_ok : ∀ k, k < 0 → parseFieldDescriptor (TJx145de k).2.2.1 = some (tyJx145de k) := by decide +kernel
def RJxb160c : String := "java/lang/Comparable"
def TJxb160c : u_T := fun k => match k with
  | _ => ("", "", "", false)
def tyJxb160c : Nat → FieldType := fun k => match k with
  | _ => .int
abbrev wsJxb160c0 : List Cond := u_ws RJxb160c TJxb160c 0
theorem nmJxb160c : ∀ a, a < 0 → ∀ b, b < 0 → a ≠ b → (TJxb160c a).2.1 ≠ (TJxb160c b).2.1 := by decide +kernel
theorem tyJxb160c_ok : ∀ k, k < 0 → parseFieldDescriptor (TJxb160c k).2.2.1 = some (tyJxb160c k) := by decide +kernel
def RJ6 : String := "java/lang/Integer"
def TJ6 : u_T := fun k => match k with
  | _ => ("", "", "", false)
def tyJ6 : Nat → FieldType := fun k => match k with
  | _ => .int
abbrev wsJ60 : List Cond := u_ws RJ6 TJ6 0
theorem nmJ6 : ∀ a, a < 0 → ∀ b, b < 0 → a ≠ b → (TJ6 a).2.1 ≠ (TJ6 b).2.1 := by decide +kernel
theorem tyJ6_ok : ∀ k, k < 0 → parseFieldDescriptor (TJ6 k).2.2.1 = some (tyJ6 k) := by decide +kernel
abbrev cJ6_numberOfTrailingZeros_0f7a4 : ByteArray := prog_7_method_48_code
def yJ6_numberOfTrailingZeros_0f7a4 : MethodName := ⟨RJ6, "numberOfTrailingZeros", "(I)I"⟩
def RJ13 : String := "java/lang/Long"
def TJ13 : u_T := fun k => match k with
  | _ => ("", "", "", false)
def tyJ13 : Nat → FieldType := fun k => match k with
  | _ => .int
abbrev wsJ130 : List Cond := u_ws RJ13 TJ13 0
theorem nmJ13 : ∀ a, a < 0 → ∀ b, b < 0 → a ≠ b → (TJ13 a).2.1 ≠ (TJ13 b).2.1 := by decide +kernel
theorem tyJ13_ok : ∀ k, k < 0 → parseFieldDescriptor (TJ13 k).2.2.1 = some (tyJ13 k) := by decide +kernel
abbrev cJ13_numberOfTrailingZeros_95d88 : ByteArray := prog_8_method_49_code
def yJ13_numberOfTrailingZeros_95d88 : MethodName := ⟨RJ13, "numberOfTrailingZeros", "(J)I"⟩
def RJ9 : String := "java/lang/Math"
def TJ9 : u_T := fun k => match k with
  | _ => ("", "", "", false)
def tyJ9 : Nat → FieldType := fun k => match k with
  | _ => .int
abbrev wsJ90 : List Cond := u_ws RJ9 TJ9 0
theorem nmJ9 : ∀ a, a < 0 → ∀ b, b < 0 → a ≠ b → (TJ9 a).2.1 ≠ (TJ9 b).2.1 := by decide +kernel
theorem tyJ9_ok : ∀ k, k < 0 → parseFieldDescriptor (TJ9 k).2.2.1 = some (tyJ9 k) := by decide +kernel
abbrev cJ9_min_7cf53 : ByteArray := prog_9_method_69_code
def yJ9_min_7cf53 : MethodName := ⟨RJ9, "min", "(II)I"⟩
def RJxd2413 : String := "java/lang/Number"
def TJxd2413 : u_T := fun k => match k with
  | _ => ("", "", "", false)
def tyJxd2413 : Nat → FieldType := fun k => match k with
  | _ => .int
abbrev wsJxd24130 : List Cond := u_ws RJxd2413 TJxd2413 0
theorem nmJxd2413 : ∀ a, a < 0 → ∀ b, b < 0 → a ≠ b → (TJxd2413 a).2.1 ≠ (TJxd2413 b).2.1 := by decide +kernel
theorem tyJxd2413_ok : ∀ k, k < 0 → parseFieldDescriptor (TJxd2413 k).2.2.1 = some (tyJxd2413 k) := by decide +kernel
def RJ10 : String := "java/lang/System"
def TJ10 : u_T := fun k => match k with
  | _ => ("", "", "", false)
def tyJ10 : Nat → FieldType := fun k => match k with
  | _ => .int
abbrev wsJ100 : List Cond := u_ws RJ10 TJ10 0
theorem nmJ10 : ∀ a, a < 0 → ∀ b, b < 0 → a ≠ b → (TJ10 a).2.1 ≠ (TJ10 b).2.1 := by decide +kernel
theorem tyJ10_ok : ∀ k, k < 0 → parseFieldDescriptor (TJ10 k).2.2.1 = some (tyJ10 k) := by decide +kernel
def RJxfd54e : String := "java/lang/constant/Constable"
def TJxfd54e : u_T := fun k => match k with
  | _ => ("", "", "", false)
def tyJxfd54e : Nat → FieldType := fun k => match k with
  | _ => .int
abbrev wsJxfd54e0 : List Cond := u_ws RJxfd54e TJxfd54e 0
theorem nmJxfd54e : ∀ a, a < 0 → ∀ b, b < 0 → a ≠ b → (TJxfd54e a).2.1 ≠ (TJxfd54e b).2.1 := by decide +kernel
theorem tyJxfd54e_ok : ∀ k, k < 0 → parseFieldDescriptor (TJxfd54e k).2.2.1 = some (tyJxfd54e k) := by decide +kernel
def RJx3cf43 : String := "java/lang/constant/ConstantDesc"
def TJx3cf43 : u_T := fun k => match k with
  | _ => ("", "", "", false)
def tyJx3cf43 : Nat → FieldType := fun k => match k with
  | _ => .int
abbrev wsJx3cf430 : List Cond := u_ws RJx3cf43 TJx3cf43 0
theorem nmJx3cf43 : ∀ a, a < 0 → ∀ b, b < 0 → a ≠ b → (TJx3cf43 a).2.1 ≠ (TJx3cf43 b).2.1 := by decide +kernel
theorem tyJx3cf43_ok : ∀ k, k < 0 → parseFieldDescriptor (TJx3cf43 k).2.2.1 = some (tyJx3cf43 k) := by decide +kernel
def RJ7 : String := "java/util/Arrays"
def TJ7 : u_T := fun k => match k with
  | _ => ("", "", "", false)
def tyJ7 : Nat → FieldType := fun k => match k with
  | _ => .int
abbrev wsJ70 : List Cond := u_ws RJ7 TJ7 0
theorem nmJ7 : ∀ a, a < 0 → ∀ b, b < 0 → a ≠ b → (TJ7 a).2.1 ≠ (TJ7 b).2.1 := by decide +kernel
theorem tyJ7_ok : ∀ k, k < 0 → parseFieldDescriptor (TJ7 k).2.2.1 = some (tyJ7 k) := by decide +kernel
abbrev cJ7_fill_d0a16 : ByteArray := prog_12_method_101_code
def yJ7_fill_d0a16 : MethodName := ⟨RJ7, "fill", "([JJ)V"⟩
abbrev cJ7_fill_53178 : ByteArray := prog_12_method_103_code
def yJ7_fill_53178 : MethodName := ⟨RJ7, "fill", "([II)V"⟩
def RL : String := "LentPilesLaw"
abbrev cL_law : ByteArray := code
def yL_law : MethodName := ⟨RL, "law", "([I)Z"⟩
def wsX0_init : List Cond := .code yX0_init cX0_init 1 none :: ([.methodLink RX0 3 objectInit, .instanceMethod objectInit, .code objectInit ⟨#[0xb1]⟩ 1 none, .arrayClass .char, .fieldLink RX0 9 "LentPiles$Pad" "signs" "[C", .arrayClass .int, .fieldLink RX0 15 "LentPiles$Pad" "kind" "[I", .fieldLink RX0 19 "LentPiles$Pad" "doer" "[I", .fieldLink RX0 22 "LentPiles$Pad" "borrower" "[I", .fieldLink RX0 25 "LentPiles$Pad" "pence" "[I", .fieldLink RX0 28 "LentPiles$Pad" "guess" "[I", .fieldLink RX0 31 "LentPiles$Pad" "length" "I", .fieldLink RX0 35 "LentPiles$Pad" "parts" "I", .fieldLink RX0 38 "LentPiles$Pad" "asks" "I", .fieldLink RX0 41 "LentPiles$Pad" "why" "I"] ++ wsX00)
def wsX0_write : List Cond := .code yX0_write cX0_write 2 (some .boolean) :: ([.fieldLink RX0 31 "LentPiles$Pad" "length" "I", .fieldLink RX0 9 "LentPiles$Pad" "signs" "[C"] ++ wsX00)
def wsX0_clear : List Cond := .code yX0_clear cX0_clear 1 none :: ([.fieldLink RX0 31 "LentPiles$Pad" "length" "I"] ++ wsX00)
def wsX0_signAt : List Cond := .code yX0_signAt cX0_signAt 2 (some .char) :: ([.fieldLink RX0 31 "LentPiles$Pad" "length" "I", .fieldLink RX0 9 "LentPiles$Pad" "signs" "[C"] ++ wsX00)
def wsX0_isLetter : List Cond := .code yX0_isLetter cX0_isLetter 1 (some .boolean) :: ([])
def wsX0_isDigit : List Cond := .code yX0_isDigit cX0_isDigit 1 (some .boolean) :: ([])
def wsX0_faultOfPart : List Cond := .code yX0_faultOfPart cX0_faultOfPart 7 (some .int) :: ([.fieldLink RX0 38 "LentPiles$Pad" "asks" "I", .methodLink RX0 51 yX0_signAt, .instanceMethod yX0_signAt, .selects RX0 yX0_signAt yX0_signAt, .initialized RX0, .code yX0_signAt cX0_signAt 2 (some .char), .fieldLink RX0 31 "LentPiles$Pad" "length" "I", .fieldLink RX0 9 "LentPiles$Pad" "signs" "[C", .methodLink RX0 55 yX0_isLetter, .static yX0_isLetter, .code yX0_isLetter cX0_isLetter 1 (some .boolean), .methodLink RX0 59 yX0_isDigit, .static yX0_isDigit, .code yX0_isDigit cX0_isDigit 1 (some .boolean)] ++ wsX00)
def wsX0_addPart : List Cond := .code yX0_addPart cX0_addPart 5 none :: ([.fieldLink RX0 35 "LentPiles$Pad" "parts" "I", .fieldLink RX0 15 "LentPiles$Pad" "kind" "[I", .fieldLink RX0 19 "LentPiles$Pad" "doer" "[I", .fieldLink RX0 22 "LentPiles$Pad" "borrower" "[I", .fieldLink RX0 25 "LentPiles$Pad" "pence" "[I"] ++ wsX00)
def wsX0_takePart : List Cond := .code yX0_takePart cX0_takePart 7 (some .int) :: ([.fieldLink RX0 38 "LentPiles$Pad" "asks" "I", .methodLink RX0 51 yX0_signAt, .instanceMethod yX0_signAt, .selects RX0 yX0_signAt yX0_signAt, .initialized RX0, .code yX0_signAt cX0_signAt 2 (some .char), .fieldLink RX0 31 "LentPiles$Pad" "length" "I", .fieldLink RX0 9 "LentPiles$Pad" "signs" "[C", .methodLink RX0 62 yX0_addPart, .instanceMethod yX0_addPart, .selects RX0 yX0_addPart yX0_addPart, .code yX0_addPart cX0_addPart 5 none, .fieldLink RX0 35 "LentPiles$Pad" "parts" "I", .fieldLink RX0 15 "LentPiles$Pad" "kind" "[I", .fieldLink RX0 19 "LentPiles$Pad" "doer" "[I", .fieldLink RX0 22 "LentPiles$Pad" "borrower" "[I", .fieldLink RX0 25 "LentPiles$Pad" "pence" "[I", .methodLink RX0 59 yX0_isDigit, .static yX0_isDigit, .code yX0_isDigit cX0_isDigit 1 (some .boolean)] ++ wsX00)
def wsX0_read_r1 : List Cond := [Cond.fieldLink RX0 35 "LentPiles$Pad" "parts" "I", Cond.fieldLink RX0 38 "LentPiles$Pad" "asks" "I", Cond.fieldLink RX0 31 "LentPiles$Pad" "length" "I", Cond.methodLink RX0 44 yX0_faultOfPart, Cond.instanceMethod yX0_faultOfPart, Cond.selects RX0 yX0_faultOfPart yX0_faultOfPart, Cond.initialized RX0, Cond.code yX0_faultOfPart cX0_faultOfPart 7 (some .int), Cond.methodLink RX0 51 yX0_signAt, Cond.instanceMethod yX0_signAt, Cond.selects RX0 yX0_signAt yX0_signAt, Cond.code yX0_signAt cX0_signAt 2 (some .char), Cond.fieldLink RX0 9 "LentPiles$Pad" "signs" "[C", Cond.methodLink RX0 55 yX0_isLetter, Cond.static yX0_isLetter, Cond.code yX0_isLetter cX0_isLetter 1 (some .boolean), Cond.methodLink RX0 59 yX0_isDigit, Cond.static yX0_isDigit, Cond.code yX0_isDigit cX0_isDigit 1 (some .boolean), Cond.methodLink RX0 48 yX0_takePart, Cond.instanceMethod yX0_takePart, Cond.selects RX0 yX0_takePart yX0_takePart, Cond.code yX0_takePart cX0_takePart 7 (some .int), Cond.methodLink RX0 62 yX0_addPart]
def wsX0_read_r2 : List Cond := [Cond.instanceMethod yX0_addPart, Cond.selects RX0 yX0_addPart yX0_addPart, Cond.code yX0_addPart cX0_addPart 5 none, Cond.fieldLink RX0 15 "LentPiles$Pad" "kind" "[I", Cond.fieldLink RX0 19 "LentPiles$Pad" "doer" "[I", Cond.fieldLink RX0 22 "LentPiles$Pad" "borrower" "[I", Cond.fieldLink RX0 25 "LentPiles$Pad" "pence" "[I"]
def wsX0_read : List Cond := .code yX0_read cX0_read 4 (some .int) :: ((wsX0_read_r1 ++ wsX0_read_r2) ++ wsX00)
def wsX0_guesses : List Cond := .code yX0_guesses cX0_guesses 3 (some .int) :: ([.fieldLink RX0 38 "LentPiles$Pad" "asks" "I"] ++ wsX00)
def wsX0_writeMen : List Cond := .code yX0_writeMen cX0_writeMen 4 none :: ([.fieldLink RX0 38 "LentPiles$Pad" "asks" "I", .methodLink RX0 66 Lib.Math.min.name, .static Lib.Math.min.name, .initialized "java/lang/Math", .code Lib.Math.min.name Lib.Math.min.code 2 (some .int), .fieldLink RX0 28 "LentPiles$Pad" "guess" "[I"] ++ wsX00)
def wsX0_manFor : List Cond := .code yX0_manFor cX0_manFor 2 (some .int) :: ([.fieldLink RX0 38 "LentPiles$Pad" "asks" "I", .fieldLink RX0 28 "LentPiles$Pad" "guess" "[I"] ++ wsX00)
def wsX3_isMan : List Cond := .code yX3_isMan cX3_isMan 1 (some .boolean) :: ([])
def wsX0_manOf : List Cond := .code yX0_manOf cX0_manOf 2 (some .int) :: ([.static yX3_isMan, .initialized RX3, .code yX3_isMan cX3_isMan 1 (some .boolean), .methodLink RX0 76 yX0_manFor, .instanceMethod yX0_manFor, .selects RX0 yX0_manFor yX0_manFor, .initialized RX0, .code yX0_manFor cX0_manFor 2 (some .int), .fieldLink RX0 38 "LentPiles$Pad" "asks" "I", .fieldLink RX0 28 "LentPiles$Pad" "guess" "[I"] ++ wsX00)
def wsX0_lendsToHimself : List Cond := .code yX0_lendsToHimself cX0_lendsToHimself 2 (some .boolean) :: ([.fieldLink RX0 35 "LentPiles$Pad" "parts" "I", .fieldLink RX0 15 "LentPiles$Pad" "kind" "[I", .fieldLink RX0 19 "LentPiles$Pad" "doer" "[I", .fieldLink RX0 22 "LentPiles$Pad" "borrower" "[I", .methodLink RX0 79 yX0_manOf, .instanceMethod yX0_manOf, .selects RX0 yX0_manOf yX0_manOf, .initialized RX0, .code yX0_manOf cX0_manOf 2 (some .int), .static yX3_isMan, .initialized RX3, .code yX3_isMan cX3_isMan 1 (some .boolean), .methodLink RX0 76 yX0_manFor, .instanceMethod yX0_manFor, .selects RX0 yX0_manFor yX0_manFor, .code yX0_manFor cX0_manFor 2 (some .int), .fieldLink RX0 38 "LentPiles$Pad" "asks" "I", .fieldLink RX0 28 "LentPiles$Pad" "guess" "[I"] ++ wsX00)
def wsX2_copyFrom : List Cond := .code yX2_copyFrom cX2_copyFrom 2 none :: ([.fieldLink RX2 9 "LentPiles$Valley" "purse" "[I", .methodLink RX2 52 arraycopyName, .native arraycopyName, .static arraycopyName, .initialized "java/lang/System", .fieldLink RX2 21 "LentPiles$Valley" "height" "[I", .fieldLink RX2 24 "LentPiles$Valley" "lender" "[I", .fieldLink RX2 27 "LentPiles$Valley" "pence" "[I", .fieldLink RX2 30 "LentPiles$Valley" "made" "[I", .fieldLink RX2 33 "LentPiles$Valley" "sightMan" "[I", .fieldLink RX2 36 "LentPiles$Valley" "sightPence" "[I", .fieldLink RX2 39 "LentPiles$Valley" "sights" "I", .fieldLink RX2 43 "LentPiles$Valley" "days" "I", .fieldLink RX2 46 "LentPiles$Valley" "law" "I", .fieldLink RX2 49 "LentPiles$Valley" "rate" "I"] ++ wsX20)
def wsX3_grown : List Cond := .code yX3_grown cX3_grown 2 (some .int) :: ([.methodLink RX3 214 Lib.Math.min.name, .static Lib.Math.min.name, .initialized "java/lang/Math", .code Lib.Math.min.name Lib.Math.min.code 2 (some .int)])
def wsX2_passDay : List Cond := .code yX2_passDay cX2_passDay 2 none :: ([.fieldLink RX2 43 "LentPiles$Valley" "days" "I", .fieldLink RX2 27 "LentPiles$Valley" "pence" "[I", .fieldLink RX2 49 "LentPiles$Valley" "rate" "I", .static yX3_grown, .initialized RX3, .code yX3_grown cX3_grown 2 (some .int), .methodLink RX3 214 Lib.Math.min.name, .static Lib.Math.min.name, .initialized "java/lang/Math", .code Lib.Math.min.name Lib.Math.min.code 2 (some .int)] ++ wsX20)
def wsX2_hasDebt : List Cond := .code yX2_hasDebt cX2_hasDebt 3 (some .boolean) :: ([.fieldLink RX2 21 "LentPiles$Valley" "height" "[I"] ++ wsX20)
def wsX2_debtsOf : List Cond := .code yX2_debtsOf cX2_debtsOf 2 (some .int) :: ([.fieldLink RX2 21 "LentPiles$Valley" "height" "[I", .static yX3_isMan, .initialized RX3, .code yX3_isMan cX3_isMan 1 (some .boolean)] ++ wsX20)
def wsX2_notLater : List Cond := .code yX2_notLater cX2_notLater 6 (some .boolean) :: ([.fieldLink RX2 46 "LentPiles$Valley" "law" "I", .fieldLink RX2 27 "LentPiles$Valley" "pence" "[I", .methodLink RX2 62 yX2_hasDebt, .instanceMethod yX2_hasDebt, .selects RX2 yX2_hasDebt yX2_hasDebt, .initialized RX2, .code yX2_hasDebt cX2_hasDebt 3 (some .boolean), .fieldLink RX2 21 "LentPiles$Valley" "height" "[I"] ++ wsX20)
def wsX2_dueOf : List Cond := .code yX2_dueOf cX2_dueOf 4 (some .int) :: ([.methodLink RX2 62 yX2_hasDebt, .instanceMethod yX2_hasDebt, .selects RX2 yX2_hasDebt yX2_hasDebt, .initialized RX2, .code yX2_hasDebt cX2_hasDebt 3 (some .boolean), .fieldLink RX2 21 "LentPiles$Valley" "height" "[I", .methodLink RX2 66 yX2_debtsOf, .instanceMethod yX2_debtsOf, .selects RX2 yX2_debtsOf yX2_debtsOf, .code yX2_debtsOf cX2_debtsOf 2 (some .int), .static yX3_isMan, .initialized RX3, .code yX3_isMan cX3_isMan 1 (some .boolean), .methodLink RX2 70 yX2_notLater, .instanceMethod yX2_notLater, .selects RX2 yX2_notLater yX2_notLater, .code yX2_notLater cX2_notLater 6 (some .boolean), .fieldLink RX2 46 "LentPiles$Valley" "law" "I", .fieldLink RX2 27 "LentPiles$Valley" "pence" "[I"] ++ wsX20)
def wsX2_penceOf : List Cond := .code yX2_penceOf cX2_penceOf 3 (some .int) :: ([.fieldLink RX2 27 "LentPiles$Valley" "pence" "[I", .methodLink RX2 62 yX2_hasDebt, .instanceMethod yX2_hasDebt, .selects RX2 yX2_hasDebt yX2_hasDebt, .initialized RX2, .code yX2_hasDebt cX2_hasDebt 3 (some .boolean), .fieldLink RX2 21 "LentPiles$Valley" "height" "[I"] ++ wsX20)
def wsX2_purseOf : List Cond := .code yX2_purseOf cX2_purseOf 2 (some .int) :: ([.fieldLink RX2 9 "LentPiles$Valley" "purse" "[I", .static yX3_isMan, .initialized RX3, .code yX3_isMan cX3_isMan 1 (some .boolean)] ++ wsX20)
def wsX2_lenderOf : List Cond := .code yX2_lenderOf cX2_lenderOf 3 (some .int) :: ([.fieldLink RX2 24 "LentPiles$Valley" "lender" "[I", .methodLink RX2 62 yX2_hasDebt, .instanceMethod yX2_hasDebt, .selects RX2 yX2_hasDebt yX2_hasDebt, .initialized RX2, .code yX2_hasDebt cX2_hasDebt 3 (some .boolean), .fieldLink RX2 21 "LentPiles$Valley" "height" "[I"] ++ wsX20)
def wsX2_fillPurse : List Cond := .code yX2_fillPurse cX2_fillPurse 3 none :: ([.fieldLink RX2 9 "LentPiles$Valley" "purse" "[I", .static yX3_isMan, .initialized RX3, .code yX3_isMan cX3_isMan 1 (some .boolean)] ++ wsX20)
def wsX2_drop : List Cond := .code yX2_drop cX2_drop 5 none :: ([.fieldLink RX2 21 "LentPiles$Valley" "height" "[I", .fieldLink RX2 24 "LentPiles$Valley" "lender" "[I", .fieldLink RX2 27 "LentPiles$Valley" "pence" "[I", .fieldLink RX2 30 "LentPiles$Valley" "made" "[I", .methodLink RX2 62 yX2_hasDebt, .instanceMethod yX2_hasDebt, .selects RX2 yX2_hasDebt yX2_hasDebt, .initialized RX2, .code yX2_hasDebt cX2_hasDebt 3 (some .boolean)] ++ wsX20)
def wsX2_repay_r1 : List Cond := [Cond.methodLink RX2 88 yX2_dueOf, Cond.instanceMethod yX2_dueOf, Cond.selects RX2 yX2_dueOf yX2_dueOf, Cond.initialized RX2, Cond.code yX2_dueOf cX2_dueOf 4 (some .int), Cond.methodLink RX2 62 yX2_hasDebt, Cond.instanceMethod yX2_hasDebt, Cond.selects RX2 yX2_hasDebt yX2_hasDebt, Cond.code yX2_hasDebt cX2_hasDebt 3 (some .boolean), Cond.fieldLink RX2 21 "LentPiles$Valley" "height" "[I", Cond.methodLink RX2 66 yX2_debtsOf, Cond.instanceMethod yX2_debtsOf, Cond.selects RX2 yX2_debtsOf yX2_debtsOf, Cond.code yX2_debtsOf cX2_debtsOf 2 (some .int), Cond.static yX3_isMan, Cond.initialized RX3, Cond.code yX3_isMan cX3_isMan 1 (some .boolean), Cond.methodLink RX2 70 yX2_notLater, Cond.instanceMethod yX2_notLater, Cond.selects RX2 yX2_notLater yX2_notLater, Cond.code yX2_notLater cX2_notLater 6 (some .boolean), Cond.fieldLink RX2 46 "LentPiles$Valley" "law" "I", Cond.fieldLink RX2 27 "LentPiles$Valley" "pence" "[I", Cond.methodLink RX2 74 yX2_penceOf]
def wsX2_repay_r2 : List Cond := [Cond.instanceMethod yX2_penceOf, Cond.selects RX2 yX2_penceOf yX2_penceOf, Cond.code yX2_penceOf cX2_penceOf 3 (some .int), Cond.methodLink RX2 81 yX2_purseOf, Cond.instanceMethod yX2_purseOf, Cond.selects RX2 yX2_purseOf yX2_purseOf, Cond.code yX2_purseOf cX2_purseOf 2 (some .int), Cond.fieldLink RX2 9 "LentPiles$Valley" "purse" "[I", Cond.methodLink RX2 78 yX2_lenderOf, Cond.instanceMethod yX2_lenderOf, Cond.selects RX2 yX2_lenderOf yX2_lenderOf, Cond.code yX2_lenderOf cX2_lenderOf 3 (some .int), Cond.fieldLink RX2 24 "LentPiles$Valley" "lender" "[I", Cond.methodLink RX2 84 yX2_fillPurse, Cond.instanceMethod yX2_fillPurse, Cond.selects RX2 yX2_fillPurse yX2_fillPurse, Cond.code yX2_fillPurse cX2_fillPurse 3 none, Cond.methodLink RX2 91 yX2_drop, Cond.instanceMethod yX2_drop, Cond.selects RX2 yX2_drop yX2_drop, Cond.code yX2_drop cX2_drop 5 none, Cond.fieldLink RX2 30 "LentPiles$Valley" "made" "[I"]
def wsX2_repay : List Cond := .code yX2_repay cX2_repay 5 (some .int) :: ((wsX2_repay_r1 ++ wsX2_repay_r2) ++ wsX20)
def wsX2_lend : List Cond := .code yX2_lend cX2_lend 6 (some .int) :: ([.fieldLink RX2 24 "LentPiles$Valley" "lender" "[I", .fieldLink RX2 27 "LentPiles$Valley" "pence" "[I", .fieldLink RX2 30 "LentPiles$Valley" "made" "[I", .fieldLink RX2 43 "LentPiles$Valley" "days" "I", .fieldLink RX2 21 "LentPiles$Valley" "height" "[I", .methodLink RX2 81 yX2_purseOf, .instanceMethod yX2_purseOf, .selects RX2 yX2_purseOf yX2_purseOf, .initialized RX2, .code yX2_purseOf cX2_purseOf 2 (some .int), .fieldLink RX2 9 "LentPiles$Valley" "purse" "[I", .static yX3_isMan, .initialized RX3, .code yX3_isMan cX3_isMan 1 (some .boolean), .methodLink RX2 66 yX2_debtsOf, .instanceMethod yX2_debtsOf, .selects RX2 yX2_debtsOf yX2_debtsOf, .code yX2_debtsOf cX2_debtsOf 2 (some .int), .methodLink RX2 84 yX2_fillPurse, .instanceMethod yX2_fillPurse, .selects RX2 yX2_fillPurse yX2_fillPurse, .code yX2_fillPurse cX2_fillPurse 3 none] ++ wsX20)
def wsX0_performPart_r1 : List Cond := [Cond.fieldLink RX0 15 "LentPiles$Pad" "kind" "[I", Cond.fieldLink RX0 19 "LentPiles$Pad" "doer" "[I", Cond.fieldLink RX0 22 "LentPiles$Pad" "borrower" "[I", Cond.fieldLink RX0 25 "LentPiles$Pad" "pence" "[I", Cond.methodLink RX0 92 yX2_passDay, Cond.instanceMethod yX2_passDay, Cond.selects RX2 yX2_passDay yX2_passDay, Cond.initialized RX2, Cond.code yX2_passDay cX2_passDay 2 none, Cond.fieldLink RX2 43 "LentPiles$Valley" "days" "I", Cond.fieldLink RX2 27 "LentPiles$Valley" "pence" "[I", Cond.fieldLink RX2 49 "LentPiles$Valley" "rate" "I", Cond.static yX3_grown, Cond.initialized RX3, Cond.code yX3_grown cX3_grown 2 (some .int), Cond.methodLink RX3 214 Lib.Math.min.name, Cond.static Lib.Math.min.name, Cond.initialized "java/lang/Math", Cond.code Lib.Math.min.name Lib.Math.min.code 2 (some .int), Cond.methodLink RX0 79 yX0_manOf, Cond.instanceMethod yX0_manOf, Cond.selects RX0 yX0_manOf yX0_manOf, Cond.initialized RX0, Cond.code yX0_manOf cX0_manOf 2 (some .int)]
def wsX0_performPart_r2 : List Cond := [Cond.static yX3_isMan, Cond.code yX3_isMan cX3_isMan 1 (some .boolean), Cond.methodLink RX0 76 yX0_manFor, Cond.instanceMethod yX0_manFor, Cond.selects RX0 yX0_manFor yX0_manFor, Cond.code yX0_manFor cX0_manFor 2 (some .int), Cond.fieldLink RX0 38 "LentPiles$Pad" "asks" "I", Cond.fieldLink RX0 28 "LentPiles$Pad" "guess" "[I", Cond.methodLink RX0 95 yX2_repay, Cond.instanceMethod yX2_repay, Cond.selects RX2 yX2_repay yX2_repay, Cond.code yX2_repay cX2_repay 5 (some .int), Cond.methodLink RX2 88 yX2_dueOf, Cond.instanceMethod yX2_dueOf, Cond.selects RX2 yX2_dueOf yX2_dueOf, Cond.code yX2_dueOf cX2_dueOf 4 (some .int), Cond.methodLink RX2 62 yX2_hasDebt, Cond.instanceMethod yX2_hasDebt, Cond.selects RX2 yX2_hasDebt yX2_hasDebt, Cond.code yX2_hasDebt cX2_hasDebt 3 (some .boolean), Cond.fieldLink RX2 21 "LentPiles$Valley" "height" "[I", Cond.methodLink RX2 66 yX2_debtsOf, Cond.instanceMethod yX2_debtsOf, Cond.selects RX2 yX2_debtsOf yX2_debtsOf]
def wsX0_performPart_r3 : List Cond := [Cond.code yX2_debtsOf cX2_debtsOf 2 (some .int), Cond.methodLink RX2 70 yX2_notLater, Cond.instanceMethod yX2_notLater, Cond.selects RX2 yX2_notLater yX2_notLater, Cond.code yX2_notLater cX2_notLater 6 (some .boolean), Cond.fieldLink RX2 46 "LentPiles$Valley" "law" "I", Cond.methodLink RX2 74 yX2_penceOf, Cond.instanceMethod yX2_penceOf, Cond.selects RX2 yX2_penceOf yX2_penceOf, Cond.code yX2_penceOf cX2_penceOf 3 (some .int), Cond.methodLink RX2 81 yX2_purseOf, Cond.instanceMethod yX2_purseOf, Cond.selects RX2 yX2_purseOf yX2_purseOf, Cond.code yX2_purseOf cX2_purseOf 2 (some .int), Cond.fieldLink RX2 9 "LentPiles$Valley" "purse" "[I", Cond.methodLink RX2 78 yX2_lenderOf, Cond.instanceMethod yX2_lenderOf, Cond.selects RX2 yX2_lenderOf yX2_lenderOf, Cond.code yX2_lenderOf cX2_lenderOf 3 (some .int), Cond.fieldLink RX2 24 "LentPiles$Valley" "lender" "[I", Cond.methodLink RX2 84 yX2_fillPurse, Cond.instanceMethod yX2_fillPurse, Cond.selects RX2 yX2_fillPurse yX2_fillPurse, Cond.code yX2_fillPurse cX2_fillPurse 3 none]
def wsX0_performPart_r4 : List Cond := [Cond.methodLink RX2 91 yX2_drop, Cond.instanceMethod yX2_drop, Cond.selects RX2 yX2_drop yX2_drop, Cond.code yX2_drop cX2_drop 5 none, Cond.fieldLink RX2 30 "LentPiles$Valley" "made" "[I", Cond.methodLink RX0 98 yX2_lend, Cond.instanceMethod yX2_lend, Cond.selects RX2 yX2_lend yX2_lend, Cond.code yX2_lend cX2_lend 6 (some .int)]
def wsX0_performPart : List Cond := .code yX0_performPart cX0_performPart 4 (some .int) :: ((wsX0_performPart_r1 ++ (wsX0_performPart_r2 ++ (wsX0_performPart_r3 ++ wsX0_performPart_r4))) ++ wsX00 ++ wsX20)
def wsX0_perform_r1 : List Cond := [Cond.fieldLink RX0 35 "LentPiles$Pad" "parts" "I", Cond.fieldLink RX0 41 "LentPiles$Pad" "why" "I", Cond.methodLink RX0 82 yX2_copyFrom, Cond.instanceMethod yX2_copyFrom, Cond.selects RX2 yX2_copyFrom yX2_copyFrom, Cond.initialized RX2, Cond.code yX2_copyFrom cX2_copyFrom 2 none, Cond.fieldLink RX2 9 "LentPiles$Valley" "purse" "[I", Cond.methodLink RX2 52 arraycopyName, Cond.native arraycopyName, Cond.static arraycopyName, Cond.initialized "java/lang/System", Cond.fieldLink RX2 21 "LentPiles$Valley" "height" "[I", Cond.fieldLink RX2 24 "LentPiles$Valley" "lender" "[I", Cond.fieldLink RX2 27 "LentPiles$Valley" "pence" "[I", Cond.fieldLink RX2 30 "LentPiles$Valley" "made" "[I", Cond.fieldLink RX2 33 "LentPiles$Valley" "sightMan" "[I", Cond.fieldLink RX2 36 "LentPiles$Valley" "sightPence" "[I", Cond.fieldLink RX2 39 "LentPiles$Valley" "sights" "I", Cond.fieldLink RX2 43 "LentPiles$Valley" "days" "I", Cond.fieldLink RX2 46 "LentPiles$Valley" "law" "I", Cond.fieldLink RX2 49 "LentPiles$Valley" "rate" "I", Cond.methodLink RX0 88 yX0_performPart, Cond.instanceMethod yX0_performPart]
def wsX0_perform_r2 : List Cond := [Cond.selects RX0 yX0_performPart yX0_performPart, Cond.initialized RX0, Cond.code yX0_performPart cX0_performPart 4 (some .int), Cond.fieldLink RX0 15 "LentPiles$Pad" "kind" "[I", Cond.fieldLink RX0 19 "LentPiles$Pad" "doer" "[I", Cond.fieldLink RX0 22 "LentPiles$Pad" "borrower" "[I", Cond.fieldLink RX0 25 "LentPiles$Pad" "pence" "[I", Cond.methodLink RX0 92 yX2_passDay, Cond.instanceMethod yX2_passDay, Cond.selects RX2 yX2_passDay yX2_passDay, Cond.code yX2_passDay cX2_passDay 2 none, Cond.static yX3_grown, Cond.initialized RX3, Cond.code yX3_grown cX3_grown 2 (some .int), Cond.methodLink RX3 214 Lib.Math.min.name, Cond.static Lib.Math.min.name, Cond.initialized "java/lang/Math", Cond.code Lib.Math.min.name Lib.Math.min.code 2 (some .int), Cond.methodLink RX0 79 yX0_manOf, Cond.instanceMethod yX0_manOf, Cond.selects RX0 yX0_manOf yX0_manOf, Cond.code yX0_manOf cX0_manOf 2 (some .int), Cond.static yX3_isMan, Cond.code yX3_isMan cX3_isMan 1 (some .boolean)]
def wsX0_perform_r3 : List Cond := [Cond.methodLink RX0 76 yX0_manFor, Cond.instanceMethod yX0_manFor, Cond.selects RX0 yX0_manFor yX0_manFor, Cond.code yX0_manFor cX0_manFor 2 (some .int), Cond.fieldLink RX0 38 "LentPiles$Pad" "asks" "I", Cond.fieldLink RX0 28 "LentPiles$Pad" "guess" "[I", Cond.methodLink RX0 95 yX2_repay, Cond.instanceMethod yX2_repay, Cond.selects RX2 yX2_repay yX2_repay, Cond.code yX2_repay cX2_repay 5 (some .int), Cond.methodLink RX2 88 yX2_dueOf, Cond.instanceMethod yX2_dueOf, Cond.selects RX2 yX2_dueOf yX2_dueOf, Cond.code yX2_dueOf cX2_dueOf 4 (some .int), Cond.methodLink RX2 62 yX2_hasDebt, Cond.instanceMethod yX2_hasDebt, Cond.selects RX2 yX2_hasDebt yX2_hasDebt, Cond.code yX2_hasDebt cX2_hasDebt 3 (some .boolean), Cond.methodLink RX2 66 yX2_debtsOf, Cond.instanceMethod yX2_debtsOf, Cond.selects RX2 yX2_debtsOf yX2_debtsOf, Cond.code yX2_debtsOf cX2_debtsOf 2 (some .int), Cond.methodLink RX2 70 yX2_notLater, Cond.instanceMethod yX2_notLater]
def wsX0_perform_r4 : List Cond := [Cond.selects RX2 yX2_notLater yX2_notLater, Cond.code yX2_notLater cX2_notLater 6 (some .boolean), Cond.methodLink RX2 74 yX2_penceOf, Cond.instanceMethod yX2_penceOf, Cond.selects RX2 yX2_penceOf yX2_penceOf, Cond.code yX2_penceOf cX2_penceOf 3 (some .int), Cond.methodLink RX2 81 yX2_purseOf, Cond.instanceMethod yX2_purseOf, Cond.selects RX2 yX2_purseOf yX2_purseOf, Cond.code yX2_purseOf cX2_purseOf 2 (some .int), Cond.methodLink RX2 78 yX2_lenderOf, Cond.instanceMethod yX2_lenderOf, Cond.selects RX2 yX2_lenderOf yX2_lenderOf, Cond.code yX2_lenderOf cX2_lenderOf 3 (some .int), Cond.methodLink RX2 84 yX2_fillPurse, Cond.instanceMethod yX2_fillPurse, Cond.selects RX2 yX2_fillPurse yX2_fillPurse, Cond.code yX2_fillPurse cX2_fillPurse 3 none, Cond.methodLink RX2 91 yX2_drop, Cond.instanceMethod yX2_drop, Cond.selects RX2 yX2_drop yX2_drop, Cond.code yX2_drop cX2_drop 5 none, Cond.methodLink RX0 98 yX2_lend, Cond.instanceMethod yX2_lend]
def wsX0_perform_r5 : List Cond := [Cond.selects RX2 yX2_lend yX2_lend, Cond.code yX2_lend cX2_lend 6 (some .int)]
def wsX0_perform : List Cond := .code yX0_perform cX0_perform 4 (some .int) :: ((wsX0_perform_r1 ++ (wsX0_perform_r2 ++ (wsX0_perform_r3 ++ (wsX0_perform_r4 ++ wsX0_perform_r5)))) ++ wsX00 ++ wsX20)
def wsX1_init : List Cond := .code yX1_init cX1_init 1 none :: ([.methodLink RX1 5 objectInit, .instanceMethod objectInit, .code objectInit ⟨#[0xb1]⟩ 1 none, .arrayClass .int, .fieldLink RX1 11 "LentPiles$Payings" "firstPurse" "[I", .fieldLink RX1 15 "LentPiles$Payings" "purse" "[I", .fieldLink RX1 18 "LentPiles$Payings" "height" "[I", .fieldLink RX1 21 "LentPiles$Payings" "lender" "[I", .fieldLink RX1 24 "LentPiles$Payings" "pence" "[I", .fieldLink RX1 27 "LentPiles$Payings" "paid" "[I", .fieldLink RX1 30 "LentPiles$Payings" "limit" "[I", .fieldLink RX1 33 "LentPiles$Payings" "weight" "[I", .arrayClass .long, .fieldLink RX1 36 "LentPiles$Payings" "layer" "[J", .fieldLink RX1 40 "LentPiles$Payings" "words" "I"] ++ wsX10)
def wsX2_turnOf : List Cond := .code yX2_turnOf cX2_turnOf 5 (some .int) :: ([.methodLink RX2 66 yX2_debtsOf, .instanceMethod yX2_debtsOf, .selects RX2 yX2_debtsOf yX2_debtsOf, .initialized RX2, .code yX2_debtsOf cX2_debtsOf 2 (some .int), .fieldLink RX2 21 "LentPiles$Valley" "height" "[I", .static yX3_isMan, .initialized RX3, .code yX3_isMan cX3_isMan 1 (some .boolean), .methodLink RX2 70 yX2_notLater, .instanceMethod yX2_notLater, .selects RX2 yX2_notLater yX2_notLater, .code yX2_notLater cX2_notLater 6 (some .boolean), .fieldLink RX2 46 "LentPiles$Valley" "law" "I", .fieldLink RX2 27 "LentPiles$Valley" "pence" "[I", .methodLink RX2 62 yX2_hasDebt, .instanceMethod yX2_hasDebt, .selects RX2 yX2_hasDebt yX2_hasDebt, .code yX2_hasDebt cX2_hasDebt 3 (some .boolean)] ++ wsX20)
def wsX3_isWithin : List Cond := .code yX3_isWithin cX3_isWithin 3 (some .boolean) :: ([])
def wsX1_load_r1 : List Cond := [Cond.fieldLink RX1 11 "LentPiles$Payings" "firstPurse" "[I", Cond.fieldLink RX1 15 "LentPiles$Payings" "purse" "[I", Cond.fieldLink RX1 18 "LentPiles$Payings" "height" "[I", Cond.fieldLink RX1 27 "LentPiles$Payings" "paid" "[I", Cond.fieldLink RX1 21 "LentPiles$Payings" "lender" "[I", Cond.fieldLink RX1 24 "LentPiles$Payings" "pence" "[I", Cond.methodLink RX1 44 yX2_purseOf, Cond.instanceMethod yX2_purseOf, Cond.selects RX2 yX2_purseOf yX2_purseOf, Cond.initialized RX2, Cond.code yX2_purseOf cX2_purseOf 2 (some .int), Cond.fieldLink RX2 9 "LentPiles$Valley" "purse" "[I", Cond.static yX3_isMan, Cond.initialized RX3, Cond.code yX3_isMan cX3_isMan 1 (some .boolean), Cond.methodLink RX1 50 yX2_debtsOf, Cond.instanceMethod yX2_debtsOf, Cond.selects RX2 yX2_debtsOf yX2_debtsOf, Cond.code yX2_debtsOf cX2_debtsOf 2 (some .int), Cond.fieldLink RX2 21 "LentPiles$Valley" "height" "[I", Cond.methodLink RX1 53 yX2_turnOf, Cond.instanceMethod yX2_turnOf, Cond.selects RX2 yX2_turnOf yX2_turnOf, Cond.code yX2_turnOf cX2_turnOf 5 (some .int)]
def wsX1_load_r2 : List Cond := [Cond.methodLink RX2 66 yX2_debtsOf, Cond.methodLink RX2 70 yX2_notLater, Cond.instanceMethod yX2_notLater, Cond.selects RX2 yX2_notLater yX2_notLater, Cond.code yX2_notLater cX2_notLater 6 (some .boolean), Cond.fieldLink RX2 46 "LentPiles$Valley" "law" "I", Cond.fieldLink RX2 27 "LentPiles$Valley" "pence" "[I", Cond.methodLink RX2 62 yX2_hasDebt, Cond.instanceMethod yX2_hasDebt, Cond.selects RX2 yX2_hasDebt yX2_hasDebt, Cond.code yX2_hasDebt cX2_hasDebt 3 (some .boolean), Cond.static yX3_isWithin, Cond.code yX3_isWithin cX3_isWithin 3 (some .boolean), Cond.methodLink RX1 61 yX2_lenderOf, Cond.instanceMethod yX2_lenderOf, Cond.selects RX2 yX2_lenderOf yX2_lenderOf, Cond.code yX2_lenderOf cX2_lenderOf 3 (some .int), Cond.fieldLink RX2 24 "LentPiles$Valley" "lender" "[I", Cond.methodLink RX1 64 yX2_penceOf, Cond.instanceMethod yX2_penceOf, Cond.selects RX2 yX2_penceOf yX2_penceOf, Cond.code yX2_penceOf cX2_penceOf 3 (some .int)]
def wsX1_load : List Cond := .code yX1_load cX1_load 6 none :: ((wsX1_load_r1 ++ wsX1_load_r2) ++ wsX10 ++ wsX20)
def wsX1_isPaidUp : List Cond := .code yX1_isPaidUp cX1_isPaidUp 2 (some .boolean) :: ([.fieldLink RX1 27 "LentPiles$Payings" "paid" "[I", .fieldLink RX1 18 "LentPiles$Payings" "height" "[I"] ++ wsX10)
def wsX1_canPay : List Cond := .code yX1_canPay cX1_canPay 2 (some .boolean) :: ([.fieldLink RX1 15 "LentPiles$Payings" "purse" "[I", .fieldLink RX1 24 "LentPiles$Payings" "pence" "[I", .fieldLink RX1 27 "LentPiles$Payings" "paid" "[I", .methodLink RX1 67 yX1_isPaidUp, .instanceMethod yX1_isPaidUp, .selects RX1 yX1_isPaidUp yX1_isPaidUp, .initialized RX1, .code yX1_isPaidUp cX1_isPaidUp 2 (some .boolean), .fieldLink RX1 18 "LentPiles$Payings" "height" "[I"] ++ wsX10)
def wsX1_pay : List Cond := .code yX1_pay cX1_pay 3 none :: ([.fieldLink RX1 27 "LentPiles$Payings" "paid" "[I", .fieldLink RX1 15 "LentPiles$Payings" "purse" "[I", .fieldLink RX1 24 "LentPiles$Payings" "pence" "[I", .fieldLink RX1 21 "LentPiles$Payings" "lender" "[I", .methodLink RX1 67 yX1_isPaidUp, .instanceMethod yX1_isPaidUp, .selects RX1 yX1_isPaidUp yX1_isPaidUp, .initialized RX1, .code yX1_isPaidUp cX1_isPaidUp 2 (some .boolean), .fieldLink RX1 18 "LentPiles$Payings" "height" "[I", .static yX3_isMan, .initialized RX3, .code yX3_isMan cX3_isMan 1 (some .boolean)] ++ wsX10)
def wsX1_payAllThatCan : List Cond := .code yX1_payAllThatCan cX1_payAllThatCan 5 none :: ([.methodLink RX1 74 yX1_canPay, .instanceMethod yX1_canPay, .selects RX1 yX1_canPay yX1_canPay, .initialized RX1, .code yX1_canPay cX1_canPay 2 (some .boolean), .fieldLink RX1 15 "LentPiles$Payings" "purse" "[I", .fieldLink RX1 24 "LentPiles$Payings" "pence" "[I", .fieldLink RX1 27 "LentPiles$Payings" "paid" "[I", .methodLink RX1 67 yX1_isPaidUp, .instanceMethod yX1_isPaidUp, .selects RX1 yX1_isPaidUp yX1_isPaidUp, .code yX1_isPaidUp cX1_isPaidUp 2 (some .boolean), .fieldLink RX1 18 "LentPiles$Payings" "height" "[I", .methodLink RX1 77 yX1_pay, .instanceMethod yX1_pay, .selects RX1 yX1_pay yX1_pay, .code yX1_pay cX1_pay 3 none, .fieldLink RX1 21 "LentPiles$Payings" "lender" "[I", .static yX3_isMan, .initialized RX3, .code yX3_isMan cX3_isMan 1 (some .boolean)] ++ wsX10)
def wsX1_stillOwing : List Cond := .code yX1_stillOwing cX1_stillOwing 3 (some .int) :: ([.methodLink RX1 67 yX1_isPaidUp, .instanceMethod yX1_isPaidUp, .selects RX1 yX1_isPaidUp yX1_isPaidUp, .initialized RX1, .code yX1_isPaidUp cX1_isPaidUp 2 (some .boolean), .fieldLink RX1 27 "LentPiles$Payings" "paid" "[I", .fieldLink RX1 18 "LentPiles$Payings" "height" "[I"] ++ wsX10)
def wsX1_leastHelp_r1 : List Cond := [Cond.fieldLink RX1 24 "LentPiles$Payings" "pence" "[I", Cond.fieldLink RX1 27 "LentPiles$Payings" "paid" "[I", Cond.fieldLink RX1 15 "LentPiles$Payings" "purse" "[I", Cond.methodLink RX1 81 yX1_payAllThatCan, Cond.instanceMethod yX1_payAllThatCan, Cond.selects RX1 yX1_payAllThatCan yX1_payAllThatCan, Cond.initialized RX1, Cond.code yX1_payAllThatCan cX1_payAllThatCan 5 none, Cond.methodLink RX1 74 yX1_canPay, Cond.instanceMethod yX1_canPay, Cond.selects RX1 yX1_canPay yX1_canPay, Cond.code yX1_canPay cX1_canPay 2 (some .boolean), Cond.methodLink RX1 67 yX1_isPaidUp, Cond.instanceMethod yX1_isPaidUp, Cond.selects RX1 yX1_isPaidUp yX1_isPaidUp, Cond.code yX1_isPaidUp cX1_isPaidUp 2 (some .boolean), Cond.fieldLink RX1 18 "LentPiles$Payings" "height" "[I", Cond.methodLink RX1 77 yX1_pay, Cond.instanceMethod yX1_pay, Cond.selects RX1 yX1_pay yX1_pay, Cond.code yX1_pay cX1_pay 3 none, Cond.fieldLink RX1 21 "LentPiles$Payings" "lender" "[I", Cond.static yX3_isMan, Cond.initialized RX3]
def wsX1_leastHelp_r2 : List Cond := [Cond.code yX3_isMan cX3_isMan 1 (some .boolean), Cond.methodLink RX1 84 yX1_stillOwing, Cond.instanceMethod yX1_stillOwing, Cond.selects RX1 yX1_stillOwing yX1_stillOwing, Cond.code yX1_stillOwing cX1_stillOwing 3 (some .int)]
def wsX1_leastHelp : List Cond := .code yX1_leastHelp cX1_leastHelp 5 (some .int) :: ((wsX1_leastHelp_r1 ++ wsX1_leastHelp_r2) ++ wsX10)
def wsX1_setLimits : List Cond := .code yX1_setLimits cX1_setLimits 5 none :: ([.fieldLink RX1 30 "LentPiles$Payings" "limit" "[I", .fieldLink RX1 27 "LentPiles$Payings" "paid" "[I", .fieldLink RX1 33 "LentPiles$Payings" "weight" "[I", .methodLink RX1 104 Lib.Math.min.name, .static Lib.Math.min.name, .initialized "java/lang/Math", .code Lib.Math.min.name Lib.Math.min.code 2 (some .int), .fieldLink RX1 40 "LentPiles$Payings" "words" "I"] ++ wsX10)
def wsJ7_fill_d0a16 : List Cond := .code yJ7_fill_d0a16 cJ7_fill_d0a16 5 none :: ([])
def wsX1_mark : List Cond := .code yX1_mark cX1_mark 2 none :: ([.constant RX1 131 (46656), .fieldLink RX1 36 "LentPiles$Payings" "layer" "[J"] ++ wsX10)
def wsJ6_numberOfTrailingZeros_0f7a4 : List Cond := .code yJ6_numberOfTrailingZeros_0f7a4 cJ6_numberOfTrailingZeros_0f7a4 2 (some .int) :: ([.constant RJ6 264 (65536)])
def wsJ13_numberOfTrailingZeros_95d88 : List Cond := .code yJ13_numberOfTrailingZeros_95d88 cJ13_numberOfTrailingZeros_95d88 3 (some .int) :: ([.methodLink RJ13 311 yJ6_numberOfTrailingZeros_0f7a4, .static yJ6_numberOfTrailingZeros_0f7a4, .initialized RJ6, .code yJ6_numberOfTrailingZeros_0f7a4 cJ6_numberOfTrailingZeros_0f7a4 2 (some .int), .constant RJ6 264 (65536)])
def wsJ7_fill_53178 : List Cond := .code yJ7_fill_53178 cJ7_fill_53178 4 none :: ([])
def wsX1_standAt_r1 : List Cond := [Cond.fieldLink RX1 11 "LentPiles$Payings" "firstPurse" "[I", Cond.fieldLink RX1 15 "LentPiles$Payings" "purse" "[I", Cond.methodLink RX1 122 arraycopyName, Cond.native arraycopyName, Cond.static arraycopyName, Cond.initialized "java/lang/System", Cond.fieldLink RX1 27 "LentPiles$Payings" "paid" "[I", Cond.fieldLink RX1 30 "LentPiles$Payings" "limit" "[I", Cond.methodLink RX1 128 yJ7_fill_53178, Cond.static yJ7_fill_53178, Cond.initialized RJ7, Cond.code yJ7_fill_53178 cJ7_fill_53178 4 none, Cond.methodLink RX1 77 yX1_pay, Cond.instanceMethod yX1_pay, Cond.selects RX1 yX1_pay yX1_pay, Cond.initialized RX1, Cond.code yX1_pay cX1_pay 3 none, Cond.fieldLink RX1 24 "LentPiles$Payings" "pence" "[I", Cond.fieldLink RX1 21 "LentPiles$Payings" "lender" "[I", Cond.methodLink RX1 67 yX1_isPaidUp, Cond.instanceMethod yX1_isPaidUp, Cond.selects RX1 yX1_isPaidUp yX1_isPaidUp, Cond.code yX1_isPaidUp cX1_isPaidUp 2 (some .boolean), Cond.fieldLink RX1 18 "LentPiles$Payings" "height" "[I"]
def wsX1_standAt_r2 : List Cond := [Cond.static yX3_isMan, Cond.initialized RX3, Cond.code yX3_isMan cX3_isMan 1 (some .boolean)]
def wsX1_standAt : List Cond := .code yX1_standAt cX1_standAt 7 none :: ((wsX1_standAt_r1 ++ wsX1_standAt_r2) ++ wsX10)
def wsX1_leave_r1 : List Cond := [Cond.fieldLink RX1 27 "LentPiles$Payings" "paid" "[I", Cond.fieldLink RX1 30 "LentPiles$Payings" "limit" "[I", Cond.fieldLink RX1 33 "LentPiles$Payings" "weight" "[I", Cond.methodLink RX1 119 yX1_standAt, Cond.instanceMethod yX1_standAt, Cond.selects RX1 yX1_standAt yX1_standAt, Cond.initialized RX1, Cond.code yX1_standAt cX1_standAt 7 none, Cond.fieldLink RX1 11 "LentPiles$Payings" "firstPurse" "[I", Cond.fieldLink RX1 15 "LentPiles$Payings" "purse" "[I", Cond.methodLink RX1 122 arraycopyName, Cond.native arraycopyName, Cond.static arraycopyName, Cond.initialized "java/lang/System", Cond.methodLink RX1 128 yJ7_fill_53178, Cond.static yJ7_fill_53178, Cond.initialized RJ7, Cond.code yJ7_fill_53178 cJ7_fill_53178 4 none, Cond.methodLink RX1 77 yX1_pay, Cond.instanceMethod yX1_pay, Cond.selects RX1 yX1_pay yX1_pay, Cond.code yX1_pay cX1_pay 3 none, Cond.fieldLink RX1 24 "LentPiles$Payings" "pence" "[I", Cond.fieldLink RX1 21 "LentPiles$Payings" "lender" "[I"]
def wsX1_leave_r2 : List Cond := [Cond.methodLink RX1 67 yX1_isPaidUp, Cond.instanceMethod yX1_isPaidUp, Cond.selects RX1 yX1_isPaidUp yX1_isPaidUp, Cond.code yX1_isPaidUp cX1_isPaidUp 2 (some .boolean), Cond.fieldLink RX1 18 "LentPiles$Payings" "height" "[I", Cond.static yX3_isMan, Cond.initialized RX3, Cond.code yX3_isMan cX3_isMan 1 (some .boolean), Cond.methodLink RX1 74 yX1_canPay, Cond.instanceMethod yX1_canPay, Cond.selects RX1 yX1_canPay yX1_canPay, Cond.code yX1_canPay cX1_canPay 2 (some .boolean), Cond.methodLink RX1 98 yX1_mark, Cond.instanceMethod yX1_mark, Cond.selects RX1 yX1_mark yX1_mark, Cond.code yX1_mark cX1_mark 2 none, Cond.constant RX1 131 (46656), Cond.fieldLink RX1 36 "LentPiles$Payings" "layer" "[J"]
def wsX1_leave : List Cond := .code yX1_leave cX1_leave 4 (some .boolean) :: ((wsX1_leave_r1 ++ wsX1_leave_r2) ++ wsX10)
def wsX1_spread_r1 : List Cond := [Cond.fieldLink RX1 40 "LentPiles$Payings" "words" "I", Cond.fieldLink RX1 36 "LentPiles$Payings" "layer" "[J", Cond.methodLink RX1 109 yJ13_numberOfTrailingZeros_95d88, Cond.static yJ13_numberOfTrailingZeros_95d88, Cond.initialized RJ13, Cond.code yJ13_numberOfTrailingZeros_95d88 cJ13_numberOfTrailingZeros_95d88 3 (some .int), Cond.methodLink RJ13 311 yJ6_numberOfTrailingZeros_0f7a4, Cond.static yJ6_numberOfTrailingZeros_0f7a4, Cond.initialized RJ6, Cond.code yJ6_numberOfTrailingZeros_0f7a4 cJ6_numberOfTrailingZeros_0f7a4 2 (some .int), Cond.constant RJ6 264 (65536), Cond.methodLink RX1 115 yX1_leave, Cond.instanceMethod yX1_leave, Cond.selects RX1 yX1_leave yX1_leave, Cond.initialized RX1, Cond.code yX1_leave cX1_leave 4 (some .boolean), Cond.fieldLink RX1 27 "LentPiles$Payings" "paid" "[I", Cond.fieldLink RX1 30 "LentPiles$Payings" "limit" "[I", Cond.fieldLink RX1 33 "LentPiles$Payings" "weight" "[I", Cond.methodLink RX1 119 yX1_standAt, Cond.instanceMethod yX1_standAt, Cond.selects RX1 yX1_standAt yX1_standAt, Cond.code yX1_standAt cX1_standAt 7 none, Cond.fieldLink RX1 11 "LentPiles$Payings" "firstPurse" "[I"]
def wsX1_spread_r2 : List Cond := [Cond.fieldLink RX1 15 "LentPiles$Payings" "purse" "[I", Cond.methodLink RX1 122 arraycopyName, Cond.native arraycopyName, Cond.static arraycopyName, Cond.initialized "java/lang/System", Cond.methodLink RX1 128 yJ7_fill_53178, Cond.static yJ7_fill_53178, Cond.initialized RJ7, Cond.code yJ7_fill_53178 cJ7_fill_53178 4 none, Cond.methodLink RX1 77 yX1_pay, Cond.instanceMethod yX1_pay, Cond.selects RX1 yX1_pay yX1_pay, Cond.code yX1_pay cX1_pay 3 none, Cond.fieldLink RX1 24 "LentPiles$Payings" "pence" "[I", Cond.fieldLink RX1 21 "LentPiles$Payings" "lender" "[I", Cond.methodLink RX1 67 yX1_isPaidUp, Cond.instanceMethod yX1_isPaidUp, Cond.selects RX1 yX1_isPaidUp yX1_isPaidUp, Cond.code yX1_isPaidUp cX1_isPaidUp 2 (some .boolean), Cond.fieldLink RX1 18 "LentPiles$Payings" "height" "[I", Cond.static yX3_isMan, Cond.initialized RX3, Cond.code yX3_isMan cX3_isMan 1 (some .boolean), Cond.methodLink RX1 74 yX1_canPay]
def wsX1_spread_r3 : List Cond := [Cond.instanceMethod yX1_canPay, Cond.selects RX1 yX1_canPay yX1_canPay, Cond.code yX1_canPay cX1_canPay 2 (some .boolean), Cond.methodLink RX1 98 yX1_mark, Cond.instanceMethod yX1_mark, Cond.selects RX1 yX1_mark yX1_mark, Cond.code yX1_mark cX1_mark 2 none, Cond.constant RX1 131 (46656)]
def wsX1_spread : List Cond := .code yX1_spread cX1_spread 7 (some .boolean) :: ((wsX1_spread_r1 ++ (wsX1_spread_r2 ++ wsX1_spread_r3)) ++ wsX10)
def wsX1_fewest_r1 : List Cond := [Cond.fieldLink RX1 27 "LentPiles$Payings" "paid" "[I", Cond.fieldLink RX1 36 "LentPiles$Payings" "layer" "[J", Cond.methodLink RX1 81 yX1_payAllThatCan, Cond.instanceMethod yX1_payAllThatCan, Cond.selects RX1 yX1_payAllThatCan yX1_payAllThatCan, Cond.initialized RX1, Cond.code yX1_payAllThatCan cX1_payAllThatCan 5 none, Cond.methodLink RX1 74 yX1_canPay, Cond.instanceMethod yX1_canPay, Cond.selects RX1 yX1_canPay yX1_canPay, Cond.code yX1_canPay cX1_canPay 2 (some .boolean), Cond.fieldLink RX1 15 "LentPiles$Payings" "purse" "[I", Cond.fieldLink RX1 24 "LentPiles$Payings" "pence" "[I", Cond.methodLink RX1 67 yX1_isPaidUp, Cond.instanceMethod yX1_isPaidUp, Cond.selects RX1 yX1_isPaidUp yX1_isPaidUp, Cond.code yX1_isPaidUp cX1_isPaidUp 2 (some .boolean), Cond.fieldLink RX1 18 "LentPiles$Payings" "height" "[I", Cond.methodLink RX1 77 yX1_pay, Cond.instanceMethod yX1_pay, Cond.selects RX1 yX1_pay yX1_pay, Cond.code yX1_pay cX1_pay 3 none, Cond.fieldLink RX1 21 "LentPiles$Payings" "lender" "[I", Cond.static yX3_isMan]
def wsX1_fewest_r2 : List Cond := [Cond.initialized RX3, Cond.code yX3_isMan cX3_isMan 1 (some .boolean), Cond.methodLink RX1 88 yX1_setLimits, Cond.instanceMethod yX1_setLimits, Cond.selects RX1 yX1_setLimits yX1_setLimits, Cond.code yX1_setLimits cX1_setLimits 5 none, Cond.fieldLink RX1 30 "LentPiles$Payings" "limit" "[I", Cond.fieldLink RX1 33 "LentPiles$Payings" "weight" "[I", Cond.methodLink RX1 104 Lib.Math.min.name, Cond.static Lib.Math.min.name, Cond.initialized "java/lang/Math", Cond.code Lib.Math.min.name Lib.Math.min.code 2 (some .int), Cond.fieldLink RX1 40 "LentPiles$Payings" "words" "I", Cond.methodLink RX1 92 yJ7_fill_d0a16, Cond.static yJ7_fill_d0a16, Cond.initialized RJ7, Cond.code yJ7_fill_d0a16 cJ7_fill_d0a16 5 none, Cond.methodLink RX1 98 yX1_mark, Cond.instanceMethod yX1_mark, Cond.selects RX1 yX1_mark yX1_mark, Cond.code yX1_mark cX1_mark 2 none, Cond.constant RX1 131 (46656), Cond.methodLink RX1 101 yX1_spread, Cond.instanceMethod yX1_spread]
def wsX1_fewest_r3 : List Cond := [Cond.selects RX1 yX1_spread yX1_spread, Cond.code yX1_spread cX1_spread 7 (some .boolean), Cond.methodLink RX1 109 yJ13_numberOfTrailingZeros_95d88, Cond.static yJ13_numberOfTrailingZeros_95d88, Cond.initialized RJ13, Cond.code yJ13_numberOfTrailingZeros_95d88 cJ13_numberOfTrailingZeros_95d88 3 (some .int), Cond.methodLink RJ13 311 yJ6_numberOfTrailingZeros_0f7a4, Cond.static yJ6_numberOfTrailingZeros_0f7a4, Cond.initialized RJ6, Cond.code yJ6_numberOfTrailingZeros_0f7a4 cJ6_numberOfTrailingZeros_0f7a4 2 (some .int), Cond.constant RJ6 264 (65536), Cond.methodLink RX1 115 yX1_leave, Cond.instanceMethod yX1_leave, Cond.selects RX1 yX1_leave yX1_leave, Cond.code yX1_leave cX1_leave 4 (some .boolean), Cond.methodLink RX1 119 yX1_standAt, Cond.instanceMethod yX1_standAt, Cond.selects RX1 yX1_standAt yX1_standAt, Cond.code yX1_standAt cX1_standAt 7 none, Cond.fieldLink RX1 11 "LentPiles$Payings" "firstPurse" "[I", Cond.methodLink RX1 122 arraycopyName, Cond.native arraycopyName, Cond.static arraycopyName, Cond.initialized "java/lang/System"]
def wsX1_fewest_r4 : List Cond := [Cond.methodLink RX1 128 yJ7_fill_53178, Cond.static yJ7_fill_53178, Cond.code yJ7_fill_53178 cJ7_fill_53178 4 none]
def wsX1_fewest : List Cond := .code yX1_fewest cX1_fewest 4 (some .int) :: ((wsX1_fewest_r1 ++ (wsX1_fewest_r2 ++ (wsX1_fewest_r3 ++ wsX1_fewest_r4))) ++ wsX10)
def wsX2_init : List Cond := .code yX2_init cX2_init 1 none :: ([.methodLink RX2 3 objectInit, .instanceMethod objectInit, .code objectInit ⟨#[0xb1]⟩ 1 none, .arrayClass .int, .fieldLink RX2 9 "LentPiles$Valley" "purse" "[I", .fieldLink RX2 21 "LentPiles$Valley" "height" "[I", .fieldLink RX2 24 "LentPiles$Valley" "lender" "[I", .fieldLink RX2 27 "LentPiles$Valley" "pence" "[I", .fieldLink RX2 30 "LentPiles$Valley" "made" "[I", .fieldLink RX2 33 "LentPiles$Valley" "sightMan" "[I", .fieldLink RX2 36 "LentPiles$Valley" "sightPence" "[I", .fieldLink RX2 39 "LentPiles$Valley" "sights" "I", .fieldLink RX2 43 "LentPiles$Valley" "days" "I", .fieldLink RX2 46 "LentPiles$Valley" "law" "I", .fieldLink RX2 49 "LentPiles$Valley" "rate" "I", .methodLink RX2 15 yJ7_fill_53178, .static yJ7_fill_53178, .initialized RJ7, .code yJ7_fill_53178 cJ7_fill_53178 4 none] ++ wsX20)
def wsX2_dayOf : List Cond := .code yX2_dayOf cX2_dayOf 3 (some .int) :: ([.fieldLink RX2 30 "LentPiles$Valley" "made" "[I", .methodLink RX2 62 yX2_hasDebt, .instanceMethod yX2_hasDebt, .selects RX2 yX2_hasDebt yX2_hasDebt, .initialized RX2, .code yX2_hasDebt cX2_hasDebt 3 (some .boolean), .fieldLink RX2 21 "LentPiles$Valley" "height" "[I"] ++ wsX20)
def wsX2_changeLender : List Cond := .code yX2_changeLender cX2_changeLender 4 none :: ([.fieldLink RX2 24 "LentPiles$Valley" "lender" "[I", .methodLink RX2 62 yX2_hasDebt, .instanceMethod yX2_hasDebt, .selects RX2 yX2_hasDebt yX2_hasDebt, .initialized RX2, .code yX2_hasDebt cX2_hasDebt 3 (some .boolean), .fieldLink RX2 21 "LentPiles$Valley" "height" "[I"] ++ wsX20)
def wsX2_penceTill : List Cond := .code yX2_penceTill cX2_penceTill 5 (some .int) :: ([.methodLink RX2 66 yX2_debtsOf, .instanceMethod yX2_debtsOf, .selects RX2 yX2_debtsOf yX2_debtsOf, .initialized RX2, .code yX2_debtsOf cX2_debtsOf 2 (some .int), .fieldLink RX2 21 "LentPiles$Valley" "height" "[I", .static yX3_isMan, .initialized RX3, .code yX3_isMan cX3_isMan 1 (some .boolean), .methodLink RX2 70 yX2_notLater, .instanceMethod yX2_notLater, .selects RX2 yX2_notLater yX2_notLater, .code yX2_notLater cX2_notLater 6 (some .boolean), .fieldLink RX2 46 "LentPiles$Valley" "law" "I", .fieldLink RX2 27 "LentPiles$Valley" "pence" "[I", .methodLink RX2 62 yX2_hasDebt, .instanceMethod yX2_hasDebt, .selects RX2 yX2_hasDebt yX2_hasDebt, .code yX2_hasDebt cX2_hasDebt 3 (some .boolean), .methodLink RX2 74 yX2_penceOf, .instanceMethod yX2_penceOf, .selects RX2 yX2_penceOf yX2_penceOf, .code yX2_penceOf cX2_penceOf 3 (some .int)] ++ wsX20)
def wsX2_owedTo : List Cond := .code yX2_owedTo cX2_owedTo 5 (some .int) :: ([.methodLink RX2 66 yX2_debtsOf, .instanceMethod yX2_debtsOf, .selects RX2 yX2_debtsOf yX2_debtsOf, .initialized RX2, .code yX2_debtsOf cX2_debtsOf 2 (some .int), .fieldLink RX2 21 "LentPiles$Valley" "height" "[I", .static yX3_isMan, .initialized RX3, .code yX3_isMan cX3_isMan 1 (some .boolean), .methodLink RX2 78 yX2_lenderOf, .instanceMethod yX2_lenderOf, .selects RX2 yX2_lenderOf yX2_lenderOf, .code yX2_lenderOf cX2_lenderOf 3 (some .int), .fieldLink RX2 24 "LentPiles$Valley" "lender" "[I", .methodLink RX2 62 yX2_hasDebt, .instanceMethod yX2_hasDebt, .selects RX2 yX2_hasDebt yX2_hasDebt, .code yX2_hasDebt cX2_hasDebt 3 (some .boolean), .methodLink RX2 74 yX2_penceOf, .instanceMethod yX2_penceOf, .selects RX2 yX2_penceOf yX2_penceOf, .code yX2_penceOf cX2_penceOf 3 (some .int), .fieldLink RX2 27 "LentPiles$Valley" "pence" "[I"] ++ wsX20)
def wsX2_allDebts : List Cond := .code yX2_allDebts cX2_allDebts 3 (some .int) :: ([.fieldLink RX2 21 "LentPiles$Valley" "height" "[I"] ++ wsX20)
def wsX2_allPence : List Cond := .code yX2_allPence cX2_allPence 4 (some .int) :: ([.methodLink RX2 66 yX2_debtsOf, .instanceMethod yX2_debtsOf, .selects RX2 yX2_debtsOf yX2_debtsOf, .initialized RX2, .code yX2_debtsOf cX2_debtsOf 2 (some .int), .fieldLink RX2 21 "LentPiles$Valley" "height" "[I", .static yX3_isMan, .initialized RX3, .code yX3_isMan cX3_isMan 1 (some .boolean), .methodLink RX2 74 yX2_penceOf, .instanceMethod yX2_penceOf, .selects RX2 yX2_penceOf yX2_penceOf, .code yX2_penceOf cX2_penceOf 3 (some .int), .fieldLink RX2 27 "LentPiles$Valley" "pence" "[I", .methodLink RX2 62 yX2_hasDebt, .instanceMethod yX2_hasDebt, .selects RX2 yX2_hasDebt yX2_hasDebt, .code yX2_hasDebt cX2_hasDebt 3 (some .boolean)] ++ wsX20)
def wsX2_ringOf_r1 : List Cond := [Cond.static yX3_isMan, Cond.initialized RX3, Cond.code yX3_isMan cX3_isMan 1 (some .boolean), Cond.methodLink RX2 88 yX2_dueOf, Cond.instanceMethod yX2_dueOf, Cond.selects RX2 yX2_dueOf yX2_dueOf, Cond.initialized RX2, Cond.code yX2_dueOf cX2_dueOf 4 (some .int), Cond.methodLink RX2 62 yX2_hasDebt, Cond.instanceMethod yX2_hasDebt, Cond.selects RX2 yX2_hasDebt yX2_hasDebt, Cond.code yX2_hasDebt cX2_hasDebt 3 (some .boolean), Cond.fieldLink RX2 21 "LentPiles$Valley" "height" "[I", Cond.methodLink RX2 66 yX2_debtsOf, Cond.instanceMethod yX2_debtsOf, Cond.selects RX2 yX2_debtsOf yX2_debtsOf, Cond.code yX2_debtsOf cX2_debtsOf 2 (some .int), Cond.methodLink RX2 70 yX2_notLater, Cond.instanceMethod yX2_notLater, Cond.selects RX2 yX2_notLater yX2_notLater, Cond.code yX2_notLater cX2_notLater 6 (some .boolean), Cond.fieldLink RX2 46 "LentPiles$Valley" "law" "I", Cond.fieldLink RX2 27 "LentPiles$Valley" "pence" "[I", Cond.methodLink RX2 78 yX2_lenderOf]
def wsX2_ringOf_r2 : List Cond := [Cond.instanceMethod yX2_lenderOf, Cond.selects RX2 yX2_lenderOf yX2_lenderOf, Cond.code yX2_lenderOf cX2_lenderOf 3 (some .int), Cond.fieldLink RX2 24 "LentPiles$Valley" "lender" "[I"]
def wsX2_ringOf : List Cond := .code yX2_ringOf cX2_ringOf 5 (some .int) :: ((wsX2_ringOf_r1 ++ wsX2_ringOf_r2) ++ wsX20)
def wsX2_lower : List Cond := .code yX2_lower cX2_lower 5 none :: ([.fieldLink RX2 27 "LentPiles$Valley" "pence" "[I", .methodLink RX2 62 yX2_hasDebt, .instanceMethod yX2_hasDebt, .selects RX2 yX2_hasDebt yX2_hasDebt, .initialized RX2, .code yX2_hasDebt cX2_hasDebt 3 (some .boolean), .fieldLink RX2 21 "LentPiles$Valley" "height" "[I", .methodLink RX2 74 yX2_penceOf, .instanceMethod yX2_penceOf, .selects RX2 yX2_penceOf yX2_penceOf, .code yX2_penceOf cX2_penceOf 3 (some .int), .methodLink RX2 91 yX2_drop, .instanceMethod yX2_drop, .selects RX2 yX2_drop yX2_drop, .code yX2_drop cX2_drop 5 none, .fieldLink RX2 24 "LentPiles$Valley" "lender" "[I", .fieldLink RX2 30 "LentPiles$Valley" "made" "[I"] ++ wsX20)
def wsX2_setOffDues_r1 : List Cond := [Cond.methodLink RX2 97 Lib.Math.min.name, Cond.static Lib.Math.min.name, Cond.initialized "java/lang/Math", Cond.code Lib.Math.min.name Lib.Math.min.code 2 (some .int), Cond.methodLink RX2 88 yX2_dueOf, Cond.instanceMethod yX2_dueOf, Cond.selects RX2 yX2_dueOf yX2_dueOf, Cond.initialized RX2, Cond.code yX2_dueOf cX2_dueOf 4 (some .int), Cond.methodLink RX2 62 yX2_hasDebt, Cond.instanceMethod yX2_hasDebt, Cond.selects RX2 yX2_hasDebt yX2_hasDebt, Cond.code yX2_hasDebt cX2_hasDebt 3 (some .boolean), Cond.fieldLink RX2 21 "LentPiles$Valley" "height" "[I", Cond.methodLink RX2 66 yX2_debtsOf, Cond.instanceMethod yX2_debtsOf, Cond.selects RX2 yX2_debtsOf yX2_debtsOf, Cond.code yX2_debtsOf cX2_debtsOf 2 (some .int), Cond.static yX3_isMan, Cond.initialized RX3, Cond.code yX3_isMan cX3_isMan 1 (some .boolean), Cond.methodLink RX2 70 yX2_notLater, Cond.instanceMethod yX2_notLater, Cond.selects RX2 yX2_notLater yX2_notLater]
def wsX2_setOffDues_r2 : List Cond := [Cond.code yX2_notLater cX2_notLater 6 (some .boolean), Cond.fieldLink RX2 46 "LentPiles$Valley" "law" "I", Cond.fieldLink RX2 27 "LentPiles$Valley" "pence" "[I", Cond.methodLink RX2 74 yX2_penceOf, Cond.instanceMethod yX2_penceOf, Cond.selects RX2 yX2_penceOf yX2_penceOf, Cond.code yX2_penceOf cX2_penceOf 3 (some .int), Cond.methodLink RX2 102 yX2_lower, Cond.instanceMethod yX2_lower, Cond.selects RX2 yX2_lower yX2_lower, Cond.code yX2_lower cX2_lower 5 none, Cond.methodLink RX2 91 yX2_drop, Cond.instanceMethod yX2_drop, Cond.selects RX2 yX2_drop yX2_drop, Cond.code yX2_drop cX2_drop 5 none, Cond.fieldLink RX2 24 "LentPiles$Valley" "lender" "[I", Cond.fieldLink RX2 30 "LentPiles$Valley" "made" "[I"]
def wsX2_setOffDues : List Cond := .code yX2_setOffDues cX2_setOffDues 4 (some .int) :: ((wsX2_setOffDues_r1 ++ wsX2_setOffDues_r2) ++ wsX20)
def wsX2_addSight : List Cond := .code yX2_addSight cX2_addSight 3 (some .boolean) :: ([.fieldLink RX2 39 "LentPiles$Valley" "sights" "I", .fieldLink RX2 33 "LentPiles$Valley" "sightMan" "[I", .fieldLink RX2 36 "LentPiles$Valley" "sightPence" "[I"] ++ wsX20)
def wsX2_sightsHold : List Cond := .code yX2_sightsHold cX2_sightsHold 2 (some .boolean) :: ([.fieldLink RX2 39 "LentPiles$Valley" "sights" "I", .fieldLink RX2 33 "LentPiles$Valley" "sightMan" "[I", .fieldLink RX2 36 "LentPiles$Valley" "sightPence" "[I", .methodLink RX2 81 yX2_purseOf, .instanceMethod yX2_purseOf, .selects RX2 yX2_purseOf yX2_purseOf, .initialized RX2, .code yX2_purseOf cX2_purseOf 2 (some .int), .fieldLink RX2 9 "LentPiles$Valley" "purse" "[I", .static yX3_isMan, .initialized RX3, .code yX3_isMan cX3_isMan 1 (some .boolean)] ++ wsX20)
def wsX3_init_r1 : List Cond := [Cond.methodLink RX3 3 objectInit, Cond.instanceMethod objectInit, Cond.code objectInit ⟨#[0xb1]⟩ 1 none, Cond.classLink RX3 9 RX2, Cond.instantiable RX2 11, Cond.initialized RX2, Cond.fieldLink RX3 12 "LentPiles" "now" "LLentPiles$Valley;", Cond.fieldLink RX3 16 "LentPiles" "trial" "LLentPiles$Valley;", Cond.fieldLink RX3 19 "LentPiles" "firstImage" "LLentPiles$Valley;", Cond.fieldLink RX3 22 "LentPiles" "secondImage" "LLentPiles$Valley;", Cond.classLink RX3 25 RX0, Cond.instantiable RX0 10, Cond.initialized RX0, Cond.fieldLink RX3 28 "LentPiles" "pad" "LLentPiles$Pad;", Cond.classLink RX3 32 RX1, Cond.instantiable RX1 10, Cond.initialized RX1, Cond.fieldLink RX3 35 "LentPiles" "payings" "LLentPiles$Payings;", Cond.arrayClass .long, Cond.fieldLink RX3 39 "LentPiles" "shares" "[J", Cond.fieldLink RX3 43 "LentPiles" "imagesKept" "I", Cond.methodLink RX3 11 yX2_init, Cond.instanceMethod yX2_init, Cond.code yX2_init cX2_init 1 none]
def wsX3_init_r2 : List Cond := [Cond.methodLink RX2 3 objectInit, Cond.arrayClass .int, Cond.fieldLink RX2 9 "LentPiles$Valley" "purse" "[I", Cond.fieldLink RX2 21 "LentPiles$Valley" "height" "[I", Cond.fieldLink RX2 24 "LentPiles$Valley" "lender" "[I", Cond.fieldLink RX2 27 "LentPiles$Valley" "pence" "[I", Cond.fieldLink RX2 30 "LentPiles$Valley" "made" "[I", Cond.fieldLink RX2 33 "LentPiles$Valley" "sightMan" "[I", Cond.fieldLink RX2 36 "LentPiles$Valley" "sightPence" "[I", Cond.fieldLink RX2 39 "LentPiles$Valley" "sights" "I", Cond.fieldLink RX2 43 "LentPiles$Valley" "days" "I", Cond.fieldLink RX2 46 "LentPiles$Valley" "law" "I", Cond.fieldLink RX2 49 "LentPiles$Valley" "rate" "I", Cond.methodLink RX2 15 yJ7_fill_53178, Cond.static yJ7_fill_53178, Cond.initialized RJ7, Cond.code yJ7_fill_53178 cJ7_fill_53178 4 none, Cond.methodLink RX3 27 yX0_init, Cond.instanceMethod yX0_init, Cond.code yX0_init cX0_init 1 none, Cond.methodLink RX0 3 objectInit, Cond.arrayClass .char, Cond.fieldLink RX0 9 "LentPiles$Pad" "signs" "[C", Cond.fieldLink RX0 15 "LentPiles$Pad" "kind" "[I"]
def wsX3_init_r3 : List Cond := [Cond.fieldLink RX0 19 "LentPiles$Pad" "doer" "[I", Cond.fieldLink RX0 22 "LentPiles$Pad" "borrower" "[I", Cond.fieldLink RX0 25 "LentPiles$Pad" "pence" "[I", Cond.fieldLink RX0 28 "LentPiles$Pad" "guess" "[I", Cond.fieldLink RX0 31 "LentPiles$Pad" "length" "I", Cond.fieldLink RX0 35 "LentPiles$Pad" "parts" "I", Cond.fieldLink RX0 38 "LentPiles$Pad" "asks" "I", Cond.fieldLink RX0 41 "LentPiles$Pad" "why" "I", Cond.methodLink RX3 34 yX1_init, Cond.instanceMethod yX1_init, Cond.code yX1_init cX1_init 1 none, Cond.methodLink RX1 5 objectInit, Cond.fieldLink RX1 11 "LentPiles$Payings" "firstPurse" "[I", Cond.fieldLink RX1 15 "LentPiles$Payings" "purse" "[I", Cond.fieldLink RX1 18 "LentPiles$Payings" "height" "[I", Cond.fieldLink RX1 21 "LentPiles$Payings" "lender" "[I", Cond.fieldLink RX1 24 "LentPiles$Payings" "pence" "[I", Cond.fieldLink RX1 27 "LentPiles$Payings" "paid" "[I", Cond.fieldLink RX1 30 "LentPiles$Payings" "limit" "[I", Cond.fieldLink RX1 33 "LentPiles$Payings" "weight" "[I", Cond.fieldLink RX1 36 "LentPiles$Payings" "layer" "[J", Cond.fieldLink RX1 40 "LentPiles$Payings" "words" "I"]
def wsX3_init : List Cond := .code yX3_init cX3_init 1 none :: ((wsX3_init_r1 ++ (wsX3_init_r2 ++ wsX3_init_r3)) ++ wsX20 ++ wsX30 ++ wsX00 ++ wsX10)
def wsX3_money : List Cond := .code yX3_money cX3_money 4 (some .int) :: ([.fieldLink RX3 12 "LentPiles" "now" "LLentPiles$Valley;", .methodLink RX3 47 yX3_isMan, .static yX3_isMan, .initialized RX3, .code yX3_isMan cX3_isMan 1 (some .boolean), .methodLink RX3 51 yX3_isWithin, .static yX3_isWithin, .code yX3_isWithin cX3_isWithin 3 (some .boolean), .methodLink RX3 55 yX2_purseOf, .instanceMethod yX2_purseOf, .selects RX2 yX2_purseOf yX2_purseOf, .initialized RX2, .code yX2_purseOf cX2_purseOf 2 (some .int), .fieldLink RX2 9 "LentPiles$Valley" "purse" "[I", .methodLink RX3 59 yX2_fillPurse, .instanceMethod yX2_fillPurse, .selects RX2 yX2_fillPurse yX2_fillPurse, .code yX2_fillPurse cX2_fillPurse 3 none] ++ wsX30 ++ wsX20)
def wsX3_set : List Cond := .code yX3_set cX3_set 4 (some .int) :: ([.fieldLink RX3 12 "LentPiles" "now" "LLentPiles$Valley;", .methodLink RX3 51 yX3_isWithin, .static yX3_isWithin, .initialized RX3, .code yX3_isWithin cX3_isWithin 3 (some .boolean)] ++ wsX30 ++ wsX20)
def wsX3_say : List Cond := .code yX3_say cX3_say 2 (some .int) :: ([.fieldLink RX3 28 "LentPiles" "pad" "LLentPiles$Pad;", .methodLink RX3 51 yX3_isWithin, .static yX3_isWithin, .initialized RX3, .code yX3_isWithin cX3_isWithin 3 (some .boolean), .methodLink RX3 69 yX0_write, .instanceMethod yX0_write, .selects RX0 yX0_write yX0_write, .initialized RX0, .code yX0_write cX0_write 2 (some .boolean), .fieldLink RX0 31 "LentPiles$Pad" "length" "I", .fieldLink RX0 9 "LentPiles$Pad" "signs" "[C"] ++ wsX30 ++ wsX00)
def wsX3_wipe : List Cond := .code yX3_wipe cX3_wipe 2 (some .int) :: ([.fieldLink RX3 28 "LentPiles" "pad" "LLentPiles$Pad;", .methodLink RX3 76 yX0_clear, .instanceMethod yX0_clear, .selects RX0 yX0_clear yX0_clear, .initialized RX0, .code yX0_clear cX0_clear 1 none, .fieldLink RX0 31 "LentPiles$Pad" "length" "I"] ++ wsX30 ++ wsX00)
def wsX3_fault_r1 : List Cond := [Cond.fieldLink RX3 28 "LentPiles" "pad" "LLentPiles$Pad;", Cond.methodLink RX3 79 yX0_read, Cond.instanceMethod yX0_read, Cond.selects RX0 yX0_read yX0_read, Cond.initialized RX0, Cond.code yX0_read cX0_read 4 (some .int), Cond.fieldLink RX0 35 "LentPiles$Pad" "parts" "I", Cond.fieldLink RX0 38 "LentPiles$Pad" "asks" "I", Cond.fieldLink RX0 31 "LentPiles$Pad" "length" "I", Cond.methodLink RX0 44 yX0_faultOfPart, Cond.instanceMethod yX0_faultOfPart, Cond.selects RX0 yX0_faultOfPart yX0_faultOfPart, Cond.code yX0_faultOfPart cX0_faultOfPart 7 (some .int), Cond.methodLink RX0 51 yX0_signAt, Cond.instanceMethod yX0_signAt, Cond.selects RX0 yX0_signAt yX0_signAt, Cond.code yX0_signAt cX0_signAt 2 (some .char), Cond.fieldLink RX0 9 "LentPiles$Pad" "signs" "[C", Cond.methodLink RX0 55 yX0_isLetter, Cond.static yX0_isLetter, Cond.code yX0_isLetter cX0_isLetter 1 (some .boolean), Cond.methodLink RX0 59 yX0_isDigit, Cond.static yX0_isDigit, Cond.code yX0_isDigit cX0_isDigit 1 (some .boolean)]
def wsX3_fault_r2 : List Cond := [Cond.methodLink RX0 48 yX0_takePart, Cond.instanceMethod yX0_takePart, Cond.selects RX0 yX0_takePart yX0_takePart, Cond.code yX0_takePart cX0_takePart 7 (some .int), Cond.methodLink RX0 62 yX0_addPart, Cond.instanceMethod yX0_addPart, Cond.selects RX0 yX0_addPart yX0_addPart, Cond.code yX0_addPart cX0_addPart 5 none, Cond.fieldLink RX0 15 "LentPiles$Pad" "kind" "[I", Cond.fieldLink RX0 19 "LentPiles$Pad" "doer" "[I", Cond.fieldLink RX0 22 "LentPiles$Pad" "borrower" "[I", Cond.fieldLink RX0 25 "LentPiles$Pad" "pence" "[I"]
def wsX3_fault : List Cond := .code yX3_fault cX3_fault 1 (some .int) :: ((wsX3_fault_r1 ++ wsX3_fault_r2) ++ wsX30 ++ wsX00)
def wsX3_judge_r1 : List Cond := [Cond.fieldLink RX3 28 "LentPiles" "pad" "LLentPiles$Pad;", Cond.fieldLink RX3 12 "LentPiles" "now" "LLentPiles$Valley;", Cond.fieldLink RX3 16 "LentPiles" "trial" "LLentPiles$Valley;", Cond.methodLink RX3 51 yX3_isWithin, Cond.static yX3_isWithin, Cond.initialized RX3, Cond.code yX3_isWithin cX3_isWithin 3 (some .boolean), Cond.methodLink RX3 79 yX0_read, Cond.instanceMethod yX0_read, Cond.selects RX0 yX0_read yX0_read, Cond.initialized RX0, Cond.code yX0_read cX0_read 4 (some .int), Cond.fieldLink RX0 35 "LentPiles$Pad" "parts" "I", Cond.fieldLink RX0 38 "LentPiles$Pad" "asks" "I", Cond.fieldLink RX0 31 "LentPiles$Pad" "length" "I", Cond.methodLink RX0 44 yX0_faultOfPart, Cond.instanceMethod yX0_faultOfPart, Cond.selects RX0 yX0_faultOfPart yX0_faultOfPart, Cond.code yX0_faultOfPart cX0_faultOfPart 7 (some .int), Cond.methodLink RX0 51 yX0_signAt, Cond.instanceMethod yX0_signAt, Cond.selects RX0 yX0_signAt yX0_signAt, Cond.code yX0_signAt cX0_signAt 2 (some .char), Cond.fieldLink RX0 9 "LentPiles$Pad" "signs" "[C"]
def wsX3_judge_r2 : List Cond := [Cond.methodLink RX0 55 yX0_isLetter, Cond.static yX0_isLetter, Cond.code yX0_isLetter cX0_isLetter 1 (some .boolean), Cond.methodLink RX0 59 yX0_isDigit, Cond.static yX0_isDigit, Cond.code yX0_isDigit cX0_isDigit 1 (some .boolean), Cond.methodLink RX0 48 yX0_takePart, Cond.instanceMethod yX0_takePart, Cond.selects RX0 yX0_takePart yX0_takePart, Cond.code yX0_takePart cX0_takePart 7 (some .int), Cond.methodLink RX0 62 yX0_addPart, Cond.instanceMethod yX0_addPart, Cond.selects RX0 yX0_addPart yX0_addPart, Cond.code yX0_addPart cX0_addPart 5 none, Cond.fieldLink RX0 15 "LentPiles$Pad" "kind" "[I", Cond.fieldLink RX0 19 "LentPiles$Pad" "doer" "[I", Cond.fieldLink RX0 22 "LentPiles$Pad" "borrower" "[I", Cond.fieldLink RX0 25 "LentPiles$Pad" "pence" "[I", Cond.methodLink RX3 86 yX0_perform, Cond.instanceMethod yX0_perform, Cond.selects RX0 yX0_perform yX0_perform, Cond.code yX0_perform cX0_perform 4 (some .int), Cond.fieldLink RX0 41 "LentPiles$Pad" "why" "I", Cond.methodLink RX0 82 yX2_copyFrom]
def wsX3_judge_r3 : List Cond := [Cond.instanceMethod yX2_copyFrom, Cond.selects RX2 yX2_copyFrom yX2_copyFrom, Cond.initialized RX2, Cond.code yX2_copyFrom cX2_copyFrom 2 none, Cond.fieldLink RX2 9 "LentPiles$Valley" "purse" "[I", Cond.methodLink RX2 52 arraycopyName, Cond.native arraycopyName, Cond.static arraycopyName, Cond.initialized "java/lang/System", Cond.fieldLink RX2 21 "LentPiles$Valley" "height" "[I", Cond.fieldLink RX2 24 "LentPiles$Valley" "lender" "[I", Cond.fieldLink RX2 27 "LentPiles$Valley" "pence" "[I", Cond.fieldLink RX2 30 "LentPiles$Valley" "made" "[I", Cond.fieldLink RX2 33 "LentPiles$Valley" "sightMan" "[I", Cond.fieldLink RX2 36 "LentPiles$Valley" "sightPence" "[I", Cond.fieldLink RX2 39 "LentPiles$Valley" "sights" "I", Cond.fieldLink RX2 43 "LentPiles$Valley" "days" "I", Cond.fieldLink RX2 46 "LentPiles$Valley" "law" "I", Cond.fieldLink RX2 49 "LentPiles$Valley" "rate" "I", Cond.methodLink RX0 88 yX0_performPart, Cond.instanceMethod yX0_performPart, Cond.selects RX0 yX0_performPart yX0_performPart, Cond.code yX0_performPart cX0_performPart 4 (some .int), Cond.methodLink RX0 92 yX2_passDay]
def wsX3_judge_r4 : List Cond := [Cond.instanceMethod yX2_passDay, Cond.selects RX2 yX2_passDay yX2_passDay, Cond.code yX2_passDay cX2_passDay 2 none, Cond.static yX3_grown, Cond.code yX3_grown cX3_grown 2 (some .int), Cond.methodLink RX3 214 Lib.Math.min.name, Cond.static Lib.Math.min.name, Cond.initialized "java/lang/Math", Cond.code Lib.Math.min.name Lib.Math.min.code 2 (some .int), Cond.methodLink RX0 79 yX0_manOf, Cond.instanceMethod yX0_manOf, Cond.selects RX0 yX0_manOf yX0_manOf, Cond.code yX0_manOf cX0_manOf 2 (some .int), Cond.static yX3_isMan, Cond.code yX3_isMan cX3_isMan 1 (some .boolean), Cond.methodLink RX0 76 yX0_manFor, Cond.instanceMethod yX0_manFor, Cond.selects RX0 yX0_manFor yX0_manFor, Cond.code yX0_manFor cX0_manFor 2 (some .int), Cond.fieldLink RX0 28 "LentPiles$Pad" "guess" "[I", Cond.methodLink RX0 95 yX2_repay, Cond.instanceMethod yX2_repay, Cond.selects RX2 yX2_repay yX2_repay, Cond.code yX2_repay cX2_repay 5 (some .int)]
def wsX3_judge_r5 : List Cond := [Cond.methodLink RX2 88 yX2_dueOf, Cond.instanceMethod yX2_dueOf, Cond.selects RX2 yX2_dueOf yX2_dueOf, Cond.code yX2_dueOf cX2_dueOf 4 (some .int), Cond.methodLink RX2 62 yX2_hasDebt, Cond.instanceMethod yX2_hasDebt, Cond.selects RX2 yX2_hasDebt yX2_hasDebt, Cond.code yX2_hasDebt cX2_hasDebt 3 (some .boolean), Cond.methodLink RX2 66 yX2_debtsOf, Cond.instanceMethod yX2_debtsOf, Cond.selects RX2 yX2_debtsOf yX2_debtsOf, Cond.code yX2_debtsOf cX2_debtsOf 2 (some .int), Cond.methodLink RX2 70 yX2_notLater, Cond.instanceMethod yX2_notLater, Cond.selects RX2 yX2_notLater yX2_notLater, Cond.code yX2_notLater cX2_notLater 6 (some .boolean), Cond.methodLink RX2 74 yX2_penceOf, Cond.instanceMethod yX2_penceOf, Cond.selects RX2 yX2_penceOf yX2_penceOf, Cond.code yX2_penceOf cX2_penceOf 3 (some .int), Cond.methodLink RX2 81 yX2_purseOf, Cond.instanceMethod yX2_purseOf, Cond.selects RX2 yX2_purseOf yX2_purseOf, Cond.code yX2_purseOf cX2_purseOf 2 (some .int)]
def wsX3_judge_r6 : List Cond := [Cond.methodLink RX2 78 yX2_lenderOf, Cond.instanceMethod yX2_lenderOf, Cond.selects RX2 yX2_lenderOf yX2_lenderOf, Cond.code yX2_lenderOf cX2_lenderOf 3 (some .int), Cond.methodLink RX2 84 yX2_fillPurse, Cond.instanceMethod yX2_fillPurse, Cond.selects RX2 yX2_fillPurse yX2_fillPurse, Cond.code yX2_fillPurse cX2_fillPurse 3 none, Cond.methodLink RX2 91 yX2_drop, Cond.instanceMethod yX2_drop, Cond.selects RX2 yX2_drop yX2_drop, Cond.code yX2_drop cX2_drop 5 none, Cond.methodLink RX0 98 yX2_lend, Cond.instanceMethod yX2_lend, Cond.selects RX2 yX2_lend yX2_lend, Cond.code yX2_lend cX2_lend 6 (some .int)]
def wsX3_judge : List Cond := .code yX3_judge cX3_judge 3 (some .int) :: ((wsX3_judge_r1 ++ (wsX3_judge_r2 ++ (wsX3_judge_r3 ++ (wsX3_judge_r4 ++ (wsX3_judge_r5 ++ wsX3_judge_r6))))) ++ wsX30 ++ wsX00 ++ wsX20)
def wsX3_done_r1 : List Cond := [Cond.fieldLink RX3 28 "LentPiles" "pad" "LLentPiles$Pad;", Cond.fieldLink RX3 12 "LentPiles" "now" "LLentPiles$Valley;", Cond.fieldLink RX3 16 "LentPiles" "trial" "LLentPiles$Valley;", Cond.methodLink RX3 79 yX0_read, Cond.instanceMethod yX0_read, Cond.selects RX0 yX0_read yX0_read, Cond.initialized RX0, Cond.code yX0_read cX0_read 4 (some .int), Cond.fieldLink RX0 35 "LentPiles$Pad" "parts" "I", Cond.fieldLink RX0 38 "LentPiles$Pad" "asks" "I", Cond.fieldLink RX0 31 "LentPiles$Pad" "length" "I", Cond.methodLink RX0 44 yX0_faultOfPart, Cond.instanceMethod yX0_faultOfPart, Cond.selects RX0 yX0_faultOfPart yX0_faultOfPart, Cond.code yX0_faultOfPart cX0_faultOfPart 7 (some .int), Cond.methodLink RX0 51 yX0_signAt, Cond.instanceMethod yX0_signAt, Cond.selects RX0 yX0_signAt yX0_signAt, Cond.code yX0_signAt cX0_signAt 2 (some .char), Cond.fieldLink RX0 9 "LentPiles$Pad" "signs" "[C", Cond.methodLink RX0 55 yX0_isLetter, Cond.static yX0_isLetter, Cond.code yX0_isLetter cX0_isLetter 1 (some .boolean), Cond.methodLink RX0 59 yX0_isDigit]
def wsX3_done_r2 : List Cond := [Cond.static yX0_isDigit, Cond.code yX0_isDigit cX0_isDigit 1 (some .boolean), Cond.methodLink RX0 48 yX0_takePart, Cond.instanceMethod yX0_takePart, Cond.selects RX0 yX0_takePart yX0_takePart, Cond.code yX0_takePart cX0_takePart 7 (some .int), Cond.methodLink RX0 62 yX0_addPart, Cond.instanceMethod yX0_addPart, Cond.selects RX0 yX0_addPart yX0_addPart, Cond.code yX0_addPart cX0_addPart 5 none, Cond.fieldLink RX0 15 "LentPiles$Pad" "kind" "[I", Cond.fieldLink RX0 19 "LentPiles$Pad" "doer" "[I", Cond.fieldLink RX0 22 "LentPiles$Pad" "borrower" "[I", Cond.fieldLink RX0 25 "LentPiles$Pad" "pence" "[I", Cond.methodLink RX3 86 yX0_perform, Cond.instanceMethod yX0_perform, Cond.selects RX0 yX0_perform yX0_perform, Cond.code yX0_perform cX0_perform 4 (some .int), Cond.fieldLink RX0 41 "LentPiles$Pad" "why" "I", Cond.methodLink RX0 82 yX2_copyFrom, Cond.instanceMethod yX2_copyFrom, Cond.selects RX2 yX2_copyFrom yX2_copyFrom, Cond.initialized RX2, Cond.code yX2_copyFrom cX2_copyFrom 2 none]
def wsX3_done_r3 : List Cond := [Cond.fieldLink RX2 9 "LentPiles$Valley" "purse" "[I", Cond.methodLink RX2 52 arraycopyName, Cond.native arraycopyName, Cond.static arraycopyName, Cond.initialized "java/lang/System", Cond.fieldLink RX2 21 "LentPiles$Valley" "height" "[I", Cond.fieldLink RX2 24 "LentPiles$Valley" "lender" "[I", Cond.fieldLink RX2 27 "LentPiles$Valley" "pence" "[I", Cond.fieldLink RX2 30 "LentPiles$Valley" "made" "[I", Cond.fieldLink RX2 33 "LentPiles$Valley" "sightMan" "[I", Cond.fieldLink RX2 36 "LentPiles$Valley" "sightPence" "[I", Cond.fieldLink RX2 39 "LentPiles$Valley" "sights" "I", Cond.fieldLink RX2 43 "LentPiles$Valley" "days" "I", Cond.fieldLink RX2 46 "LentPiles$Valley" "law" "I", Cond.fieldLink RX2 49 "LentPiles$Valley" "rate" "I", Cond.methodLink RX0 88 yX0_performPart, Cond.instanceMethod yX0_performPart, Cond.selects RX0 yX0_performPart yX0_performPart, Cond.code yX0_performPart cX0_performPart 4 (some .int), Cond.methodLink RX0 92 yX2_passDay, Cond.instanceMethod yX2_passDay, Cond.selects RX2 yX2_passDay yX2_passDay, Cond.code yX2_passDay cX2_passDay 2 none, Cond.static yX3_grown]
def wsX3_done_r4 : List Cond := [Cond.initialized RX3, Cond.code yX3_grown cX3_grown 2 (some .int), Cond.methodLink RX3 214 Lib.Math.min.name, Cond.static Lib.Math.min.name, Cond.initialized "java/lang/Math", Cond.code Lib.Math.min.name Lib.Math.min.code 2 (some .int), Cond.methodLink RX0 79 yX0_manOf, Cond.instanceMethod yX0_manOf, Cond.selects RX0 yX0_manOf yX0_manOf, Cond.code yX0_manOf cX0_manOf 2 (some .int), Cond.static yX3_isMan, Cond.code yX3_isMan cX3_isMan 1 (some .boolean), Cond.methodLink RX0 76 yX0_manFor, Cond.instanceMethod yX0_manFor, Cond.selects RX0 yX0_manFor yX0_manFor, Cond.code yX0_manFor cX0_manFor 2 (some .int), Cond.fieldLink RX0 28 "LentPiles$Pad" "guess" "[I", Cond.methodLink RX0 95 yX2_repay, Cond.instanceMethod yX2_repay, Cond.selects RX2 yX2_repay yX2_repay, Cond.code yX2_repay cX2_repay 5 (some .int), Cond.methodLink RX2 88 yX2_dueOf, Cond.instanceMethod yX2_dueOf, Cond.selects RX2 yX2_dueOf yX2_dueOf]
def wsX3_done_r5 : List Cond := [Cond.code yX2_dueOf cX2_dueOf 4 (some .int), Cond.methodLink RX2 62 yX2_hasDebt, Cond.instanceMethod yX2_hasDebt, Cond.selects RX2 yX2_hasDebt yX2_hasDebt, Cond.code yX2_hasDebt cX2_hasDebt 3 (some .boolean), Cond.methodLink RX2 66 yX2_debtsOf, Cond.instanceMethod yX2_debtsOf, Cond.selects RX2 yX2_debtsOf yX2_debtsOf, Cond.code yX2_debtsOf cX2_debtsOf 2 (some .int), Cond.methodLink RX2 70 yX2_notLater, Cond.instanceMethod yX2_notLater, Cond.selects RX2 yX2_notLater yX2_notLater, Cond.code yX2_notLater cX2_notLater 6 (some .boolean), Cond.methodLink RX2 74 yX2_penceOf, Cond.instanceMethod yX2_penceOf, Cond.selects RX2 yX2_penceOf yX2_penceOf, Cond.code yX2_penceOf cX2_penceOf 3 (some .int), Cond.methodLink RX2 81 yX2_purseOf, Cond.instanceMethod yX2_purseOf, Cond.selects RX2 yX2_purseOf yX2_purseOf, Cond.code yX2_purseOf cX2_purseOf 2 (some .int), Cond.methodLink RX2 78 yX2_lenderOf, Cond.instanceMethod yX2_lenderOf, Cond.selects RX2 yX2_lenderOf yX2_lenderOf]
def wsX3_done_r6 : List Cond := [Cond.code yX2_lenderOf cX2_lenderOf 3 (some .int), Cond.methodLink RX2 84 yX2_fillPurse, Cond.instanceMethod yX2_fillPurse, Cond.selects RX2 yX2_fillPurse yX2_fillPurse, Cond.code yX2_fillPurse cX2_fillPurse 3 none, Cond.methodLink RX2 91 yX2_drop, Cond.instanceMethod yX2_drop, Cond.selects RX2 yX2_drop yX2_drop, Cond.code yX2_drop cX2_drop 5 none, Cond.methodLink RX0 98 yX2_lend, Cond.instanceMethod yX2_lend, Cond.selects RX2 yX2_lend yX2_lend, Cond.code yX2_lend cX2_lend 6 (some .int), Cond.methodLink RX3 93 yX2_copyFrom, Cond.methodLink RX3 76 yX0_clear, Cond.instanceMethod yX0_clear, Cond.selects RX0 yX0_clear yX0_clear, Cond.code yX0_clear cX0_clear 1 none]
def wsX3_done : List Cond := .code yX3_done cX3_done 2 (some .int) :: ((wsX3_done_r1 ++ (wsX3_done_r2 ++ (wsX3_done_r3 ++ (wsX3_done_r4 ++ (wsX3_done_r5 ++ wsX3_done_r6))))) ++ wsX30 ++ wsX00 ++ wsX20)
def wsX3_debt : List Cond := .code yX3_debt cX3_debt 4 (some .int) :: ([.fieldLink RX3 12 "LentPiles" "now" "LLentPiles$Valley;", .methodLink RX3 100 yX2_hasDebt, .instanceMethod yX2_hasDebt, .selects RX2 yX2_hasDebt yX2_hasDebt, .initialized RX2, .code yX2_hasDebt cX2_hasDebt 3 (some .boolean), .fieldLink RX2 21 "LentPiles$Valley" "height" "[I", .methodLink RX3 104 yX2_lenderOf, .instanceMethod yX2_lenderOf, .selects RX2 yX2_lenderOf yX2_lenderOf, .code yX2_lenderOf cX2_lenderOf 3 (some .int), .fieldLink RX2 24 "LentPiles$Valley" "lender" "[I", .methodLink RX2 62 yX2_hasDebt, .methodLink RX3 108 yX2_penceOf, .instanceMethod yX2_penceOf, .selects RX2 yX2_penceOf yX2_penceOf, .code yX2_penceOf cX2_penceOf 3 (some .int), .fieldLink RX2 27 "LentPiles$Valley" "pence" "[I", .methodLink RX3 111 yX2_dayOf, .instanceMethod yX2_dayOf, .selects RX2 yX2_dayOf yX2_dayOf, .code yX2_dayOf cX2_dayOf 3 (some .int), .fieldLink RX2 30 "LentPiles$Valley" "made" "[I"] ++ wsX30 ++ wsX20)
def wsX3_due_r1 : List Cond := [Cond.fieldLink RX3 12 "LentPiles" "now" "LLentPiles$Valley;", Cond.methodLink RX3 47 yX3_isMan, Cond.static yX3_isMan, Cond.initialized RX3, Cond.code yX3_isMan cX3_isMan 1 (some .boolean), Cond.methodLink RX3 114 yX2_dueOf, Cond.instanceMethod yX2_dueOf, Cond.selects RX2 yX2_dueOf yX2_dueOf, Cond.initialized RX2, Cond.code yX2_dueOf cX2_dueOf 4 (some .int), Cond.methodLink RX2 62 yX2_hasDebt, Cond.instanceMethod yX2_hasDebt, Cond.selects RX2 yX2_hasDebt yX2_hasDebt, Cond.code yX2_hasDebt cX2_hasDebt 3 (some .boolean), Cond.fieldLink RX2 21 "LentPiles$Valley" "height" "[I", Cond.methodLink RX2 66 yX2_debtsOf, Cond.instanceMethod yX2_debtsOf, Cond.selects RX2 yX2_debtsOf yX2_debtsOf, Cond.code yX2_debtsOf cX2_debtsOf 2 (some .int), Cond.methodLink RX2 70 yX2_notLater, Cond.instanceMethod yX2_notLater, Cond.selects RX2 yX2_notLater yX2_notLater, Cond.code yX2_notLater cX2_notLater 6 (some .boolean), Cond.fieldLink RX2 46 "LentPiles$Valley" "law" "I"]
def wsX3_due_r2 : List Cond := [Cond.fieldLink RX2 27 "LentPiles$Valley" "pence" "[I"]
def wsX3_due : List Cond := .code yX3_due cX3_due 2 (some .int) :: ((wsX3_due_r1 ++ wsX3_due_r2) ++ wsX30 ++ wsX20)
def wsX3_owes_r1 : List Cond := [Cond.fieldLink RX3 12 "LentPiles" "now" "LLentPiles$Valley;", Cond.methodLink RX3 47 yX3_isMan, Cond.static yX3_isMan, Cond.initialized RX3, Cond.code yX3_isMan cX3_isMan 1 (some .boolean), Cond.methodLink RX3 117 yX2_owedTo, Cond.instanceMethod yX2_owedTo, Cond.selects RX2 yX2_owedTo yX2_owedTo, Cond.initialized RX2, Cond.code yX2_owedTo cX2_owedTo 5 (some .int), Cond.methodLink RX2 66 yX2_debtsOf, Cond.instanceMethod yX2_debtsOf, Cond.selects RX2 yX2_debtsOf yX2_debtsOf, Cond.code yX2_debtsOf cX2_debtsOf 2 (some .int), Cond.fieldLink RX2 21 "LentPiles$Valley" "height" "[I", Cond.methodLink RX2 78 yX2_lenderOf, Cond.instanceMethod yX2_lenderOf, Cond.selects RX2 yX2_lenderOf yX2_lenderOf, Cond.code yX2_lenderOf cX2_lenderOf 3 (some .int), Cond.fieldLink RX2 24 "LentPiles$Valley" "lender" "[I", Cond.methodLink RX2 62 yX2_hasDebt, Cond.instanceMethod yX2_hasDebt, Cond.selects RX2 yX2_hasDebt yX2_hasDebt, Cond.code yX2_hasDebt cX2_hasDebt 3 (some .boolean)]
def wsX3_owes_r2 : List Cond := [Cond.methodLink RX2 74 yX2_penceOf, Cond.instanceMethod yX2_penceOf, Cond.selects RX2 yX2_penceOf yX2_penceOf, Cond.code yX2_penceOf cX2_penceOf 3 (some .int), Cond.fieldLink RX2 27 "LentPiles$Valley" "pence" "[I"]
def wsX3_owes : List Cond := .code yX3_owes cX3_owes 3 (some .int) :: ((wsX3_owes_r1 ++ wsX3_owes_r2) ++ wsX30 ++ wsX20)
def wsX3_seen : List Cond := .code yX3_seen cX3_seen 3 (some .int) :: ([.fieldLink RX3 12 "LentPiles" "now" "LLentPiles$Valley;", .methodLink RX3 47 yX3_isMan, .static yX3_isMan, .initialized RX3, .code yX3_isMan cX3_isMan 1 (some .boolean), .methodLink RX3 51 yX3_isWithin, .static yX3_isWithin, .code yX3_isWithin cX3_isWithin 3 (some .boolean), .methodLink RX3 120 yX2_addSight, .instanceMethod yX2_addSight, .selects RX2 yX2_addSight yX2_addSight, .initialized RX2, .code yX2_addSight cX2_addSight 3 (some .boolean), .fieldLink RX2 39 "LentPiles$Valley" "sights" "I", .fieldLink RX2 33 "LentPiles$Valley" "sightMan" "[I", .fieldLink RX2 36 "LentPiles$Valley" "sightPence" "[I"] ++ wsX30 ++ wsX20)
def wsX3_forget : List Cond := .code yX3_forget cX3_forget 2 (some .int) :: ([.fieldLink RX3 12 "LentPiles" "now" "LLentPiles$Valley;"] ++ wsX30 ++ wsX20)
def wsX3_filled_r1 : List Cond := [Cond.fieldLink RX3 28 "LentPiles" "pad" "LLentPiles$Pad;", Cond.fieldLink RX3 12 "LentPiles" "now" "LLentPiles$Valley;", Cond.fieldLink RX3 16 "LentPiles" "trial" "LLentPiles$Valley;", Cond.methodLink RX3 79 yX0_read, Cond.instanceMethod yX0_read, Cond.selects RX0 yX0_read yX0_read, Cond.initialized RX0, Cond.code yX0_read cX0_read 4 (some .int), Cond.fieldLink RX0 35 "LentPiles$Pad" "parts" "I", Cond.fieldLink RX0 38 "LentPiles$Pad" "asks" "I", Cond.fieldLink RX0 31 "LentPiles$Pad" "length" "I", Cond.methodLink RX0 44 yX0_faultOfPart, Cond.instanceMethod yX0_faultOfPart, Cond.selects RX0 yX0_faultOfPart yX0_faultOfPart, Cond.code yX0_faultOfPart cX0_faultOfPart 7 (some .int), Cond.methodLink RX0 51 yX0_signAt, Cond.instanceMethod yX0_signAt, Cond.selects RX0 yX0_signAt yX0_signAt, Cond.code yX0_signAt cX0_signAt 2 (some .char), Cond.fieldLink RX0 9 "LentPiles$Pad" "signs" "[C", Cond.methodLink RX0 55 yX0_isLetter, Cond.static yX0_isLetter, Cond.code yX0_isLetter cX0_isLetter 1 (some .boolean), Cond.methodLink RX0 59 yX0_isDigit]
def wsX3_filled_r2 : List Cond := [Cond.static yX0_isDigit, Cond.code yX0_isDigit cX0_isDigit 1 (some .boolean), Cond.methodLink RX0 48 yX0_takePart, Cond.instanceMethod yX0_takePart, Cond.selects RX0 yX0_takePart yX0_takePart, Cond.code yX0_takePart cX0_takePart 7 (some .int), Cond.methodLink RX0 62 yX0_addPart, Cond.instanceMethod yX0_addPart, Cond.selects RX0 yX0_addPart yX0_addPart, Cond.code yX0_addPart cX0_addPart 5 none, Cond.fieldLink RX0 15 "LentPiles$Pad" "kind" "[I", Cond.fieldLink RX0 19 "LentPiles$Pad" "doer" "[I", Cond.fieldLink RX0 22 "LentPiles$Pad" "borrower" "[I", Cond.fieldLink RX0 25 "LentPiles$Pad" "pence" "[I", Cond.methodLink RX3 126 yX0_guesses, Cond.instanceMethod yX0_guesses, Cond.selects RX0 yX0_guesses yX0_guesses, Cond.code yX0_guesses cX0_guesses 3 (some .int), Cond.methodLink RX3 129 yX0_writeMen, Cond.instanceMethod yX0_writeMen, Cond.selects RX0 yX0_writeMen yX0_writeMen, Cond.code yX0_writeMen cX0_writeMen 4 none, Cond.methodLink RX0 66 Lib.Math.min.name, Cond.static Lib.Math.min.name]
def wsX3_filled_r3 : List Cond := [Cond.initialized "java/lang/Math", Cond.code Lib.Math.min.name Lib.Math.min.code 2 (some .int), Cond.fieldLink RX0 28 "LentPiles$Pad" "guess" "[I", Cond.methodLink RX3 133 yX0_lendsToHimself, Cond.instanceMethod yX0_lendsToHimself, Cond.selects RX0 yX0_lendsToHimself yX0_lendsToHimself, Cond.code yX0_lendsToHimself cX0_lendsToHimself 2 (some .boolean), Cond.methodLink RX0 79 yX0_manOf, Cond.instanceMethod yX0_manOf, Cond.selects RX0 yX0_manOf yX0_manOf, Cond.code yX0_manOf cX0_manOf 2 (some .int), Cond.static yX3_isMan, Cond.initialized RX3, Cond.code yX3_isMan cX3_isMan 1 (some .boolean), Cond.methodLink RX0 76 yX0_manFor, Cond.instanceMethod yX0_manFor, Cond.selects RX0 yX0_manFor yX0_manFor, Cond.code yX0_manFor cX0_manFor 2 (some .int), Cond.methodLink RX3 86 yX0_perform, Cond.instanceMethod yX0_perform, Cond.selects RX0 yX0_perform yX0_perform, Cond.code yX0_perform cX0_perform 4 (some .int), Cond.fieldLink RX0 41 "LentPiles$Pad" "why" "I", Cond.methodLink RX0 82 yX2_copyFrom]
def wsX3_filled_r4 : List Cond := [Cond.instanceMethod yX2_copyFrom, Cond.selects RX2 yX2_copyFrom yX2_copyFrom, Cond.initialized RX2, Cond.code yX2_copyFrom cX2_copyFrom 2 none, Cond.fieldLink RX2 9 "LentPiles$Valley" "purse" "[I", Cond.methodLink RX2 52 arraycopyName, Cond.native arraycopyName, Cond.static arraycopyName, Cond.initialized "java/lang/System", Cond.fieldLink RX2 21 "LentPiles$Valley" "height" "[I", Cond.fieldLink RX2 24 "LentPiles$Valley" "lender" "[I", Cond.fieldLink RX2 27 "LentPiles$Valley" "pence" "[I", Cond.fieldLink RX2 30 "LentPiles$Valley" "made" "[I", Cond.fieldLink RX2 33 "LentPiles$Valley" "sightMan" "[I", Cond.fieldLink RX2 36 "LentPiles$Valley" "sightPence" "[I", Cond.fieldLink RX2 39 "LentPiles$Valley" "sights" "I", Cond.fieldLink RX2 43 "LentPiles$Valley" "days" "I", Cond.fieldLink RX2 46 "LentPiles$Valley" "law" "I", Cond.fieldLink RX2 49 "LentPiles$Valley" "rate" "I", Cond.methodLink RX0 88 yX0_performPart, Cond.instanceMethod yX0_performPart, Cond.selects RX0 yX0_performPart yX0_performPart, Cond.code yX0_performPart cX0_performPart 4 (some .int), Cond.methodLink RX0 92 yX2_passDay]
def wsX3_filled_r5 : List Cond := [Cond.instanceMethod yX2_passDay, Cond.selects RX2 yX2_passDay yX2_passDay, Cond.code yX2_passDay cX2_passDay 2 none, Cond.static yX3_grown, Cond.code yX3_grown cX3_grown 2 (some .int), Cond.methodLink RX3 214 Lib.Math.min.name, Cond.methodLink RX0 95 yX2_repay, Cond.instanceMethod yX2_repay, Cond.selects RX2 yX2_repay yX2_repay, Cond.code yX2_repay cX2_repay 5 (some .int), Cond.methodLink RX2 88 yX2_dueOf, Cond.instanceMethod yX2_dueOf, Cond.selects RX2 yX2_dueOf yX2_dueOf, Cond.code yX2_dueOf cX2_dueOf 4 (some .int), Cond.methodLink RX2 62 yX2_hasDebt, Cond.instanceMethod yX2_hasDebt, Cond.selects RX2 yX2_hasDebt yX2_hasDebt, Cond.code yX2_hasDebt cX2_hasDebt 3 (some .boolean), Cond.methodLink RX2 66 yX2_debtsOf, Cond.instanceMethod yX2_debtsOf, Cond.selects RX2 yX2_debtsOf yX2_debtsOf, Cond.code yX2_debtsOf cX2_debtsOf 2 (some .int), Cond.methodLink RX2 70 yX2_notLater, Cond.instanceMethod yX2_notLater]
def wsX3_filled_r6 : List Cond := [Cond.selects RX2 yX2_notLater yX2_notLater, Cond.code yX2_notLater cX2_notLater 6 (some .boolean), Cond.methodLink RX2 74 yX2_penceOf, Cond.instanceMethod yX2_penceOf, Cond.selects RX2 yX2_penceOf yX2_penceOf, Cond.code yX2_penceOf cX2_penceOf 3 (some .int), Cond.methodLink RX2 81 yX2_purseOf, Cond.instanceMethod yX2_purseOf, Cond.selects RX2 yX2_purseOf yX2_purseOf, Cond.code yX2_purseOf cX2_purseOf 2 (some .int), Cond.methodLink RX2 78 yX2_lenderOf, Cond.instanceMethod yX2_lenderOf, Cond.selects RX2 yX2_lenderOf yX2_lenderOf, Cond.code yX2_lenderOf cX2_lenderOf 3 (some .int), Cond.methodLink RX2 84 yX2_fillPurse, Cond.instanceMethod yX2_fillPurse, Cond.selects RX2 yX2_fillPurse yX2_fillPurse, Cond.code yX2_fillPurse cX2_fillPurse 3 none, Cond.methodLink RX2 91 yX2_drop, Cond.instanceMethod yX2_drop, Cond.selects RX2 yX2_drop yX2_drop, Cond.code yX2_drop cX2_drop 5 none, Cond.methodLink RX0 98 yX2_lend, Cond.instanceMethod yX2_lend]
def wsX3_filled_r7 : List Cond := [Cond.selects RX2 yX2_lend yX2_lend, Cond.code yX2_lend cX2_lend 6 (some .int), Cond.methodLink RX3 137 yX2_sightsHold, Cond.instanceMethod yX2_sightsHold, Cond.selects RX2 yX2_sightsHold yX2_sightsHold, Cond.code yX2_sightsHold cX2_sightsHold 2 (some .boolean), Cond.methodLink RX3 140 yX0_manFor]
def wsX3_filled : List Cond := .code yX3_filled cX3_filled 6 (some .int) :: ((wsX3_filled_r1 ++ (wsX3_filled_r2 ++ (wsX3_filled_r3 ++ (wsX3_filled_r4 ++ (wsX3_filled_r5 ++ (wsX3_filled_r6 ++ wsX3_filled_r7)))))) ++ wsX30 ++ wsX00 ++ wsX20)
def wsX3_soon_r1 : List Cond := [Cond.fieldLink RX3 12 "LentPiles" "now" "LLentPiles$Valley;", Cond.fieldLink RX3 35 "LentPiles" "payings" "LLentPiles$Payings;", Cond.methodLink RX3 100 yX2_hasDebt, Cond.instanceMethod yX2_hasDebt, Cond.selects RX2 yX2_hasDebt yX2_hasDebt, Cond.initialized RX2, Cond.code yX2_hasDebt cX2_hasDebt 3 (some .boolean), Cond.fieldLink RX2 21 "LentPiles$Valley" "height" "[I", Cond.methodLink RX3 143 yX1_load, Cond.instanceMethod yX1_load, Cond.selects RX1 yX1_load yX1_load, Cond.initialized RX1, Cond.code yX1_load cX1_load 6 none, Cond.fieldLink RX1 11 "LentPiles$Payings" "firstPurse" "[I", Cond.fieldLink RX1 15 "LentPiles$Payings" "purse" "[I", Cond.fieldLink RX1 18 "LentPiles$Payings" "height" "[I", Cond.fieldLink RX1 27 "LentPiles$Payings" "paid" "[I", Cond.fieldLink RX1 21 "LentPiles$Payings" "lender" "[I", Cond.fieldLink RX1 24 "LentPiles$Payings" "pence" "[I", Cond.methodLink RX1 44 yX2_purseOf, Cond.instanceMethod yX2_purseOf, Cond.selects RX2 yX2_purseOf yX2_purseOf, Cond.code yX2_purseOf cX2_purseOf 2 (some .int), Cond.fieldLink RX2 9 "LentPiles$Valley" "purse" "[I"]
def wsX3_soon_r2 : List Cond := [Cond.static yX3_isMan, Cond.initialized RX3, Cond.code yX3_isMan cX3_isMan 1 (some .boolean), Cond.methodLink RX1 50 yX2_debtsOf, Cond.instanceMethod yX2_debtsOf, Cond.selects RX2 yX2_debtsOf yX2_debtsOf, Cond.code yX2_debtsOf cX2_debtsOf 2 (some .int), Cond.methodLink RX1 53 yX2_turnOf, Cond.instanceMethod yX2_turnOf, Cond.selects RX2 yX2_turnOf yX2_turnOf, Cond.code yX2_turnOf cX2_turnOf 5 (some .int), Cond.methodLink RX2 66 yX2_debtsOf, Cond.methodLink RX2 70 yX2_notLater, Cond.instanceMethod yX2_notLater, Cond.selects RX2 yX2_notLater yX2_notLater, Cond.code yX2_notLater cX2_notLater 6 (some .boolean), Cond.fieldLink RX2 46 "LentPiles$Valley" "law" "I", Cond.fieldLink RX2 27 "LentPiles$Valley" "pence" "[I", Cond.methodLink RX2 62 yX2_hasDebt, Cond.static yX3_isWithin, Cond.code yX3_isWithin cX3_isWithin 3 (some .boolean), Cond.methodLink RX1 61 yX2_lenderOf, Cond.instanceMethod yX2_lenderOf, Cond.selects RX2 yX2_lenderOf yX2_lenderOf]
def wsX3_soon_r3 : List Cond := [Cond.code yX2_lenderOf cX2_lenderOf 3 (some .int), Cond.fieldLink RX2 24 "LentPiles$Valley" "lender" "[I", Cond.methodLink RX1 64 yX2_penceOf, Cond.instanceMethod yX2_penceOf, Cond.selects RX2 yX2_penceOf yX2_penceOf, Cond.code yX2_penceOf cX2_penceOf 3 (some .int), Cond.methodLink RX3 146 yX2_turnOf, Cond.methodLink RX3 149 yX1_fewest, Cond.instanceMethod yX1_fewest, Cond.selects RX1 yX1_fewest yX1_fewest, Cond.code yX1_fewest cX1_fewest 4 (some .int), Cond.fieldLink RX1 36 "LentPiles$Payings" "layer" "[J", Cond.methodLink RX1 81 yX1_payAllThatCan, Cond.instanceMethod yX1_payAllThatCan, Cond.selects RX1 yX1_payAllThatCan yX1_payAllThatCan, Cond.code yX1_payAllThatCan cX1_payAllThatCan 5 none, Cond.methodLink RX1 74 yX1_canPay, Cond.instanceMethod yX1_canPay, Cond.selects RX1 yX1_canPay yX1_canPay, Cond.code yX1_canPay cX1_canPay 2 (some .boolean), Cond.methodLink RX1 67 yX1_isPaidUp, Cond.instanceMethod yX1_isPaidUp, Cond.selects RX1 yX1_isPaidUp yX1_isPaidUp, Cond.code yX1_isPaidUp cX1_isPaidUp 2 (some .boolean)]
def wsX3_soon_r4 : List Cond := [Cond.methodLink RX1 77 yX1_pay, Cond.instanceMethod yX1_pay, Cond.selects RX1 yX1_pay yX1_pay, Cond.code yX1_pay cX1_pay 3 none, Cond.methodLink RX1 88 yX1_setLimits, Cond.instanceMethod yX1_setLimits, Cond.selects RX1 yX1_setLimits yX1_setLimits, Cond.code yX1_setLimits cX1_setLimits 5 none, Cond.fieldLink RX1 30 "LentPiles$Payings" "limit" "[I", Cond.fieldLink RX1 33 "LentPiles$Payings" "weight" "[I", Cond.methodLink RX1 104 Lib.Math.min.name, Cond.static Lib.Math.min.name, Cond.initialized "java/lang/Math", Cond.code Lib.Math.min.name Lib.Math.min.code 2 (some .int), Cond.fieldLink RX1 40 "LentPiles$Payings" "words" "I", Cond.methodLink RX1 92 yJ7_fill_d0a16, Cond.static yJ7_fill_d0a16, Cond.initialized RJ7, Cond.code yJ7_fill_d0a16 cJ7_fill_d0a16 5 none, Cond.methodLink RX1 98 yX1_mark, Cond.instanceMethod yX1_mark, Cond.selects RX1 yX1_mark yX1_mark, Cond.code yX1_mark cX1_mark 2 none, Cond.constant RX1 131 (46656)]
def wsX3_soon_r5 : List Cond := [Cond.methodLink RX1 101 yX1_spread, Cond.instanceMethod yX1_spread, Cond.selects RX1 yX1_spread yX1_spread, Cond.code yX1_spread cX1_spread 7 (some .boolean), Cond.methodLink RX1 109 yJ13_numberOfTrailingZeros_95d88, Cond.static yJ13_numberOfTrailingZeros_95d88, Cond.initialized RJ13, Cond.code yJ13_numberOfTrailingZeros_95d88 cJ13_numberOfTrailingZeros_95d88 3 (some .int), Cond.methodLink RJ13 311 yJ6_numberOfTrailingZeros_0f7a4, Cond.static yJ6_numberOfTrailingZeros_0f7a4, Cond.initialized RJ6, Cond.code yJ6_numberOfTrailingZeros_0f7a4 cJ6_numberOfTrailingZeros_0f7a4 2 (some .int), Cond.constant RJ6 264 (65536), Cond.methodLink RX1 115 yX1_leave, Cond.instanceMethod yX1_leave, Cond.selects RX1 yX1_leave yX1_leave, Cond.code yX1_leave cX1_leave 4 (some .boolean), Cond.methodLink RX1 119 yX1_standAt, Cond.instanceMethod yX1_standAt, Cond.selects RX1 yX1_standAt yX1_standAt, Cond.code yX1_standAt cX1_standAt 7 none, Cond.methodLink RX1 122 arraycopyName, Cond.native arraycopyName, Cond.static arraycopyName]
def wsX3_soon_r6 : List Cond := [Cond.initialized "java/lang/System", Cond.methodLink RX1 128 yJ7_fill_53178, Cond.static yJ7_fill_53178, Cond.code yJ7_fill_53178 cJ7_fill_53178 4 none]
def wsX3_soon : List Cond := .code yX3_soon cX3_soon 3 (some .int) :: ((wsX3_soon_r1 ++ (wsX3_soon_r2 ++ (wsX3_soon_r3 ++ (wsX3_soon_r4 ++ (wsX3_soon_r5 ++ wsX3_soon_r6))))) ++ wsX30 ++ wsX20 ++ wsX10)
def wsX3_barred_r1 : List Cond := [Cond.fieldLink RX3 35 "LentPiles" "payings" "LLentPiles$Payings;", Cond.fieldLink RX3 12 "LentPiles" "now" "LLentPiles$Valley;", Cond.methodLink RX3 143 yX1_load, Cond.instanceMethod yX1_load, Cond.selects RX1 yX1_load yX1_load, Cond.initialized RX1, Cond.code yX1_load cX1_load 6 none, Cond.fieldLink RX1 11 "LentPiles$Payings" "firstPurse" "[I", Cond.fieldLink RX1 15 "LentPiles$Payings" "purse" "[I", Cond.fieldLink RX1 18 "LentPiles$Payings" "height" "[I", Cond.fieldLink RX1 27 "LentPiles$Payings" "paid" "[I", Cond.fieldLink RX1 21 "LentPiles$Payings" "lender" "[I", Cond.fieldLink RX1 24 "LentPiles$Payings" "pence" "[I", Cond.methodLink RX1 44 yX2_purseOf, Cond.instanceMethod yX2_purseOf, Cond.selects RX2 yX2_purseOf yX2_purseOf, Cond.initialized RX2, Cond.code yX2_purseOf cX2_purseOf 2 (some .int), Cond.fieldLink RX2 9 "LentPiles$Valley" "purse" "[I", Cond.static yX3_isMan, Cond.initialized RX3, Cond.code yX3_isMan cX3_isMan 1 (some .boolean), Cond.methodLink RX1 50 yX2_debtsOf, Cond.instanceMethod yX2_debtsOf]
def wsX3_barred_r2 : List Cond := [Cond.selects RX2 yX2_debtsOf yX2_debtsOf, Cond.code yX2_debtsOf cX2_debtsOf 2 (some .int), Cond.fieldLink RX2 21 "LentPiles$Valley" "height" "[I", Cond.methodLink RX1 53 yX2_turnOf, Cond.instanceMethod yX2_turnOf, Cond.selects RX2 yX2_turnOf yX2_turnOf, Cond.code yX2_turnOf cX2_turnOf 5 (some .int), Cond.methodLink RX2 66 yX2_debtsOf, Cond.methodLink RX2 70 yX2_notLater, Cond.instanceMethod yX2_notLater, Cond.selects RX2 yX2_notLater yX2_notLater, Cond.code yX2_notLater cX2_notLater 6 (some .boolean), Cond.fieldLink RX2 46 "LentPiles$Valley" "law" "I", Cond.fieldLink RX2 27 "LentPiles$Valley" "pence" "[I", Cond.methodLink RX2 62 yX2_hasDebt, Cond.instanceMethod yX2_hasDebt, Cond.selects RX2 yX2_hasDebt yX2_hasDebt, Cond.code yX2_hasDebt cX2_hasDebt 3 (some .boolean), Cond.static yX3_isWithin, Cond.code yX3_isWithin cX3_isWithin 3 (some .boolean), Cond.methodLink RX1 61 yX2_lenderOf, Cond.instanceMethod yX2_lenderOf, Cond.selects RX2 yX2_lenderOf yX2_lenderOf, Cond.code yX2_lenderOf cX2_lenderOf 3 (some .int)]
def wsX3_barred_r3 : List Cond := [Cond.fieldLink RX2 24 "LentPiles$Valley" "lender" "[I", Cond.methodLink RX1 64 yX2_penceOf, Cond.instanceMethod yX2_penceOf, Cond.selects RX2 yX2_penceOf yX2_penceOf, Cond.code yX2_penceOf cX2_penceOf 3 (some .int), Cond.methodLink RX3 152 yX1_payAllThatCan, Cond.instanceMethod yX1_payAllThatCan, Cond.selects RX1 yX1_payAllThatCan yX1_payAllThatCan, Cond.code yX1_payAllThatCan cX1_payAllThatCan 5 none, Cond.methodLink RX1 74 yX1_canPay, Cond.instanceMethod yX1_canPay, Cond.selects RX1 yX1_canPay yX1_canPay, Cond.code yX1_canPay cX1_canPay 2 (some .boolean), Cond.methodLink RX1 67 yX1_isPaidUp, Cond.instanceMethod yX1_isPaidUp, Cond.selects RX1 yX1_isPaidUp yX1_isPaidUp, Cond.code yX1_isPaidUp cX1_isPaidUp 2 (some .boolean), Cond.methodLink RX1 77 yX1_pay, Cond.instanceMethod yX1_pay, Cond.selects RX1 yX1_pay yX1_pay, Cond.code yX1_pay cX1_pay 3 none, Cond.methodLink RX3 155 yX1_stillOwing, Cond.instanceMethod yX1_stillOwing, Cond.selects RX1 yX1_stillOwing yX1_stillOwing]
def wsX3_barred_r4 : List Cond := [Cond.code yX1_stillOwing cX1_stillOwing 3 (some .int)]
def wsX3_barred : List Cond := .code yX3_barred cX3_barred 1 (some .int) :: ((wsX3_barred_r1 ++ (wsX3_barred_r2 ++ (wsX3_barred_r3 ++ wsX3_barred_r4))) ++ wsX30 ++ wsX10 ++ wsX20)
def wsX3_leastHelp_r1 : List Cond := [Cond.fieldLink RX3 35 "LentPiles" "payings" "LLentPiles$Payings;", Cond.fieldLink RX3 12 "LentPiles" "now" "LLentPiles$Valley;", Cond.methodLink RX3 143 yX1_load, Cond.instanceMethod yX1_load, Cond.selects RX1 yX1_load yX1_load, Cond.initialized RX1, Cond.code yX1_load cX1_load 6 none, Cond.fieldLink RX1 11 "LentPiles$Payings" "firstPurse" "[I", Cond.fieldLink RX1 15 "LentPiles$Payings" "purse" "[I", Cond.fieldLink RX1 18 "LentPiles$Payings" "height" "[I", Cond.fieldLink RX1 27 "LentPiles$Payings" "paid" "[I", Cond.fieldLink RX1 21 "LentPiles$Payings" "lender" "[I", Cond.fieldLink RX1 24 "LentPiles$Payings" "pence" "[I", Cond.methodLink RX1 44 yX2_purseOf, Cond.instanceMethod yX2_purseOf, Cond.selects RX2 yX2_purseOf yX2_purseOf, Cond.initialized RX2, Cond.code yX2_purseOf cX2_purseOf 2 (some .int), Cond.fieldLink RX2 9 "LentPiles$Valley" "purse" "[I", Cond.static yX3_isMan, Cond.initialized RX3, Cond.code yX3_isMan cX3_isMan 1 (some .boolean), Cond.methodLink RX1 50 yX2_debtsOf, Cond.instanceMethod yX2_debtsOf]
def wsX3_leastHelp_r2 : List Cond := [Cond.selects RX2 yX2_debtsOf yX2_debtsOf, Cond.code yX2_debtsOf cX2_debtsOf 2 (some .int), Cond.fieldLink RX2 21 "LentPiles$Valley" "height" "[I", Cond.methodLink RX1 53 yX2_turnOf, Cond.instanceMethod yX2_turnOf, Cond.selects RX2 yX2_turnOf yX2_turnOf, Cond.code yX2_turnOf cX2_turnOf 5 (some .int), Cond.methodLink RX2 66 yX2_debtsOf, Cond.methodLink RX2 70 yX2_notLater, Cond.instanceMethod yX2_notLater, Cond.selects RX2 yX2_notLater yX2_notLater, Cond.code yX2_notLater cX2_notLater 6 (some .boolean), Cond.fieldLink RX2 46 "LentPiles$Valley" "law" "I", Cond.fieldLink RX2 27 "LentPiles$Valley" "pence" "[I", Cond.methodLink RX2 62 yX2_hasDebt, Cond.instanceMethod yX2_hasDebt, Cond.selects RX2 yX2_hasDebt yX2_hasDebt, Cond.code yX2_hasDebt cX2_hasDebt 3 (some .boolean), Cond.static yX3_isWithin, Cond.code yX3_isWithin cX3_isWithin 3 (some .boolean), Cond.methodLink RX1 61 yX2_lenderOf, Cond.instanceMethod yX2_lenderOf, Cond.selects RX2 yX2_lenderOf yX2_lenderOf, Cond.code yX2_lenderOf cX2_lenderOf 3 (some .int)]
def wsX3_leastHelp_r3 : List Cond := [Cond.fieldLink RX2 24 "LentPiles$Valley" "lender" "[I", Cond.methodLink RX1 64 yX2_penceOf, Cond.instanceMethod yX2_penceOf, Cond.selects RX2 yX2_penceOf yX2_penceOf, Cond.code yX2_penceOf cX2_penceOf 3 (some .int), Cond.methodLink RX3 219 yX1_leastHelp, Cond.instanceMethod yX1_leastHelp, Cond.selects RX1 yX1_leastHelp yX1_leastHelp, Cond.code yX1_leastHelp cX1_leastHelp 5 (some .int), Cond.methodLink RX1 81 yX1_payAllThatCan, Cond.instanceMethod yX1_payAllThatCan, Cond.selects RX1 yX1_payAllThatCan yX1_payAllThatCan, Cond.code yX1_payAllThatCan cX1_payAllThatCan 5 none, Cond.methodLink RX1 74 yX1_canPay, Cond.instanceMethod yX1_canPay, Cond.selects RX1 yX1_canPay yX1_canPay, Cond.code yX1_canPay cX1_canPay 2 (some .boolean), Cond.methodLink RX1 67 yX1_isPaidUp, Cond.instanceMethod yX1_isPaidUp, Cond.selects RX1 yX1_isPaidUp yX1_isPaidUp, Cond.code yX1_isPaidUp cX1_isPaidUp 2 (some .boolean), Cond.methodLink RX1 77 yX1_pay, Cond.instanceMethod yX1_pay, Cond.selects RX1 yX1_pay yX1_pay]
def wsX3_leastHelp_r4 : List Cond := [Cond.code yX1_pay cX1_pay 3 none, Cond.methodLink RX1 84 yX1_stillOwing, Cond.instanceMethod yX1_stillOwing, Cond.selects RX1 yX1_stillOwing yX1_stillOwing, Cond.code yX1_stillOwing cX1_stillOwing 3 (some .int)]
def wsX3_leastHelp : List Cond := .code yX3_leastHelp cX3_leastHelp 2 (some .int) :: ((wsX3_leastHelp_r1 ++ (wsX3_leastHelp_r2 ++ (wsX3_leastHelp_r3 ++ wsX3_leastHelp_r4))) ++ wsX30 ++ wsX10 ++ wsX20)
def wsX3_help_r1 : List Cond := [Cond.methodLink RX3 47 yX3_isMan, Cond.static yX3_isMan, Cond.initialized RX3, Cond.code yX3_isMan cX3_isMan 1 (some .boolean), Cond.methodLink RX3 158 yX3_leastHelp, Cond.instanceMethod yX3_leastHelp, Cond.selects RX3 yX3_leastHelp yX3_leastHelp, Cond.code yX3_leastHelp cX3_leastHelp 2 (some .int), Cond.fieldLink RX3 35 "LentPiles" "payings" "LLentPiles$Payings;", Cond.fieldLink RX3 12 "LentPiles" "now" "LLentPiles$Valley;", Cond.methodLink RX3 143 yX1_load, Cond.instanceMethod yX1_load, Cond.selects RX1 yX1_load yX1_load, Cond.initialized RX1, Cond.code yX1_load cX1_load 6 none, Cond.fieldLink RX1 11 "LentPiles$Payings" "firstPurse" "[I", Cond.fieldLink RX1 15 "LentPiles$Payings" "purse" "[I", Cond.fieldLink RX1 18 "LentPiles$Payings" "height" "[I", Cond.fieldLink RX1 27 "LentPiles$Payings" "paid" "[I", Cond.fieldLink RX1 21 "LentPiles$Payings" "lender" "[I", Cond.fieldLink RX1 24 "LentPiles$Payings" "pence" "[I", Cond.methodLink RX1 44 yX2_purseOf, Cond.instanceMethod yX2_purseOf, Cond.selects RX2 yX2_purseOf yX2_purseOf]
def wsX3_help_r2 : List Cond := [Cond.initialized RX2, Cond.code yX2_purseOf cX2_purseOf 2 (some .int), Cond.fieldLink RX2 9 "LentPiles$Valley" "purse" "[I", Cond.methodLink RX1 50 yX2_debtsOf, Cond.instanceMethod yX2_debtsOf, Cond.selects RX2 yX2_debtsOf yX2_debtsOf, Cond.code yX2_debtsOf cX2_debtsOf 2 (some .int), Cond.fieldLink RX2 21 "LentPiles$Valley" "height" "[I", Cond.methodLink RX1 53 yX2_turnOf, Cond.instanceMethod yX2_turnOf, Cond.selects RX2 yX2_turnOf yX2_turnOf, Cond.code yX2_turnOf cX2_turnOf 5 (some .int), Cond.methodLink RX2 66 yX2_debtsOf, Cond.methodLink RX2 70 yX2_notLater, Cond.instanceMethod yX2_notLater, Cond.selects RX2 yX2_notLater yX2_notLater, Cond.code yX2_notLater cX2_notLater 6 (some .boolean), Cond.fieldLink RX2 46 "LentPiles$Valley" "law" "I", Cond.fieldLink RX2 27 "LentPiles$Valley" "pence" "[I", Cond.methodLink RX2 62 yX2_hasDebt, Cond.instanceMethod yX2_hasDebt, Cond.selects RX2 yX2_hasDebt yX2_hasDebt, Cond.code yX2_hasDebt cX2_hasDebt 3 (some .boolean), Cond.static yX3_isWithin]
def wsX3_help_r3 : List Cond := [Cond.code yX3_isWithin cX3_isWithin 3 (some .boolean), Cond.methodLink RX1 61 yX2_lenderOf, Cond.instanceMethod yX2_lenderOf, Cond.selects RX2 yX2_lenderOf yX2_lenderOf, Cond.code yX2_lenderOf cX2_lenderOf 3 (some .int), Cond.fieldLink RX2 24 "LentPiles$Valley" "lender" "[I", Cond.methodLink RX1 64 yX2_penceOf, Cond.instanceMethod yX2_penceOf, Cond.selects RX2 yX2_penceOf yX2_penceOf, Cond.code yX2_penceOf cX2_penceOf 3 (some .int), Cond.methodLink RX3 219 yX1_leastHelp, Cond.instanceMethod yX1_leastHelp, Cond.selects RX1 yX1_leastHelp yX1_leastHelp, Cond.code yX1_leastHelp cX1_leastHelp 5 (some .int), Cond.methodLink RX1 81 yX1_payAllThatCan, Cond.instanceMethod yX1_payAllThatCan, Cond.selects RX1 yX1_payAllThatCan yX1_payAllThatCan, Cond.code yX1_payAllThatCan cX1_payAllThatCan 5 none, Cond.methodLink RX1 74 yX1_canPay, Cond.instanceMethod yX1_canPay, Cond.selects RX1 yX1_canPay yX1_canPay, Cond.code yX1_canPay cX1_canPay 2 (some .boolean), Cond.methodLink RX1 67 yX1_isPaidUp, Cond.instanceMethod yX1_isPaidUp]
def wsX3_help_r4 : List Cond := [Cond.selects RX1 yX1_isPaidUp yX1_isPaidUp, Cond.code yX1_isPaidUp cX1_isPaidUp 2 (some .boolean), Cond.methodLink RX1 77 yX1_pay, Cond.instanceMethod yX1_pay, Cond.selects RX1 yX1_pay yX1_pay, Cond.code yX1_pay cX1_pay 3 none, Cond.methodLink RX1 84 yX1_stillOwing, Cond.instanceMethod yX1_stillOwing, Cond.selects RX1 yX1_stillOwing yX1_stillOwing, Cond.code yX1_stillOwing cX1_stillOwing 3 (some .int)]
def wsX3_help : List Cond := .code yX3_help cX3_help 2 (some .int) :: ((wsX3_help_r1 ++ (wsX3_help_r2 ++ (wsX3_help_r3 ++ wsX3_help_r4))) ++ wsX30 ++ wsX10 ++ wsX20)
def wsX3_whom_r1 : List Cond := [Cond.methodLink RX3 158 yX3_leastHelp, Cond.instanceMethod yX3_leastHelp, Cond.selects RX3 yX3_leastHelp yX3_leastHelp, Cond.initialized RX3, Cond.code yX3_leastHelp cX3_leastHelp 2 (some .int), Cond.fieldLink RX3 35 "LentPiles" "payings" "LLentPiles$Payings;", Cond.fieldLink RX3 12 "LentPiles" "now" "LLentPiles$Valley;", Cond.methodLink RX3 143 yX1_load, Cond.instanceMethod yX1_load, Cond.selects RX1 yX1_load yX1_load, Cond.initialized RX1, Cond.code yX1_load cX1_load 6 none, Cond.fieldLink RX1 11 "LentPiles$Payings" "firstPurse" "[I", Cond.fieldLink RX1 15 "LentPiles$Payings" "purse" "[I", Cond.fieldLink RX1 18 "LentPiles$Payings" "height" "[I", Cond.fieldLink RX1 27 "LentPiles$Payings" "paid" "[I", Cond.fieldLink RX1 21 "LentPiles$Payings" "lender" "[I", Cond.fieldLink RX1 24 "LentPiles$Payings" "pence" "[I", Cond.methodLink RX1 44 yX2_purseOf, Cond.instanceMethod yX2_purseOf, Cond.selects RX2 yX2_purseOf yX2_purseOf, Cond.initialized RX2, Cond.code yX2_purseOf cX2_purseOf 2 (some .int), Cond.fieldLink RX2 9 "LentPiles$Valley" "purse" "[I"]
def wsX3_whom_r2 : List Cond := [Cond.static yX3_isMan, Cond.code yX3_isMan cX3_isMan 1 (some .boolean), Cond.methodLink RX1 50 yX2_debtsOf, Cond.instanceMethod yX2_debtsOf, Cond.selects RX2 yX2_debtsOf yX2_debtsOf, Cond.code yX2_debtsOf cX2_debtsOf 2 (some .int), Cond.fieldLink RX2 21 "LentPiles$Valley" "height" "[I", Cond.methodLink RX1 53 yX2_turnOf, Cond.instanceMethod yX2_turnOf, Cond.selects RX2 yX2_turnOf yX2_turnOf, Cond.code yX2_turnOf cX2_turnOf 5 (some .int), Cond.methodLink RX2 66 yX2_debtsOf, Cond.methodLink RX2 70 yX2_notLater, Cond.instanceMethod yX2_notLater, Cond.selects RX2 yX2_notLater yX2_notLater, Cond.code yX2_notLater cX2_notLater 6 (some .boolean), Cond.fieldLink RX2 46 "LentPiles$Valley" "law" "I", Cond.fieldLink RX2 27 "LentPiles$Valley" "pence" "[I", Cond.methodLink RX2 62 yX2_hasDebt, Cond.instanceMethod yX2_hasDebt, Cond.selects RX2 yX2_hasDebt yX2_hasDebt, Cond.code yX2_hasDebt cX2_hasDebt 3 (some .boolean), Cond.static yX3_isWithin, Cond.code yX3_isWithin cX3_isWithin 3 (some .boolean)]
def wsX3_whom_r3 : List Cond := [Cond.methodLink RX1 61 yX2_lenderOf, Cond.instanceMethod yX2_lenderOf, Cond.selects RX2 yX2_lenderOf yX2_lenderOf, Cond.code yX2_lenderOf cX2_lenderOf 3 (some .int), Cond.fieldLink RX2 24 "LentPiles$Valley" "lender" "[I", Cond.methodLink RX1 64 yX2_penceOf, Cond.instanceMethod yX2_penceOf, Cond.selects RX2 yX2_penceOf yX2_penceOf, Cond.code yX2_penceOf cX2_penceOf 3 (some .int), Cond.methodLink RX3 219 yX1_leastHelp, Cond.instanceMethod yX1_leastHelp, Cond.selects RX1 yX1_leastHelp yX1_leastHelp, Cond.code yX1_leastHelp cX1_leastHelp 5 (some .int), Cond.methodLink RX1 81 yX1_payAllThatCan, Cond.instanceMethod yX1_payAllThatCan, Cond.selects RX1 yX1_payAllThatCan yX1_payAllThatCan, Cond.code yX1_payAllThatCan cX1_payAllThatCan 5 none, Cond.methodLink RX1 74 yX1_canPay, Cond.instanceMethod yX1_canPay, Cond.selects RX1 yX1_canPay yX1_canPay, Cond.code yX1_canPay cX1_canPay 2 (some .boolean), Cond.methodLink RX1 67 yX1_isPaidUp, Cond.instanceMethod yX1_isPaidUp, Cond.selects RX1 yX1_isPaidUp yX1_isPaidUp]
def wsX3_whom_r4 : List Cond := [Cond.code yX1_isPaidUp cX1_isPaidUp 2 (some .boolean), Cond.methodLink RX1 77 yX1_pay, Cond.instanceMethod yX1_pay, Cond.selects RX1 yX1_pay yX1_pay, Cond.code yX1_pay cX1_pay 3 none, Cond.methodLink RX1 84 yX1_stillOwing, Cond.instanceMethod yX1_stillOwing, Cond.selects RX1 yX1_stillOwing yX1_stillOwing, Cond.code yX1_stillOwing cX1_stillOwing 3 (some .int)]
def wsX3_whom : List Cond := .code yX3_whom cX3_whom 5 (some .int) :: ((wsX3_whom_r1 ++ (wsX3_whom_r2 ++ (wsX3_whom_r3 ++ wsX3_whom_r4))) ++ wsX30 ++ wsX10 ++ wsX20)
def wsX3_ring_r1 : List Cond := [Cond.fieldLink RX3 12 "LentPiles" "now" "LLentPiles$Valley;", Cond.methodLink RX3 47 yX3_isMan, Cond.static yX3_isMan, Cond.initialized RX3, Cond.code yX3_isMan cX3_isMan 1 (some .boolean), Cond.methodLink RX3 161 yX2_ringOf, Cond.instanceMethod yX2_ringOf, Cond.selects RX2 yX2_ringOf yX2_ringOf, Cond.initialized RX2, Cond.code yX2_ringOf cX2_ringOf 5 (some .int), Cond.methodLink RX2 88 yX2_dueOf, Cond.instanceMethod yX2_dueOf, Cond.selects RX2 yX2_dueOf yX2_dueOf, Cond.code yX2_dueOf cX2_dueOf 4 (some .int), Cond.methodLink RX2 62 yX2_hasDebt, Cond.instanceMethod yX2_hasDebt, Cond.selects RX2 yX2_hasDebt yX2_hasDebt, Cond.code yX2_hasDebt cX2_hasDebt 3 (some .boolean), Cond.fieldLink RX2 21 "LentPiles$Valley" "height" "[I", Cond.methodLink RX2 66 yX2_debtsOf, Cond.instanceMethod yX2_debtsOf, Cond.selects RX2 yX2_debtsOf yX2_debtsOf, Cond.code yX2_debtsOf cX2_debtsOf 2 (some .int), Cond.methodLink RX2 70 yX2_notLater]
def wsX3_ring_r2 : List Cond := [Cond.instanceMethod yX2_notLater, Cond.selects RX2 yX2_notLater yX2_notLater, Cond.code yX2_notLater cX2_notLater 6 (some .boolean), Cond.fieldLink RX2 46 "LentPiles$Valley" "law" "I", Cond.fieldLink RX2 27 "LentPiles$Valley" "pence" "[I", Cond.methodLink RX2 78 yX2_lenderOf, Cond.instanceMethod yX2_lenderOf, Cond.selects RX2 yX2_lenderOf yX2_lenderOf, Cond.code yX2_lenderOf cX2_lenderOf 3 (some .int), Cond.fieldLink RX2 24 "LentPiles$Valley" "lender" "[I"]
def wsX3_ring : List Cond := .code yX3_ring cX3_ring 2 (some .int) :: ((wsX3_ring_r1 ++ wsX3_ring_r2) ++ wsX30 ++ wsX20)
def wsX3_setOff_r1 : List Cond := [Cond.fieldLink RX3 12 "LentPiles" "now" "LLentPiles$Valley;", Cond.methodLink RX3 47 yX3_isMan, Cond.static yX3_isMan, Cond.initialized RX3, Cond.code yX3_isMan cX3_isMan 1 (some .boolean), Cond.methodLink RX3 161 yX2_ringOf, Cond.instanceMethod yX2_ringOf, Cond.selects RX2 yX2_ringOf yX2_ringOf, Cond.initialized RX2, Cond.code yX2_ringOf cX2_ringOf 5 (some .int), Cond.methodLink RX2 88 yX2_dueOf, Cond.instanceMethod yX2_dueOf, Cond.selects RX2 yX2_dueOf yX2_dueOf, Cond.code yX2_dueOf cX2_dueOf 4 (some .int), Cond.methodLink RX2 62 yX2_hasDebt, Cond.instanceMethod yX2_hasDebt, Cond.selects RX2 yX2_hasDebt yX2_hasDebt, Cond.code yX2_hasDebt cX2_hasDebt 3 (some .boolean), Cond.fieldLink RX2 21 "LentPiles$Valley" "height" "[I", Cond.methodLink RX2 66 yX2_debtsOf, Cond.instanceMethod yX2_debtsOf, Cond.selects RX2 yX2_debtsOf yX2_debtsOf, Cond.code yX2_debtsOf cX2_debtsOf 2 (some .int), Cond.methodLink RX2 70 yX2_notLater]
def wsX3_setOff_r2 : List Cond := [Cond.instanceMethod yX2_notLater, Cond.selects RX2 yX2_notLater yX2_notLater, Cond.code yX2_notLater cX2_notLater 6 (some .boolean), Cond.fieldLink RX2 46 "LentPiles$Valley" "law" "I", Cond.fieldLink RX2 27 "LentPiles$Valley" "pence" "[I", Cond.methodLink RX2 78 yX2_lenderOf, Cond.instanceMethod yX2_lenderOf, Cond.selects RX2 yX2_lenderOf yX2_lenderOf, Cond.code yX2_lenderOf cX2_lenderOf 3 (some .int), Cond.fieldLink RX2 24 "LentPiles$Valley" "lender" "[I", Cond.methodLink RX3 164 yX2_setOffDues, Cond.instanceMethod yX2_setOffDues, Cond.selects RX2 yX2_setOffDues yX2_setOffDues, Cond.code yX2_setOffDues cX2_setOffDues 4 (some .int), Cond.methodLink RX2 97 Lib.Math.min.name, Cond.static Lib.Math.min.name, Cond.initialized "java/lang/Math", Cond.code Lib.Math.min.name Lib.Math.min.code 2 (some .int), Cond.methodLink RX2 74 yX2_penceOf, Cond.instanceMethod yX2_penceOf, Cond.selects RX2 yX2_penceOf yX2_penceOf, Cond.code yX2_penceOf cX2_penceOf 3 (some .int), Cond.methodLink RX2 102 yX2_lower, Cond.instanceMethod yX2_lower]
def wsX3_setOff_r3 : List Cond := [Cond.selects RX2 yX2_lower yX2_lower, Cond.code yX2_lower cX2_lower 5 none, Cond.methodLink RX2 91 yX2_drop, Cond.instanceMethod yX2_drop, Cond.selects RX2 yX2_drop yX2_drop, Cond.code yX2_drop cX2_drop 5 none, Cond.fieldLink RX2 30 "LentPiles$Valley" "made" "[I"]
def wsX3_setOff : List Cond := .code yX3_setOff cX3_setOff 3 (some .int) :: ((wsX3_setOff_r1 ++ (wsX3_setOff_r2 ++ wsX3_setOff_r3)) ++ wsX30 ++ wsX20)
def wsX3_give : List Cond := .code yX3_give cX3_give 5 (some .int) :: ([.fieldLink RX3 12 "LentPiles" "now" "LLentPiles$Valley;", .methodLink RX3 100 yX2_hasDebt, .instanceMethod yX2_hasDebt, .selects RX2 yX2_hasDebt yX2_hasDebt, .initialized RX2, .code yX2_hasDebt cX2_hasDebt 3 (some .boolean), .fieldLink RX2 21 "LentPiles$Valley" "height" "[I", .methodLink RX3 47 yX3_isMan, .static yX3_isMan, .initialized RX3, .code yX3_isMan cX3_isMan 1 (some .boolean), .methodLink RX3 104 yX2_lenderOf, .instanceMethod yX2_lenderOf, .selects RX2 yX2_lenderOf yX2_lenderOf, .code yX2_lenderOf cX2_lenderOf 3 (some .int), .fieldLink RX2 24 "LentPiles$Valley" "lender" "[I", .methodLink RX2 62 yX2_hasDebt, .methodLink RX3 167 yX2_changeLender, .instanceMethod yX2_changeLender, .selects RX2 yX2_changeLender yX2_changeLender, .code yX2_changeLender cX2_changeLender 4 none] ++ wsX30 ++ wsX20)
def wsX3_pawn_r1 : List Cond := [Cond.fieldLink RX3 12 "LentPiles" "now" "LLentPiles$Valley;", Cond.methodLink RX3 100 yX2_hasDebt, Cond.instanceMethod yX2_hasDebt, Cond.selects RX2 yX2_hasDebt yX2_hasDebt, Cond.initialized RX2, Cond.code yX2_hasDebt cX2_hasDebt 3 (some .boolean), Cond.fieldLink RX2 21 "LentPiles$Valley" "height" "[I", Cond.methodLink RX3 171 yX2_penceTill, Cond.instanceMethod yX2_penceTill, Cond.selects RX2 yX2_penceTill yX2_penceTill, Cond.code yX2_penceTill cX2_penceTill 5 (some .int), Cond.methodLink RX2 66 yX2_debtsOf, Cond.instanceMethod yX2_debtsOf, Cond.selects RX2 yX2_debtsOf yX2_debtsOf, Cond.code yX2_debtsOf cX2_debtsOf 2 (some .int), Cond.static yX3_isMan, Cond.initialized RX3, Cond.code yX3_isMan cX3_isMan 1 (some .boolean), Cond.methodLink RX2 70 yX2_notLater, Cond.instanceMethod yX2_notLater, Cond.selects RX2 yX2_notLater yX2_notLater, Cond.code yX2_notLater cX2_notLater 6 (some .boolean), Cond.fieldLink RX2 46 "LentPiles$Valley" "law" "I", Cond.fieldLink RX2 27 "LentPiles$Valley" "pence" "[I"]
def wsX3_pawn_r2 : List Cond := [Cond.methodLink RX2 62 yX2_hasDebt, Cond.methodLink RX2 74 yX2_penceOf, Cond.instanceMethod yX2_penceOf, Cond.selects RX2 yX2_penceOf yX2_penceOf, Cond.code yX2_penceOf cX2_penceOf 3 (some .int)]
def wsX3_pawn : List Cond := .code yX3_pawn cX3_pawn 3 (some .int) :: ((wsX3_pawn_r1 ++ wsX3_pawn_r2) ++ wsX30 ++ wsX20)
def wsX3_luckyShares : List Cond := .code yX3_luckyShares cX3_luckyShares 8 (some .long) :: ([.fieldLink RX3 39 "LentPiles" "shares" "[J", .methodLink RX3 220 yJ7_fill_d0a16, .static yJ7_fill_d0a16, .initialized RJ7, .code yJ7_fill_d0a16 cJ7_fill_d0a16 5 none] ++ wsX30)
def wsX3_allShares : List Cond := .code yX3_allShares cX3_allShares 4 (some .long) :: ([.constantLong RX3 226 (10)])
def wsX3_commonDivisor : List Cond := .code yX3_commonDivisor cX3_commonDivisor 11 (some .long) :: ([])
def wsX3_lowestTerms : List Cond := .code yX3_lowestTerms cX3_lowestTerms 7 (some .long) :: ([.methodLink RX3 228 yX3_commonDivisor, .static yX3_commonDivisor, .initialized RX3, .code yX3_commonDivisor cX3_commonDivisor 11 (some .long)])
def wsX3_odds_r1 : List Cond := [Cond.constantLong RX3 174 (-1000000000000000001), Cond.constantLong RX3 176 (-1000000000000000002), Cond.fieldLink RX3 12 "LentPiles" "now" "LLentPiles$Valley;", Cond.constantLong RX3 178 (-1000000000000000003), Cond.methodLink RX3 47 yX3_isMan, Cond.static yX3_isMan, Cond.initialized RX3, Cond.code yX3_isMan cX3_isMan 1 (some .boolean), Cond.methodLink RX3 51 yX3_isWithin, Cond.static yX3_isWithin, Cond.code yX3_isWithin cX3_isWithin 3 (some .boolean), Cond.methodLink RX3 114 yX2_dueOf, Cond.instanceMethod yX2_dueOf, Cond.selects RX2 yX2_dueOf yX2_dueOf, Cond.initialized RX2, Cond.code yX2_dueOf cX2_dueOf 4 (some .int), Cond.methodLink RX2 62 yX2_hasDebt, Cond.instanceMethod yX2_hasDebt, Cond.selects RX2 yX2_hasDebt yX2_hasDebt, Cond.code yX2_hasDebt cX2_hasDebt 3 (some .boolean), Cond.fieldLink RX2 21 "LentPiles$Valley" "height" "[I", Cond.methodLink RX2 66 yX2_debtsOf, Cond.instanceMethod yX2_debtsOf, Cond.selects RX2 yX2_debtsOf yX2_debtsOf]
def wsX3_odds_r2 : List Cond := [Cond.code yX2_debtsOf cX2_debtsOf 2 (some .int), Cond.methodLink RX2 70 yX2_notLater, Cond.instanceMethod yX2_notLater, Cond.selects RX2 yX2_notLater yX2_notLater, Cond.code yX2_notLater cX2_notLater 6 (some .boolean), Cond.fieldLink RX2 46 "LentPiles$Valley" "law" "I", Cond.fieldLink RX2 27 "LentPiles$Valley" "pence" "[I", Cond.methodLink RX3 108 yX2_penceOf, Cond.instanceMethod yX2_penceOf, Cond.selects RX2 yX2_penceOf yX2_penceOf, Cond.code yX2_penceOf cX2_penceOf 3 (some .int), Cond.methodLink RX3 180 yX3_grown, Cond.static yX3_grown, Cond.code yX3_grown cX3_grown 2 (some .int), Cond.methodLink RX3 214 Lib.Math.min.name, Cond.static Lib.Math.min.name, Cond.initialized "java/lang/Math", Cond.code Lib.Math.min.name Lib.Math.min.code 2 (some .int), Cond.methodLink RX3 55 yX2_purseOf, Cond.instanceMethod yX2_purseOf, Cond.selects RX2 yX2_purseOf yX2_purseOf, Cond.code yX2_purseOf cX2_purseOf 2 (some .int), Cond.fieldLink RX2 9 "LentPiles$Valley" "purse" "[I", Cond.methodLink RX3 183 yX3_luckyShares]
def wsX3_odds_r3 : List Cond := [Cond.instanceMethod yX3_luckyShares, Cond.selects RX3 yX3_luckyShares yX3_luckyShares, Cond.code yX3_luckyShares cX3_luckyShares 8 (some .long), Cond.fieldLink RX3 39 "LentPiles" "shares" "[J", Cond.methodLink RX3 220 yJ7_fill_d0a16, Cond.static yJ7_fill_d0a16, Cond.initialized RJ7, Cond.code yJ7_fill_d0a16 cJ7_fill_d0a16 5 none, Cond.methodLink RX3 187 yX3_allShares, Cond.static yX3_allShares, Cond.code yX3_allShares cX3_allShares 4 (some .long), Cond.constantLong RX3 226 (10), Cond.methodLink RX3 191 yX3_lowestTerms, Cond.static yX3_lowestTerms, Cond.code yX3_lowestTerms cX3_lowestTerms 7 (some .long), Cond.methodLink RX3 228 yX3_commonDivisor, Cond.static yX3_commonDivisor, Cond.code yX3_commonDivisor cX3_commonDivisor 11 (some .long)]
def wsX3_odds : List Cond := .code yX3_odds cX3_odds 8 (some .long) :: ((wsX3_odds_r1 ++ (wsX3_odds_r2 ++ wsX3_odds_r3)) ++ wsX30 ++ wsX20)
def wsX3_liveYear_r1 : List Cond := [Cond.constant RX3 232 (65537), Cond.fieldLink RX3 16 "LentPiles" "trial" "LLentPiles$Valley;", Cond.methodLink RX3 55 yX2_purseOf, Cond.instanceMethod yX2_purseOf, Cond.selects RX2 yX2_purseOf yX2_purseOf, Cond.initialized RX2, Cond.code yX2_purseOf cX2_purseOf 2 (some .int), Cond.fieldLink RX2 9 "LentPiles$Valley" "purse" "[I", Cond.static yX3_isMan, Cond.initialized RX3, Cond.code yX3_isMan cX3_isMan 1 (some .boolean), Cond.methodLink RX3 59 yX2_fillPurse, Cond.instanceMethod yX2_fillPurse, Cond.selects RX2 yX2_fillPurse yX2_fillPurse, Cond.code yX2_fillPurse cX2_fillPurse 3 none, Cond.methodLink RX3 233 yX2_repay, Cond.instanceMethod yX2_repay, Cond.selects RX2 yX2_repay yX2_repay, Cond.code yX2_repay cX2_repay 5 (some .int), Cond.methodLink RX2 88 yX2_dueOf, Cond.instanceMethod yX2_dueOf, Cond.selects RX2 yX2_dueOf yX2_dueOf, Cond.code yX2_dueOf cX2_dueOf 4 (some .int), Cond.methodLink RX2 62 yX2_hasDebt]
def wsX3_liveYear_r2 : List Cond := [Cond.instanceMethod yX2_hasDebt, Cond.selects RX2 yX2_hasDebt yX2_hasDebt, Cond.code yX2_hasDebt cX2_hasDebt 3 (some .boolean), Cond.fieldLink RX2 21 "LentPiles$Valley" "height" "[I", Cond.methodLink RX2 66 yX2_debtsOf, Cond.instanceMethod yX2_debtsOf, Cond.selects RX2 yX2_debtsOf yX2_debtsOf, Cond.code yX2_debtsOf cX2_debtsOf 2 (some .int), Cond.methodLink RX2 70 yX2_notLater, Cond.instanceMethod yX2_notLater, Cond.selects RX2 yX2_notLater yX2_notLater, Cond.code yX2_notLater cX2_notLater 6 (some .boolean), Cond.fieldLink RX2 46 "LentPiles$Valley" "law" "I", Cond.fieldLink RX2 27 "LentPiles$Valley" "pence" "[I", Cond.methodLink RX2 74 yX2_penceOf, Cond.instanceMethod yX2_penceOf, Cond.selects RX2 yX2_penceOf yX2_penceOf, Cond.code yX2_penceOf cX2_penceOf 3 (some .int), Cond.methodLink RX2 81 yX2_purseOf, Cond.methodLink RX2 78 yX2_lenderOf, Cond.instanceMethod yX2_lenderOf, Cond.selects RX2 yX2_lenderOf yX2_lenderOf, Cond.code yX2_lenderOf cX2_lenderOf 3 (some .int), Cond.fieldLink RX2 24 "LentPiles$Valley" "lender" "[I"]
def wsX3_liveYear_r3 : List Cond := [Cond.methodLink RX2 84 yX2_fillPurse, Cond.methodLink RX2 91 yX2_drop, Cond.instanceMethod yX2_drop, Cond.selects RX2 yX2_drop yX2_drop, Cond.code yX2_drop cX2_drop 5 none, Cond.fieldLink RX2 30 "LentPiles$Valley" "made" "[I", Cond.methodLink RX3 236 yX2_passDay, Cond.instanceMethod yX2_passDay, Cond.selects RX2 yX2_passDay yX2_passDay, Cond.code yX2_passDay cX2_passDay 2 none, Cond.fieldLink RX2 43 "LentPiles$Valley" "days" "I", Cond.fieldLink RX2 49 "LentPiles$Valley" "rate" "I", Cond.static yX3_grown, Cond.code yX3_grown cX3_grown 2 (some .int), Cond.methodLink RX3 214 Lib.Math.min.name, Cond.static Lib.Math.min.name, Cond.initialized "java/lang/Math", Cond.code Lib.Math.min.name Lib.Math.min.code 2 (some .int)]
def wsX3_liveYear : List Cond := .code yX3_liveYear cX3_liveYear 8 (some .int) :: ((wsX3_liveYear_r1 ++ (wsX3_liveYear_r2 ++ wsX3_liveYear_r3)) ++ wsX30 ++ wsX20)
def wsX3_year_r1 : List Cond := [Cond.fieldLink RX3 16 "LentPiles" "trial" "LLentPiles$Valley;", Cond.fieldLink RX3 12 "LentPiles" "now" "LLentPiles$Valley;", Cond.methodLink RX3 51 yX3_isWithin, Cond.static yX3_isWithin, Cond.initialized RX3, Cond.code yX3_isWithin cX3_isWithin 3 (some .boolean), Cond.methodLink RX3 93 yX2_copyFrom, Cond.instanceMethod yX2_copyFrom, Cond.selects RX2 yX2_copyFrom yX2_copyFrom, Cond.initialized RX2, Cond.code yX2_copyFrom cX2_copyFrom 2 none, Cond.fieldLink RX2 9 "LentPiles$Valley" "purse" "[I", Cond.methodLink RX2 52 arraycopyName, Cond.native arraycopyName, Cond.static arraycopyName, Cond.initialized "java/lang/System", Cond.fieldLink RX2 21 "LentPiles$Valley" "height" "[I", Cond.fieldLink RX2 24 "LentPiles$Valley" "lender" "[I", Cond.fieldLink RX2 27 "LentPiles$Valley" "pence" "[I", Cond.fieldLink RX2 30 "LentPiles$Valley" "made" "[I", Cond.fieldLink RX2 33 "LentPiles$Valley" "sightMan" "[I", Cond.fieldLink RX2 36 "LentPiles$Valley" "sightPence" "[I", Cond.fieldLink RX2 39 "LentPiles$Valley" "sights" "I", Cond.fieldLink RX2 43 "LentPiles$Valley" "days" "I"]
def wsX3_year_r2 : List Cond := [Cond.fieldLink RX2 46 "LentPiles$Valley" "law" "I", Cond.fieldLink RX2 49 "LentPiles$Valley" "rate" "I", Cond.methodLink RX3 195 yX3_liveYear, Cond.instanceMethod yX3_liveYear, Cond.selects RX3 yX3_liveYear yX3_liveYear, Cond.code yX3_liveYear cX3_liveYear 8 (some .int), Cond.constant RX3 232 (65537), Cond.methodLink RX3 55 yX2_purseOf, Cond.instanceMethod yX2_purseOf, Cond.selects RX2 yX2_purseOf yX2_purseOf, Cond.code yX2_purseOf cX2_purseOf 2 (some .int), Cond.static yX3_isMan, Cond.code yX3_isMan cX3_isMan 1 (some .boolean), Cond.methodLink RX3 59 yX2_fillPurse, Cond.instanceMethod yX2_fillPurse, Cond.selects RX2 yX2_fillPurse yX2_fillPurse, Cond.code yX2_fillPurse cX2_fillPurse 3 none, Cond.methodLink RX3 233 yX2_repay, Cond.instanceMethod yX2_repay, Cond.selects RX2 yX2_repay yX2_repay, Cond.code yX2_repay cX2_repay 5 (some .int), Cond.methodLink RX2 88 yX2_dueOf, Cond.instanceMethod yX2_dueOf, Cond.selects RX2 yX2_dueOf yX2_dueOf]
def wsX3_year_r3 : List Cond := [Cond.code yX2_dueOf cX2_dueOf 4 (some .int), Cond.methodLink RX2 62 yX2_hasDebt, Cond.instanceMethod yX2_hasDebt, Cond.selects RX2 yX2_hasDebt yX2_hasDebt, Cond.code yX2_hasDebt cX2_hasDebt 3 (some .boolean), Cond.methodLink RX2 66 yX2_debtsOf, Cond.instanceMethod yX2_debtsOf, Cond.selects RX2 yX2_debtsOf yX2_debtsOf, Cond.code yX2_debtsOf cX2_debtsOf 2 (some .int), Cond.methodLink RX2 70 yX2_notLater, Cond.instanceMethod yX2_notLater, Cond.selects RX2 yX2_notLater yX2_notLater, Cond.code yX2_notLater cX2_notLater 6 (some .boolean), Cond.methodLink RX2 74 yX2_penceOf, Cond.instanceMethod yX2_penceOf, Cond.selects RX2 yX2_penceOf yX2_penceOf, Cond.code yX2_penceOf cX2_penceOf 3 (some .int), Cond.methodLink RX2 81 yX2_purseOf, Cond.methodLink RX2 78 yX2_lenderOf, Cond.instanceMethod yX2_lenderOf, Cond.selects RX2 yX2_lenderOf yX2_lenderOf, Cond.code yX2_lenderOf cX2_lenderOf 3 (some .int), Cond.methodLink RX2 84 yX2_fillPurse, Cond.methodLink RX2 91 yX2_drop]
def wsX3_year_r4 : List Cond := [Cond.instanceMethod yX2_drop, Cond.selects RX2 yX2_drop yX2_drop, Cond.code yX2_drop cX2_drop 5 none, Cond.methodLink RX3 236 yX2_passDay, Cond.instanceMethod yX2_passDay, Cond.selects RX2 yX2_passDay yX2_passDay, Cond.code yX2_passDay cX2_passDay 2 none, Cond.static yX3_grown, Cond.code yX3_grown cX3_grown 2 (some .int), Cond.methodLink RX3 214 Lib.Math.min.name, Cond.static Lib.Math.min.name, Cond.initialized "java/lang/Math", Cond.code Lib.Math.min.name Lib.Math.min.code 2 (some .int), Cond.methodLink RX3 198 yX2_allDebts, Cond.instanceMethod yX2_allDebts, Cond.selects RX2 yX2_allDebts yX2_allDebts, Cond.code yX2_allDebts cX2_allDebts 3 (some .int), Cond.methodLink RX3 201 yX2_allPence, Cond.instanceMethod yX2_allPence, Cond.selects RX2 yX2_allPence yX2_allPence, Cond.code yX2_allPence cX2_allPence 4 (some .int)]
def wsX3_year : List Cond := .code yX3_year cX3_year 5 (some .int) :: ((wsX3_year_r1 ++ (wsX3_year_r2 ++ (wsX3_year_r3 ++ wsX3_year_r4))) ++ wsX30 ++ wsX20)
def wsX3_imageOf : List Cond := .code yX3_imageOf cX3_imageOf 2 (some (.object "LentPiles$Valley")) :: ([.fieldLink RX3 19 "LentPiles" "firstImage" "LLentPiles$Valley;", .fieldLink RX3 22 "LentPiles" "secondImage" "LLentPiles$Valley;"] ++ wsX30)
def wsX3_image_r1 : List Cond := [Cond.fieldLink RX3 12 "LentPiles" "now" "LLentPiles$Valley;", Cond.fieldLink RX3 43 "LentPiles" "imagesKept" "I", Cond.methodLink RX3 51 yX3_isWithin, Cond.static yX3_isWithin, Cond.initialized RX3, Cond.code yX3_isWithin cX3_isWithin 3 (some .boolean), Cond.methodLink RX3 204 yX3_imageOf, Cond.instanceMethod yX3_imageOf, Cond.selects RX3 yX3_imageOf yX3_imageOf, Cond.code yX3_imageOf cX3_imageOf 2 (some (.object "LentPiles$Valley")), Cond.fieldLink RX3 19 "LentPiles" "firstImage" "LLentPiles$Valley;", Cond.fieldLink RX3 22 "LentPiles" "secondImage" "LLentPiles$Valley;", Cond.methodLink RX3 93 yX2_copyFrom, Cond.instanceMethod yX2_copyFrom, Cond.selects RX2 yX2_copyFrom yX2_copyFrom, Cond.initialized RX2, Cond.code yX2_copyFrom cX2_copyFrom 2 none, Cond.fieldLink RX2 9 "LentPiles$Valley" "purse" "[I", Cond.methodLink RX2 52 arraycopyName, Cond.native arraycopyName, Cond.static arraycopyName, Cond.initialized "java/lang/System", Cond.fieldLink RX2 21 "LentPiles$Valley" "height" "[I", Cond.fieldLink RX2 24 "LentPiles$Valley" "lender" "[I"]
def wsX3_image_r2 : List Cond := [Cond.fieldLink RX2 27 "LentPiles$Valley" "pence" "[I", Cond.fieldLink RX2 30 "LentPiles$Valley" "made" "[I", Cond.fieldLink RX2 33 "LentPiles$Valley" "sightMan" "[I", Cond.fieldLink RX2 36 "LentPiles$Valley" "sightPence" "[I", Cond.fieldLink RX2 39 "LentPiles$Valley" "sights" "I", Cond.fieldLink RX2 43 "LentPiles$Valley" "days" "I", Cond.fieldLink RX2 46 "LentPiles$Valley" "law" "I", Cond.fieldLink RX2 49 "LentPiles$Valley" "rate" "I"]
def wsX3_image : List Cond := .code yX3_image cX3_image 2 (some .int) :: ((wsX3_image_r1 ++ wsX3_image_r2) ++ wsX30 ++ wsX20)
def wsX3_restore_r1 : List Cond := [Cond.fieldLink RX3 43 "LentPiles" "imagesKept" "I", Cond.fieldLink RX3 12 "LentPiles" "now" "LLentPiles$Valley;", Cond.methodLink RX3 51 yX3_isWithin, Cond.static yX3_isWithin, Cond.initialized RX3, Cond.code yX3_isWithin cX3_isWithin 3 (some .boolean), Cond.methodLink RX3 204 yX3_imageOf, Cond.instanceMethod yX3_imageOf, Cond.selects RX3 yX3_imageOf yX3_imageOf, Cond.code yX3_imageOf cX3_imageOf 2 (some (.object "LentPiles$Valley")), Cond.fieldLink RX3 19 "LentPiles" "firstImage" "LLentPiles$Valley;", Cond.fieldLink RX3 22 "LentPiles" "secondImage" "LLentPiles$Valley;", Cond.methodLink RX3 93 yX2_copyFrom, Cond.instanceMethod yX2_copyFrom, Cond.selects RX2 yX2_copyFrom yX2_copyFrom, Cond.initialized RX2, Cond.code yX2_copyFrom cX2_copyFrom 2 none, Cond.fieldLink RX2 9 "LentPiles$Valley" "purse" "[I", Cond.methodLink RX2 52 arraycopyName, Cond.native arraycopyName, Cond.static arraycopyName, Cond.initialized "java/lang/System", Cond.fieldLink RX2 21 "LentPiles$Valley" "height" "[I", Cond.fieldLink RX2 24 "LentPiles$Valley" "lender" "[I"]
def wsX3_restore_r2 : List Cond := [Cond.fieldLink RX2 27 "LentPiles$Valley" "pence" "[I", Cond.fieldLink RX2 30 "LentPiles$Valley" "made" "[I", Cond.fieldLink RX2 33 "LentPiles$Valley" "sightMan" "[I", Cond.fieldLink RX2 36 "LentPiles$Valley" "sightPence" "[I", Cond.fieldLink RX2 39 "LentPiles$Valley" "sights" "I", Cond.fieldLink RX2 43 "LentPiles$Valley" "days" "I", Cond.fieldLink RX2 46 "LentPiles$Valley" "law" "I", Cond.fieldLink RX2 49 "LentPiles$Valley" "rate" "I"]
def wsX3_restore : List Cond := .code yX3_restore cX3_restore 2 (some .int) :: ((wsX3_restore_r1 ++ wsX3_restore_r2) ++ wsX30 ++ wsX20)
def wsX3_told : List Cond := .code yX3_told cX3_told 2 (some .int) :: ([.fieldLink RX3 12 "LentPiles" "now" "LLentPiles$Valley;", .fieldLink RX3 28 "LentPiles" "pad" "LLentPiles$Pad;", .methodLink RX3 47 yX3_isMan, .static yX3_isMan, .initialized RX3, .code yX3_isMan cX3_isMan 1 (some .boolean), .methodLink RX3 55 yX2_purseOf, .instanceMethod yX2_purseOf, .selects RX2 yX2_purseOf yX2_purseOf, .initialized RX2, .code yX2_purseOf cX2_purseOf 2 (some .int), .fieldLink RX2 9 "LentPiles$Valley" "purse" "[I", .methodLink RX3 208 yX2_debtsOf, .instanceMethod yX2_debtsOf, .selects RX2 yX2_debtsOf yX2_debtsOf, .code yX2_debtsOf cX2_debtsOf 2 (some .int), .fieldLink RX2 21 "LentPiles$Valley" "height" "[I"] ++ wsX30 ++ wsX00 ++ wsX20)
def wsX4_init : List Cond := .code yX4_init cX4_init 2 none :: ([.methodLink RX4 1 objectInit, .instanceMethod objectInit, .code objectInit ⟨#[0xb1]⟩ 1 none, .arrayClass .int, .fieldLink RX4 7 "LentPilesModel" "money" "[I", .fieldLink RX4 13 "LentPilesModel" "size" "[I", .fieldLink RX4 16 "LentPilesModel" "pile" "[I", .fieldLink RX4 19 "LentPilesModel" "sight" "[I", .fieldLink RX4 22 "LentPilesModel" "pad" "[I", .fieldLink RX4 25 "LentPilesModel" "nowMoney" "[I", .fieldLink RX4 28 "LentPilesModel" "nowSize" "[I", .fieldLink RX4 31 "LentPilesModel" "nowPile" "[I", .fieldLink RX4 34 "LentPilesModel" "turn" "[I", .fieldLink RX4 37 "LentPilesModel" "power" "[I", .constant RX4 40 (46656), .arrayClass .boolean, .fieldLink RX4 41 "LentPilesModel" "comes" "[Z", .fieldLink RX4 45 "LentPilesModel" "image" "[I", .fieldLink RX4 48 "LentPilesModel" "isKept" "[Z"] ++ wsX40)
def wsX4_in : List Cond := .code yX4_in cX4_in 3 (some .boolean) :: ([])
def wsX4_has : List Cond := .code yX4_has cX4_has 2 (some .boolean) :: ([])
def wsX4_isMan : List Cond := .code yX4_isMan cX4_isMan 1 (some .boolean) :: ([.methodLink RX4 51 yX4_in, .static yX4_in, .initialized RX4, .code yX4_in cX4_in 3 (some .boolean)])
def wsX4_at : List Cond := .code yX4_at cX4_at 2 (some .int) :: ([])
def wsX4_isDebt : List Cond := .code yX4_isDebt cX4_isDebt 3 (some .boolean) :: ([.fieldLink RX4 13 "LentPilesModel" "size" "[I", .methodLink RX4 55 yX4_isMan, .static yX4_isMan, .initialized RX4, .code yX4_isMan cX4_isMan 1 (some .boolean), .methodLink RX4 51 yX4_in, .static yX4_in, .code yX4_in cX4_in 3 (some .boolean)] ++ wsX40)
def wsX4_money : List Cond := .code yX4_money cX4_money 4 (some .int) :: ([.fieldLink RX4 7 "LentPilesModel" "money" "[I", .methodLink RX4 55 yX4_isMan, .static yX4_isMan, .initialized RX4, .code yX4_isMan cX4_isMan 1 (some .boolean), .methodLink RX4 51 yX4_in, .static yX4_in, .code yX4_in cX4_in 3 (some .boolean)] ++ wsX40)
def wsX4_set : List Cond := .code yX4_set cX4_set 4 (some .int) :: ([.fieldLink RX4 59 "LentPilesModel" "law" "I", .fieldLink RX4 63 "LentPilesModel" "rate" "I", .methodLink RX4 51 yX4_in, .static yX4_in, .initialized RX4, .code yX4_in cX4_in 3 (some .boolean)] ++ wsX40)
def wsX4_say : List Cond := .code yX4_say cX4_say 2 (some .int) :: ([.fieldLink RX4 66 "LentPilesModel" "signs" "I", .fieldLink RX4 22 "LentPilesModel" "pad" "[I", .methodLink RX4 51 yX4_in, .static yX4_in, .initialized RX4, .code yX4_in cX4_in 3 (some .boolean)] ++ wsX40)
def wsX4_wipe : List Cond := .code yX4_wipe cX4_wipe 2 (some .int) :: ([.fieldLink RX4 66 "LentPilesModel" "signs" "I"] ++ wsX40)
def wsX4_faultOf : List Cond := .code yX4_faultOf cX4_faultOf 8 (some .int) :: ([.fieldLink RX4 66 "LentPilesModel" "signs" "I", .fieldLink RX4 22 "LentPilesModel" "pad" "[I", .methodLink RX4 51 yX4_in, .static yX4_in, .initialized RX4, .code yX4_in cX4_in 3 (some .boolean)] ++ wsX40)
def wsX4_fault : List Cond := .code yX4_fault cX4_fault 1 (some .int) :: ([.methodLink RX4 69 yX4_faultOf, .instanceMethod yX4_faultOf, .selects RX4 yX4_faultOf yX4_faultOf, .initialized RX4, .code yX4_faultOf cX4_faultOf 8 (some .int), .fieldLink RX4 66 "LentPilesModel" "signs" "I", .fieldLink RX4 22 "LentPilesModel" "pad" "[I", .methodLink RX4 51 yX4_in, .static yX4_in, .code yX4_in cX4_in 3 (some .boolean)] ++ wsX40)
def wsX4_opens : List Cond := .code yX4_opens cX4_opens 3 (some .int) :: ([.fieldLink RX4 66 "LentPilesModel" "signs" "I", .fieldLink RX4 22 "LentPilesModel" "pad" "[I"] ++ wsX40)
def wsX4_asNow : List Cond := .code yX4_asNow cX4_asNow 2 none :: ([.fieldLink RX4 73 "LentPilesModel" "days" "I", .fieldLink RX4 76 "LentPilesModel" "nowDays" "I", .fieldLink RX4 25 "LentPilesModel" "nowMoney" "[I", .fieldLink RX4 7 "LentPilesModel" "money" "[I", .fieldLink RX4 28 "LentPilesModel" "nowSize" "[I", .fieldLink RX4 13 "LentPilesModel" "size" "[I", .fieldLink RX4 31 "LentPilesModel" "nowPile" "[I", .fieldLink RX4 16 "LentPilesModel" "pile" "[I"] ++ wsX40)
def wsX4_keepNow : List Cond := .code yX4_keepNow cX4_keepNow 2 none :: ([.fieldLink RX4 76 "LentPilesModel" "nowDays" "I", .fieldLink RX4 73 "LentPilesModel" "days" "I", .fieldLink RX4 7 "LentPilesModel" "money" "[I", .fieldLink RX4 25 "LentPilesModel" "nowMoney" "[I", .fieldLink RX4 13 "LentPilesModel" "size" "[I", .fieldLink RX4 28 "LentPilesModel" "nowSize" "[I", .fieldLink RX4 16 "LentPilesModel" "pile" "[I", .fieldLink RX4 31 "LentPilesModel" "nowPile" "[I"] ++ wsX40)
def wsX4_dueNow : List Cond := .code yX4_dueNow cX4_dueNow 5 (some .int) :: ([.fieldLink RX4 28 "LentPilesModel" "nowSize" "[I", .fieldLink RX4 59 "LentPilesModel" "law" "I", .fieldLink RX4 31 "LentPilesModel" "nowPile" "[I", .methodLink RX4 79 yX4_at, .static yX4_at, .initialized RX4, .code yX4_at cX4_at 2 (some .int)] ++ wsX40)
def wsX4_takeOut : List Cond := .code yX4_takeOut cX4_takeOut 4 none :: ([.fieldLink RX4 28 "LentPilesModel" "nowSize" "[I", .fieldLink RX4 31 "LentPilesModel" "nowPile" "[I", .methodLink RX4 79 yX4_at, .static yX4_at, .initialized RX4, .code yX4_at cX4_at 2 (some .int)] ++ wsX40)
def wsX4_penceDue : List Cond := .code yX4_penceDue cX4_penceDue 3 (some .int) :: ([.fieldLink RX4 31 "LentPilesModel" "nowPile" "[I", .methodLink RX4 83 yX4_dueNow, .instanceMethod yX4_dueNow, .selects RX4 yX4_dueNow yX4_dueNow, .initialized RX4, .code yX4_dueNow cX4_dueNow 5 (some .int), .fieldLink RX4 28 "LentPilesModel" "nowSize" "[I", .fieldLink RX4 59 "LentPilesModel" "law" "I", .methodLink RX4 79 yX4_at, .static yX4_at, .code yX4_at cX4_at 2 (some .int)] ++ wsX40)
def wsX4_canPay : List Cond := .code yX4_canPay cX4_canPay 3 (some .boolean) :: ([.fieldLink RX4 25 "LentPilesModel" "nowMoney" "[I", .methodLink RX4 87 yX4_penceDue, .instanceMethod yX4_penceDue, .selects RX4 yX4_penceDue yX4_penceDue, .initialized RX4, .code yX4_penceDue cX4_penceDue 3 (some .int), .fieldLink RX4 31 "LentPilesModel" "nowPile" "[I", .methodLink RX4 83 yX4_dueNow, .instanceMethod yX4_dueNow, .selects RX4 yX4_dueNow yX4_dueNow, .code yX4_dueNow cX4_dueNow 5 (some .int), .fieldLink RX4 28 "LentPilesModel" "nowSize" "[I", .fieldLink RX4 59 "LentPilesModel" "law" "I", .methodLink RX4 79 yX4_at, .static yX4_at, .code yX4_at cX4_at 2 (some .int)] ++ wsX40)
def wsX4_pay : List Cond := .code yX4_pay cX4_pay 4 none :: ([.fieldLink RX4 25 "LentPilesModel" "nowMoney" "[I", .fieldLink RX4 31 "LentPilesModel" "nowPile" "[I", .methodLink RX4 83 yX4_dueNow, .instanceMethod yX4_dueNow, .selects RX4 yX4_dueNow yX4_dueNow, .initialized RX4, .code yX4_dueNow cX4_dueNow 5 (some .int), .fieldLink RX4 28 "LentPilesModel" "nowSize" "[I", .fieldLink RX4 59 "LentPilesModel" "law" "I", .methodLink RX4 79 yX4_at, .static yX4_at, .code yX4_at cX4_at 2 (some .int), .methodLink RX4 90 yX4_takeOut, .instanceMethod yX4_takeOut, .selects RX4 yX4_takeOut yX4_takeOut, .code yX4_takeOut cX4_takeOut 4 none] ++ wsX40)
def wsX4_pass : List Cond := .code yX4_pass cX4_pass 4 none :: ([.fieldLink RX4 76 "LentPilesModel" "nowDays" "I", .fieldLink RX4 28 "LentPilesModel" "nowSize" "[I", .fieldLink RX4 31 "LentPilesModel" "nowPile" "[I", .fieldLink RX4 63 "LentPilesModel" "rate" "I", .methodLink RX4 79 yX4_at, .static yX4_at, .initialized RX4, .code yX4_at cX4_at 2 (some .int)] ++ wsX40)
def wsX4_goText_r1 : List Cond := [Cond.fieldLink RX4 97 "LentPilesModel" "parts" "I", Cond.fieldLink RX4 100 "LentPilesModel" "reason" "I", Cond.fieldLink RX4 66 "LentPilesModel" "signs" "I", Cond.fieldLink RX4 22 "LentPilesModel" "pad" "[I", Cond.fieldLink RX4 25 "LentPilesModel" "nowMoney" "[I", Cond.fieldLink RX4 28 "LentPilesModel" "nowSize" "[I", Cond.fieldLink RX4 31 "LentPilesModel" "nowPile" "[I", Cond.fieldLink RX4 76 "LentPilesModel" "nowDays" "I", Cond.methodLink RX4 94 yX4_asNow, Cond.instanceMethod yX4_asNow, Cond.selects RX4 yX4_asNow yX4_asNow, Cond.initialized RX4, Cond.code yX4_asNow cX4_asNow 2 none, Cond.fieldLink RX4 73 "LentPilesModel" "days" "I", Cond.fieldLink RX4 7 "LentPilesModel" "money" "[I", Cond.fieldLink RX4 13 "LentPilesModel" "size" "[I", Cond.fieldLink RX4 16 "LentPilesModel" "pile" "[I", Cond.methodLink RX4 103 yX4_opens, Cond.instanceMethod yX4_opens, Cond.selects RX4 yX4_opens yX4_opens, Cond.code yX4_opens cX4_opens 3 (some .int), Cond.methodLink RX4 106 yX4_pass, Cond.instanceMethod yX4_pass, Cond.selects RX4 yX4_pass yX4_pass]
def wsX4_goText_r2 : List Cond := [Cond.code yX4_pass cX4_pass 4 none, Cond.fieldLink RX4 63 "LentPilesModel" "rate" "I", Cond.methodLink RX4 79 yX4_at, Cond.static yX4_at, Cond.code yX4_at cX4_at 2 (some .int), Cond.methodLink RX4 83 yX4_dueNow, Cond.instanceMethod yX4_dueNow, Cond.selects RX4 yX4_dueNow yX4_dueNow, Cond.code yX4_dueNow cX4_dueNow 5 (some .int), Cond.fieldLink RX4 59 "LentPilesModel" "law" "I", Cond.methodLink RX4 109 yX4_canPay, Cond.instanceMethod yX4_canPay, Cond.selects RX4 yX4_canPay yX4_canPay, Cond.code yX4_canPay cX4_canPay 3 (some .boolean), Cond.methodLink RX4 87 yX4_penceDue, Cond.instanceMethod yX4_penceDue, Cond.selects RX4 yX4_penceDue yX4_penceDue, Cond.code yX4_penceDue cX4_penceDue 3 (some .int), Cond.methodLink RX4 112 yX4_pay, Cond.instanceMethod yX4_pay, Cond.selects RX4 yX4_pay yX4_pay, Cond.code yX4_pay cX4_pay 4 none, Cond.methodLink RX4 90 yX4_takeOut, Cond.instanceMethod yX4_takeOut]
def wsX4_goText_r3 : List Cond := [Cond.selects RX4 yX4_takeOut yX4_takeOut, Cond.code yX4_takeOut cX4_takeOut 4 none, Cond.methodLink RX4 51 yX4_in, Cond.static yX4_in, Cond.code yX4_in cX4_in 3 (some .boolean)]
def wsX4_goText : List Cond := .code yX4_goText cX4_goText 8 (some .int) :: ((wsX4_goText_r1 ++ (wsX4_goText_r2 ++ wsX4_goText_r3)) ++ wsX40)
def wsX4_judge_r1 : List Cond := [Cond.fieldLink RX4 100 "LentPilesModel" "reason" "I", Cond.methodLink RX4 51 yX4_in, Cond.static yX4_in, Cond.initialized RX4, Cond.code yX4_in cX4_in 3 (some .boolean), Cond.methodLink RX4 69 yX4_faultOf, Cond.instanceMethod yX4_faultOf, Cond.selects RX4 yX4_faultOf yX4_faultOf, Cond.code yX4_faultOf cX4_faultOf 8 (some .int), Cond.fieldLink RX4 66 "LentPilesModel" "signs" "I", Cond.fieldLink RX4 22 "LentPilesModel" "pad" "[I", Cond.methodLink RX4 103 yX4_opens, Cond.instanceMethod yX4_opens, Cond.selects RX4 yX4_opens yX4_opens, Cond.code yX4_opens cX4_opens 3 (some .int), Cond.methodLink RX4 116 yX4_goText, Cond.instanceMethod yX4_goText, Cond.selects RX4 yX4_goText yX4_goText, Cond.code yX4_goText cX4_goText 8 (some .int), Cond.fieldLink RX4 97 "LentPilesModel" "parts" "I", Cond.fieldLink RX4 25 "LentPilesModel" "nowMoney" "[I", Cond.fieldLink RX4 28 "LentPilesModel" "nowSize" "[I", Cond.fieldLink RX4 31 "LentPilesModel" "nowPile" "[I", Cond.fieldLink RX4 76 "LentPilesModel" "nowDays" "I"]
def wsX4_judge_r2 : List Cond := [Cond.methodLink RX4 94 yX4_asNow, Cond.instanceMethod yX4_asNow, Cond.selects RX4 yX4_asNow yX4_asNow, Cond.code yX4_asNow cX4_asNow 2 none, Cond.fieldLink RX4 73 "LentPilesModel" "days" "I", Cond.fieldLink RX4 7 "LentPilesModel" "money" "[I", Cond.fieldLink RX4 13 "LentPilesModel" "size" "[I", Cond.fieldLink RX4 16 "LentPilesModel" "pile" "[I", Cond.methodLink RX4 106 yX4_pass, Cond.instanceMethod yX4_pass, Cond.selects RX4 yX4_pass yX4_pass, Cond.code yX4_pass cX4_pass 4 none, Cond.fieldLink RX4 63 "LentPilesModel" "rate" "I", Cond.methodLink RX4 79 yX4_at, Cond.static yX4_at, Cond.code yX4_at cX4_at 2 (some .int), Cond.methodLink RX4 83 yX4_dueNow, Cond.instanceMethod yX4_dueNow, Cond.selects RX4 yX4_dueNow yX4_dueNow, Cond.code yX4_dueNow cX4_dueNow 5 (some .int), Cond.fieldLink RX4 59 "LentPilesModel" "law" "I", Cond.methodLink RX4 109 yX4_canPay, Cond.instanceMethod yX4_canPay, Cond.selects RX4 yX4_canPay yX4_canPay]
def wsX4_judge_r3 : List Cond := [Cond.code yX4_canPay cX4_canPay 3 (some .boolean), Cond.methodLink RX4 87 yX4_penceDue, Cond.instanceMethod yX4_penceDue, Cond.selects RX4 yX4_penceDue yX4_penceDue, Cond.code yX4_penceDue cX4_penceDue 3 (some .int), Cond.methodLink RX4 112 yX4_pay, Cond.instanceMethod yX4_pay, Cond.selects RX4 yX4_pay yX4_pay, Cond.code yX4_pay cX4_pay 4 none, Cond.methodLink RX4 90 yX4_takeOut, Cond.instanceMethod yX4_takeOut, Cond.selects RX4 yX4_takeOut yX4_takeOut, Cond.code yX4_takeOut cX4_takeOut 4 none]
def wsX4_judge : List Cond := .code yX4_judge cX4_judge 3 (some .int) :: ((wsX4_judge_r1 ++ (wsX4_judge_r2 ++ wsX4_judge_r3)) ++ wsX40)
def wsX4_done_r1 : List Cond := [Cond.fieldLink RX4 66 "LentPilesModel" "signs" "I", Cond.fieldLink RX4 97 "LentPilesModel" "parts" "I", Cond.methodLink RX4 69 yX4_faultOf, Cond.instanceMethod yX4_faultOf, Cond.selects RX4 yX4_faultOf yX4_faultOf, Cond.initialized RX4, Cond.code yX4_faultOf cX4_faultOf 8 (some .int), Cond.fieldLink RX4 22 "LentPilesModel" "pad" "[I", Cond.methodLink RX4 51 yX4_in, Cond.static yX4_in, Cond.code yX4_in cX4_in 3 (some .boolean), Cond.methodLink RX4 103 yX4_opens, Cond.instanceMethod yX4_opens, Cond.selects RX4 yX4_opens yX4_opens, Cond.code yX4_opens cX4_opens 3 (some .int), Cond.methodLink RX4 116 yX4_goText, Cond.instanceMethod yX4_goText, Cond.selects RX4 yX4_goText yX4_goText, Cond.code yX4_goText cX4_goText 8 (some .int), Cond.fieldLink RX4 100 "LentPilesModel" "reason" "I", Cond.fieldLink RX4 25 "LentPilesModel" "nowMoney" "[I", Cond.fieldLink RX4 28 "LentPilesModel" "nowSize" "[I", Cond.fieldLink RX4 31 "LentPilesModel" "nowPile" "[I", Cond.fieldLink RX4 76 "LentPilesModel" "nowDays" "I"]
def wsX4_done_r2 : List Cond := [Cond.methodLink RX4 94 yX4_asNow, Cond.instanceMethod yX4_asNow, Cond.selects RX4 yX4_asNow yX4_asNow, Cond.code yX4_asNow cX4_asNow 2 none, Cond.fieldLink RX4 73 "LentPilesModel" "days" "I", Cond.fieldLink RX4 7 "LentPilesModel" "money" "[I", Cond.fieldLink RX4 13 "LentPilesModel" "size" "[I", Cond.fieldLink RX4 16 "LentPilesModel" "pile" "[I", Cond.methodLink RX4 106 yX4_pass, Cond.instanceMethod yX4_pass, Cond.selects RX4 yX4_pass yX4_pass, Cond.code yX4_pass cX4_pass 4 none, Cond.fieldLink RX4 63 "LentPilesModel" "rate" "I", Cond.methodLink RX4 79 yX4_at, Cond.static yX4_at, Cond.code yX4_at cX4_at 2 (some .int), Cond.methodLink RX4 83 yX4_dueNow, Cond.instanceMethod yX4_dueNow, Cond.selects RX4 yX4_dueNow yX4_dueNow, Cond.code yX4_dueNow cX4_dueNow 5 (some .int), Cond.fieldLink RX4 59 "LentPilesModel" "law" "I", Cond.methodLink RX4 109 yX4_canPay, Cond.instanceMethod yX4_canPay, Cond.selects RX4 yX4_canPay yX4_canPay]
def wsX4_done_r3 : List Cond := [Cond.code yX4_canPay cX4_canPay 3 (some .boolean), Cond.methodLink RX4 87 yX4_penceDue, Cond.instanceMethod yX4_penceDue, Cond.selects RX4 yX4_penceDue yX4_penceDue, Cond.code yX4_penceDue cX4_penceDue 3 (some .int), Cond.methodLink RX4 112 yX4_pay, Cond.instanceMethod yX4_pay, Cond.selects RX4 yX4_pay yX4_pay, Cond.code yX4_pay cX4_pay 4 none, Cond.methodLink RX4 90 yX4_takeOut, Cond.instanceMethod yX4_takeOut, Cond.selects RX4 yX4_takeOut yX4_takeOut, Cond.code yX4_takeOut cX4_takeOut 4 none, Cond.methodLink RX4 119 yX4_keepNow, Cond.instanceMethod yX4_keepNow, Cond.selects RX4 yX4_keepNow yX4_keepNow, Cond.code yX4_keepNow cX4_keepNow 2 none]
def wsX4_done : List Cond := .code yX4_done cX4_done 1 (some .int) :: ((wsX4_done_r1 ++ (wsX4_done_r2 ++ wsX4_done_r3)) ++ wsX40)
def wsX4_debt : List Cond := .code yX4_debt cX4_debt 4 (some .int) :: ([.fieldLink RX4 16 "LentPilesModel" "pile" "[I", .methodLink RX4 122 yX4_isDebt, .instanceMethod yX4_isDebt, .selects RX4 yX4_isDebt yX4_isDebt, .initialized RX4, .code yX4_isDebt cX4_isDebt 3 (some .boolean), .fieldLink RX4 13 "LentPilesModel" "size" "[I", .methodLink RX4 55 yX4_isMan, .static yX4_isMan, .code yX4_isMan cX4_isMan 1 (some .boolean), .methodLink RX4 51 yX4_in, .static yX4_in, .code yX4_in cX4_in 3 (some .boolean), .methodLink RX4 79 yX4_at, .static yX4_at, .code yX4_at cX4_at 2 (some .int)] ++ wsX40)
def wsX4_due_r1 : List Cond := [Cond.methodLink RX4 55 yX4_isMan, Cond.static yX4_isMan, Cond.initialized RX4, Cond.code yX4_isMan cX4_isMan 1 (some .boolean), Cond.methodLink RX4 51 yX4_in, Cond.static yX4_in, Cond.code yX4_in cX4_in 3 (some .boolean), Cond.methodLink RX4 94 yX4_asNow, Cond.instanceMethod yX4_asNow, Cond.selects RX4 yX4_asNow yX4_asNow, Cond.code yX4_asNow cX4_asNow 2 none, Cond.fieldLink RX4 73 "LentPilesModel" "days" "I", Cond.fieldLink RX4 76 "LentPilesModel" "nowDays" "I", Cond.fieldLink RX4 25 "LentPilesModel" "nowMoney" "[I", Cond.fieldLink RX4 7 "LentPilesModel" "money" "[I", Cond.fieldLink RX4 28 "LentPilesModel" "nowSize" "[I", Cond.fieldLink RX4 13 "LentPilesModel" "size" "[I", Cond.fieldLink RX4 31 "LentPilesModel" "nowPile" "[I", Cond.fieldLink RX4 16 "LentPilesModel" "pile" "[I", Cond.methodLink RX4 83 yX4_dueNow, Cond.instanceMethod yX4_dueNow, Cond.selects RX4 yX4_dueNow yX4_dueNow, Cond.code yX4_dueNow cX4_dueNow 5 (some .int), Cond.fieldLink RX4 59 "LentPilesModel" "law" "I"]
def wsX4_due_r2 : List Cond := [Cond.methodLink RX4 79 yX4_at, Cond.static yX4_at, Cond.code yX4_at cX4_at 2 (some .int)]
def wsX4_due : List Cond := .code yX4_due cX4_due 2 (some .int) :: ((wsX4_due_r1 ++ wsX4_due_r2) ++ wsX40)
def wsX4_owes : List Cond := .code yX4_owes cX4_owes 5 (some .int) :: ([.fieldLink RX4 13 "LentPilesModel" "size" "[I", .fieldLink RX4 16 "LentPilesModel" "pile" "[I", .methodLink RX4 55 yX4_isMan, .static yX4_isMan, .initialized RX4, .code yX4_isMan cX4_isMan 1 (some .boolean), .methodLink RX4 51 yX4_in, .static yX4_in, .code yX4_in cX4_in 3 (some .boolean), .methodLink RX4 79 yX4_at, .static yX4_at, .code yX4_at cX4_at 2 (some .int)] ++ wsX40)
def wsX4_seen : List Cond := .code yX4_seen cX4_seen 3 (some .int) :: ([.fieldLink RX4 126 "LentPilesModel" "sights" "I", .fieldLink RX4 19 "LentPilesModel" "sight" "[I", .methodLink RX4 55 yX4_isMan, .static yX4_isMan, .initialized RX4, .code yX4_isMan cX4_isMan 1 (some .boolean), .methodLink RX4 51 yX4_in, .static yX4_in, .code yX4_in cX4_in 3 (some .boolean)] ++ wsX40)
def wsX4_forget : List Cond := .code yX4_forget cX4_forget 2 (some .int) :: ([.fieldLink RX4 126 "LentPilesModel" "sights" "I"] ++ wsX40)
def wsX4_isFit_r1 : List Cond := [Cond.fieldLink RX4 126 "LentPilesModel" "sights" "I", Cond.fieldLink RX4 25 "LentPilesModel" "nowMoney" "[I", Cond.fieldLink RX4 19 "LentPilesModel" "sight" "[I", Cond.methodLink RX4 116 yX4_goText, Cond.instanceMethod yX4_goText, Cond.selects RX4 yX4_goText yX4_goText, Cond.initialized RX4, Cond.code yX4_goText cX4_goText 8 (some .int), Cond.fieldLink RX4 97 "LentPilesModel" "parts" "I", Cond.fieldLink RX4 100 "LentPilesModel" "reason" "I", Cond.fieldLink RX4 66 "LentPilesModel" "signs" "I", Cond.fieldLink RX4 22 "LentPilesModel" "pad" "[I", Cond.fieldLink RX4 28 "LentPilesModel" "nowSize" "[I", Cond.fieldLink RX4 31 "LentPilesModel" "nowPile" "[I", Cond.fieldLink RX4 76 "LentPilesModel" "nowDays" "I", Cond.methodLink RX4 94 yX4_asNow, Cond.instanceMethod yX4_asNow, Cond.selects RX4 yX4_asNow yX4_asNow, Cond.code yX4_asNow cX4_asNow 2 none, Cond.fieldLink RX4 73 "LentPilesModel" "days" "I", Cond.fieldLink RX4 7 "LentPilesModel" "money" "[I", Cond.fieldLink RX4 13 "LentPilesModel" "size" "[I", Cond.fieldLink RX4 16 "LentPilesModel" "pile" "[I", Cond.methodLink RX4 103 yX4_opens]
def wsX4_isFit_r2 : List Cond := [Cond.instanceMethod yX4_opens, Cond.selects RX4 yX4_opens yX4_opens, Cond.code yX4_opens cX4_opens 3 (some .int), Cond.methodLink RX4 106 yX4_pass, Cond.instanceMethod yX4_pass, Cond.selects RX4 yX4_pass yX4_pass, Cond.code yX4_pass cX4_pass 4 none, Cond.fieldLink RX4 63 "LentPilesModel" "rate" "I", Cond.methodLink RX4 79 yX4_at, Cond.static yX4_at, Cond.code yX4_at cX4_at 2 (some .int), Cond.methodLink RX4 83 yX4_dueNow, Cond.instanceMethod yX4_dueNow, Cond.selects RX4 yX4_dueNow yX4_dueNow, Cond.code yX4_dueNow cX4_dueNow 5 (some .int), Cond.fieldLink RX4 59 "LentPilesModel" "law" "I", Cond.methodLink RX4 109 yX4_canPay, Cond.instanceMethod yX4_canPay, Cond.selects RX4 yX4_canPay yX4_canPay, Cond.code yX4_canPay cX4_canPay 3 (some .boolean), Cond.methodLink RX4 87 yX4_penceDue, Cond.instanceMethod yX4_penceDue, Cond.selects RX4 yX4_penceDue yX4_penceDue, Cond.code yX4_penceDue cX4_penceDue 3 (some .int)]
def wsX4_isFit_r3 : List Cond := [Cond.methodLink RX4 112 yX4_pay, Cond.instanceMethod yX4_pay, Cond.selects RX4 yX4_pay yX4_pay, Cond.code yX4_pay cX4_pay 4 none, Cond.methodLink RX4 90 yX4_takeOut, Cond.instanceMethod yX4_takeOut, Cond.selects RX4 yX4_takeOut yX4_takeOut, Cond.code yX4_takeOut cX4_takeOut 4 none, Cond.methodLink RX4 51 yX4_in, Cond.static yX4_in, Cond.code yX4_in cX4_in 3 (some .boolean)]
def wsX4_isFit : List Cond := .code yX4_isFit cX4_isFit 4 (some .boolean) :: ((wsX4_isFit_r1 ++ (wsX4_isFit_r2 ++ wsX4_isFit_r3)) ++ wsX40)
def wsX4_filled_r1 : List Cond := [Cond.methodLink RX4 69 yX4_faultOf, Cond.instanceMethod yX4_faultOf, Cond.selects RX4 yX4_faultOf yX4_faultOf, Cond.initialized RX4, Cond.code yX4_faultOf cX4_faultOf 8 (some .int), Cond.fieldLink RX4 66 "LentPilesModel" "signs" "I", Cond.fieldLink RX4 22 "LentPilesModel" "pad" "[I", Cond.methodLink RX4 51 yX4_in, Cond.static yX4_in, Cond.code yX4_in cX4_in 3 (some .boolean), Cond.methodLink RX4 103 yX4_opens, Cond.instanceMethod yX4_opens, Cond.selects RX4 yX4_opens yX4_opens, Cond.code yX4_opens cX4_opens 3 (some .int), Cond.methodLink RX4 129 yX4_isFit, Cond.instanceMethod yX4_isFit, Cond.selects RX4 yX4_isFit yX4_isFit, Cond.code yX4_isFit cX4_isFit 4 (some .boolean), Cond.fieldLink RX4 126 "LentPilesModel" "sights" "I", Cond.fieldLink RX4 25 "LentPilesModel" "nowMoney" "[I", Cond.fieldLink RX4 19 "LentPilesModel" "sight" "[I", Cond.methodLink RX4 116 yX4_goText, Cond.instanceMethod yX4_goText, Cond.selects RX4 yX4_goText yX4_goText]
def wsX4_filled_r2 : List Cond := [Cond.code yX4_goText cX4_goText 8 (some .int), Cond.fieldLink RX4 97 "LentPilesModel" "parts" "I", Cond.fieldLink RX4 100 "LentPilesModel" "reason" "I", Cond.fieldLink RX4 28 "LentPilesModel" "nowSize" "[I", Cond.fieldLink RX4 31 "LentPilesModel" "nowPile" "[I", Cond.fieldLink RX4 76 "LentPilesModel" "nowDays" "I", Cond.methodLink RX4 94 yX4_asNow, Cond.instanceMethod yX4_asNow, Cond.selects RX4 yX4_asNow yX4_asNow, Cond.code yX4_asNow cX4_asNow 2 none, Cond.fieldLink RX4 73 "LentPilesModel" "days" "I", Cond.fieldLink RX4 7 "LentPilesModel" "money" "[I", Cond.fieldLink RX4 13 "LentPilesModel" "size" "[I", Cond.fieldLink RX4 16 "LentPilesModel" "pile" "[I", Cond.methodLink RX4 106 yX4_pass, Cond.instanceMethod yX4_pass, Cond.selects RX4 yX4_pass yX4_pass, Cond.code yX4_pass cX4_pass 4 none, Cond.fieldLink RX4 63 "LentPilesModel" "rate" "I", Cond.methodLink RX4 79 yX4_at, Cond.static yX4_at, Cond.code yX4_at cX4_at 2 (some .int), Cond.methodLink RX4 83 yX4_dueNow, Cond.instanceMethod yX4_dueNow]
def wsX4_filled_r3 : List Cond := [Cond.selects RX4 yX4_dueNow yX4_dueNow, Cond.code yX4_dueNow cX4_dueNow 5 (some .int), Cond.fieldLink RX4 59 "LentPilesModel" "law" "I", Cond.methodLink RX4 109 yX4_canPay, Cond.instanceMethod yX4_canPay, Cond.selects RX4 yX4_canPay yX4_canPay, Cond.code yX4_canPay cX4_canPay 3 (some .boolean), Cond.methodLink RX4 87 yX4_penceDue, Cond.instanceMethod yX4_penceDue, Cond.selects RX4 yX4_penceDue yX4_penceDue, Cond.code yX4_penceDue cX4_penceDue 3 (some .int), Cond.methodLink RX4 112 yX4_pay, Cond.instanceMethod yX4_pay, Cond.selects RX4 yX4_pay yX4_pay, Cond.code yX4_pay cX4_pay 4 none, Cond.methodLink RX4 90 yX4_takeOut, Cond.instanceMethod yX4_takeOut, Cond.selects RX4 yX4_takeOut yX4_takeOut, Cond.code yX4_takeOut cX4_takeOut 4 none]
def wsX4_filled : List Cond := .code yX4_filled cX4_filled 7 (some .int) :: ((wsX4_filled_r1 ++ (wsX4_filled_r2 ++ wsX4_filled_r3)) ++ wsX40)
def wsX4_layTurns : List Cond := .code yX4_layTurns cX4_layTurns 7 none :: ([.fieldLink RX4 13 "LentPilesModel" "size" "[I", .fieldLink RX4 59 "LentPilesModel" "law" "I", .fieldLink RX4 16 "LentPilesModel" "pile" "[I", .fieldLink RX4 34 "LentPilesModel" "turn" "[I", .methodLink RX4 79 yX4_at, .static yX4_at, .initialized RX4, .code yX4_at cX4_at 2 (some .int), .methodLink RX4 132 yX4_has, .static yX4_has, .code yX4_has cX4_has 2 (some .boolean)] ++ wsX40)
def wsX4_paidOf : List Cond := .code yX4_paidOf cX4_paidOf 3 (some .int) :: ([.fieldLink RX4 37 "LentPilesModel" "power" "[I"] ++ wsX40)
def wsX4_moneyBy : List Cond := .code yX4_moneyBy cX4_moneyBy 7 (some .int) :: ([.fieldLink RX4 7 "LentPilesModel" "money" "[I", .fieldLink RX4 34 "LentPilesModel" "turn" "[I", .fieldLink RX4 16 "LentPilesModel" "pile" "[I", .methodLink RX4 135 yX4_paidOf, .instanceMethod yX4_paidOf, .selects RX4 yX4_paidOf yX4_paidOf, .initialized RX4, .code yX4_paidOf cX4_paidOf 3 (some .int), .fieldLink RX4 37 "LentPilesModel" "power" "[I", .methodLink RX4 79 yX4_at, .static yX4_at, .code yX4_at cX4_at 2 (some .int)] ++ wsX40)
def wsX4_soon_r1 : List Cond := [Cond.fieldLink RX4 37 "LentPilesModel" "power" "[I", Cond.fieldLink RX4 13 "LentPilesModel" "size" "[I", Cond.fieldLink RX4 34 "LentPilesModel" "turn" "[I", Cond.constant RX4 40 (46656), Cond.fieldLink RX4 41 "LentPilesModel" "comes" "[Z", Cond.constant RX4 141 (1000000), Cond.fieldLink RX4 16 "LentPilesModel" "pile" "[I", Cond.methodLink RX4 122 yX4_isDebt, Cond.instanceMethod yX4_isDebt, Cond.selects RX4 yX4_isDebt yX4_isDebt, Cond.initialized RX4, Cond.code yX4_isDebt cX4_isDebt 3 (some .boolean), Cond.methodLink RX4 55 yX4_isMan, Cond.static yX4_isMan, Cond.code yX4_isMan cX4_isMan 1 (some .boolean), Cond.methodLink RX4 51 yX4_in, Cond.static yX4_in, Cond.code yX4_in cX4_in 3 (some .boolean), Cond.methodLink RX4 138 yX4_layTurns, Cond.instanceMethod yX4_layTurns, Cond.selects RX4 yX4_layTurns yX4_layTurns, Cond.code yX4_layTurns cX4_layTurns 7 none, Cond.fieldLink RX4 59 "LentPilesModel" "law" "I", Cond.methodLink RX4 79 yX4_at]
def wsX4_soon_r2 : List Cond := [Cond.static yX4_at, Cond.code yX4_at cX4_at 2 (some .int), Cond.methodLink RX4 132 yX4_has, Cond.static yX4_has, Cond.code yX4_has cX4_has 2 (some .boolean), Cond.methodLink RX4 135 yX4_paidOf, Cond.instanceMethod yX4_paidOf, Cond.selects RX4 yX4_paidOf yX4_paidOf, Cond.code yX4_paidOf cX4_paidOf 3 (some .int), Cond.methodLink RX4 142 yX4_moneyBy, Cond.instanceMethod yX4_moneyBy, Cond.selects RX4 yX4_moneyBy yX4_moneyBy, Cond.code yX4_moneyBy cX4_moneyBy 7 (some .int), Cond.fieldLink RX4 7 "LentPilesModel" "money" "[I"]
def wsX4_soon : List Cond := .code yX4_soon cX4_soon 9 (some .int) :: ((wsX4_soon_r1 ++ wsX4_soon_r2) ++ wsX40)
def wsX4_payAll_r1 : List Cond := [Cond.methodLink RX4 109 yX4_canPay, Cond.instanceMethod yX4_canPay, Cond.selects RX4 yX4_canPay yX4_canPay, Cond.initialized RX4, Cond.code yX4_canPay cX4_canPay 3 (some .boolean), Cond.fieldLink RX4 25 "LentPilesModel" "nowMoney" "[I", Cond.methodLink RX4 87 yX4_penceDue, Cond.instanceMethod yX4_penceDue, Cond.selects RX4 yX4_penceDue yX4_penceDue, Cond.code yX4_penceDue cX4_penceDue 3 (some .int), Cond.fieldLink RX4 31 "LentPilesModel" "nowPile" "[I", Cond.methodLink RX4 83 yX4_dueNow, Cond.instanceMethod yX4_dueNow, Cond.selects RX4 yX4_dueNow yX4_dueNow, Cond.code yX4_dueNow cX4_dueNow 5 (some .int), Cond.fieldLink RX4 28 "LentPilesModel" "nowSize" "[I", Cond.fieldLink RX4 59 "LentPilesModel" "law" "I", Cond.methodLink RX4 79 yX4_at, Cond.static yX4_at, Cond.code yX4_at cX4_at 2 (some .int), Cond.methodLink RX4 112 yX4_pay, Cond.instanceMethod yX4_pay, Cond.selects RX4 yX4_pay yX4_pay, Cond.code yX4_pay cX4_pay 4 none]
def wsX4_payAll_r2 : List Cond := [Cond.methodLink RX4 90 yX4_takeOut, Cond.instanceMethod yX4_takeOut, Cond.selects RX4 yX4_takeOut yX4_takeOut, Cond.code yX4_takeOut cX4_takeOut 4 none]
def wsX4_payAll : List Cond := .code yX4_payAll cX4_payAll 3 none :: ((wsX4_payAll_r1 ++ wsX4_payAll_r2) ++ wsX40)
def wsX4_leftNow : List Cond := .code yX4_leftNow cX4_leftNow 3 (some .int) :: ([.fieldLink RX4 28 "LentPilesModel" "nowSize" "[I"] ++ wsX40)
def wsX4_barred_r1 : List Cond := [Cond.methodLink RX4 94 yX4_asNow, Cond.instanceMethod yX4_asNow, Cond.selects RX4 yX4_asNow yX4_asNow, Cond.initialized RX4, Cond.code yX4_asNow cX4_asNow 2 none, Cond.fieldLink RX4 73 "LentPilesModel" "days" "I", Cond.fieldLink RX4 76 "LentPilesModel" "nowDays" "I", Cond.fieldLink RX4 25 "LentPilesModel" "nowMoney" "[I", Cond.fieldLink RX4 7 "LentPilesModel" "money" "[I", Cond.fieldLink RX4 28 "LentPilesModel" "nowSize" "[I", Cond.fieldLink RX4 13 "LentPilesModel" "size" "[I", Cond.fieldLink RX4 31 "LentPilesModel" "nowPile" "[I", Cond.fieldLink RX4 16 "LentPilesModel" "pile" "[I", Cond.methodLink RX4 145 yX4_payAll, Cond.instanceMethod yX4_payAll, Cond.selects RX4 yX4_payAll yX4_payAll, Cond.code yX4_payAll cX4_payAll 3 none, Cond.methodLink RX4 109 yX4_canPay, Cond.instanceMethod yX4_canPay, Cond.selects RX4 yX4_canPay yX4_canPay, Cond.code yX4_canPay cX4_canPay 3 (some .boolean), Cond.methodLink RX4 87 yX4_penceDue, Cond.instanceMethod yX4_penceDue, Cond.selects RX4 yX4_penceDue yX4_penceDue]
def wsX4_barred_r2 : List Cond := [Cond.code yX4_penceDue cX4_penceDue 3 (some .int), Cond.methodLink RX4 83 yX4_dueNow, Cond.instanceMethod yX4_dueNow, Cond.selects RX4 yX4_dueNow yX4_dueNow, Cond.code yX4_dueNow cX4_dueNow 5 (some .int), Cond.fieldLink RX4 59 "LentPilesModel" "law" "I", Cond.methodLink RX4 79 yX4_at, Cond.static yX4_at, Cond.code yX4_at cX4_at 2 (some .int), Cond.methodLink RX4 112 yX4_pay, Cond.instanceMethod yX4_pay, Cond.selects RX4 yX4_pay yX4_pay, Cond.code yX4_pay cX4_pay 4 none, Cond.methodLink RX4 90 yX4_takeOut, Cond.instanceMethod yX4_takeOut, Cond.selects RX4 yX4_takeOut yX4_takeOut, Cond.code yX4_takeOut cX4_takeOut 4 none, Cond.methodLink RX4 148 yX4_leftNow, Cond.instanceMethod yX4_leftNow, Cond.selects RX4 yX4_leftNow yX4_leftNow, Cond.code yX4_leftNow cX4_leftNow 3 (some .int)]
def wsX4_barred : List Cond := .code yX4_barred cX4_barred 1 (some .int) :: ((wsX4_barred_r1 ++ wsX4_barred_r2) ++ wsX40)
def wsX4_isEnough_r1 : List Cond := [Cond.fieldLink RX4 25 "LentPilesModel" "nowMoney" "[I", Cond.methodLink RX4 94 yX4_asNow, Cond.instanceMethod yX4_asNow, Cond.selects RX4 yX4_asNow yX4_asNow, Cond.initialized RX4, Cond.code yX4_asNow cX4_asNow 2 none, Cond.fieldLink RX4 73 "LentPilesModel" "days" "I", Cond.fieldLink RX4 76 "LentPilesModel" "nowDays" "I", Cond.fieldLink RX4 7 "LentPilesModel" "money" "[I", Cond.fieldLink RX4 28 "LentPilesModel" "nowSize" "[I", Cond.fieldLink RX4 13 "LentPilesModel" "size" "[I", Cond.fieldLink RX4 31 "LentPilesModel" "nowPile" "[I", Cond.fieldLink RX4 16 "LentPilesModel" "pile" "[I", Cond.methodLink RX4 145 yX4_payAll, Cond.instanceMethod yX4_payAll, Cond.selects RX4 yX4_payAll yX4_payAll, Cond.code yX4_payAll cX4_payAll 3 none, Cond.methodLink RX4 109 yX4_canPay, Cond.instanceMethod yX4_canPay, Cond.selects RX4 yX4_canPay yX4_canPay, Cond.code yX4_canPay cX4_canPay 3 (some .boolean), Cond.methodLink RX4 87 yX4_penceDue, Cond.instanceMethod yX4_penceDue, Cond.selects RX4 yX4_penceDue yX4_penceDue]
def wsX4_isEnough_r2 : List Cond := [Cond.code yX4_penceDue cX4_penceDue 3 (some .int), Cond.methodLink RX4 83 yX4_dueNow, Cond.instanceMethod yX4_dueNow, Cond.selects RX4 yX4_dueNow yX4_dueNow, Cond.code yX4_dueNow cX4_dueNow 5 (some .int), Cond.fieldLink RX4 59 "LentPilesModel" "law" "I", Cond.methodLink RX4 79 yX4_at, Cond.static yX4_at, Cond.code yX4_at cX4_at 2 (some .int), Cond.methodLink RX4 112 yX4_pay, Cond.instanceMethod yX4_pay, Cond.selects RX4 yX4_pay yX4_pay, Cond.code yX4_pay cX4_pay 4 none, Cond.methodLink RX4 90 yX4_takeOut, Cond.instanceMethod yX4_takeOut, Cond.selects RX4 yX4_takeOut yX4_takeOut, Cond.code yX4_takeOut cX4_takeOut 4 none, Cond.methodLink RX4 148 yX4_leftNow, Cond.instanceMethod yX4_leftNow, Cond.selects RX4 yX4_leftNow yX4_leftNow, Cond.code yX4_leftNow cX4_leftNow 3 (some .int)]
def wsX4_isEnough : List Cond := .code yX4_isEnough cX4_isEnough 3 (some .boolean) :: ((wsX4_isEnough_r1 ++ wsX4_isEnough_r2) ++ wsX40)
def wsX4_helpOf_r1 : List Cond := [Cond.constant RX4 141 (1000000), Cond.methodLink RX4 151 yX4_isEnough, Cond.instanceMethod yX4_isEnough, Cond.selects RX4 yX4_isEnough yX4_isEnough, Cond.initialized RX4, Cond.code yX4_isEnough cX4_isEnough 3 (some .boolean), Cond.fieldLink RX4 25 "LentPilesModel" "nowMoney" "[I", Cond.methodLink RX4 94 yX4_asNow, Cond.instanceMethod yX4_asNow, Cond.selects RX4 yX4_asNow yX4_asNow, Cond.code yX4_asNow cX4_asNow 2 none, Cond.fieldLink RX4 73 "LentPilesModel" "days" "I", Cond.fieldLink RX4 76 "LentPilesModel" "nowDays" "I", Cond.fieldLink RX4 7 "LentPilesModel" "money" "[I", Cond.fieldLink RX4 28 "LentPilesModel" "nowSize" "[I", Cond.fieldLink RX4 13 "LentPilesModel" "size" "[I", Cond.fieldLink RX4 31 "LentPilesModel" "nowPile" "[I", Cond.fieldLink RX4 16 "LentPilesModel" "pile" "[I", Cond.methodLink RX4 145 yX4_payAll, Cond.instanceMethod yX4_payAll, Cond.selects RX4 yX4_payAll yX4_payAll, Cond.code yX4_payAll cX4_payAll 3 none, Cond.methodLink RX4 109 yX4_canPay, Cond.instanceMethod yX4_canPay]
def wsX4_helpOf_r2 : List Cond := [Cond.selects RX4 yX4_canPay yX4_canPay, Cond.code yX4_canPay cX4_canPay 3 (some .boolean), Cond.methodLink RX4 87 yX4_penceDue, Cond.instanceMethod yX4_penceDue, Cond.selects RX4 yX4_penceDue yX4_penceDue, Cond.code yX4_penceDue cX4_penceDue 3 (some .int), Cond.methodLink RX4 83 yX4_dueNow, Cond.instanceMethod yX4_dueNow, Cond.selects RX4 yX4_dueNow yX4_dueNow, Cond.code yX4_dueNow cX4_dueNow 5 (some .int), Cond.fieldLink RX4 59 "LentPilesModel" "law" "I", Cond.methodLink RX4 79 yX4_at, Cond.static yX4_at, Cond.code yX4_at cX4_at 2 (some .int), Cond.methodLink RX4 112 yX4_pay, Cond.instanceMethod yX4_pay, Cond.selects RX4 yX4_pay yX4_pay, Cond.code yX4_pay cX4_pay 4 none, Cond.methodLink RX4 90 yX4_takeOut, Cond.instanceMethod yX4_takeOut, Cond.selects RX4 yX4_takeOut yX4_takeOut, Cond.code yX4_takeOut cX4_takeOut 4 none, Cond.methodLink RX4 148 yX4_leftNow, Cond.instanceMethod yX4_leftNow]
def wsX4_helpOf_r3 : List Cond := [Cond.selects RX4 yX4_leftNow yX4_leftNow, Cond.code yX4_leftNow cX4_leftNow 3 (some .int)]
def wsX4_helpOf : List Cond := .code yX4_helpOf cX4_helpOf 5 (some .int) :: ((wsX4_helpOf_r1 ++ (wsX4_helpOf_r2 ++ wsX4_helpOf_r3)) ++ wsX40)
def wsX4_help_r1 : List Cond := [Cond.methodLink RX4 55 yX4_isMan, Cond.static yX4_isMan, Cond.initialized RX4, Cond.code yX4_isMan cX4_isMan 1 (some .boolean), Cond.methodLink RX4 51 yX4_in, Cond.static yX4_in, Cond.code yX4_in cX4_in 3 (some .boolean), Cond.methodLink RX4 154 yX4_helpOf, Cond.instanceMethod yX4_helpOf, Cond.selects RX4 yX4_helpOf yX4_helpOf, Cond.code yX4_helpOf cX4_helpOf 5 (some .int), Cond.constant RX4 141 (1000000), Cond.methodLink RX4 151 yX4_isEnough, Cond.instanceMethod yX4_isEnough, Cond.selects RX4 yX4_isEnough yX4_isEnough, Cond.code yX4_isEnough cX4_isEnough 3 (some .boolean), Cond.fieldLink RX4 25 "LentPilesModel" "nowMoney" "[I", Cond.methodLink RX4 94 yX4_asNow, Cond.instanceMethod yX4_asNow, Cond.selects RX4 yX4_asNow yX4_asNow, Cond.code yX4_asNow cX4_asNow 2 none, Cond.fieldLink RX4 73 "LentPilesModel" "days" "I", Cond.fieldLink RX4 76 "LentPilesModel" "nowDays" "I", Cond.fieldLink RX4 7 "LentPilesModel" "money" "[I"]
def wsX4_help_r2 : List Cond := [Cond.fieldLink RX4 28 "LentPilesModel" "nowSize" "[I", Cond.fieldLink RX4 13 "LentPilesModel" "size" "[I", Cond.fieldLink RX4 31 "LentPilesModel" "nowPile" "[I", Cond.fieldLink RX4 16 "LentPilesModel" "pile" "[I", Cond.methodLink RX4 145 yX4_payAll, Cond.instanceMethod yX4_payAll, Cond.selects RX4 yX4_payAll yX4_payAll, Cond.code yX4_payAll cX4_payAll 3 none, Cond.methodLink RX4 109 yX4_canPay, Cond.instanceMethod yX4_canPay, Cond.selects RX4 yX4_canPay yX4_canPay, Cond.code yX4_canPay cX4_canPay 3 (some .boolean), Cond.methodLink RX4 87 yX4_penceDue, Cond.instanceMethod yX4_penceDue, Cond.selects RX4 yX4_penceDue yX4_penceDue, Cond.code yX4_penceDue cX4_penceDue 3 (some .int), Cond.methodLink RX4 83 yX4_dueNow, Cond.instanceMethod yX4_dueNow, Cond.selects RX4 yX4_dueNow yX4_dueNow, Cond.code yX4_dueNow cX4_dueNow 5 (some .int), Cond.fieldLink RX4 59 "LentPilesModel" "law" "I", Cond.methodLink RX4 79 yX4_at, Cond.static yX4_at, Cond.code yX4_at cX4_at 2 (some .int)]
def wsX4_help_r3 : List Cond := [Cond.methodLink RX4 112 yX4_pay, Cond.instanceMethod yX4_pay, Cond.selects RX4 yX4_pay yX4_pay, Cond.code yX4_pay cX4_pay 4 none, Cond.methodLink RX4 90 yX4_takeOut, Cond.instanceMethod yX4_takeOut, Cond.selects RX4 yX4_takeOut yX4_takeOut, Cond.code yX4_takeOut cX4_takeOut 4 none, Cond.methodLink RX4 148 yX4_leftNow, Cond.instanceMethod yX4_leftNow, Cond.selects RX4 yX4_leftNow yX4_leftNow, Cond.code yX4_leftNow cX4_leftNow 3 (some .int)]
def wsX4_help : List Cond := .code yX4_help cX4_help 2 (some .int) :: ((wsX4_help_r1 ++ (wsX4_help_r2 ++ wsX4_help_r3)) ++ wsX40)
def wsX4_whom_r1 : List Cond := [Cond.constant RX4 141 (1000000), Cond.methodLink RX4 154 yX4_helpOf, Cond.instanceMethod yX4_helpOf, Cond.selects RX4 yX4_helpOf yX4_helpOf, Cond.initialized RX4, Cond.code yX4_helpOf cX4_helpOf 5 (some .int), Cond.methodLink RX4 151 yX4_isEnough, Cond.instanceMethod yX4_isEnough, Cond.selects RX4 yX4_isEnough yX4_isEnough, Cond.code yX4_isEnough cX4_isEnough 3 (some .boolean), Cond.fieldLink RX4 25 "LentPilesModel" "nowMoney" "[I", Cond.methodLink RX4 94 yX4_asNow, Cond.instanceMethod yX4_asNow, Cond.selects RX4 yX4_asNow yX4_asNow, Cond.code yX4_asNow cX4_asNow 2 none, Cond.fieldLink RX4 73 "LentPilesModel" "days" "I", Cond.fieldLink RX4 76 "LentPilesModel" "nowDays" "I", Cond.fieldLink RX4 7 "LentPilesModel" "money" "[I", Cond.fieldLink RX4 28 "LentPilesModel" "nowSize" "[I", Cond.fieldLink RX4 13 "LentPilesModel" "size" "[I", Cond.fieldLink RX4 31 "LentPilesModel" "nowPile" "[I", Cond.fieldLink RX4 16 "LentPilesModel" "pile" "[I", Cond.methodLink RX4 145 yX4_payAll, Cond.instanceMethod yX4_payAll]
def wsX4_whom_r2 : List Cond := [Cond.selects RX4 yX4_payAll yX4_payAll, Cond.code yX4_payAll cX4_payAll 3 none, Cond.methodLink RX4 109 yX4_canPay, Cond.instanceMethod yX4_canPay, Cond.selects RX4 yX4_canPay yX4_canPay, Cond.code yX4_canPay cX4_canPay 3 (some .boolean), Cond.methodLink RX4 87 yX4_penceDue, Cond.instanceMethod yX4_penceDue, Cond.selects RX4 yX4_penceDue yX4_penceDue, Cond.code yX4_penceDue cX4_penceDue 3 (some .int), Cond.methodLink RX4 83 yX4_dueNow, Cond.instanceMethod yX4_dueNow, Cond.selects RX4 yX4_dueNow yX4_dueNow, Cond.code yX4_dueNow cX4_dueNow 5 (some .int), Cond.fieldLink RX4 59 "LentPilesModel" "law" "I", Cond.methodLink RX4 79 yX4_at, Cond.static yX4_at, Cond.code yX4_at cX4_at 2 (some .int), Cond.methodLink RX4 112 yX4_pay, Cond.instanceMethod yX4_pay, Cond.selects RX4 yX4_pay yX4_pay, Cond.code yX4_pay cX4_pay 4 none, Cond.methodLink RX4 90 yX4_takeOut, Cond.instanceMethod yX4_takeOut]
def wsX4_whom_r3 : List Cond := [Cond.selects RX4 yX4_takeOut yX4_takeOut, Cond.code yX4_takeOut cX4_takeOut 4 none, Cond.methodLink RX4 148 yX4_leftNow, Cond.instanceMethod yX4_leftNow, Cond.selects RX4 yX4_leftNow yX4_leftNow, Cond.code yX4_leftNow cX4_leftNow 3 (some .int)]
def wsX4_whom : List Cond := .code yX4_whom cX4_whom 5 (some .int) :: ((wsX4_whom_r1 ++ (wsX4_whom_r2 ++ wsX4_whom_r3)) ++ wsX40)
def wsX4_ringOf : List Cond := .code yX4_ringOf cX4_ringOf 6 (some .int) :: ([.fieldLink RX4 31 "LentPilesModel" "nowPile" "[I", .methodLink RX4 94 yX4_asNow, .instanceMethod yX4_asNow, .selects RX4 yX4_asNow yX4_asNow, .initialized RX4, .code yX4_asNow cX4_asNow 2 none, .fieldLink RX4 73 "LentPilesModel" "days" "I", .fieldLink RX4 76 "LentPilesModel" "nowDays" "I", .fieldLink RX4 25 "LentPilesModel" "nowMoney" "[I", .fieldLink RX4 7 "LentPilesModel" "money" "[I", .fieldLink RX4 28 "LentPilesModel" "nowSize" "[I", .fieldLink RX4 13 "LentPilesModel" "size" "[I", .fieldLink RX4 16 "LentPilesModel" "pile" "[I", .methodLink RX4 83 yX4_dueNow, .instanceMethod yX4_dueNow, .selects RX4 yX4_dueNow yX4_dueNow, .code yX4_dueNow cX4_dueNow 5 (some .int), .fieldLink RX4 59 "LentPilesModel" "law" "I", .methodLink RX4 79 yX4_at, .static yX4_at, .code yX4_at cX4_at 2 (some .int)] ++ wsX40)
def wsX4_ring_r1 : List Cond := [Cond.methodLink RX4 55 yX4_isMan, Cond.static yX4_isMan, Cond.initialized RX4, Cond.code yX4_isMan cX4_isMan 1 (some .boolean), Cond.methodLink RX4 51 yX4_in, Cond.static yX4_in, Cond.code yX4_in cX4_in 3 (some .boolean), Cond.methodLink RX4 157 yX4_ringOf, Cond.instanceMethod yX4_ringOf, Cond.selects RX4 yX4_ringOf yX4_ringOf, Cond.code yX4_ringOf cX4_ringOf 6 (some .int), Cond.fieldLink RX4 31 "LentPilesModel" "nowPile" "[I", Cond.methodLink RX4 94 yX4_asNow, Cond.instanceMethod yX4_asNow, Cond.selects RX4 yX4_asNow yX4_asNow, Cond.code yX4_asNow cX4_asNow 2 none, Cond.fieldLink RX4 73 "LentPilesModel" "days" "I", Cond.fieldLink RX4 76 "LentPilesModel" "nowDays" "I", Cond.fieldLink RX4 25 "LentPilesModel" "nowMoney" "[I", Cond.fieldLink RX4 7 "LentPilesModel" "money" "[I", Cond.fieldLink RX4 28 "LentPilesModel" "nowSize" "[I", Cond.fieldLink RX4 13 "LentPilesModel" "size" "[I", Cond.fieldLink RX4 16 "LentPilesModel" "pile" "[I", Cond.methodLink RX4 83 yX4_dueNow]
def wsX4_ring_r2 : List Cond := [Cond.instanceMethod yX4_dueNow, Cond.selects RX4 yX4_dueNow yX4_dueNow, Cond.code yX4_dueNow cX4_dueNow 5 (some .int), Cond.fieldLink RX4 59 "LentPilesModel" "law" "I", Cond.methodLink RX4 79 yX4_at, Cond.static yX4_at, Cond.code yX4_at cX4_at 2 (some .int)]
def wsX4_ring : List Cond := .code yX4_ring cX4_ring 2 (some .int) :: ((wsX4_ring_r1 ++ wsX4_ring_r2) ++ wsX40)
def wsX4_setOff_r1 : List Cond := [Cond.constant RX4 141 (1000000), Cond.fieldLink RX4 31 "LentPilesModel" "nowPile" "[I", Cond.methodLink RX4 55 yX4_isMan, Cond.static yX4_isMan, Cond.initialized RX4, Cond.code yX4_isMan cX4_isMan 1 (some .boolean), Cond.methodLink RX4 51 yX4_in, Cond.static yX4_in, Cond.code yX4_in cX4_in 3 (some .boolean), Cond.methodLink RX4 157 yX4_ringOf, Cond.instanceMethod yX4_ringOf, Cond.selects RX4 yX4_ringOf yX4_ringOf, Cond.code yX4_ringOf cX4_ringOf 6 (some .int), Cond.methodLink RX4 94 yX4_asNow, Cond.instanceMethod yX4_asNow, Cond.selects RX4 yX4_asNow yX4_asNow, Cond.code yX4_asNow cX4_asNow 2 none, Cond.fieldLink RX4 73 "LentPilesModel" "days" "I", Cond.fieldLink RX4 76 "LentPilesModel" "nowDays" "I", Cond.fieldLink RX4 25 "LentPilesModel" "nowMoney" "[I", Cond.fieldLink RX4 7 "LentPilesModel" "money" "[I", Cond.fieldLink RX4 28 "LentPilesModel" "nowSize" "[I", Cond.fieldLink RX4 13 "LentPilesModel" "size" "[I", Cond.fieldLink RX4 16 "LentPilesModel" "pile" "[I"]
def wsX4_setOff_r2 : List Cond := [Cond.methodLink RX4 83 yX4_dueNow, Cond.instanceMethod yX4_dueNow, Cond.selects RX4 yX4_dueNow yX4_dueNow, Cond.code yX4_dueNow cX4_dueNow 5 (some .int), Cond.fieldLink RX4 59 "LentPilesModel" "law" "I", Cond.methodLink RX4 79 yX4_at, Cond.static yX4_at, Cond.code yX4_at cX4_at 2 (some .int), Cond.methodLink RX4 132 yX4_has, Cond.static yX4_has, Cond.code yX4_has cX4_has 2 (some .boolean), Cond.methodLink RX4 87 yX4_penceDue, Cond.instanceMethod yX4_penceDue, Cond.selects RX4 yX4_penceDue yX4_penceDue, Cond.code yX4_penceDue cX4_penceDue 3 (some .int), Cond.methodLink RX4 90 yX4_takeOut, Cond.instanceMethod yX4_takeOut, Cond.selects RX4 yX4_takeOut yX4_takeOut, Cond.code yX4_takeOut cX4_takeOut 4 none, Cond.methodLink RX4 119 yX4_keepNow, Cond.instanceMethod yX4_keepNow, Cond.selects RX4 yX4_keepNow yX4_keepNow, Cond.code yX4_keepNow cX4_keepNow 2 none]
def wsX4_setOff : List Cond := .code yX4_setOff cX4_setOff 6 (some .int) :: ((wsX4_setOff_r1 ++ wsX4_setOff_r2) ++ wsX40)
def wsX4_give : List Cond := .code yX4_give cX4_give 5 (some .int) :: ([.fieldLink RX4 16 "LentPilesModel" "pile" "[I", .methodLink RX4 122 yX4_isDebt, .instanceMethod yX4_isDebt, .selects RX4 yX4_isDebt yX4_isDebt, .initialized RX4, .code yX4_isDebt cX4_isDebt 3 (some .boolean), .fieldLink RX4 13 "LentPilesModel" "size" "[I", .methodLink RX4 55 yX4_isMan, .static yX4_isMan, .code yX4_isMan cX4_isMan 1 (some .boolean), .methodLink RX4 51 yX4_in, .static yX4_in, .code yX4_in cX4_in 3 (some .boolean), .methodLink RX4 79 yX4_at, .static yX4_at, .code yX4_at cX4_at 2 (some .int)] ++ wsX40)
def wsX4_pawn_r1 : List Cond := [Cond.fieldLink RX4 13 "LentPilesModel" "size" "[I", Cond.fieldLink RX4 34 "LentPilesModel" "turn" "[I", Cond.fieldLink RX4 16 "LentPilesModel" "pile" "[I", Cond.methodLink RX4 122 yX4_isDebt, Cond.instanceMethod yX4_isDebt, Cond.selects RX4 yX4_isDebt yX4_isDebt, Cond.initialized RX4, Cond.code yX4_isDebt cX4_isDebt 3 (some .boolean), Cond.methodLink RX4 55 yX4_isMan, Cond.static yX4_isMan, Cond.code yX4_isMan cX4_isMan 1 (some .boolean), Cond.methodLink RX4 51 yX4_in, Cond.static yX4_in, Cond.code yX4_in cX4_in 3 (some .boolean), Cond.methodLink RX4 138 yX4_layTurns, Cond.instanceMethod yX4_layTurns, Cond.selects RX4 yX4_layTurns yX4_layTurns, Cond.code yX4_layTurns cX4_layTurns 7 none, Cond.fieldLink RX4 59 "LentPilesModel" "law" "I", Cond.methodLink RX4 79 yX4_at, Cond.static yX4_at, Cond.code yX4_at cX4_at 2 (some .int), Cond.methodLink RX4 132 yX4_has, Cond.static yX4_has]
def wsX4_pawn_r2 : List Cond := [Cond.code yX4_has cX4_has 2 (some .boolean)]
def wsX4_pawn : List Cond := .code yX4_pawn cX4_pawn 7 (some .int) :: ((wsX4_pawn_r1 ++ wsX4_pawn_r2) ++ wsX40)
def wsX4_choose : List Cond := .code yX4_choose cX4_choose 5 (some .long) :: ([])
def wsX4_times : List Cond := .code yX4_times cX4_times 6 (some .long) :: ([])
def wsX4_odds_r1 : List Cond := [Cond.constantLong RX4 160 (-1000000000000000001), Cond.constantLong RX4 162 (-1000000000000000002), Cond.fieldLink RX4 13 "LentPilesModel" "size" "[I", Cond.constantLong RX4 164 (-1000000000000000003), Cond.fieldLink RX4 7 "LentPilesModel" "money" "[I", Cond.constantLong RX4 174 (10), Cond.methodLink RX4 55 yX4_isMan, Cond.static yX4_isMan, Cond.initialized RX4, Cond.code yX4_isMan cX4_isMan 1 (some .boolean), Cond.methodLink RX4 51 yX4_in, Cond.static yX4_in, Cond.code yX4_in cX4_in 3 (some .boolean), Cond.methodLink RX4 94 yX4_asNow, Cond.instanceMethod yX4_asNow, Cond.selects RX4 yX4_asNow yX4_asNow, Cond.code yX4_asNow cX4_asNow 2 none, Cond.fieldLink RX4 73 "LentPilesModel" "days" "I", Cond.fieldLink RX4 76 "LentPilesModel" "nowDays" "I", Cond.fieldLink RX4 25 "LentPilesModel" "nowMoney" "[I", Cond.fieldLink RX4 28 "LentPilesModel" "nowSize" "[I", Cond.fieldLink RX4 31 "LentPilesModel" "nowPile" "[I", Cond.fieldLink RX4 16 "LentPilesModel" "pile" "[I", Cond.methodLink RX4 106 yX4_pass]
def wsX4_odds_r2 : List Cond := [Cond.instanceMethod yX4_pass, Cond.selects RX4 yX4_pass yX4_pass, Cond.code yX4_pass cX4_pass 4 none, Cond.fieldLink RX4 63 "LentPilesModel" "rate" "I", Cond.methodLink RX4 79 yX4_at, Cond.static yX4_at, Cond.code yX4_at cX4_at 2 (some .int), Cond.methodLink RX4 87 yX4_penceDue, Cond.instanceMethod yX4_penceDue, Cond.selects RX4 yX4_penceDue yX4_penceDue, Cond.code yX4_penceDue cX4_penceDue 3 (some .int), Cond.methodLink RX4 83 yX4_dueNow, Cond.instanceMethod yX4_dueNow, Cond.selects RX4 yX4_dueNow yX4_dueNow, Cond.code yX4_dueNow cX4_dueNow 5 (some .int), Cond.fieldLink RX4 59 "LentPilesModel" "law" "I", Cond.methodLink RX4 166 yX4_choose, Cond.static yX4_choose, Cond.code yX4_choose cX4_choose 5 (some .long), Cond.methodLink RX4 170 yX4_times, Cond.static yX4_times, Cond.code yX4_times cX4_times 6 (some .long)]
def wsX4_odds : List Cond := .code yX4_odds cX4_odds 15 (some .long) :: ((wsX4_odds_r1 ++ wsX4_odds_r2) ++ wsX40)
def wsX4_year_r1 : List Cond := [Cond.constant RX4 176 (65537), Cond.fieldLink RX4 25 "LentPilesModel" "nowMoney" "[I", Cond.fieldLink RX4 28 "LentPilesModel" "nowSize" "[I", Cond.fieldLink RX4 31 "LentPilesModel" "nowPile" "[I", Cond.methodLink RX4 51 yX4_in, Cond.static yX4_in, Cond.initialized RX4, Cond.code yX4_in cX4_in 3 (some .boolean), Cond.methodLink RX4 94 yX4_asNow, Cond.instanceMethod yX4_asNow, Cond.selects RX4 yX4_asNow yX4_asNow, Cond.code yX4_asNow cX4_asNow 2 none, Cond.fieldLink RX4 73 "LentPilesModel" "days" "I", Cond.fieldLink RX4 76 "LentPilesModel" "nowDays" "I", Cond.fieldLink RX4 7 "LentPilesModel" "money" "[I", Cond.fieldLink RX4 13 "LentPilesModel" "size" "[I", Cond.fieldLink RX4 16 "LentPilesModel" "pile" "[I", Cond.methodLink RX4 109 yX4_canPay, Cond.instanceMethod yX4_canPay, Cond.selects RX4 yX4_canPay yX4_canPay, Cond.code yX4_canPay cX4_canPay 3 (some .boolean), Cond.methodLink RX4 87 yX4_penceDue, Cond.instanceMethod yX4_penceDue, Cond.selects RX4 yX4_penceDue yX4_penceDue]
def wsX4_year_r2 : List Cond := [Cond.code yX4_penceDue cX4_penceDue 3 (some .int), Cond.methodLink RX4 83 yX4_dueNow, Cond.instanceMethod yX4_dueNow, Cond.selects RX4 yX4_dueNow yX4_dueNow, Cond.code yX4_dueNow cX4_dueNow 5 (some .int), Cond.fieldLink RX4 59 "LentPilesModel" "law" "I", Cond.methodLink RX4 79 yX4_at, Cond.static yX4_at, Cond.code yX4_at cX4_at 2 (some .int), Cond.methodLink RX4 112 yX4_pay, Cond.instanceMethod yX4_pay, Cond.selects RX4 yX4_pay yX4_pay, Cond.code yX4_pay cX4_pay 4 none, Cond.methodLink RX4 90 yX4_takeOut, Cond.instanceMethod yX4_takeOut, Cond.selects RX4 yX4_takeOut yX4_takeOut, Cond.code yX4_takeOut cX4_takeOut 4 none, Cond.methodLink RX4 106 yX4_pass, Cond.instanceMethod yX4_pass, Cond.selects RX4 yX4_pass yX4_pass, Cond.code yX4_pass cX4_pass 4 none, Cond.fieldLink RX4 63 "LentPilesModel" "rate" "I"]
def wsX4_year : List Cond := .code yX4_year cX4_year 10 (some .int) :: ((wsX4_year_r1 ++ wsX4_year_r2) ++ wsX40)
def wsX4_image : List Cond := .code yX4_image cX4_image 4 (some .int) :: ([.fieldLink RX4 45 "LentPilesModel" "image" "[I", .fieldLink RX4 16 "LentPilesModel" "pile" "[I", .fieldLink RX4 7 "LentPilesModel" "money" "[I", .fieldLink RX4 13 "LentPilesModel" "size" "[I", .fieldLink RX4 19 "LentPilesModel" "sight" "[I", .fieldLink RX4 59 "LentPilesModel" "law" "I", .fieldLink RX4 63 "LentPilesModel" "rate" "I", .fieldLink RX4 73 "LentPilesModel" "days" "I", .fieldLink RX4 126 "LentPilesModel" "sights" "I", .fieldLink RX4 48 "LentPilesModel" "isKept" "[Z", .methodLink RX4 51 yX4_in, .static yX4_in, .initialized RX4, .code yX4_in cX4_in 3 (some .boolean)] ++ wsX40)
def wsX4_restore : List Cond := .code yX4_restore cX4_restore 4 (some .int) :: ([.fieldLink RX4 48 "LentPilesModel" "isKept" "[Z", .fieldLink RX4 16 "LentPilesModel" "pile" "[I", .fieldLink RX4 45 "LentPilesModel" "image" "[I", .fieldLink RX4 7 "LentPilesModel" "money" "[I", .fieldLink RX4 13 "LentPilesModel" "size" "[I", .fieldLink RX4 19 "LentPilesModel" "sight" "[I", .fieldLink RX4 59 "LentPilesModel" "law" "I", .fieldLink RX4 63 "LentPilesModel" "rate" "I", .fieldLink RX4 73 "LentPilesModel" "days" "I", .fieldLink RX4 126 "LentPilesModel" "sights" "I", .methodLink RX4 51 yX4_in, .static yX4_in, .initialized RX4, .code yX4_in cX4_in 3 (some .boolean)] ++ wsX40)
def wsX4_told : List Cond := .code yX4_told cX4_told 2 (some .int) :: ([.fieldLink RX4 7 "LentPilesModel" "money" "[I", .fieldLink RX4 13 "LentPilesModel" "size" "[I", .fieldLink RX4 66 "LentPilesModel" "signs" "I", .fieldLink RX4 73 "LentPilesModel" "days" "I", .fieldLink RX4 59 "LentPilesModel" "law" "I", .fieldLink RX4 63 "LentPilesModel" "rate" "I", .fieldLink RX4 126 "LentPilesModel" "sights" "I", .methodLink RX4 51 yX4_in, .static yX4_in, .initialized RX4, .code yX4_in cX4_in 3 (some .boolean)] ++ wsX40)
def wsJ9_min_7cf53 : List Cond := .code yJ9_min_7cf53 cJ9_min_7cf53 2 (some .int) :: ([])
abbrev vwCl : List vw_C := [(RX0, TX0, 10), (RX1, TX1, 10), (RX2, TX2, 11), (RX3, TX3, 8), (RX4, TX4, 21)]
end
section
theorem dX0_init_0 : decode cX0_init 0 = .ok (.aload_n 0, 1) := by decide +kernel
theorem dX0_init_1 : decode cX0_init 1 = .ok (.invokespecial 3, 3) := by decide +kernel
theorem dX0_init_4 : decode cX0_init 4 = .ok (.aload_n 0, 1) := by decide +kernel
theorem dX0_init_5 : decode cX0_init 5 = .ok (.bipush 60, 2) := by decide +kernel
theorem dX0_init_7 : decode cX0_init 7 = .ok (.newarray .char, 2) := by decide +kernel
theorem dX0_init_9 : decode cX0_init 9 = .ok (.putfield 9, 3) := by decide +kernel
theorem dX0_init_12 : decode cX0_init 12 = .ok (.aload_n 0, 1) := by decide +kernel
theorem dX0_init_13 : decode cX0_init 13 = .ok (.bipush 60, 2) := by decide +kernel
theorem dX0_init_15 : decode cX0_init 15 = .ok (.newarray .int, 2) := by decide +kernel
theorem dX0_init_17 : decode cX0_init 17 = .ok (.putfield 15, 3) := by decide +kernel
theorem dX0_init_20 : decode cX0_init 20 = .ok (.aload_n 0, 1) := by decide +kernel
theorem dX0_init_21 : decode cX0_init 21 = .ok (.bipush 60, 2) := by decide +kernel
theorem dX0_init_23 : decode cX0_init 23 = .ok (.newarray .int, 2) := by decide +kernel
theorem dX0_init_25 : decode cX0_init 25 = .ok (.putfield 19, 3) := by decide +kernel
theorem dX0_init_28 : decode cX0_init 28 = .ok (.aload_n 0, 1) := by decide +kernel
theorem dX0_init_29 : decode cX0_init 29 = .ok (.bipush 60, 2) := by decide +kernel
theorem dX0_init_31 : decode cX0_init 31 = .ok (.newarray .int, 2) := by decide +kernel
theorem dX0_init_33 : decode cX0_init 33 = .ok (.putfield 22, 3) := by decide +kernel
theorem dX0_init_36 : decode cX0_init 36 = .ok (.aload_n 0, 1) := by decide +kernel
theorem dX0_init_37 : decode cX0_init 37 = .ok (.bipush 60, 2) := by decide +kernel
theorem dX0_init_39 : decode cX0_init 39 = .ok (.newarray .int, 2) := by decide +kernel
theorem dX0_init_41 : decode cX0_init 41 = .ok (.putfield 25, 3) := by decide +kernel
theorem dX0_init_44 : decode cX0_init 44 = .ok (.aload_n 0, 1) := by decide +kernel
theorem dX0_init_45 : decode cX0_init 45 = .ok (.iconst 3, 1) := by decide +kernel
theorem dX0_init_46 : decode cX0_init 46 = .ok (.newarray .int, 2) := by decide +kernel
theorem dX0_init_48 : decode cX0_init 48 = .ok (.putfield 28, 3) := by decide +kernel
theorem dX0_init_51 : decode cX0_init 51 = .ok (.aload_n 0, 1) := by decide +kernel
theorem dX0_init_52 : decode cX0_init 52 = .ok (.iconst 0, 1) := by decide +kernel
theorem dX0_init_53 : decode cX0_init 53 = .ok (.putfield 31, 3) := by decide +kernel
theorem dX0_init_56 : decode cX0_init 56 = .ok (.aload_n 0, 1) := by decide +kernel
theorem dX0_init_57 : decode cX0_init 57 = .ok (.iconst 0, 1) := by decide +kernel
theorem dX0_init_58 : decode cX0_init 58 = .ok (.putfield 35, 3) := by decide +kernel
theorem dX0_init_61 : decode cX0_init 61 = .ok (.aload_n 0, 1) := by decide +kernel
theorem dX0_init_62 : decode cX0_init 62 = .ok (.iconst 0, 1) := by decide +kernel
theorem dX0_init_63 : decode cX0_init 63 = .ok (.putfield 38, 3) := by decide +kernel
theorem dX0_init_66 : decode cX0_init 66 = .ok (.aload_n 0, 1) := by decide +kernel
theorem dX0_init_67 : decode cX0_init 67 = .ok (.iconst 0, 1) := by decide +kernel
theorem dX0_init_68 : decode cX0_init 68 = .ok (.putfield 41, 3) := by decide +kernel
theorem dX0_init_71 : decode cX0_init 71 = .ok (.return_, 1) := by decide +kernel
theorem dX0_write_0 : decode cX0_write 0 = .ok (.aload_n 0, 1) := by decide +kernel
theorem dX0_write_1 : decode cX0_write 1 = .ok (.getfield 31, 3) := by decide +kernel
theorem dX0_write_4 : decode cX0_write 4 = .ok (.ifCond .lt 12, 3) := by decide +kernel
theorem dX0_write_7 : decode cX0_write 7 = .ok (.aload_n 0, 1) := by decide +kernel
theorem dX0_write_8 : decode cX0_write 8 = .ok (.getfield 31, 3) := by decide +kernel
theorem dX0_write_11 : decode cX0_write 11 = .ok (.bipush 60, 2) := by decide +kernel
theorem dX0_write_13 : decode cX0_write 13 = .ok (.if_icmp .lt 5, 3) := by decide +kernel
theorem dX0_write_16 : decode cX0_write 16 = .ok (.iconst 0, 1) := by decide +kernel
theorem dX0_write_17 : decode cX0_write 17 = .ok (.ireturn, 1) := by decide +kernel
theorem dX0_write_18 : decode cX0_write 18 = .ok (.aload_n 0, 1) := by decide +kernel
theorem dX0_write_19 : decode cX0_write 19 = .ok (.getfield 9, 3) := by decide +kernel
theorem dX0_write_22 : decode cX0_write 22 = .ok (.aload_n 0, 1) := by decide +kernel
theorem dX0_write_23 : decode cX0_write 23 = .ok (.getfield 31, 3) := by decide +kernel
theorem dX0_write_26 : decode cX0_write 26 = .ok (.iload_n 1, 1) := by decide +kernel
theorem dX0_write_27 : decode cX0_write 27 = .ok (.castore, 1) := by decide +kernel
theorem dX0_write_28 : decode cX0_write 28 = .ok (.aload_n 0, 1) := by decide +kernel
theorem dX0_write_29 : decode cX0_write 29 = .ok (.dup, 1) := by decide +kernel
theorem dX0_write_30 : decode cX0_write 30 = .ok (.getfield 31, 3) := by decide +kernel
theorem dX0_write_33 : decode cX0_write 33 = .ok (.iconst 1, 1) := by decide +kernel
theorem dX0_write_34 : decode cX0_write 34 = .ok (.iadd, 1) := by decide +kernel
theorem dX0_write_35 : decode cX0_write 35 = .ok (.putfield 31, 3) := by decide +kernel
theorem dX0_write_38 : decode cX0_write 38 = .ok (.iconst 1, 1) := by decide +kernel
theorem dX0_write_39 : decode cX0_write 39 = .ok (.ireturn, 1) := by decide +kernel
theorem dX0_clear_0 : decode cX0_clear 0 = .ok (.aload_n 0, 1) := by decide +kernel
theorem dX0_clear_1 : decode cX0_clear 1 = .ok (.iconst 0, 1) := by decide +kernel
theorem dX0_clear_2 : decode cX0_clear 2 = .ok (.putfield 31, 3) := by decide +kernel
theorem dX0_clear_5 : decode cX0_clear 5 = .ok (.return_, 1) := by decide +kernel
set_option maxRecDepth 20000 in
theorem ggX0_read_X0_faultOfPart : GoodIn wsX0_read wsX0_faultOfPart := goodIn_r _ [8, 2, 9, 10, 11, 7, 12, 3, 13, 14, 15, 16, 17, 18, 19, 32, 33, 34, 35, 36, 37, 38, 39, 40, 41] (by decide +kernel) (by decide +kernel)
set_option maxRecDepth 20000 in
theorem gX0_read_X0_faultOfPart : GoodIn wsX0_read (wsV RX0 44 RX0 yX0_faultOfPart wsX0_faultOfPart) := goodIn_app (goodIn_of _ (by decide +kernel)) ggX0_read_X0_faultOfPart
set_option maxRecDepth 20000 in
theorem ggX0_read_X0_takePart : GoodIn wsX0_read wsX0_takePart := goodIn_r _ [23, 2, 9, 10, 11, 7, 12, 3, 13, 24, 25, 26, 27, 1, 28, 29, 30, 31, 17, 18, 19, 32, 33, 34, 35, 36, 37, 38, 39, 40, 41] (by decide +kernel) (by decide +kernel)
set_option maxRecDepth 20000 in
theorem gX0_read_X0_takePart : GoodIn wsX0_read (wsV RX0 48 RX0 yX0_takePart wsX0_takePart) := goodIn_app (goodIn_of _ (by decide +kernel)) ggX0_read_X0_takePart
theorem dX0_read_0 : decode cX0_read 0 = .ok (.aload_n 0, 1) := by decide +kernel
theorem dX0_read_1 : decode cX0_read 1 = .ok (.iconst 0, 1) := by decide +kernel
theorem dX0_read_2 : decode cX0_read 2 = .ok (.putfield 35, 3) := by decide +kernel
theorem dX0_read_5 : decode cX0_read 5 = .ok (.aload_n 0, 1) := by decide +kernel
theorem dX0_read_6 : decode cX0_read 6 = .ok (.iconst 0, 1) := by decide +kernel
theorem dX0_read_7 : decode cX0_read 7 = .ok (.putfield 38, 3) := by decide +kernel
theorem dX0_read_10 : decode cX0_read 10 = .ok (.iconst 0, 1) := by decide +kernel
theorem dX0_read_11 : decode cX0_read 11 = .ok (.istore_n 1, 1) := by decide +kernel
theorem dX0_read_12 : decode cX0_read 12 = .ok (.iconst 0, 1) := by decide +kernel
theorem dX0_read_13 : decode cX0_read 13 = .ok (.istore_n 2, 1) := by decide +kernel
theorem dX0_read_14 : decode cX0_read 14 = .ok (.iload_n 2, 1) := by decide +kernel
theorem dX0_read_15 : decode cX0_read 15 = .ok (.bipush 60, 2) := by decide +kernel
theorem dX0_read_17 : decode cX0_read 17 = .ok (.if_icmp .ge 39, 3) := by decide +kernel
theorem dX0_read_20 : decode cX0_read 20 = .ok (.iload_n 1, 1) := by decide +kernel
theorem dX0_read_21 : decode cX0_read 21 = .ok (.aload_n 0, 1) := by decide +kernel
theorem dX0_read_22 : decode cX0_read 22 = .ok (.getfield 31, 3) := by decide +kernel
theorem dX0_read_25 : decode cX0_read 25 = .ok (.if_icmp .ge 31, 3) := by decide +kernel
theorem dX0_read_28 : decode cX0_read 28 = .ok (.aload_n 0, 1) := by decide +kernel
theorem dX0_read_29 : decode cX0_read 29 = .ok (.iload_n 1, 1) := by decide +kernel
theorem dX0_read_30 : decode cX0_read 30 = .ok (.invokevirtual 44, 3) := by decide +kernel
theorem dX0_read_33 : decode cX0_read 33 = .ok (.istore_n 3, 1) := by decide +kernel
theorem dX0_read_34 : decode cX0_read 34 = .ok (.iload_n 3, 1) := by decide +kernel
theorem dX0_read_35 : decode cX0_read 35 = .ok (.bipush (-6), 2) := by decide +kernel
theorem dX0_read_37 : decode cX0_read 37 = .ok (.if_icmp .eq 5, 3) := by decide +kernel
theorem dX0_read_40 : decode cX0_read 40 = .ok (.iload_n 3, 1) := by decide +kernel
theorem dX0_read_41 : decode cX0_read 41 = .ok (.ireturn, 1) := by decide +kernel
theorem dX0_read_42 : decode cX0_read 42 = .ok (.iload_n 1, 1) := by decide +kernel
theorem dX0_read_43 : decode cX0_read 43 = .ok (.aload_n 0, 1) := by decide +kernel
theorem dX0_read_44 : decode cX0_read 44 = .ok (.iload_n 1, 1) := by decide +kernel
theorem dX0_read_45 : decode cX0_read 45 = .ok (.invokevirtual 48, 3) := by decide +kernel
theorem dX0_read_48 : decode cX0_read 48 = .ok (.iadd, 1) := by decide +kernel
theorem dX0_read_49 : decode cX0_read 49 = .ok (.istore_n 1, 1) := by decide +kernel
theorem dX0_read_50 : decode cX0_read 50 = .ok (.iinc 2 1, 3) := by decide +kernel
theorem dX0_read_53 : decode cX0_read 53 = .ok (.goto (-39), 3) := by decide +kernel
theorem dX0_read_56 : decode cX0_read 56 = .ok (.bipush (-6), 2) := by decide +kernel
theorem dX0_read_58 : decode cX0_read 58 = .ok (.ireturn, 1) := by decide +kernel
theorem dX0_signAt_0 : decode cX0_signAt 0 = .ok (.iload_n 1, 1) := by decide +kernel
theorem dX0_signAt_1 : decode cX0_signAt 1 = .ok (.ifCond .lt 26, 3) := by decide +kernel
theorem dX0_signAt_4 : decode cX0_signAt 4 = .ok (.iload_n 1, 1) := by decide +kernel
theorem dX0_signAt_5 : decode cX0_signAt 5 = .ok (.aload_n 0, 1) := by decide +kernel
theorem dX0_signAt_6 : decode cX0_signAt 6 = .ok (.getfield 31, 3) := by decide +kernel
theorem dX0_signAt_9 : decode cX0_signAt 9 = .ok (.if_icmp .ge 18, 3) := by decide +kernel
theorem dX0_signAt_12 : decode cX0_signAt 12 = .ok (.iload_n 1, 1) := by decide +kernel
theorem dX0_signAt_13 : decode cX0_signAt 13 = .ok (.bipush 60, 2) := by decide +kernel
theorem dX0_signAt_15 : decode cX0_signAt 15 = .ok (.if_icmp .ge 12, 3) := by decide +kernel
theorem dX0_signAt_18 : decode cX0_signAt 18 = .ok (.aload_n 0, 1) := by decide +kernel
theorem dX0_signAt_19 : decode cX0_signAt 19 = .ok (.getfield 9, 3) := by decide +kernel
theorem dX0_signAt_22 : decode cX0_signAt 22 = .ok (.iload_n 1, 1) := by decide +kernel
theorem dX0_signAt_23 : decode cX0_signAt 23 = .ok (.caload, 1) := by decide +kernel
theorem dX0_signAt_24 : decode cX0_signAt 24 = .ok (.goto 4, 3) := by decide +kernel
theorem dX0_signAt_27 : decode cX0_signAt 27 = .ok (.iconst 0, 1) := by decide +kernel
theorem dX0_signAt_28 : decode cX0_signAt 28 = .ok (.ireturn, 1) := by decide +kernel
theorem dX0_isLetter_0 : decode cX0_isLetter 0 = .ok (.iload_n 0, 1) := by decide +kernel
theorem dX0_isLetter_1 : decode cX0_isLetter 1 = .ok (.bipush 65, 2) := by decide +kernel
theorem dX0_isLetter_3 : decode cX0_isLetter 3 = .ok (.if_icmp .lt 13, 3) := by decide +kernel
theorem dX0_isLetter_6 : decode cX0_isLetter 6 = .ok (.iload_n 0, 1) := by decide +kernel
theorem dX0_isLetter_7 : decode cX0_isLetter 7 = .ok (.bipush 71, 2) := by decide +kernel
theorem dX0_isLetter_9 : decode cX0_isLetter 9 = .ok (.if_icmp .ge 7, 3) := by decide +kernel
theorem dX0_isLetter_12 : decode cX0_isLetter 12 = .ok (.iconst 1, 1) := by decide +kernel
theorem dX0_isLetter_13 : decode cX0_isLetter 13 = .ok (.goto 4, 3) := by decide +kernel
theorem dX0_isLetter_16 : decode cX0_isLetter 16 = .ok (.iconst 0, 1) := by decide +kernel
theorem dX0_isLetter_17 : decode cX0_isLetter 17 = .ok (.ireturn, 1) := by decide +kernel
theorem dX0_isDigit_0 : decode cX0_isDigit 0 = .ok (.iload_n 0, 1) := by decide +kernel
theorem dX0_isDigit_1 : decode cX0_isDigit 1 = .ok (.bipush 48, 2) := by decide +kernel
theorem dX0_isDigit_3 : decode cX0_isDigit 3 = .ok (.if_icmp .lt 13, 3) := by decide +kernel
theorem dX0_isDigit_6 : decode cX0_isDigit 6 = .ok (.iload_n 0, 1) := by decide +kernel
theorem dX0_isDigit_7 : decode cX0_isDigit 7 = .ok (.bipush 57, 2) := by decide +kernel
theorem dX0_isDigit_9 : decode cX0_isDigit 9 = .ok (.if_icmp .gt 7, 3) := by decide +kernel
theorem dX0_isDigit_12 : decode cX0_isDigit 12 = .ok (.iconst 1, 1) := by decide +kernel
theorem dX0_isDigit_13 : decode cX0_isDigit 13 = .ok (.goto 4, 3) := by decide +kernel
theorem dX0_isDigit_16 : decode cX0_isDigit 16 = .ok (.iconst 0, 1) := by decide +kernel
theorem dX0_isDigit_17 : decode cX0_isDigit 17 = .ok (.ireturn, 1) := by decide +kernel
set_option maxRecDepth 20000 in
theorem ggX0_faultOfPart_X0_signAt : GoodIn wsX0_faultOfPart wsX0_signAt := goodIn_r _ [6, 7, 8, 15, 16, 17, 18, 19, 20, 21, 22, 23, 24] (by decide +kernel) (by decide +kernel)
set_option maxRecDepth 20000 in
theorem gX0_faultOfPart_X0_signAt : GoodIn wsX0_faultOfPart (wsV RX0 51 RX0 yX0_signAt wsX0_signAt) := goodIn_app (goodIn_of _ (by decide +kernel)) ggX0_faultOfPart_X0_signAt
set_option maxRecDepth 20000 in
theorem ggX0_faultOfPart_X0_isLetter : GoodIn wsX0_faultOfPart wsX0_isLetter := goodIn_r _ [11] (by decide +kernel) (by decide +kernel)
set_option maxRecDepth 20000 in
theorem gX0_faultOfPart_X0_isLetter : GoodIn wsX0_faultOfPart (va_wsS RX0 55 yX0_isLetter wsX0_isLetter) := goodIn_app (goodIn_of _ (by decide +kernel)) ggX0_faultOfPart_X0_isLetter
set_option maxRecDepth 20000 in
theorem ggX0_faultOfPart_X0_isDigit : GoodIn wsX0_faultOfPart wsX0_isDigit := goodIn_r _ [14] (by decide +kernel) (by decide +kernel)
set_option maxRecDepth 20000 in
theorem gX0_faultOfPart_X0_isDigit : GoodIn wsX0_faultOfPart (va_wsS RX0 59 yX0_isDigit wsX0_isDigit) := goodIn_app (goodIn_of _ (by decide +kernel)) ggX0_faultOfPart_X0_isDigit
theorem dX0_faultOfPart_0 : decode cX0_faultOfPart 0 = .ok (.aload_n 0, 1) := by decide +kernel
theorem dX0_faultOfPart_1 : decode cX0_faultOfPart 1 = .ok (.iload_n 1, 1) := by decide +kernel
theorem dX0_faultOfPart_2 : decode cX0_faultOfPart 2 = .ok (.invokevirtual 51, 3) := by decide +kernel
theorem dX0_faultOfPart_5 : decode cX0_faultOfPart 5 = .ok (.istore_n 2, 1) := by decide +kernel
theorem dX0_faultOfPart_6 : decode cX0_faultOfPart 6 = .ok (.iload_n 2, 1) := by decide +kernel
theorem dX0_faultOfPart_7 : decode cX0_faultOfPart 7 = .ok (.bipush 46, 2) := by decide +kernel
theorem dX0_faultOfPart_9 : decode cX0_faultOfPart 9 = .ok (.if_icmp .ne 6, 3) := by decide +kernel
theorem dX0_faultOfPart_12 : decode cX0_faultOfPart 12 = .ok (.bipush (-6), 2) := by decide +kernel
theorem dX0_faultOfPart_14 : decode cX0_faultOfPart 14 = .ok (.ireturn, 1) := by decide +kernel
theorem dX0_faultOfPart_15 : decode cX0_faultOfPart 15 = .ok (.iload_n 2, 1) := by decide +kernel
theorem dX0_faultOfPart_16 : decode cX0_faultOfPart 16 = .ok (.bipush 63, 2) := by decide +kernel
theorem dX0_faultOfPart_18 : decode cX0_faultOfPart 18 = .ok (.if_icmp .ne 15, 3) := by decide +kernel
theorem dX0_faultOfPart_21 : decode cX0_faultOfPart 21 = .ok (.aload_n 0, 1) := by decide +kernel
theorem dX0_faultOfPart_22 : decode cX0_faultOfPart 22 = .ok (.getfield 38, 3) := by decide +kernel
theorem dX0_faultOfPart_25 : decode cX0_faultOfPart 25 = .ok (.iconst 3, 1) := by decide +kernel
theorem dX0_faultOfPart_26 : decode cX0_faultOfPart 26 = .ok (.if_icmp .ge 7, 3) := by decide +kernel
theorem dX0_faultOfPart_29 : decode cX0_faultOfPart 29 = .ok (.iconst 1, 1) := by decide +kernel
theorem dX0_faultOfPart_30 : decode cX0_faultOfPart 30 = .ok (.goto 4, 3) := by decide +kernel
theorem dX0_faultOfPart_33 : decode cX0_faultOfPart 33 = .ok (.iconst 0, 1) := by decide +kernel
theorem dX0_faultOfPart_34 : decode cX0_faultOfPart 34 = .ok (.istore_n 3, 1) := by decide +kernel
theorem dX0_faultOfPart_35 : decode cX0_faultOfPart 35 = .ok (.iload_n 3, 1) := by decide +kernel
theorem dX0_faultOfPart_36 : decode cX0_faultOfPart 36 = .ok (.ifCond .ne 12, 3) := by decide +kernel
theorem dX0_faultOfPart_39 : decode cX0_faultOfPart 39 = .ok (.iload_n 2, 1) := by decide +kernel
theorem dX0_faultOfPart_40 : decode cX0_faultOfPart 40 = .ok (.invokestatic 55, 3) := by decide +kernel
theorem dX0_faultOfPart_43 : decode cX0_faultOfPart 43 = .ok (.ifCond .ne 5, 3) := by decide +kernel
theorem dX0_faultOfPart_46 : decode cX0_faultOfPart 46 = .ok (.iload_n 1, 1) := by decide +kernel
theorem dX0_faultOfPart_47 : decode cX0_faultOfPart 47 = .ok (.ireturn, 1) := by decide +kernel
theorem dX0_faultOfPart_48 : decode cX0_faultOfPart 48 = .ok (.aload_n 0, 1) := by decide +kernel
theorem dX0_faultOfPart_49 : decode cX0_faultOfPart 49 = .ok (.iload_n 1, 1) := by decide +kernel
theorem dX0_faultOfPart_50 : decode cX0_faultOfPart 50 = .ok (.iconst 1, 1) := by decide +kernel
theorem dX0_faultOfPart_51 : decode cX0_faultOfPart 51 = .ok (.iadd, 1) := by decide +kernel
theorem dX0_faultOfPart_52 : decode cX0_faultOfPart 52 = .ok (.invokevirtual 51, 3) := by decide +kernel
theorem dX0_faultOfPart_55 : decode cX0_faultOfPart 55 = .ok (.istore 4, 2) := by decide +kernel
theorem dX0_faultOfPart_57 : decode cX0_faultOfPart 57 = .ok (.iload 4, 2) := by decide +kernel
theorem dX0_faultOfPart_59 : decode cX0_faultOfPart 59 = .ok (.bipush 33, 2) := by decide +kernel
theorem dX0_faultOfPart_61 : decode cX0_faultOfPart 61 = .ok (.if_icmp .ne 10, 3) := by decide +kernel
theorem dX0_faultOfPart_64 : decode cX0_faultOfPart 64 = .ok (.iload_n 3, 1) := by decide +kernel
theorem dX0_faultOfPart_65 : decode cX0_faultOfPart 65 = .ok (.ifCond .ne 6, 3) := by decide +kernel
theorem dX0_faultOfPart_68 : decode cX0_faultOfPart 68 = .ok (.bipush (-6), 2) := by decide +kernel
theorem dX0_faultOfPart_70 : decode cX0_faultOfPart 70 = .ok (.ireturn, 1) := by decide +kernel
theorem dX0_faultOfPart_71 : decode cX0_faultOfPart 71 = .ok (.iload 4, 2) := by decide +kernel
theorem dX0_faultOfPart_73 : decode cX0_faultOfPart 73 = .ok (.bipush 62, 2) := by decide +kernel
theorem dX0_faultOfPart_75 : decode cX0_faultOfPart 75 = .ok (.if_icmp .eq 7, 3) := by decide +kernel
theorem dX0_faultOfPart_78 : decode cX0_faultOfPart 78 = .ok (.iload_n 1, 1) := by decide +kernel
theorem dX0_faultOfPart_79 : decode cX0_faultOfPart 79 = .ok (.iconst 1, 1) := by decide +kernel
theorem dX0_faultOfPart_80 : decode cX0_faultOfPart 80 = .ok (.iadd, 1) := by decide +kernel
theorem dX0_faultOfPart_81 : decode cX0_faultOfPart 81 = .ok (.ireturn, 1) := by decide +kernel
theorem dX0_faultOfPart_82 : decode cX0_faultOfPart 82 = .ok (.aload_n 0, 1) := by decide +kernel
theorem dX0_faultOfPart_83 : decode cX0_faultOfPart 83 = .ok (.iload_n 1, 1) := by decide +kernel
theorem dX0_faultOfPart_84 : decode cX0_faultOfPart 84 = .ok (.iconst 2, 1) := by decide +kernel
theorem dX0_faultOfPart_85 : decode cX0_faultOfPart 85 = .ok (.iadd, 1) := by decide +kernel
theorem dX0_faultOfPart_86 : decode cX0_faultOfPart 86 = .ok (.invokevirtual 51, 3) := by decide +kernel
theorem dX0_faultOfPart_89 : decode cX0_faultOfPart 89 = .ok (.istore 5, 2) := by decide +kernel
theorem dX0_faultOfPart_91 : decode cX0_faultOfPart 91 = .ok (.iload 5, 2) := by decide +kernel
theorem dX0_faultOfPart_93 : decode cX0_faultOfPart 93 = .ok (.invokestatic 55, 3) := by decide +kernel
theorem dX0_faultOfPart_96 : decode cX0_faultOfPart 96 = .ok (.ifCond .eq 9, 3) := by decide +kernel
theorem dX0_faultOfPart_99 : decode cX0_faultOfPart 99 = .ok (.iload 5, 2) := by decide +kernel
theorem dX0_faultOfPart_101 : decode cX0_faultOfPart 101 = .ok (.iload_n 2, 1) := by decide +kernel
theorem dX0_faultOfPart_102 : decode cX0_faultOfPart 102 = .ok (.if_icmp .ne 7, 3) := by decide +kernel
theorem dX0_faultOfPart_105 : decode cX0_faultOfPart 105 = .ok (.iload_n 1, 1) := by decide +kernel
theorem dX0_faultOfPart_106 : decode cX0_faultOfPart 106 = .ok (.iconst 2, 1) := by decide +kernel
theorem dX0_faultOfPart_107 : decode cX0_faultOfPart 107 = .ok (.iadd, 1) := by decide +kernel
theorem dX0_faultOfPart_108 : decode cX0_faultOfPart 108 = .ok (.ireturn, 1) := by decide +kernel
theorem dX0_faultOfPart_109 : decode cX0_faultOfPart 109 = .ok (.aload_n 0, 1) := by decide +kernel
theorem dX0_faultOfPart_110 : decode cX0_faultOfPart 110 = .ok (.iload_n 1, 1) := by decide +kernel
theorem dX0_faultOfPart_111 : decode cX0_faultOfPart 111 = .ok (.iconst 3, 1) := by decide +kernel
theorem dX0_faultOfPart_112 : decode cX0_faultOfPart 112 = .ok (.iadd, 1) := by decide +kernel
theorem dX0_faultOfPart_113 : decode cX0_faultOfPart 113 = .ok (.invokevirtual 51, 3) := by decide +kernel
theorem dX0_faultOfPart_116 : decode cX0_faultOfPart 116 = .ok (.istore 6, 2) := by decide +kernel
theorem dX0_faultOfPart_118 : decode cX0_faultOfPart 118 = .ok (.iload 6, 2) := by decide +kernel
theorem dX0_faultOfPart_120 : decode cX0_faultOfPart 120 = .ok (.invokestatic 59, 3) := by decide +kernel
theorem dX0_faultOfPart_123 : decode cX0_faultOfPart 123 = .ok (.ifCond .eq 15, 3) := by decide +kernel
theorem dX0_faultOfPart_126 : decode cX0_faultOfPart 126 = .ok (.iload 6, 2) := by decide +kernel
theorem dX0_faultOfPart_128 : decode cX0_faultOfPart 128 = .ok (.bipush 48, 2) := by decide +kernel
theorem dX0_faultOfPart_130 : decode cX0_faultOfPart 130 = .ok (.if_icmp .eq 8, 3) := by decide +kernel
theorem dX0_faultOfPart_133 : decode cX0_faultOfPart 133 = .ok (.bipush (-6), 2) := by decide +kernel
theorem dX0_faultOfPart_135 : decode cX0_faultOfPart 135 = .ok (.goto 6, 3) := by decide +kernel
theorem dX0_faultOfPart_138 : decode cX0_faultOfPart 138 = .ok (.iload_n 1, 1) := by decide +kernel
theorem dX0_faultOfPart_139 : decode cX0_faultOfPart 139 = .ok (.iconst 3, 1) := by decide +kernel
theorem dX0_faultOfPart_140 : decode cX0_faultOfPart 140 = .ok (.iadd, 1) := by decide +kernel
theorem dX0_faultOfPart_141 : decode cX0_faultOfPart 141 = .ok (.ireturn, 1) := by decide +kernel
set_option maxRecDepth 20000 in
theorem ggX0_takePart_X0_signAt : GoodIn wsX0_takePart wsX0_signAt := goodIn_r _ [6, 7, 8, 21, 22, 23, 24, 25, 26, 27, 28, 29, 30] (by decide +kernel) (by decide +kernel)
set_option maxRecDepth 20000 in
theorem gX0_takePart_X0_signAt : GoodIn wsX0_takePart (wsV RX0 51 RX0 yX0_signAt wsX0_signAt) := goodIn_app (goodIn_of _ (by decide +kernel)) ggX0_takePart_X0_signAt
set_option maxRecDepth 20000 in
theorem ggX0_takePart_X0_addPart : GoodIn wsX0_takePart wsX0_addPart := goodIn_r _ [12, 13, 14, 15, 16, 17, 21, 22, 23, 24, 25, 26, 27, 28, 29, 30] (by decide +kernel) (by decide +kernel)
set_option maxRecDepth 20000 in
theorem gX0_takePart_X0_addPart : GoodIn wsX0_takePart (wsV RX0 62 RX0 yX0_addPart wsX0_addPart) := goodIn_app (goodIn_of _ (by decide +kernel)) ggX0_takePart_X0_addPart
set_option maxRecDepth 20000 in
theorem ggX0_takePart_X0_isDigit : GoodIn wsX0_takePart wsX0_isDigit := goodIn_r _ [20] (by decide +kernel) (by decide +kernel)
set_option maxRecDepth 20000 in
theorem gX0_takePart_X0_isDigit : GoodIn wsX0_takePart (va_wsS RX0 59 yX0_isDigit wsX0_isDigit) := goodIn_app (goodIn_of _ (by decide +kernel)) ggX0_takePart_X0_isDigit
theorem dX0_takePart_0 : decode cX0_takePart 0 = .ok (.aload_n 0, 1) := by decide +kernel
theorem dX0_takePart_1 : decode cX0_takePart 1 = .ok (.iload_n 1, 1) := by decide +kernel
theorem dX0_takePart_2 : decode cX0_takePart 2 = .ok (.invokevirtual 51, 3) := by decide +kernel
theorem dX0_takePart_5 : decode cX0_takePart 5 = .ok (.istore_n 2, 1) := by decide +kernel
theorem dX0_takePart_6 : decode cX0_takePart 6 = .ok (.iload_n 2, 1) := by decide +kernel
theorem dX0_takePart_7 : decode cX0_takePart 7 = .ok (.bipush 46, 2) := by decide +kernel
theorem dX0_takePart_9 : decode cX0_takePart 9 = .ok (.if_icmp .ne 13, 3) := by decide +kernel
theorem dX0_takePart_12 : decode cX0_takePart 12 = .ok (.aload_n 0, 1) := by decide +kernel
theorem dX0_takePart_13 : decode cX0_takePart 13 = .ok (.iconst 2, 1) := by decide +kernel
theorem dX0_takePart_14 : decode cX0_takePart 14 = .ok (.iconst 0, 1) := by decide +kernel
theorem dX0_takePart_15 : decode cX0_takePart 15 = .ok (.iconst 0, 1) := by decide +kernel
theorem dX0_takePart_16 : decode cX0_takePart 16 = .ok (.iconst 0, 1) := by decide +kernel
theorem dX0_takePart_17 : decode cX0_takePart 17 = .ok (.invokevirtual 62, 3) := by decide +kernel
theorem dX0_takePart_20 : decode cX0_takePart 20 = .ok (.iconst 1, 1) := by decide +kernel
theorem dX0_takePart_21 : decode cX0_takePart 21 = .ok (.ireturn, 1) := by decide +kernel
theorem dX0_takePart_22 : decode cX0_takePart 22 = .ok (.aload_n 0, 1) := by decide +kernel
theorem dX0_takePart_23 : decode cX0_takePart 23 = .ok (.iload_n 1, 1) := by decide +kernel
theorem dX0_takePart_24 : decode cX0_takePart 24 = .ok (.iconst 1, 1) := by decide +kernel
theorem dX0_takePart_25 : decode cX0_takePart 25 = .ok (.iadd, 1) := by decide +kernel
theorem dX0_takePart_26 : decode cX0_takePart 26 = .ok (.invokevirtual 51, 3) := by decide +kernel
theorem dX0_takePart_29 : decode cX0_takePart 29 = .ok (.bipush 33, 2) := by decide +kernel
theorem dX0_takePart_31 : decode cX0_takePart 31 = .ok (.if_icmp .ne 16, 3) := by decide +kernel
theorem dX0_takePart_34 : decode cX0_takePart 34 = .ok (.aload_n 0, 1) := by decide +kernel
theorem dX0_takePart_35 : decode cX0_takePart 35 = .ok (.iconst 1, 1) := by decide +kernel
theorem dX0_takePart_36 : decode cX0_takePart 36 = .ok (.iload_n 2, 1) := by decide +kernel
theorem dX0_takePart_37 : decode cX0_takePart 37 = .ok (.bipush 65, 2) := by decide +kernel
theorem dX0_takePart_39 : decode cX0_takePart 39 = .ok (.isub, 1) := by decide +kernel
theorem dX0_takePart_40 : decode cX0_takePart 40 = .ok (.iconst 0, 1) := by decide +kernel
theorem dX0_takePart_41 : decode cX0_takePart 41 = .ok (.iconst 0, 1) := by decide +kernel
theorem dX0_takePart_42 : decode cX0_takePart 42 = .ok (.invokevirtual 62, 3) := by decide +kernel
theorem dX0_takePart_45 : decode cX0_takePart 45 = .ok (.iconst 2, 1) := by decide +kernel
theorem dX0_takePart_46 : decode cX0_takePart 46 = .ok (.ireturn, 1) := by decide +kernel
theorem dX0_takePart_47 : decode cX0_takePart 47 = .ok (.iload_n 2, 1) := by decide +kernel
theorem dX0_takePart_48 : decode cX0_takePart 48 = .ok (.bipush 65, 2) := by decide +kernel
theorem dX0_takePart_50 : decode cX0_takePart 50 = .ok (.isub, 1) := by decide +kernel
theorem dX0_takePart_51 : decode cX0_takePart 51 = .ok (.istore_n 3, 1) := by decide +kernel
theorem dX0_takePart_52 : decode cX0_takePart 52 = .ok (.iload_n 2, 1) := by decide +kernel
theorem dX0_takePart_53 : decode cX0_takePart 53 = .ok (.bipush 63, 2) := by decide +kernel
theorem dX0_takePart_55 : decode cX0_takePart 55 = .ok (.if_icmp .ne 21, 3) := by decide +kernel
theorem dX0_takePart_58 : decode cX0_takePart 58 = .ok (.bipush 6, 2) := by decide +kernel
theorem dX0_takePart_60 : decode cX0_takePart 60 = .ok (.aload_n 0, 1) := by decide +kernel
theorem dX0_takePart_61 : decode cX0_takePart 61 = .ok (.getfield 38, 3) := by decide +kernel
theorem dX0_takePart_64 : decode cX0_takePart 64 = .ok (.iadd, 1) := by decide +kernel
theorem dX0_takePart_65 : decode cX0_takePart 65 = .ok (.istore_n 3, 1) := by decide +kernel
theorem dX0_takePart_66 : decode cX0_takePart 66 = .ok (.aload_n 0, 1) := by decide +kernel
theorem dX0_takePart_67 : decode cX0_takePart 67 = .ok (.dup, 1) := by decide +kernel
theorem dX0_takePart_68 : decode cX0_takePart 68 = .ok (.getfield 38, 3) := by decide +kernel
theorem dX0_takePart_71 : decode cX0_takePart 71 = .ok (.iconst 1, 1) := by decide +kernel
theorem dX0_takePart_72 : decode cX0_takePart 72 = .ok (.iadd, 1) := by decide +kernel
theorem dX0_takePart_73 : decode cX0_takePart 73 = .ok (.putfield 38, 3) := by decide +kernel
theorem dX0_takePart_76 : decode cX0_takePart 76 = .ok (.aload_n 0, 1) := by decide +kernel
theorem dX0_takePart_77 : decode cX0_takePart 77 = .ok (.iload_n 1, 1) := by decide +kernel
theorem dX0_takePart_78 : decode cX0_takePart 78 = .ok (.iconst 2, 1) := by decide +kernel
theorem dX0_takePart_79 : decode cX0_takePart 79 = .ok (.iadd, 1) := by decide +kernel
theorem dX0_takePart_80 : decode cX0_takePart 80 = .ok (.invokevirtual 51, 3) := by decide +kernel
theorem dX0_takePart_83 : decode cX0_takePart 83 = .ok (.bipush 65, 2) := by decide +kernel
theorem dX0_takePart_85 : decode cX0_takePart 85 = .ok (.isub, 1) := by decide +kernel
theorem dX0_takePart_86 : decode cX0_takePart 86 = .ok (.istore 4, 2) := by decide +kernel
theorem dX0_takePart_88 : decode cX0_takePart 88 = .ok (.aload_n 0, 1) := by decide +kernel
theorem dX0_takePart_89 : decode cX0_takePart 89 = .ok (.iload_n 1, 1) := by decide +kernel
theorem dX0_takePart_90 : decode cX0_takePart 90 = .ok (.iconst 3, 1) := by decide +kernel
theorem dX0_takePart_91 : decode cX0_takePart 91 = .ok (.iadd, 1) := by decide +kernel
theorem dX0_takePart_92 : decode cX0_takePart 92 = .ok (.invokevirtual 51, 3) := by decide +kernel
theorem dX0_takePart_95 : decode cX0_takePart 95 = .ok (.bipush 48, 2) := by decide +kernel
theorem dX0_takePart_97 : decode cX0_takePart 97 = .ok (.isub, 1) := by decide +kernel
theorem dX0_takePart_98 : decode cX0_takePart 98 = .ok (.istore 5, 2) := by decide +kernel
theorem dX0_takePart_100 : decode cX0_takePart 100 = .ok (.aload_n 0, 1) := by decide +kernel
theorem dX0_takePart_101 : decode cX0_takePart 101 = .ok (.iload_n 1, 1) := by decide +kernel
theorem dX0_takePart_102 : decode cX0_takePart 102 = .ok (.iconst 4, 1) := by decide +kernel
theorem dX0_takePart_103 : decode cX0_takePart 103 = .ok (.iadd, 1) := by decide +kernel
theorem dX0_takePart_104 : decode cX0_takePart 104 = .ok (.invokevirtual 51, 3) := by decide +kernel
theorem dX0_takePart_107 : decode cX0_takePart 107 = .ok (.istore 6, 2) := by decide +kernel
theorem dX0_takePart_109 : decode cX0_takePart 109 = .ok (.iload 6, 2) := by decide +kernel
theorem dX0_takePart_111 : decode cX0_takePart 111 = .ok (.invokestatic 59, 3) := by decide +kernel
theorem dX0_takePart_114 : decode cX0_takePart 114 = .ok (.ifCond .eq 24, 3) := by decide +kernel
theorem dX0_takePart_117 : decode cX0_takePart 117 = .ok (.aload_n 0, 1) := by decide +kernel
theorem dX0_takePart_118 : decode cX0_takePart 118 = .ok (.iconst 0, 1) := by decide +kernel
theorem dX0_takePart_119 : decode cX0_takePart 119 = .ok (.iload_n 3, 1) := by decide +kernel
theorem dX0_takePart_120 : decode cX0_takePart 120 = .ok (.iload 4, 2) := by decide +kernel
theorem dX0_takePart_122 : decode cX0_takePart 122 = .ok (.iload 5, 2) := by decide +kernel
theorem dX0_takePart_124 : decode cX0_takePart 124 = .ok (.bipush 10, 2) := by decide +kernel
theorem dX0_takePart_126 : decode cX0_takePart 126 = .ok (.imul, 1) := by decide +kernel
theorem dX0_takePart_127 : decode cX0_takePart 127 = .ok (.iload 6, 2) := by decide +kernel
theorem dX0_takePart_129 : decode cX0_takePart 129 = .ok (.iadd, 1) := by decide +kernel
theorem dX0_takePart_130 : decode cX0_takePart 130 = .ok (.bipush 48, 2) := by decide +kernel
theorem dX0_takePart_132 : decode cX0_takePart 132 = .ok (.isub, 1) := by decide +kernel
theorem dX0_takePart_133 : decode cX0_takePart 133 = .ok (.invokevirtual 62, 3) := by decide +kernel
theorem dX0_takePart_136 : decode cX0_takePart 136 = .ok (.iconst 5, 1) := by decide +kernel
theorem dX0_takePart_137 : decode cX0_takePart 137 = .ok (.ireturn, 1) := by decide +kernel
theorem dX0_takePart_138 : decode cX0_takePart 138 = .ok (.aload_n 0, 1) := by decide +kernel
theorem dX0_takePart_139 : decode cX0_takePart 139 = .ok (.iconst 0, 1) := by decide +kernel
theorem dX0_takePart_140 : decode cX0_takePart 140 = .ok (.iload_n 3, 1) := by decide +kernel
theorem dX0_takePart_141 : decode cX0_takePart 141 = .ok (.iload 4, 2) := by decide +kernel
theorem dX0_takePart_143 : decode cX0_takePart 143 = .ok (.iload 5, 2) := by decide +kernel
theorem dX0_takePart_145 : decode cX0_takePart 145 = .ok (.invokevirtual 62, 3) := by decide +kernel
theorem dX0_takePart_148 : decode cX0_takePart 148 = .ok (.iconst 4, 1) := by decide +kernel
theorem dX0_takePart_149 : decode cX0_takePart 149 = .ok (.ireturn, 1) := by decide +kernel
theorem dX0_addPart_0 : decode cX0_addPart 0 = .ok (.aload_n 0, 1) := by decide +kernel
theorem dX0_addPart_1 : decode cX0_addPart 1 = .ok (.getfield 35, 3) := by decide +kernel
theorem dX0_addPart_4 : decode cX0_addPart 4 = .ok (.ifCond .lt 12, 3) := by decide +kernel
theorem dX0_addPart_7 : decode cX0_addPart 7 = .ok (.aload_n 0, 1) := by decide +kernel
theorem dX0_addPart_8 : decode cX0_addPart 8 = .ok (.getfield 35, 3) := by decide +kernel
theorem dX0_addPart_11 : decode cX0_addPart 11 = .ok (.bipush 60, 2) := by decide +kernel
theorem dX0_addPart_13 : decode cX0_addPart 13 = .ok (.if_icmp .lt 4, 3) := by decide +kernel
theorem dX0_addPart_16 : decode cX0_addPart 16 = .ok (.return_, 1) := by decide +kernel
theorem dX0_addPart_17 : decode cX0_addPart 17 = .ok (.aload_n 0, 1) := by decide +kernel
theorem dX0_addPart_18 : decode cX0_addPart 18 = .ok (.getfield 15, 3) := by decide +kernel
theorem dX0_addPart_21 : decode cX0_addPart 21 = .ok (.aload_n 0, 1) := by decide +kernel
theorem dX0_addPart_22 : decode cX0_addPart 22 = .ok (.getfield 35, 3) := by decide +kernel
theorem dX0_addPart_25 : decode cX0_addPart 25 = .ok (.iload_n 1, 1) := by decide +kernel
theorem dX0_addPart_26 : decode cX0_addPart 26 = .ok (.iastore, 1) := by decide +kernel
theorem dX0_addPart_27 : decode cX0_addPart 27 = .ok (.aload_n 0, 1) := by decide +kernel
theorem dX0_addPart_28 : decode cX0_addPart 28 = .ok (.getfield 19, 3) := by decide +kernel
theorem dX0_addPart_31 : decode cX0_addPart 31 = .ok (.aload_n 0, 1) := by decide +kernel
theorem dX0_addPart_32 : decode cX0_addPart 32 = .ok (.getfield 35, 3) := by decide +kernel
theorem dX0_addPart_35 : decode cX0_addPart 35 = .ok (.iload_n 2, 1) := by decide +kernel
theorem dX0_addPart_36 : decode cX0_addPart 36 = .ok (.iastore, 1) := by decide +kernel
theorem dX0_addPart_37 : decode cX0_addPart 37 = .ok (.aload_n 0, 1) := by decide +kernel
theorem dX0_addPart_38 : decode cX0_addPart 38 = .ok (.getfield 22, 3) := by decide +kernel
theorem dX0_addPart_41 : decode cX0_addPart 41 = .ok (.aload_n 0, 1) := by decide +kernel
theorem dX0_addPart_42 : decode cX0_addPart 42 = .ok (.getfield 35, 3) := by decide +kernel
theorem dX0_addPart_45 : decode cX0_addPart 45 = .ok (.iload_n 3, 1) := by decide +kernel
theorem dX0_addPart_46 : decode cX0_addPart 46 = .ok (.iastore, 1) := by decide +kernel
theorem dX0_addPart_47 : decode cX0_addPart 47 = .ok (.aload_n 0, 1) := by decide +kernel
theorem dX0_addPart_48 : decode cX0_addPart 48 = .ok (.getfield 25, 3) := by decide +kernel
theorem dX0_addPart_51 : decode cX0_addPart 51 = .ok (.aload_n 0, 1) := by decide +kernel
theorem dX0_addPart_52 : decode cX0_addPart 52 = .ok (.getfield 35, 3) := by decide +kernel
theorem dX0_addPart_55 : decode cX0_addPart 55 = .ok (.iload 4, 2) := by decide +kernel
theorem dX0_addPart_57 : decode cX0_addPart 57 = .ok (.iastore, 1) := by decide +kernel
theorem dX0_addPart_58 : decode cX0_addPart 58 = .ok (.aload_n 0, 1) := by decide +kernel
theorem dX0_addPart_59 : decode cX0_addPart 59 = .ok (.dup, 1) := by decide +kernel
theorem dX0_addPart_60 : decode cX0_addPart 60 = .ok (.getfield 35, 3) := by decide +kernel
theorem dX0_addPart_63 : decode cX0_addPart 63 = .ok (.iconst 1, 1) := by decide +kernel
theorem dX0_addPart_64 : decode cX0_addPart 64 = .ok (.iadd, 1) := by decide +kernel
theorem dX0_addPart_65 : decode cX0_addPart 65 = .ok (.putfield 35, 3) := by decide +kernel
theorem dX0_addPart_68 : decode cX0_addPart 68 = .ok (.return_, 1) := by decide +kernel
theorem dX0_guesses_0 : decode cX0_guesses 0 = .ok (.iconst 1, 1) := by decide +kernel
theorem dX0_guesses_1 : decode cX0_guesses 1 = .ok (.istore_n 1, 1) := by decide +kernel
theorem dX0_guesses_2 : decode cX0_guesses 2 = .ok (.iconst 0, 1) := by decide +kernel
theorem dX0_guesses_3 : decode cX0_guesses 3 = .ok (.istore_n 2, 1) := by decide +kernel
theorem dX0_guesses_4 : decode cX0_guesses 4 = .ok (.iload_n 2, 1) := by decide +kernel
theorem dX0_guesses_5 : decode cX0_guesses 5 = .ok (.aload_n 0, 1) := by decide +kernel
theorem dX0_guesses_6 : decode cX0_guesses 6 = .ok (.getfield 38, 3) := by decide +kernel
theorem dX0_guesses_9 : decode cX0_guesses 9 = .ok (.if_icmp .ge 14, 3) := by decide +kernel
theorem dX0_guesses_12 : decode cX0_guesses 12 = .ok (.iload_n 1, 1) := by decide +kernel
theorem dX0_guesses_13 : decode cX0_guesses 13 = .ok (.bipush 6, 2) := by decide +kernel
theorem dX0_guesses_15 : decode cX0_guesses 15 = .ok (.imul, 1) := by decide +kernel
theorem dX0_guesses_16 : decode cX0_guesses 16 = .ok (.istore_n 1, 1) := by decide +kernel
theorem dX0_guesses_17 : decode cX0_guesses 17 = .ok (.iinc 2 1, 3) := by decide +kernel
theorem dX0_guesses_20 : decode cX0_guesses 20 = .ok (.goto (-16), 3) := by decide +kernel
theorem dX0_guesses_23 : decode cX0_guesses 23 = .ok (.iload_n 1, 1) := by decide +kernel
theorem dX0_guesses_24 : decode cX0_guesses 24 = .ok (.ireturn, 1) := by decide +kernel
theorem dX0_writeMen_0 : decode cX0_writeMen 0 = .ok (.iload_n 1, 1) := by decide +kernel
theorem dX0_writeMen_1 : decode cX0_writeMen 1 = .ok (.istore_n 2, 1) := by decide +kernel
theorem dX0_writeMen_2 : decode cX0_writeMen 2 = .ok (.aload_n 0, 1) := by decide +kernel
theorem dX0_writeMen_3 : decode cX0_writeMen 3 = .ok (.getfield 38, 3) := by decide +kernel
theorem dX0_writeMen_6 : decode cX0_writeMen 6 = .ok (.iconst 3, 1) := by decide +kernel
theorem dX0_writeMen_7 : decode cX0_writeMen 7 = .ok (.invokestatic 66, 3) := by decide +kernel
theorem dX0_writeMen_10 : decode cX0_writeMen 10 = .ok (.iconst 1, 1) := by decide +kernel
theorem dX0_writeMen_11 : decode cX0_writeMen 11 = .ok (.isub, 1) := by decide +kernel
theorem dX0_writeMen_12 : decode cX0_writeMen 12 = .ok (.istore_n 3, 1) := by decide +kernel
theorem dX0_writeMen_13 : decode cX0_writeMen 13 = .ok (.iload_n 3, 1) := by decide +kernel
theorem dX0_writeMen_14 : decode cX0_writeMen 14 = .ok (.ifCond .lt 24, 3) := by decide +kernel
theorem dX0_writeMen_17 : decode cX0_writeMen 17 = .ok (.aload_n 0, 1) := by decide +kernel
theorem dX0_writeMen_18 : decode cX0_writeMen 18 = .ok (.getfield 28, 3) := by decide +kernel
theorem dX0_writeMen_21 : decode cX0_writeMen 21 = .ok (.iload_n 3, 1) := by decide +kernel
theorem dX0_writeMen_22 : decode cX0_writeMen 22 = .ok (.iload_n 2, 1) := by decide +kernel
theorem dX0_writeMen_23 : decode cX0_writeMen 23 = .ok (.bipush 6, 2) := by decide +kernel
theorem dX0_writeMen_25 : decode cX0_writeMen 25 = .ok (.irem, 1) := by decide +kernel
theorem dX0_writeMen_26 : decode cX0_writeMen 26 = .ok (.iastore, 1) := by decide +kernel
theorem dX0_writeMen_27 : decode cX0_writeMen 27 = .ok (.iload_n 2, 1) := by decide +kernel
theorem dX0_writeMen_28 : decode cX0_writeMen 28 = .ok (.bipush 6, 2) := by decide +kernel
theorem dX0_writeMen_30 : decode cX0_writeMen 30 = .ok (.idiv, 1) := by decide +kernel
theorem dX0_writeMen_31 : decode cX0_writeMen 31 = .ok (.istore_n 2, 1) := by decide +kernel
theorem dX0_writeMen_32 : decode cX0_writeMen 32 = .ok (.iinc 3 (-1), 3) := by decide +kernel
theorem dX0_writeMen_35 : decode cX0_writeMen 35 = .ok (.goto (-22), 3) := by decide +kernel
theorem dX0_writeMen_38 : decode cX0_writeMen 38 = .ok (.return_, 1) := by decide +kernel
theorem dX0_manFor_0 : decode cX0_manFor 0 = .ok (.iload_n 1, 1) := by decide +kernel
theorem dX0_manFor_1 : decode cX0_manFor 1 = .ok (.ifCond .lt 25, 3) := by decide +kernel
theorem dX0_manFor_4 : decode cX0_manFor 4 = .ok (.iload_n 1, 1) := by decide +kernel
theorem dX0_manFor_5 : decode cX0_manFor 5 = .ok (.aload_n 0, 1) := by decide +kernel
theorem dX0_manFor_6 : decode cX0_manFor 6 = .ok (.getfield 38, 3) := by decide +kernel
theorem dX0_manFor_9 : decode cX0_manFor 9 = .ok (.if_icmp .ge 17, 3) := by decide +kernel
theorem dX0_manFor_12 : decode cX0_manFor 12 = .ok (.iload_n 1, 1) := by decide +kernel
theorem dX0_manFor_13 : decode cX0_manFor 13 = .ok (.iconst 3, 1) := by decide +kernel
theorem dX0_manFor_14 : decode cX0_manFor 14 = .ok (.if_icmp .ge 12, 3) := by decide +kernel
theorem dX0_manFor_17 : decode cX0_manFor 17 = .ok (.aload_n 0, 1) := by decide +kernel
theorem dX0_manFor_18 : decode cX0_manFor 18 = .ok (.getfield 28, 3) := by decide +kernel
theorem dX0_manFor_21 : decode cX0_manFor 21 = .ok (.iload_n 1, 1) := by decide +kernel
theorem dX0_manFor_22 : decode cX0_manFor 22 = .ok (.iaload, 1) := by decide +kernel
theorem dX0_manFor_23 : decode cX0_manFor 23 = .ok (.goto 5, 3) := by decide +kernel
theorem dX0_manFor_26 : decode cX0_manFor 26 = .ok (.bipush (-6), 2) := by decide +kernel
theorem dX0_manFor_28 : decode cX0_manFor 28 = .ok (.ireturn, 1) := by decide +kernel
set_option maxRecDepth 20000 in
theorem ggX0_manOf_X3_isMan : GoodIn wsX0_manOf wsX3_isMan := goodIn_r _ [3] (by decide +kernel) (by decide +kernel)
set_option maxRecDepth 20000 in
theorem gX0_manOf_X3_isMan_n72 : GoodIn wsX0_manOf (wsX3_isMan) := ggX0_manOf_X3_isMan
set_option maxRecDepth 20000 in
theorem ggX0_manOf_X0_manFor : GoodIn wsX0_manOf wsX0_manFor := goodIn_r _ [8, 9, 10, 11, 12, 13, 14, 15, 16, 17, 18, 19, 20] (by decide +kernel) (by decide +kernel)
set_option maxRecDepth 20000 in
theorem gX0_manOf_X0_manFor : GoodIn wsX0_manOf (wsV RX0 76 RX0 yX0_manFor wsX0_manFor) := goodIn_app (goodIn_of _ (by decide +kernel)) ggX0_manOf_X0_manFor
theorem dX0_manOf_0 : decode cX0_manOf 0 = .ok (.iload_n 1, 1) := by decide +kernel
theorem dX0_manOf_1 : decode cX0_manOf 1 = .ok (.invokestatic 72, 3) := by decide +kernel
theorem dX0_manOf_4 : decode cX0_manOf 4 = .ok (.ifCond .eq 7, 3) := by decide +kernel
theorem dX0_manOf_7 : decode cX0_manOf 7 = .ok (.iload_n 1, 1) := by decide +kernel
theorem dX0_manOf_8 : decode cX0_manOf 8 = .ok (.goto 11, 3) := by decide +kernel
theorem dX0_manOf_11 : decode cX0_manOf 11 = .ok (.aload_n 0, 1) := by decide +kernel
theorem dX0_manOf_12 : decode cX0_manOf 12 = .ok (.iload_n 1, 1) := by decide +kernel
theorem dX0_manOf_13 : decode cX0_manOf 13 = .ok (.bipush 6, 2) := by decide +kernel
theorem dX0_manOf_15 : decode cX0_manOf 15 = .ok (.isub, 1) := by decide +kernel
theorem dX0_manOf_16 : decode cX0_manOf 16 = .ok (.invokevirtual 76, 3) := by decide +kernel
theorem dX0_manOf_19 : decode cX0_manOf 19 = .ok (.ireturn, 1) := by decide +kernel
set_option maxRecDepth 20000 in
theorem ggX0_lendsToHimself_X0_manOf : GoodIn wsX0_lendsToHimself wsX0_manOf := goodIn_r _ [9, 10, 11, 12, 13, 14, 15, 8, 16, 17, 18, 19, 20, 21, 22, 23, 24, 25, 26, 27, 28] (by decide +kernel) (by decide +kernel)
set_option maxRecDepth 20000 in
theorem gX0_lendsToHimself_X0_manOf : GoodIn wsX0_lendsToHimself (wsV RX0 79 RX0 yX0_manOf wsX0_manOf) := goodIn_app (goodIn_of _ (by decide +kernel)) ggX0_lendsToHimself_X0_manOf
theorem dX0_lendsToHimself_0 : decode cX0_lendsToHimself 0 = .ok (.iconst 0, 1) := by decide +kernel
theorem dX0_lendsToHimself_1 : decode cX0_lendsToHimself 1 = .ok (.istore_n 1, 1) := by decide +kernel
theorem dX0_lendsToHimself_2 : decode cX0_lendsToHimself 2 = .ok (.iload_n 1, 1) := by decide +kernel
theorem dX0_lendsToHimself_3 : decode cX0_lendsToHimself 3 = .ok (.aload_n 0, 1) := by decide +kernel
theorem dX0_lendsToHimself_4 : decode cX0_lendsToHimself 4 = .ok (.getfield 35, 3) := by decide +kernel
theorem dX0_lendsToHimself_7 : decode cX0_lendsToHimself 7 = .ok (.if_icmp .ge 45, 3) := by decide +kernel
theorem dX0_lendsToHimself_10 : decode cX0_lendsToHimself 10 = .ok (.iload_n 1, 1) := by decide +kernel
theorem dX0_lendsToHimself_11 : decode cX0_lendsToHimself 11 = .ok (.bipush 60, 2) := by decide +kernel
theorem dX0_lendsToHimself_13 : decode cX0_lendsToHimself 13 = .ok (.if_icmp .ge 39, 3) := by decide +kernel
theorem dX0_lendsToHimself_16 : decode cX0_lendsToHimself 16 = .ok (.aload_n 0, 1) := by decide +kernel
theorem dX0_lendsToHimself_17 : decode cX0_lendsToHimself 17 = .ok (.getfield 15, 3) := by decide +kernel
theorem dX0_lendsToHimself_20 : decode cX0_lendsToHimself 20 = .ok (.iload_n 1, 1) := by decide +kernel
theorem dX0_lendsToHimself_21 : decode cX0_lendsToHimself 21 = .ok (.iaload, 1) := by decide +kernel
theorem dX0_lendsToHimself_22 : decode cX0_lendsToHimself 22 = .ok (.ifCond .ne 24, 3) := by decide +kernel
theorem dX0_lendsToHimself_25 : decode cX0_lendsToHimself 25 = .ok (.aload_n 0, 1) := by decide +kernel
theorem dX0_lendsToHimself_26 : decode cX0_lendsToHimself 26 = .ok (.aload_n 0, 1) := by decide +kernel
theorem dX0_lendsToHimself_27 : decode cX0_lendsToHimself 27 = .ok (.getfield 19, 3) := by decide +kernel
theorem dX0_lendsToHimself_30 : decode cX0_lendsToHimself 30 = .ok (.iload_n 1, 1) := by decide +kernel
theorem dX0_lendsToHimself_31 : decode cX0_lendsToHimself 31 = .ok (.iaload, 1) := by decide +kernel
theorem dX0_lendsToHimself_32 : decode cX0_lendsToHimself 32 = .ok (.invokevirtual 79, 3) := by decide +kernel
theorem dX0_lendsToHimself_35 : decode cX0_lendsToHimself 35 = .ok (.aload_n 0, 1) := by decide +kernel
theorem dX0_lendsToHimself_36 : decode cX0_lendsToHimself 36 = .ok (.getfield 22, 3) := by decide +kernel
theorem dX0_lendsToHimself_39 : decode cX0_lendsToHimself 39 = .ok (.iload_n 1, 1) := by decide +kernel
theorem dX0_lendsToHimself_40 : decode cX0_lendsToHimself 40 = .ok (.iaload, 1) := by decide +kernel
theorem dX0_lendsToHimself_41 : decode cX0_lendsToHimself 41 = .ok (.if_icmp .ne 5, 3) := by decide +kernel
theorem dX0_lendsToHimself_44 : decode cX0_lendsToHimself 44 = .ok (.iconst 1, 1) := by decide +kernel
theorem dX0_lendsToHimself_45 : decode cX0_lendsToHimself 45 = .ok (.ireturn, 1) := by decide +kernel
theorem dX0_lendsToHimself_46 : decode cX0_lendsToHimself 46 = .ok (.iinc 1 1, 3) := by decide +kernel
theorem dX0_lendsToHimself_49 : decode cX0_lendsToHimself 49 = .ok (.goto (-47), 3) := by decide +kernel
theorem dX0_lendsToHimself_52 : decode cX0_lendsToHimself 52 = .ok (.iconst 0, 1) := by decide +kernel
theorem dX0_lendsToHimself_53 : decode cX0_lendsToHimself 53 = .ok (.ireturn, 1) := by decide +kernel
set_option maxRecDepth 20000 in
theorem ggX0_perform_X2_copyFrom : GoodIn wsX0_perform wsX2_copyFrom := goodIn_r _ [7, 8, 9, 10, 11, 12, 13, 14, 15, 16, 17, 18, 19, 20, 21, 22, 109, 110, 111, 112, 113, 114, 115, 116, 117, 118, 119] (by decide +kernel) (by decide +kernel)
set_option maxRecDepth 20000 in
theorem gX0_perform_X2_copyFrom : GoodIn wsX0_perform (wsV RX0 82 RX2 yX2_copyFrom wsX2_copyFrom) := goodIn_app (goodIn_of _ (by decide +kernel)) ggX0_perform_X2_copyFrom
set_option maxRecDepth 20000 in
theorem ggX0_perform_X0_performPart : GoodIn wsX0_perform wsX0_performPart := goodIn_r _ [27, 28, 29, 30, 31, 32, 33, 34, 6, 35, 20, 15, 22, 36, 37, 38, 39, 40, 41, 42, 43, 44, 45, 26, 46, 47, 48, 49, 50, 51, 52, 53, 54, 55, 56, 57, 58, 59, 60, 61, 62, 63, 64, 65, 66, 13, 67, 68, 69, 70, 71, 72, 73, 74, 21, 75, 76, 77, 78, 79, 80, 81, 82, 8, 83, 84, 85, 86, 14, 87, 88, 89, 90, 91, 92, 93, 94, 16, 95, 96, 97, 98, 99, 100, 101, 102, 103, 104, 105, 106, 107, 108, 109, 110, 111, 112, 113, 114, 115, 116, 117, 118, 119] (by decide +kernel) (by decide +kernel)
set_option maxRecDepth 20000 in
theorem gX0_perform_X0_performPart : GoodIn wsX0_perform (wsV RX0 88 RX0 yX0_performPart wsX0_performPart) := goodIn_app (goodIn_of _ (by decide +kernel)) ggX0_perform_X0_performPart
theorem dX0_perform_0 : decode cX0_perform 0 = .ok (.aload_n 2, 1) := by decide +kernel
theorem dX0_perform_1 : decode cX0_perform 1 = .ok (.aload_n 1, 1) := by decide +kernel
theorem dX0_perform_2 : decode cX0_perform 2 = .ok (.invokevirtual 82, 3) := by decide +kernel
theorem dX0_perform_5 : decode cX0_perform 5 = .ok (.iconst 0, 1) := by decide +kernel
theorem dX0_perform_6 : decode cX0_perform 6 = .ok (.istore_n 3, 1) := by decide +kernel
theorem dX0_perform_7 : decode cX0_perform 7 = .ok (.iload_n 3, 1) := by decide +kernel
theorem dX0_perform_8 : decode cX0_perform 8 = .ok (.aload_n 0, 1) := by decide +kernel
theorem dX0_perform_9 : decode cX0_perform 9 = .ok (.getfield 35, 3) := by decide +kernel
theorem dX0_perform_12 : decode cX0_perform 12 = .ok (.if_icmp .ge 34, 3) := by decide +kernel
theorem dX0_perform_15 : decode cX0_perform 15 = .ok (.iload_n 3, 1) := by decide +kernel
theorem dX0_perform_16 : decode cX0_perform 16 = .ok (.bipush 60, 2) := by decide +kernel
theorem dX0_perform_18 : decode cX0_perform 18 = .ok (.if_icmp .ge 28, 3) := by decide +kernel
theorem dX0_perform_21 : decode cX0_perform 21 = .ok (.aload_n 0, 1) := by decide +kernel
theorem dX0_perform_22 : decode cX0_perform 22 = .ok (.aload_n 0, 1) := by decide +kernel
theorem dX0_perform_23 : decode cX0_perform 23 = .ok (.aload_n 2, 1) := by decide +kernel
theorem dX0_perform_24 : decode cX0_perform 24 = .ok (.iload_n 3, 1) := by decide +kernel
theorem dX0_perform_25 : decode cX0_perform 25 = .ok (.invokevirtual 88, 3) := by decide +kernel
theorem dX0_perform_28 : decode cX0_perform 28 = .ok (.putfield 41, 3) := by decide +kernel
theorem dX0_perform_31 : decode cX0_perform 31 = .ok (.aload_n 0, 1) := by decide +kernel
theorem dX0_perform_32 : decode cX0_perform 32 = .ok (.getfield 41, 3) := by decide +kernel
theorem dX0_perform_35 : decode cX0_perform 35 = .ok (.ifCond .eq 5, 3) := by decide +kernel
theorem dX0_perform_38 : decode cX0_perform 38 = .ok (.iload_n 3, 1) := by decide +kernel
theorem dX0_perform_39 : decode cX0_perform 39 = .ok (.ireturn, 1) := by decide +kernel
theorem dX0_perform_40 : decode cX0_perform 40 = .ok (.iinc 3 1, 3) := by decide +kernel
theorem dX0_perform_43 : decode cX0_perform 43 = .ok (.goto (-36), 3) := by decide +kernel
theorem dX0_perform_46 : decode cX0_perform 46 = .ok (.bipush (-6), 2) := by decide +kernel
theorem dX0_perform_48 : decode cX0_perform 48 = .ok (.ireturn, 1) := by decide +kernel
set_option maxRecDepth 20000 in
theorem ggX0_performPart_X2_passDay : GoodIn wsX0_performPart wsX2_passDay := goodIn_r _ [9, 10, 11, 12, 13, 14, 15, 16, 17, 18, 19, 92, 93, 94, 95, 96, 97, 98, 99, 100, 101, 102] (by decide +kernel) (by decide +kernel)
set_option maxRecDepth 20000 in
theorem gX0_performPart_X2_passDay : GoodIn wsX0_performPart (wsV RX0 92 RX2 yX2_passDay wsX2_passDay) := goodIn_app (goodIn_of _ (by decide +kernel)) ggX0_performPart_X2_passDay
set_option maxRecDepth 20000 in
theorem ggX0_performPart_X0_manOf : GoodIn wsX0_performPart wsX0_manOf := goodIn_r _ [24, 25, 14, 26, 27, 28, 29, 23, 30, 31, 32, 82, 83, 84, 85, 86, 87, 88, 89, 90, 91] (by decide +kernel) (by decide +kernel)
set_option maxRecDepth 20000 in
theorem gX0_performPart_X0_manOf : GoodIn wsX0_performPart (wsV RX0 79 RX0 yX0_manOf wsX0_manOf) := goodIn_app (goodIn_of _ (by decide +kernel)) ggX0_performPart_X0_manOf
set_option maxRecDepth 20000 in
theorem ggX0_performPart_X2_repay : GoodIn wsX0_performPart wsX2_repay := goodIn_r _ [36, 37, 38, 39, 8, 40, 41, 42, 43, 44, 45, 46, 47, 48, 49, 25, 14, 26, 50, 51, 52, 53, 54, 11, 55, 56, 57, 58, 59, 60, 61, 62, 63, 64, 65, 66, 67, 68, 69, 70, 71, 72, 73, 74, 75, 76, 77, 92, 93, 94, 95, 96, 97, 98, 99, 100, 101, 102] (by decide +kernel) (by decide +kernel)
set_option maxRecDepth 20000 in
theorem gX0_performPart_X2_repay : GoodIn wsX0_performPart (wsV RX0 95 RX2 yX2_repay wsX2_repay) := goodIn_app (goodIn_of _ (by decide +kernel)) ggX0_performPart_X2_repay
set_option maxRecDepth 20000 in
theorem ggX0_performPart_X2_lend : GoodIn wsX0_performPart wsX2_lend := goodIn_r _ [81, 68, 11, 77, 10, 45, 59, 60, 61, 8, 62, 63, 25, 14, 26, 46, 47, 48, 49, 69, 70, 71, 72, 92, 93, 94, 95, 96, 97, 98, 99, 100, 101, 102] (by decide +kernel) (by decide +kernel)
set_option maxRecDepth 20000 in
theorem gX0_performPart_X2_lend : GoodIn wsX0_performPart (wsV RX0 98 RX2 yX2_lend wsX2_lend) := goodIn_app (goodIn_of _ (by decide +kernel)) ggX0_performPart_X2_lend
theorem dX0_performPart_0 : decode cX0_performPart 0 = .ok (.iload_n 2, 1) := by decide +kernel
theorem dX0_performPart_1 : decode cX0_performPart 1 = .ok (.ifCond .lt 9, 3) := by decide +kernel
theorem dX0_performPart_4 : decode cX0_performPart 4 = .ok (.iload_n 2, 1) := by decide +kernel
theorem dX0_performPart_5 : decode cX0_performPart 5 = .ok (.bipush 60, 2) := by decide +kernel
theorem dX0_performPart_7 : decode cX0_performPart 7 = .ok (.if_icmp .lt 5, 3) := by decide +kernel
theorem dX0_performPart_10 : decode cX0_performPart 10 = .ok (.iconst 0, 1) := by decide +kernel
theorem dX0_performPart_11 : decode cX0_performPart 11 = .ok (.ireturn, 1) := by decide +kernel
theorem dX0_performPart_12 : decode cX0_performPart 12 = .ok (.aload_n 0, 1) := by decide +kernel
theorem dX0_performPart_13 : decode cX0_performPart 13 = .ok (.getfield 15, 3) := by decide +kernel
theorem dX0_performPart_16 : decode cX0_performPart 16 = .ok (.iload_n 2, 1) := by decide +kernel
theorem dX0_performPart_17 : decode cX0_performPart 17 = .ok (.iaload, 1) := by decide +kernel
theorem dX0_performPart_18 : decode cX0_performPart 18 = .ok (.iconst 2, 1) := by decide +kernel
theorem dX0_performPart_19 : decode cX0_performPart 19 = .ok (.if_icmp .ne 9, 3) := by decide +kernel
theorem dX0_performPart_22 : decode cX0_performPart 22 = .ok (.aload_n 1, 1) := by decide +kernel
theorem dX0_performPart_23 : decode cX0_performPart 23 = .ok (.invokevirtual 92, 3) := by decide +kernel
theorem dX0_performPart_26 : decode cX0_performPart 26 = .ok (.iconst 0, 1) := by decide +kernel
theorem dX0_performPart_27 : decode cX0_performPart 27 = .ok (.ireturn, 1) := by decide +kernel
theorem dX0_performPart_28 : decode cX0_performPart 28 = .ok (.aload_n 0, 1) := by decide +kernel
theorem dX0_performPart_29 : decode cX0_performPart 29 = .ok (.aload_n 0, 1) := by decide +kernel
theorem dX0_performPart_30 : decode cX0_performPart 30 = .ok (.getfield 19, 3) := by decide +kernel
theorem dX0_performPart_33 : decode cX0_performPart 33 = .ok (.iload_n 2, 1) := by decide +kernel
theorem dX0_performPart_34 : decode cX0_performPart 34 = .ok (.iaload, 1) := by decide +kernel
theorem dX0_performPart_35 : decode cX0_performPart 35 = .ok (.invokevirtual 79, 3) := by decide +kernel
theorem dX0_performPart_38 : decode cX0_performPart 38 = .ok (.istore_n 3, 1) := by decide +kernel
theorem dX0_performPart_39 : decode cX0_performPart 39 = .ok (.aload_n 0, 1) := by decide +kernel
theorem dX0_performPart_40 : decode cX0_performPart 40 = .ok (.getfield 15, 3) := by decide +kernel
theorem dX0_performPart_43 : decode cX0_performPart 43 = .ok (.iload_n 2, 1) := by decide +kernel
theorem dX0_performPart_44 : decode cX0_performPart 44 = .ok (.iaload, 1) := by decide +kernel
theorem dX0_performPart_45 : decode cX0_performPart 45 = .ok (.iconst 1, 1) := by decide +kernel
theorem dX0_performPart_46 : decode cX0_performPart 46 = .ok (.if_icmp .ne 9, 3) := by decide +kernel
theorem dX0_performPart_49 : decode cX0_performPart 49 = .ok (.aload_n 1, 1) := by decide +kernel
theorem dX0_performPart_50 : decode cX0_performPart 50 = .ok (.iload_n 3, 1) := by decide +kernel
theorem dX0_performPart_51 : decode cX0_performPart 51 = .ok (.invokevirtual 95, 3) := by decide +kernel
theorem dX0_performPart_54 : decode cX0_performPart 54 = .ok (.ireturn, 1) := by decide +kernel
theorem dX0_performPart_55 : decode cX0_performPart 55 = .ok (.aload_n 1, 1) := by decide +kernel
theorem dX0_performPart_56 : decode cX0_performPart 56 = .ok (.iload_n 3, 1) := by decide +kernel
theorem dX0_performPart_57 : decode cX0_performPart 57 = .ok (.aload_n 0, 1) := by decide +kernel
theorem dX0_performPart_58 : decode cX0_performPart 58 = .ok (.getfield 22, 3) := by decide +kernel
theorem dX0_performPart_61 : decode cX0_performPart 61 = .ok (.iload_n 2, 1) := by decide +kernel
theorem dX0_performPart_62 : decode cX0_performPart 62 = .ok (.iaload, 1) := by decide +kernel
theorem dX0_performPart_63 : decode cX0_performPart 63 = .ok (.aload_n 0, 1) := by decide +kernel
theorem dX0_performPart_64 : decode cX0_performPart 64 = .ok (.getfield 25, 3) := by decide +kernel
theorem dX0_performPart_67 : decode cX0_performPart 67 = .ok (.iload_n 2, 1) := by decide +kernel
theorem dX0_performPart_68 : decode cX0_performPart 68 = .ok (.iaload, 1) := by decide +kernel
theorem dX0_performPart_69 : decode cX0_performPart 69 = .ok (.invokevirtual 98, 3) := by decide +kernel
theorem dX0_performPart_72 : decode cX0_performPart 72 = .ok (.ireturn, 1) := by decide +kernel
end
section
theorem dX1_init_0 : decode cX1_init 0 = .ok (.aload_n 0, 1) := by decide +kernel
theorem dX1_init_1 : decode cX1_init 1 = .ok (.invokespecial 5, 3) := by decide +kernel
theorem dX1_init_4 : decode cX1_init 4 = .ok (.aload_n 0, 1) := by decide +kernel
theorem dX1_init_5 : decode cX1_init 5 = .ok (.bipush 6, 2) := by decide +kernel
theorem dX1_init_7 : decode cX1_init 7 = .ok (.newarray .int, 2) := by decide +kernel
theorem dX1_init_9 : decode cX1_init 9 = .ok (.putfield 11, 3) := by decide +kernel
theorem dX1_init_12 : decode cX1_init 12 = .ok (.aload_n 0, 1) := by decide +kernel
theorem dX1_init_13 : decode cX1_init 13 = .ok (.bipush 6, 2) := by decide +kernel
theorem dX1_init_15 : decode cX1_init 15 = .ok (.newarray .int, 2) := by decide +kernel
theorem dX1_init_17 : decode cX1_init 17 = .ok (.putfield 15, 3) := by decide +kernel
theorem dX1_init_20 : decode cX1_init 20 = .ok (.aload_n 0, 1) := by decide +kernel
theorem dX1_init_21 : decode cX1_init 21 = .ok (.bipush 6, 2) := by decide +kernel
theorem dX1_init_23 : decode cX1_init 23 = .ok (.newarray .int, 2) := by decide +kernel
theorem dX1_init_25 : decode cX1_init 25 = .ok (.putfield 18, 3) := by decide +kernel
theorem dX1_init_28 : decode cX1_init 28 = .ok (.aload_n 0, 1) := by decide +kernel
theorem dX1_init_29 : decode cX1_init 29 = .ok (.bipush 30, 2) := by decide +kernel
theorem dX1_init_31 : decode cX1_init 31 = .ok (.newarray .int, 2) := by decide +kernel
theorem dX1_init_33 : decode cX1_init 33 = .ok (.putfield 21, 3) := by decide +kernel
theorem dX1_init_36 : decode cX1_init 36 = .ok (.aload_n 0, 1) := by decide +kernel
theorem dX1_init_37 : decode cX1_init 37 = .ok (.bipush 30, 2) := by decide +kernel
theorem dX1_init_39 : decode cX1_init 39 = .ok (.newarray .int, 2) := by decide +kernel
theorem dX1_init_41 : decode cX1_init 41 = .ok (.putfield 24, 3) := by decide +kernel
theorem dX1_init_44 : decode cX1_init 44 = .ok (.aload_n 0, 1) := by decide +kernel
theorem dX1_init_45 : decode cX1_init 45 = .ok (.bipush 6, 2) := by decide +kernel
theorem dX1_init_47 : decode cX1_init 47 = .ok (.newarray .int, 2) := by decide +kernel
theorem dX1_init_49 : decode cX1_init 49 = .ok (.putfield 27, 3) := by decide +kernel
theorem dX1_init_52 : decode cX1_init 52 = .ok (.aload_n 0, 1) := by decide +kernel
theorem dX1_init_53 : decode cX1_init 53 = .ok (.bipush 6, 2) := by decide +kernel
theorem dX1_init_55 : decode cX1_init 55 = .ok (.newarray .int, 2) := by decide +kernel
theorem dX1_init_57 : decode cX1_init 57 = .ok (.putfield 30, 3) := by decide +kernel
theorem dX1_init_60 : decode cX1_init 60 = .ok (.aload_n 0, 1) := by decide +kernel
theorem dX1_init_61 : decode cX1_init 61 = .ok (.bipush 6, 2) := by decide +kernel
theorem dX1_init_63 : decode cX1_init 63 = .ok (.newarray .int, 2) := by decide +kernel
theorem dX1_init_65 : decode cX1_init 65 = .ok (.putfield 33, 3) := by decide +kernel
theorem dX1_init_68 : decode cX1_init 68 = .ok (.aload_n 0, 1) := by decide +kernel
theorem dX1_init_69 : decode cX1_init 69 = .ok (.sipush 729, 3) := by decide +kernel
theorem dX1_init_72 : decode cX1_init 72 = .ok (.newarray .long, 2) := by decide +kernel
theorem dX1_init_74 : decode cX1_init 74 = .ok (.putfield 36, 3) := by decide +kernel
theorem dX1_init_77 : decode cX1_init 77 = .ok (.aload_n 0, 1) := by decide +kernel
theorem dX1_init_78 : decode cX1_init 78 = .ok (.iconst 0, 1) := by decide +kernel
theorem dX1_init_79 : decode cX1_init 79 = .ok (.putfield 40, 3) := by decide +kernel
theorem dX1_init_82 : decode cX1_init 82 = .ok (.return_, 1) := by decide +kernel
set_option maxRecDepth 20000 in
theorem ggX1_load_X2_purseOf : GoodIn wsX1_load wsX2_purseOf := goodIn_r _ [11, 12, 13, 14, 15, 57, 58, 59, 60, 61, 62, 63, 64, 65, 66, 67] (by decide +kernel) (by decide +kernel)
set_option maxRecDepth 20000 in
theorem gX1_load_X2_purseOf : GoodIn wsX1_load (wsV RX1 44 RX2 yX2_purseOf wsX2_purseOf) := goodIn_app (goodIn_of _ (by decide +kernel)) ggX1_load_X2_purseOf
set_option maxRecDepth 20000 in
theorem ggX1_load_X2_debtsOf : GoodIn wsX1_load wsX2_debtsOf := goodIn_r _ [19, 20, 13, 14, 15, 57, 58, 59, 60, 61, 62, 63, 64, 65, 66, 67] (by decide +kernel) (by decide +kernel)
set_option maxRecDepth 20000 in
theorem gX1_load_X2_debtsOf : GoodIn wsX1_load (wsV RX1 50 RX2 yX2_debtsOf wsX2_debtsOf) := goodIn_app (goodIn_of _ (by decide +kernel)) ggX1_load_X2_debtsOf
set_option maxRecDepth 20000 in
theorem ggX1_load_X2_turnOf : GoodIn wsX1_load wsX2_turnOf := goodIn_r _ [24, 25, 17, 18, 10, 19, 20, 13, 14, 15, 26, 27, 28, 29, 30, 31, 32, 33, 34, 35, 57, 58, 59, 60, 61, 62, 63, 64, 65, 66, 67] (by decide +kernel) (by decide +kernel)
set_option maxRecDepth 20000 in
theorem gX1_load_X2_turnOf : GoodIn wsX1_load (wsV RX1 53 RX2 yX2_turnOf wsX2_turnOf) := goodIn_app (goodIn_of _ (by decide +kernel)) ggX1_load_X2_turnOf
set_option maxRecDepth 20000 in
theorem ggX1_load_X3_isWithin : GoodIn wsX1_load wsX3_isWithin := goodIn_r _ [37] (by decide +kernel) (by decide +kernel)
set_option maxRecDepth 20000 in
theorem gX1_load_X3_isWithin_n57 : GoodIn wsX1_load (wsX3_isWithin) := ggX1_load_X3_isWithin
set_option maxRecDepth 20000 in
theorem ggX1_load_X2_lenderOf : GoodIn wsX1_load wsX2_lenderOf := goodIn_r _ [41, 42, 32, 33, 34, 10, 35, 20, 57, 58, 59, 60, 61, 62, 63, 64, 65, 66, 67] (by decide +kernel) (by decide +kernel)
set_option maxRecDepth 20000 in
theorem gX1_load_X2_lenderOf : GoodIn wsX1_load (wsV RX1 61 RX2 yX2_lenderOf wsX2_lenderOf) := goodIn_app (goodIn_of _ (by decide +kernel)) ggX1_load_X2_lenderOf
set_option maxRecDepth 20000 in
theorem ggX1_load_X2_penceOf : GoodIn wsX1_load wsX2_penceOf := goodIn_r _ [46, 31, 32, 33, 34, 10, 35, 20, 57, 58, 59, 60, 61, 62, 63, 64, 65, 66, 67] (by decide +kernel) (by decide +kernel)
set_option maxRecDepth 20000 in
theorem gX1_load_X2_penceOf : GoodIn wsX1_load (wsV RX1 64 RX2 yX2_penceOf wsX2_penceOf) := goodIn_app (goodIn_of _ (by decide +kernel)) ggX1_load_X2_penceOf
theorem dX1_load_0 : decode cX1_load 0 = .ok (.iconst 0, 1) := by decide +kernel
theorem dX1_load_1 : decode cX1_load 1 = .ok (.istore_n 2, 1) := by decide +kernel
theorem dX1_load_2 : decode cX1_load 2 = .ok (.iload_n 2, 1) := by decide +kernel
theorem dX1_load_3 : decode cX1_load 3 = .ok (.bipush 6, 2) := by decide +kernel
theorem dX1_load_5 : decode cX1_load 5 = .ok (.if_icmp .ge 127, 3) := by decide +kernel
theorem dX1_load_8 : decode cX1_load 8 = .ok (.aload_n 0, 1) := by decide +kernel
theorem dX1_load_9 : decode cX1_load 9 = .ok (.getfield 11, 3) := by decide +kernel
theorem dX1_load_12 : decode cX1_load 12 = .ok (.iload_n 2, 1) := by decide +kernel
theorem dX1_load_13 : decode cX1_load 13 = .ok (.aload_n 1, 1) := by decide +kernel
theorem dX1_load_14 : decode cX1_load 14 = .ok (.iload_n 2, 1) := by decide +kernel
theorem dX1_load_15 : decode cX1_load 15 = .ok (.invokevirtual 44, 3) := by decide +kernel
theorem dX1_load_18 : decode cX1_load 18 = .ok (.iastore, 1) := by decide +kernel
theorem dX1_load_19 : decode cX1_load 19 = .ok (.aload_n 0, 1) := by decide +kernel
theorem dX1_load_20 : decode cX1_load 20 = .ok (.getfield 15, 3) := by decide +kernel
theorem dX1_load_23 : decode cX1_load 23 = .ok (.iload_n 2, 1) := by decide +kernel
theorem dX1_load_24 : decode cX1_load 24 = .ok (.aload_n 0, 1) := by decide +kernel
theorem dX1_load_25 : decode cX1_load 25 = .ok (.getfield 11, 3) := by decide +kernel
theorem dX1_load_28 : decode cX1_load 28 = .ok (.iload_n 2, 1) := by decide +kernel
theorem dX1_load_29 : decode cX1_load 29 = .ok (.iaload, 1) := by decide +kernel
theorem dX1_load_30 : decode cX1_load 30 = .ok (.iastore, 1) := by decide +kernel
theorem dX1_load_31 : decode cX1_load 31 = .ok (.aload_n 0, 1) := by decide +kernel
theorem dX1_load_32 : decode cX1_load 32 = .ok (.getfield 18, 3) := by decide +kernel
theorem dX1_load_35 : decode cX1_load 35 = .ok (.iload_n 2, 1) := by decide +kernel
theorem dX1_load_36 : decode cX1_load 36 = .ok (.aload_n 1, 1) := by decide +kernel
theorem dX1_load_37 : decode cX1_load 37 = .ok (.iload_n 2, 1) := by decide +kernel
theorem dX1_load_38 : decode cX1_load 38 = .ok (.invokevirtual 50, 3) := by decide +kernel
theorem dX1_load_41 : decode cX1_load 41 = .ok (.iastore, 1) := by decide +kernel
theorem dX1_load_42 : decode cX1_load 42 = .ok (.aload_n 0, 1) := by decide +kernel
theorem dX1_load_43 : decode cX1_load 43 = .ok (.getfield 27, 3) := by decide +kernel
theorem dX1_load_46 : decode cX1_load 46 = .ok (.iload_n 2, 1) := by decide +kernel
theorem dX1_load_47 : decode cX1_load 47 = .ok (.iconst 0, 1) := by decide +kernel
theorem dX1_load_48 : decode cX1_load 48 = .ok (.iastore, 1) := by decide +kernel
theorem dX1_load_49 : decode cX1_load 49 = .ok (.iconst 0, 1) := by decide +kernel
theorem dX1_load_50 : decode cX1_load 50 = .ok (.istore_n 3, 1) := by decide +kernel
theorem dX1_load_51 : decode cX1_load 51 = .ok (.iload_n 3, 1) := by decide +kernel
theorem dX1_load_52 : decode cX1_load 52 = .ok (.iconst 5, 1) := by decide +kernel
theorem dX1_load_53 : decode cX1_load 53 = .ok (.if_icmp .ge 73, 3) := by decide +kernel
theorem dX1_load_56 : decode cX1_load 56 = .ok (.iload_n 3, 1) := by decide +kernel
theorem dX1_load_57 : decode cX1_load 57 = .ok (.aload_n 0, 1) := by decide +kernel
theorem dX1_load_58 : decode cX1_load 58 = .ok (.getfield 18, 3) := by decide +kernel
theorem dX1_load_61 : decode cX1_load 61 = .ok (.iload_n 2, 1) := by decide +kernel
theorem dX1_load_62 : decode cX1_load 62 = .ok (.iaload, 1) := by decide +kernel
theorem dX1_load_63 : decode cX1_load 63 = .ok (.if_icmp .ge 63, 3) := by decide +kernel
theorem dX1_load_66 : decode cX1_load 66 = .ok (.aload_n 1, 1) := by decide +kernel
theorem dX1_load_67 : decode cX1_load 67 = .ok (.iload_n 2, 1) := by decide +kernel
theorem dX1_load_68 : decode cX1_load 68 = .ok (.iload_n 3, 1) := by decide +kernel
theorem dX1_load_69 : decode cX1_load 69 = .ok (.invokevirtual 53, 3) := by decide +kernel
theorem dX1_load_72 : decode cX1_load 72 = .ok (.istore 4, 2) := by decide +kernel
theorem dX1_load_74 : decode cX1_load 74 = .ok (.iload 4, 2) := by decide +kernel
theorem dX1_load_76 : decode cX1_load 76 = .ok (.iconst 1, 1) := by decide +kernel
theorem dX1_load_77 : decode cX1_load 77 = .ok (.iconst 5, 1) := by decide +kernel
theorem dX1_load_78 : decode cX1_load 78 = .ok (.invokestatic 57, 3) := by decide +kernel
theorem dX1_load_81 : decode cX1_load 81 = .ok (.ifCond .eq 39, 3) := by decide +kernel
theorem dX1_load_84 : decode cX1_load 84 = .ok (.iload_n 2, 1) := by decide +kernel
theorem dX1_load_85 : decode cX1_load 85 = .ok (.iconst 5, 1) := by decide +kernel
theorem dX1_load_86 : decode cX1_load 86 = .ok (.imul, 1) := by decide +kernel
theorem dX1_load_87 : decode cX1_load 87 = .ok (.iload 4, 2) := by decide +kernel
theorem dX1_load_89 : decode cX1_load 89 = .ok (.iadd, 1) := by decide +kernel
theorem dX1_load_90 : decode cX1_load 90 = .ok (.iconst 1, 1) := by decide +kernel
theorem dX1_load_91 : decode cX1_load 91 = .ok (.isub, 1) := by decide +kernel
theorem dX1_load_92 : decode cX1_load 92 = .ok (.istore 5, 2) := by decide +kernel
theorem dX1_load_94 : decode cX1_load 94 = .ok (.aload_n 0, 1) := by decide +kernel
theorem dX1_load_95 : decode cX1_load 95 = .ok (.getfield 21, 3) := by decide +kernel
theorem dX1_load_98 : decode cX1_load 98 = .ok (.iload 5, 2) := by decide +kernel
theorem dX1_load_100 : decode cX1_load 100 = .ok (.aload_n 1, 1) := by decide +kernel
theorem dX1_load_101 : decode cX1_load 101 = .ok (.iload_n 2, 1) := by decide +kernel
theorem dX1_load_102 : decode cX1_load 102 = .ok (.iload_n 3, 1) := by decide +kernel
theorem dX1_load_103 : decode cX1_load 103 = .ok (.invokevirtual 61, 3) := by decide +kernel
theorem dX1_load_106 : decode cX1_load 106 = .ok (.iastore, 1) := by decide +kernel
theorem dX1_load_107 : decode cX1_load 107 = .ok (.aload_n 0, 1) := by decide +kernel
theorem dX1_load_108 : decode cX1_load 108 = .ok (.getfield 24, 3) := by decide +kernel
theorem dX1_load_111 : decode cX1_load 111 = .ok (.iload 5, 2) := by decide +kernel
theorem dX1_load_113 : decode cX1_load 113 = .ok (.aload_n 1, 1) := by decide +kernel
theorem dX1_load_114 : decode cX1_load 114 = .ok (.iload_n 2, 1) := by decide +kernel
theorem dX1_load_115 : decode cX1_load 115 = .ok (.iload_n 3, 1) := by decide +kernel
theorem dX1_load_116 : decode cX1_load 116 = .ok (.invokevirtual 64, 3) := by decide +kernel
theorem dX1_load_119 : decode cX1_load 119 = .ok (.iastore, 1) := by decide +kernel
theorem dX1_load_120 : decode cX1_load 120 = .ok (.iinc 3 1, 3) := by decide +kernel
theorem dX1_load_123 : decode cX1_load 123 = .ok (.goto (-72), 3) := by decide +kernel
theorem dX1_load_126 : decode cX1_load 126 = .ok (.iinc 2 1, 3) := by decide +kernel
theorem dX1_load_129 : decode cX1_load 129 = .ok (.goto (-127), 3) := by decide +kernel
theorem dX1_load_132 : decode cX1_load 132 = .ok (.return_, 1) := by decide +kernel
theorem dX1_isPaidUp_0 : decode cX1_isPaidUp 0 = .ok (.aload_n 0, 1) := by decide +kernel
theorem dX1_isPaidUp_1 : decode cX1_isPaidUp 1 = .ok (.getfield 27, 3) := by decide +kernel
theorem dX1_isPaidUp_4 : decode cX1_isPaidUp 4 = .ok (.iload_n 1, 1) := by decide +kernel
theorem dX1_isPaidUp_5 : decode cX1_isPaidUp 5 = .ok (.iaload, 1) := by decide +kernel
theorem dX1_isPaidUp_6 : decode cX1_isPaidUp 6 = .ok (.ifCond .lt 28, 3) := by decide +kernel
theorem dX1_isPaidUp_9 : decode cX1_isPaidUp 9 = .ok (.aload_n 0, 1) := by decide +kernel
theorem dX1_isPaidUp_10 : decode cX1_isPaidUp 10 = .ok (.getfield 27, 3) := by decide +kernel
theorem dX1_isPaidUp_13 : decode cX1_isPaidUp 13 = .ok (.iload_n 1, 1) := by decide +kernel
theorem dX1_isPaidUp_14 : decode cX1_isPaidUp 14 = .ok (.iaload, 1) := by decide +kernel
theorem dX1_isPaidUp_15 : decode cX1_isPaidUp 15 = .ok (.iconst 5, 1) := by decide +kernel
theorem dX1_isPaidUp_16 : decode cX1_isPaidUp 16 = .ok (.if_icmp .ge 18, 3) := by decide +kernel
theorem dX1_isPaidUp_19 : decode cX1_isPaidUp 19 = .ok (.aload_n 0, 1) := by decide +kernel
theorem dX1_isPaidUp_20 : decode cX1_isPaidUp 20 = .ok (.getfield 27, 3) := by decide +kernel
theorem dX1_isPaidUp_23 : decode cX1_isPaidUp 23 = .ok (.iload_n 1, 1) := by decide +kernel
theorem dX1_isPaidUp_24 : decode cX1_isPaidUp 24 = .ok (.iaload, 1) := by decide +kernel
theorem dX1_isPaidUp_25 : decode cX1_isPaidUp 25 = .ok (.aload_n 0, 1) := by decide +kernel
theorem dX1_isPaidUp_26 : decode cX1_isPaidUp 26 = .ok (.getfield 18, 3) := by decide +kernel
theorem dX1_isPaidUp_29 : decode cX1_isPaidUp 29 = .ok (.iload_n 1, 1) := by decide +kernel
theorem dX1_isPaidUp_30 : decode cX1_isPaidUp 30 = .ok (.iaload, 1) := by decide +kernel
theorem dX1_isPaidUp_31 : decode cX1_isPaidUp 31 = .ok (.if_icmp .lt 7, 3) := by decide +kernel
theorem dX1_isPaidUp_34 : decode cX1_isPaidUp 34 = .ok (.iconst 1, 1) := by decide +kernel
theorem dX1_isPaidUp_35 : decode cX1_isPaidUp 35 = .ok (.goto 4, 3) := by decide +kernel
theorem dX1_isPaidUp_38 : decode cX1_isPaidUp 38 = .ok (.iconst 0, 1) := by decide +kernel
theorem dX1_isPaidUp_39 : decode cX1_isPaidUp 39 = .ok (.ireturn, 1) := by decide +kernel
set_option maxRecDepth 20000 in
theorem ggX1_canPay_X1_isPaidUp : GoodIn wsX1_canPay wsX1_isPaidUp := goodIn_r _ [8, 3, 9, 10, 11, 12, 13, 14, 15, 16, 17, 18, 19] (by decide +kernel) (by decide +kernel)
set_option maxRecDepth 20000 in
theorem gX1_canPay_X1_isPaidUp : GoodIn wsX1_canPay (wsV RX1 67 RX1 yX1_isPaidUp wsX1_isPaidUp) := goodIn_app (goodIn_of _ (by decide +kernel)) ggX1_canPay_X1_isPaidUp
theorem dX1_canPay_0 : decode cX1_canPay 0 = .ok (.aload_n 0, 1) := by decide +kernel
theorem dX1_canPay_1 : decode cX1_canPay 1 = .ok (.iload_n 1, 1) := by decide +kernel
theorem dX1_canPay_2 : decode cX1_canPay 2 = .ok (.invokevirtual 67, 3) := by decide +kernel
theorem dX1_canPay_5 : decode cX1_canPay 5 = .ok (.ifCond .ne 31, 3) := by decide +kernel
theorem dX1_canPay_8 : decode cX1_canPay 8 = .ok (.aload_n 0, 1) := by decide +kernel
theorem dX1_canPay_9 : decode cX1_canPay 9 = .ok (.getfield 15, 3) := by decide +kernel
theorem dX1_canPay_12 : decode cX1_canPay 12 = .ok (.iload_n 1, 1) := by decide +kernel
theorem dX1_canPay_13 : decode cX1_canPay 13 = .ok (.iaload, 1) := by decide +kernel
theorem dX1_canPay_14 : decode cX1_canPay 14 = .ok (.aload_n 0, 1) := by decide +kernel
theorem dX1_canPay_15 : decode cX1_canPay 15 = .ok (.getfield 24, 3) := by decide +kernel
theorem dX1_canPay_18 : decode cX1_canPay 18 = .ok (.iload_n 1, 1) := by decide +kernel
theorem dX1_canPay_19 : decode cX1_canPay 19 = .ok (.iconst 5, 1) := by decide +kernel
theorem dX1_canPay_20 : decode cX1_canPay 20 = .ok (.imul, 1) := by decide +kernel
theorem dX1_canPay_21 : decode cX1_canPay 21 = .ok (.aload_n 0, 1) := by decide +kernel
theorem dX1_canPay_22 : decode cX1_canPay 22 = .ok (.getfield 27, 3) := by decide +kernel
theorem dX1_canPay_25 : decode cX1_canPay 25 = .ok (.iload_n 1, 1) := by decide +kernel
theorem dX1_canPay_26 : decode cX1_canPay 26 = .ok (.iaload, 1) := by decide +kernel
theorem dX1_canPay_27 : decode cX1_canPay 27 = .ok (.iadd, 1) := by decide +kernel
theorem dX1_canPay_28 : decode cX1_canPay 28 = .ok (.iaload, 1) := by decide +kernel
theorem dX1_canPay_29 : decode cX1_canPay 29 = .ok (.if_icmp .lt 7, 3) := by decide +kernel
theorem dX1_canPay_32 : decode cX1_canPay 32 = .ok (.iconst 1, 1) := by decide +kernel
theorem dX1_canPay_33 : decode cX1_canPay 33 = .ok (.goto 4, 3) := by decide +kernel
theorem dX1_canPay_36 : decode cX1_canPay 36 = .ok (.iconst 0, 1) := by decide +kernel
theorem dX1_canPay_37 : decode cX1_canPay 37 = .ok (.ireturn, 1) := by decide +kernel
set_option maxRecDepth 20000 in
theorem ggX1_pay_X1_isPaidUp : GoodIn wsX1_pay wsX1_isPaidUp := goodIn_r _ [9, 1, 10, 14, 15, 16, 17, 18, 19, 20, 21, 22, 23] (by decide +kernel) (by decide +kernel)
set_option maxRecDepth 20000 in
theorem gX1_pay_X1_isPaidUp : GoodIn wsX1_pay (wsV RX1 67 RX1 yX1_isPaidUp wsX1_isPaidUp) := goodIn_app (goodIn_of _ (by decide +kernel)) ggX1_pay_X1_isPaidUp
set_option maxRecDepth 20000 in
theorem ggX1_pay_X3_isMan : GoodIn wsX1_pay wsX3_isMan := goodIn_r _ [13] (by decide +kernel) (by decide +kernel)
set_option maxRecDepth 20000 in
theorem gX1_pay_X3_isMan_n71 : GoodIn wsX1_pay (wsX3_isMan) := ggX1_pay_X3_isMan
theorem dX1_pay_0 : decode cX1_pay 0 = .ok (.aload_n 0, 1) := by decide +kernel
theorem dX1_pay_1 : decode cX1_pay 1 = .ok (.iload_n 1, 1) := by decide +kernel
theorem dX1_pay_2 : decode cX1_pay 2 = .ok (.invokevirtual 67, 3) := by decide +kernel
theorem dX1_pay_5 : decode cX1_pay 5 = .ok (.ifCond .eq 4, 3) := by decide +kernel
theorem dX1_pay_8 : decode cX1_pay 8 = .ok (.return_, 1) := by decide +kernel
theorem dX1_pay_9 : decode cX1_pay 9 = .ok (.iload_n 1, 1) := by decide +kernel
theorem dX1_pay_10 : decode cX1_pay 10 = .ok (.iconst 5, 1) := by decide +kernel
theorem dX1_pay_11 : decode cX1_pay 11 = .ok (.imul, 1) := by decide +kernel
theorem dX1_pay_12 : decode cX1_pay 12 = .ok (.aload_n 0, 1) := by decide +kernel
theorem dX1_pay_13 : decode cX1_pay 13 = .ok (.getfield 27, 3) := by decide +kernel
theorem dX1_pay_16 : decode cX1_pay 16 = .ok (.iload_n 1, 1) := by decide +kernel
theorem dX1_pay_17 : decode cX1_pay 17 = .ok (.iaload, 1) := by decide +kernel
theorem dX1_pay_18 : decode cX1_pay 18 = .ok (.iadd, 1) := by decide +kernel
theorem dX1_pay_19 : decode cX1_pay 19 = .ok (.istore_n 2, 1) := by decide +kernel
theorem dX1_pay_20 : decode cX1_pay 20 = .ok (.aload_n 0, 1) := by decide +kernel
theorem dX1_pay_21 : decode cX1_pay 21 = .ok (.getfield 27, 3) := by decide +kernel
theorem dX1_pay_24 : decode cX1_pay 24 = .ok (.iload_n 1, 1) := by decide +kernel
theorem dX1_pay_25 : decode cX1_pay 25 = .ok (.dup2, 1) := by decide +kernel
theorem dX1_pay_26 : decode cX1_pay 26 = .ok (.iaload, 1) := by decide +kernel
theorem dX1_pay_27 : decode cX1_pay 27 = .ok (.iconst 1, 1) := by decide +kernel
theorem dX1_pay_28 : decode cX1_pay 28 = .ok (.iadd, 1) := by decide +kernel
theorem dX1_pay_29 : decode cX1_pay 29 = .ok (.iastore, 1) := by decide +kernel
theorem dX1_pay_30 : decode cX1_pay 30 = .ok (.aload_n 0, 1) := by decide +kernel
theorem dX1_pay_31 : decode cX1_pay 31 = .ok (.getfield 15, 3) := by decide +kernel
theorem dX1_pay_34 : decode cX1_pay 34 = .ok (.iload_n 1, 1) := by decide +kernel
theorem dX1_pay_35 : decode cX1_pay 35 = .ok (.dup2, 1) := by decide +kernel
theorem dX1_pay_36 : decode cX1_pay 36 = .ok (.iaload, 1) := by decide +kernel
theorem dX1_pay_37 : decode cX1_pay 37 = .ok (.aload_n 0, 1) := by decide +kernel
theorem dX1_pay_38 : decode cX1_pay 38 = .ok (.getfield 24, 3) := by decide +kernel
theorem dX1_pay_41 : decode cX1_pay 41 = .ok (.iload_n 2, 1) := by decide +kernel
theorem dX1_pay_42 : decode cX1_pay 42 = .ok (.iaload, 1) := by decide +kernel
theorem dX1_pay_43 : decode cX1_pay 43 = .ok (.isub, 1) := by decide +kernel
theorem dX1_pay_44 : decode cX1_pay 44 = .ok (.iastore, 1) := by decide +kernel
theorem dX1_pay_45 : decode cX1_pay 45 = .ok (.aload_n 0, 1) := by decide +kernel
theorem dX1_pay_46 : decode cX1_pay 46 = .ok (.getfield 21, 3) := by decide +kernel
theorem dX1_pay_49 : decode cX1_pay 49 = .ok (.iload_n 2, 1) := by decide +kernel
theorem dX1_pay_50 : decode cX1_pay 50 = .ok (.iaload, 1) := by decide +kernel
theorem dX1_pay_51 : decode cX1_pay 51 = .ok (.invokestatic 71, 3) := by decide +kernel
theorem dX1_pay_54 : decode cX1_pay 54 = .ok (.ifCond .eq 23, 3) := by decide +kernel
theorem dX1_pay_57 : decode cX1_pay 57 = .ok (.aload_n 0, 1) := by decide +kernel
theorem dX1_pay_58 : decode cX1_pay 58 = .ok (.getfield 15, 3) := by decide +kernel
theorem dX1_pay_61 : decode cX1_pay 61 = .ok (.aload_n 0, 1) := by decide +kernel
theorem dX1_pay_62 : decode cX1_pay 62 = .ok (.getfield 21, 3) := by decide +kernel
theorem dX1_pay_65 : decode cX1_pay 65 = .ok (.iload_n 2, 1) := by decide +kernel
theorem dX1_pay_66 : decode cX1_pay 66 = .ok (.iaload, 1) := by decide +kernel
theorem dX1_pay_67 : decode cX1_pay 67 = .ok (.dup2, 1) := by decide +kernel
theorem dX1_pay_68 : decode cX1_pay 68 = .ok (.iaload, 1) := by decide +kernel
theorem dX1_pay_69 : decode cX1_pay 69 = .ok (.aload_n 0, 1) := by decide +kernel
theorem dX1_pay_70 : decode cX1_pay 70 = .ok (.getfield 24, 3) := by decide +kernel
theorem dX1_pay_73 : decode cX1_pay 73 = .ok (.iload_n 2, 1) := by decide +kernel
theorem dX1_pay_74 : decode cX1_pay 74 = .ok (.iaload, 1) := by decide +kernel
theorem dX1_pay_75 : decode cX1_pay 75 = .ok (.iadd, 1) := by decide +kernel
theorem dX1_pay_76 : decode cX1_pay 76 = .ok (.iastore, 1) := by decide +kernel
theorem dX1_pay_77 : decode cX1_pay 77 = .ok (.return_, 1) := by decide +kernel
set_option maxRecDepth 20000 in
theorem ggX1_payAllThatCan_X1_canPay : GoodIn wsX1_payAllThatCan wsX1_canPay := goodIn_r _ [5, 6, 7, 8, 9, 10, 11, 4, 12, 13, 22, 23, 24, 25, 26, 27, 28, 29, 30, 31] (by decide +kernel) (by decide +kernel)
set_option maxRecDepth 20000 in
theorem gX1_payAllThatCan_X1_canPay : GoodIn wsX1_payAllThatCan (wsV RX1 74 RX1 yX1_canPay wsX1_canPay) := goodIn_app (goodIn_of _ (by decide +kernel)) ggX1_payAllThatCan_X1_canPay
set_option maxRecDepth 20000 in
theorem ggX1_payAllThatCan_X1_pay : GoodIn wsX1_payAllThatCan wsX1_pay := goodIn_r _ [17, 8, 6, 7, 18, 9, 10, 11, 4, 12, 13, 19, 20, 21, 22, 23, 24, 25, 26, 27, 28, 29, 30, 31] (by decide +kernel) (by decide +kernel)
set_option maxRecDepth 20000 in
theorem gX1_payAllThatCan_X1_pay : GoodIn wsX1_payAllThatCan (wsV RX1 77 RX1 yX1_pay wsX1_pay) := goodIn_app (goodIn_of _ (by decide +kernel)) ggX1_payAllThatCan_X1_pay
theorem dX1_payAllThatCan_0 : decode cX1_payAllThatCan 0 = .ok (.iconst 1, 1) := by decide +kernel
theorem dX1_payAllThatCan_1 : decode cX1_payAllThatCan 1 = .ok (.istore_n 1, 1) := by decide +kernel
theorem dX1_payAllThatCan_2 : decode cX1_payAllThatCan 2 = .ok (.iconst 0, 1) := by decide +kernel
theorem dX1_payAllThatCan_3 : decode cX1_payAllThatCan 3 = .ok (.istore_n 2, 1) := by decide +kernel
theorem dX1_payAllThatCan_4 : decode cX1_payAllThatCan 4 = .ok (.iload_n 2, 1) := by decide +kernel
theorem dX1_payAllThatCan_5 : decode cX1_payAllThatCan 5 = .ok (.bipush 30, 2) := by decide +kernel
theorem dX1_payAllThatCan_7 : decode cX1_payAllThatCan 7 = .ok (.if_icmp .gt 59, 3) := by decide +kernel
theorem dX1_payAllThatCan_10 : decode cX1_payAllThatCan 10 = .ok (.iload_n 1, 1) := by decide +kernel
theorem dX1_payAllThatCan_11 : decode cX1_payAllThatCan 11 = .ok (.ifCond .eq 55, 3) := by decide +kernel
theorem dX1_payAllThatCan_14 : decode cX1_payAllThatCan 14 = .ok (.iconst 0, 1) := by decide +kernel
theorem dX1_payAllThatCan_15 : decode cX1_payAllThatCan 15 = .ok (.istore_n 1, 1) := by decide +kernel
theorem dX1_payAllThatCan_16 : decode cX1_payAllThatCan 16 = .ok (.iconst 0, 1) := by decide +kernel
theorem dX1_payAllThatCan_17 : decode cX1_payAllThatCan 17 = .ok (.istore_n 3, 1) := by decide +kernel
theorem dX1_payAllThatCan_18 : decode cX1_payAllThatCan 18 = .ok (.iload_n 3, 1) := by decide +kernel
theorem dX1_payAllThatCan_19 : decode cX1_payAllThatCan 19 = .ok (.bipush 6, 2) := by decide +kernel
theorem dX1_payAllThatCan_21 : decode cX1_payAllThatCan 21 = .ok (.if_icmp .ge 39, 3) := by decide +kernel
theorem dX1_payAllThatCan_24 : decode cX1_payAllThatCan 24 = .ok (.iconst 0, 1) := by decide +kernel
theorem dX1_payAllThatCan_25 : decode cX1_payAllThatCan 25 = .ok (.istore 4, 2) := by decide +kernel
theorem dX1_payAllThatCan_27 : decode cX1_payAllThatCan 27 = .ok (.iload 4, 2) := by decide +kernel
theorem dX1_payAllThatCan_29 : decode cX1_payAllThatCan 29 = .ok (.iconst 5, 1) := by decide +kernel
theorem dX1_payAllThatCan_30 : decode cX1_payAllThatCan 30 = .ok (.if_icmp .ge 24, 3) := by decide +kernel
theorem dX1_payAllThatCan_33 : decode cX1_payAllThatCan 33 = .ok (.aload_n 0, 1) := by decide +kernel
theorem dX1_payAllThatCan_34 : decode cX1_payAllThatCan 34 = .ok (.iload_n 3, 1) := by decide +kernel
theorem dX1_payAllThatCan_35 : decode cX1_payAllThatCan 35 = .ok (.invokevirtual 74, 3) := by decide +kernel
theorem dX1_payAllThatCan_38 : decode cX1_payAllThatCan 38 = .ok (.ifCond .eq 16, 3) := by decide +kernel
theorem dX1_payAllThatCan_41 : decode cX1_payAllThatCan 41 = .ok (.aload_n 0, 1) := by decide +kernel
theorem dX1_payAllThatCan_42 : decode cX1_payAllThatCan 42 = .ok (.iload_n 3, 1) := by decide +kernel
theorem dX1_payAllThatCan_43 : decode cX1_payAllThatCan 43 = .ok (.invokevirtual 77, 3) := by decide +kernel
theorem dX1_payAllThatCan_46 : decode cX1_payAllThatCan 46 = .ok (.iconst 1, 1) := by decide +kernel
theorem dX1_payAllThatCan_47 : decode cX1_payAllThatCan 47 = .ok (.istore_n 1, 1) := by decide +kernel
theorem dX1_payAllThatCan_48 : decode cX1_payAllThatCan 48 = .ok (.iinc 4 1, 3) := by decide +kernel
theorem dX1_payAllThatCan_51 : decode cX1_payAllThatCan 51 = .ok (.goto (-24), 3) := by decide +kernel
theorem dX1_payAllThatCan_54 : decode cX1_payAllThatCan 54 = .ok (.iinc 3 1, 3) := by decide +kernel
theorem dX1_payAllThatCan_57 : decode cX1_payAllThatCan 57 = .ok (.goto (-39), 3) := by decide +kernel
theorem dX1_payAllThatCan_60 : decode cX1_payAllThatCan 60 = .ok (.iinc 2 1, 3) := by decide +kernel
theorem dX1_payAllThatCan_63 : decode cX1_payAllThatCan 63 = .ok (.goto (-59), 3) := by decide +kernel
theorem dX1_payAllThatCan_66 : decode cX1_payAllThatCan 66 = .ok (.return_, 1) := by decide +kernel
set_option maxRecDepth 20000 in
theorem ggX1_stillOwing_X1_isPaidUp : GoodIn wsX1_stillOwing wsX1_isPaidUp := goodIn_r _ [5, 6, 7, 8, 9, 10, 11, 12, 13, 14, 15, 16, 17] (by decide +kernel) (by decide +kernel)
set_option maxRecDepth 20000 in
theorem gX1_stillOwing_X1_isPaidUp : GoodIn wsX1_stillOwing (wsV RX1 67 RX1 yX1_isPaidUp wsX1_isPaidUp) := goodIn_app (goodIn_of _ (by decide +kernel)) ggX1_stillOwing_X1_isPaidUp
theorem dX1_stillOwing_0 : decode cX1_stillOwing 0 = .ok (.iconst 0, 1) := by decide +kernel
theorem dX1_stillOwing_1 : decode cX1_stillOwing 1 = .ok (.istore_n 1, 1) := by decide +kernel
theorem dX1_stillOwing_2 : decode cX1_stillOwing 2 = .ok (.iconst 0, 1) := by decide +kernel
theorem dX1_stillOwing_3 : decode cX1_stillOwing 3 = .ok (.istore_n 2, 1) := by decide +kernel
theorem dX1_stillOwing_4 : decode cX1_stillOwing 4 = .ok (.iload_n 2, 1) := by decide +kernel
theorem dX1_stillOwing_5 : decode cX1_stillOwing 5 = .ok (.bipush 6, 2) := by decide +kernel
theorem dX1_stillOwing_7 : decode cX1_stillOwing 7 = .ok (.if_icmp .ge 27, 3) := by decide +kernel
theorem dX1_stillOwing_10 : decode cX1_stillOwing 10 = .ok (.iload_n 1, 1) := by decide +kernel
theorem dX1_stillOwing_11 : decode cX1_stillOwing 11 = .ok (.aload_n 0, 1) := by decide +kernel
theorem dX1_stillOwing_12 : decode cX1_stillOwing 12 = .ok (.iload_n 2, 1) := by decide +kernel
theorem dX1_stillOwing_13 : decode cX1_stillOwing 13 = .ok (.invokevirtual 67, 3) := by decide +kernel
theorem dX1_stillOwing_16 : decode cX1_stillOwing 16 = .ok (.ifCond .eq 7, 3) := by decide +kernel
theorem dX1_stillOwing_19 : decode cX1_stillOwing 19 = .ok (.iconst 0, 1) := by decide +kernel
theorem dX1_stillOwing_20 : decode cX1_stillOwing 20 = .ok (.goto 6, 3) := by decide +kernel
theorem dX1_stillOwing_23 : decode cX1_stillOwing 23 = .ok (.iconst 1, 1) := by decide +kernel
theorem dX1_stillOwing_24 : decode cX1_stillOwing 24 = .ok (.iload_n 2, 1) := by decide +kernel
theorem dX1_stillOwing_25 : decode cX1_stillOwing 25 = .ok (.ishl, 1) := by decide +kernel
theorem dX1_stillOwing_26 : decode cX1_stillOwing 26 = .ok (.ior, 1) := by decide +kernel
theorem dX1_stillOwing_27 : decode cX1_stillOwing 27 = .ok (.istore_n 1, 1) := by decide +kernel
theorem dX1_stillOwing_28 : decode cX1_stillOwing 28 = .ok (.iinc 2 1, 3) := by decide +kernel
theorem dX1_stillOwing_31 : decode cX1_stillOwing 31 = .ok (.goto (-27), 3) := by decide +kernel
theorem dX1_stillOwing_34 : decode cX1_stillOwing 34 = .ok (.iload_n 1, 1) := by decide +kernel
theorem dX1_stillOwing_35 : decode cX1_stillOwing 35 = .ok (.ireturn, 1) := by decide +kernel
set_option maxRecDepth 20000 in
theorem ggX1_leastHelp_X1_payAllThatCan : GoodIn wsX1_leastHelp wsX1_payAllThatCan := goodIn_r _ [8, 9, 10, 11, 7, 12, 3, 1, 2, 13, 14, 15, 16, 17, 18, 19, 20, 21, 22, 23, 24, 25, 30, 31, 32, 33, 34, 35, 36, 37, 38, 39] (by decide +kernel) (by decide +kernel)
set_option maxRecDepth 20000 in
theorem gX1_leastHelp_X1_payAllThatCan : GoodIn wsX1_leastHelp (wsV RX1 81 RX1 yX1_payAllThatCan wsX1_payAllThatCan) := goodIn_app (goodIn_of _ (by decide +kernel)) ggX1_leastHelp_X1_payAllThatCan
set_option maxRecDepth 20000 in
theorem ggX1_leastHelp_X1_stillOwing : GoodIn wsX1_leastHelp wsX1_stillOwing := goodIn_r _ [29, 13, 14, 15, 7, 16, 2, 17, 30, 31, 32, 33, 34, 35, 36, 37, 38, 39] (by decide +kernel) (by decide +kernel)
set_option maxRecDepth 20000 in
theorem gX1_leastHelp_X1_stillOwing : GoodIn wsX1_leastHelp (wsV RX1 84 RX1 yX1_stillOwing wsX1_stillOwing) := goodIn_app (goodIn_of _ (by decide +kernel)) ggX1_leastHelp_X1_stillOwing
set_option maxRecDepth 20000 in
theorem ggX1_leastHelp_X3_isMan : GoodIn wsX1_leastHelp wsX3_isMan := goodIn_r _ [25] (by decide +kernel) (by decide +kernel)
set_option maxRecDepth 20000 in
theorem gX1_leastHelp_X3_isMan_n71 : GoodIn wsX1_leastHelp (wsX3_isMan) := ggX1_leastHelp_X3_isMan
set_option maxRecDepth 20000 in
theorem ggX1_leastHelp_X1_isPaidUp : GoodIn wsX1_leastHelp wsX1_isPaidUp := goodIn_r _ [16, 2, 17, 30, 31, 32, 33, 34, 35, 36, 37, 38, 39] (by decide +kernel) (by decide +kernel)
set_option maxRecDepth 20000 in
theorem gX1_leastHelp_X1_isPaidUp : GoodIn wsX1_leastHelp (wsV RX1 67 RX1 yX1_isPaidUp wsX1_isPaidUp) := goodIn_app (goodIn_of _ (by decide +kernel)) ggX1_leastHelp_X1_isPaidUp
theorem dX1_leastHelp_0 : decode cX1_leastHelp 0 = .ok (.iconst 0, 1) := by decide +kernel
theorem dX1_leastHelp_1 : decode cX1_leastHelp 1 = .ok (.istore_n 2, 1) := by decide +kernel
theorem dX1_leastHelp_2 : decode cX1_leastHelp 2 = .ok (.iconst 0, 1) := by decide +kernel
theorem dX1_leastHelp_3 : decode cX1_leastHelp 3 = .ok (.istore_n 3, 1) := by decide +kernel
theorem dX1_leastHelp_4 : decode cX1_leastHelp 4 = .ok (.iload_n 3, 1) := by decide +kernel
theorem dX1_leastHelp_5 : decode cX1_leastHelp 5 = .ok (.iconst 5, 1) := by decide +kernel
theorem dX1_leastHelp_6 : decode cX1_leastHelp 6 = .ok (.if_icmp .gt 80, 3) := by decide +kernel
theorem dX1_leastHelp_9 : decode cX1_leastHelp 9 = .ok (.aload_n 0, 1) := by decide +kernel
theorem dX1_leastHelp_10 : decode cX1_leastHelp 10 = .ok (.invokevirtual 81, 3) := by decide +kernel
theorem dX1_leastHelp_13 : decode cX1_leastHelp 13 = .ok (.aload_n 0, 1) := by decide +kernel
theorem dX1_leastHelp_14 : decode cX1_leastHelp 14 = .ok (.invokevirtual 84, 3) := by decide +kernel
theorem dX1_leastHelp_17 : decode cX1_leastHelp 17 = .ok (.ifCond .ne 5, 3) := by decide +kernel
theorem dX1_leastHelp_20 : decode cX1_leastHelp 20 = .ok (.iload_n 2, 1) := by decide +kernel
theorem dX1_leastHelp_21 : decode cX1_leastHelp 21 = .ok (.ireturn, 1) := by decide +kernel
theorem dX1_leastHelp_22 : decode cX1_leastHelp 22 = .ok (.iload_n 1, 1) := by decide +kernel
theorem dX1_leastHelp_23 : decode cX1_leastHelp 23 = .ok (.invokestatic 71, 3) := by decide +kernel
theorem dX1_leastHelp_26 : decode cX1_leastHelp 26 = .ok (.ifCond .eq 11, 3) := by decide +kernel
theorem dX1_leastHelp_29 : decode cX1_leastHelp 29 = .ok (.aload_n 0, 1) := by decide +kernel
theorem dX1_leastHelp_30 : decode cX1_leastHelp 30 = .ok (.iload_n 1, 1) := by decide +kernel
theorem dX1_leastHelp_31 : decode cX1_leastHelp 31 = .ok (.invokevirtual 67, 3) := by decide +kernel
theorem dX1_leastHelp_34 : decode cX1_leastHelp 34 = .ok (.ifCond .eq 6, 3) := by decide +kernel
theorem dX1_leastHelp_37 : decode cX1_leastHelp 37 = .ok (.bipush (-6), 2) := by decide +kernel
theorem dX1_leastHelp_39 : decode cX1_leastHelp 39 = .ok (.ireturn, 1) := by decide +kernel
theorem dX1_leastHelp_40 : decode cX1_leastHelp 40 = .ok (.aload_n 0, 1) := by decide +kernel
theorem dX1_leastHelp_41 : decode cX1_leastHelp 41 = .ok (.getfield 24, 3) := by decide +kernel
theorem dX1_leastHelp_44 : decode cX1_leastHelp 44 = .ok (.iload_n 1, 1) := by decide +kernel
theorem dX1_leastHelp_45 : decode cX1_leastHelp 45 = .ok (.iconst 5, 1) := by decide +kernel
theorem dX1_leastHelp_46 : decode cX1_leastHelp 46 = .ok (.imul, 1) := by decide +kernel
theorem dX1_leastHelp_47 : decode cX1_leastHelp 47 = .ok (.aload_n 0, 1) := by decide +kernel
theorem dX1_leastHelp_48 : decode cX1_leastHelp 48 = .ok (.getfield 27, 3) := by decide +kernel
theorem dX1_leastHelp_51 : decode cX1_leastHelp 51 = .ok (.iload_n 1, 1) := by decide +kernel
theorem dX1_leastHelp_52 : decode cX1_leastHelp 52 = .ok (.iaload, 1) := by decide +kernel
theorem dX1_leastHelp_53 : decode cX1_leastHelp 53 = .ok (.iadd, 1) := by decide +kernel
theorem dX1_leastHelp_54 : decode cX1_leastHelp 54 = .ok (.iaload, 1) := by decide +kernel
theorem dX1_leastHelp_55 : decode cX1_leastHelp 55 = .ok (.aload_n 0, 1) := by decide +kernel
theorem dX1_leastHelp_56 : decode cX1_leastHelp 56 = .ok (.getfield 15, 3) := by decide +kernel
theorem dX1_leastHelp_59 : decode cX1_leastHelp 59 = .ok (.iload_n 1, 1) := by decide +kernel
theorem dX1_leastHelp_60 : decode cX1_leastHelp 60 = .ok (.iaload, 1) := by decide +kernel
theorem dX1_leastHelp_61 : decode cX1_leastHelp 61 = .ok (.isub, 1) := by decide +kernel
theorem dX1_leastHelp_62 : decode cX1_leastHelp 62 = .ok (.istore 4, 2) := by decide +kernel
theorem dX1_leastHelp_64 : decode cX1_leastHelp 64 = .ok (.aload_n 0, 1) := by decide +kernel
theorem dX1_leastHelp_65 : decode cX1_leastHelp 65 = .ok (.getfield 15, 3) := by decide +kernel
theorem dX1_leastHelp_68 : decode cX1_leastHelp 68 = .ok (.iload_n 1, 1) := by decide +kernel
theorem dX1_leastHelp_69 : decode cX1_leastHelp 69 = .ok (.dup2, 1) := by decide +kernel
theorem dX1_leastHelp_70 : decode cX1_leastHelp 70 = .ok (.iaload, 1) := by decide +kernel
theorem dX1_leastHelp_71 : decode cX1_leastHelp 71 = .ok (.iload 4, 2) := by decide +kernel
theorem dX1_leastHelp_73 : decode cX1_leastHelp 73 = .ok (.iadd, 1) := by decide +kernel
theorem dX1_leastHelp_74 : decode cX1_leastHelp 74 = .ok (.iastore, 1) := by decide +kernel
theorem dX1_leastHelp_75 : decode cX1_leastHelp 75 = .ok (.iload_n 2, 1) := by decide +kernel
theorem dX1_leastHelp_76 : decode cX1_leastHelp 76 = .ok (.iload 4, 2) := by decide +kernel
theorem dX1_leastHelp_78 : decode cX1_leastHelp 78 = .ok (.iadd, 1) := by decide +kernel
theorem dX1_leastHelp_79 : decode cX1_leastHelp 79 = .ok (.istore_n 2, 1) := by decide +kernel
theorem dX1_leastHelp_80 : decode cX1_leastHelp 80 = .ok (.iinc 3 1, 3) := by decide +kernel
theorem dX1_leastHelp_83 : decode cX1_leastHelp 83 = .ok (.goto (-79), 3) := by decide +kernel
theorem dX1_leastHelp_86 : decode cX1_leastHelp 86 = .ok (.bipush (-6), 2) := by decide +kernel
theorem dX1_leastHelp_88 : decode cX1_leastHelp 88 = .ok (.ireturn, 1) := by decide +kernel
set_option maxRecDepth 20000 in
theorem ggX1_fewest_X1_payAllThatCan : GoodIn wsX1_fewest wsX1_payAllThatCan := goodIn_r _ [7, 8, 9, 10, 6, 11, 12, 13, 1, 14, 15, 16, 17, 18, 19, 20, 21, 22, 23, 24, 25, 26, 76, 77, 78, 79, 80, 81, 82, 83, 84, 85] (by decide +kernel) (by decide +kernel)
set_option maxRecDepth 20000 in
theorem gX1_fewest_X1_payAllThatCan : GoodIn wsX1_fewest (wsV RX1 81 RX1 yX1_payAllThatCan wsX1_payAllThatCan) := goodIn_app (goodIn_of _ (by decide +kernel)) ggX1_fewest_X1_payAllThatCan
set_option maxRecDepth 20000 in
theorem ggX1_fewest_X3_isMan : GoodIn wsX1_fewest wsX3_isMan := goodIn_r _ [26] (by decide +kernel) (by decide +kernel)
set_option maxRecDepth 20000 in
theorem gX1_fewest_X3_isMan_n71 : GoodIn wsX1_fewest (wsX3_isMan) := ggX1_fewest_X3_isMan
set_option maxRecDepth 20000 in
theorem ggX1_fewest_X1_setLimits : GoodIn wsX1_fewest wsX1_setLimits := goodIn_r _ [30, 31, 1, 32, 33, 34, 35, 36, 37, 76, 77, 78, 79, 80, 81, 82, 83, 84, 85] (by decide +kernel) (by decide +kernel)
set_option maxRecDepth 20000 in
theorem gX1_fewest_X1_setLimits : GoodIn wsX1_fewest (wsV RX1 88 RX1 yX1_setLimits wsX1_setLimits) := goodIn_app (goodIn_of _ (by decide +kernel)) ggX1_fewest_X1_setLimits
set_option maxRecDepth 20000 in
theorem ggX1_fewest_J7_fill_d0a16 : GoodIn wsX1_fewest wsJ7_fill_d0a16 := goodIn_r _ [41] (by decide +kernel) (by decide +kernel)
set_option maxRecDepth 20000 in
theorem gX1_fewest_J7_fill_d0a16 : GoodIn wsX1_fewest (va_wsS RX1 92 yJ7_fill_d0a16 wsJ7_fill_d0a16) := goodIn_app (goodIn_of _ (by decide +kernel)) ggX1_fewest_J7_fill_d0a16
set_option maxRecDepth 20000 in
theorem ggX1_fewest_X1_mark : GoodIn wsX1_fewest wsX1_mark := goodIn_r _ [45, 46, 2, 76, 77, 78, 79, 80, 81, 82, 83, 84, 85] (by decide +kernel) (by decide +kernel)
set_option maxRecDepth 20000 in
theorem gX1_fewest_X1_mark : GoodIn wsX1_fewest (wsV RX1 98 RX1 yX1_mark wsX1_mark) := goodIn_app (goodIn_of _ (by decide +kernel)) ggX1_fewest_X1_mark
set_option maxRecDepth 20000 in
theorem ggX1_fewest_X1_spread : GoodIn wsX1_fewest wsX1_spread := goodIn_r _ [50, 37, 2, 51, 52, 53, 54, 55, 56, 57, 58, 59, 60, 61, 62, 6, 63, 1, 31, 32, 64, 65, 66, 67, 68, 12, 69, 70, 71, 72, 73, 74, 40, 75, 19, 20, 21, 22, 13, 23, 14, 15, 16, 17, 18, 24, 25, 26, 8, 9, 10, 11, 42, 43, 44, 45, 46, 76, 77, 78, 79, 80, 81, 82, 83, 84, 85] (by decide +kernel) (by decide +kernel)
set_option maxRecDepth 20000 in
theorem gX1_fewest_X1_spread : GoodIn wsX1_fewest (wsV RX1 101 RX1 yX1_spread wsX1_spread) := goodIn_app (goodIn_of _ (by decide +kernel)) ggX1_fewest_X1_spread
theorem dX1_fewest_0 : decode cX1_fewest 0 = .ok (.aload_n 0, 1) := by decide +kernel
theorem dX1_fewest_1 : decode cX1_fewest 1 = .ok (.invokevirtual 81, 3) := by decide +kernel
theorem dX1_fewest_4 : decode cX1_fewest 4 = .ok (.iload_n 1, 1) := by decide +kernel
theorem dX1_fewest_5 : decode cX1_fewest 5 = .ok (.invokestatic 71, 3) := by decide +kernel
theorem dX1_fewest_8 : decode cX1_fewest 8 = .ok (.ifCond .eq 13, 3) := by decide +kernel
theorem dX1_fewest_11 : decode cX1_fewest 11 = .ok (.aload_n 0, 1) := by decide +kernel
theorem dX1_fewest_12 : decode cX1_fewest 12 = .ok (.getfield 27, 3) := by decide +kernel
theorem dX1_fewest_15 : decode cX1_fewest 15 = .ok (.iload_n 1, 1) := by decide +kernel
theorem dX1_fewest_16 : decode cX1_fewest 16 = .ok (.iaload, 1) := by decide +kernel
theorem dX1_fewest_17 : decode cX1_fewest 17 = .ok (.iload_n 2, 1) := by decide +kernel
theorem dX1_fewest_18 : decode cX1_fewest 18 = .ok (.if_icmp .ge 6, 3) := by decide +kernel
theorem dX1_fewest_21 : decode cX1_fewest 21 = .ok (.bipush (-6), 2) := by decide +kernel
theorem dX1_fewest_23 : decode cX1_fewest 23 = .ok (.ireturn, 1) := by decide +kernel
theorem dX1_fewest_24 : decode cX1_fewest 24 = .ok (.aload_n 0, 1) := by decide +kernel
theorem dX1_fewest_25 : decode cX1_fewest 25 = .ok (.iload_n 1, 1) := by decide +kernel
theorem dX1_fewest_26 : decode cX1_fewest 26 = .ok (.iload_n 2, 1) := by decide +kernel
theorem dX1_fewest_27 : decode cX1_fewest 27 = .ok (.invokevirtual 88, 3) := by decide +kernel
theorem dX1_fewest_30 : decode cX1_fewest 30 = .ok (.aload_n 0, 1) := by decide +kernel
theorem dX1_fewest_31 : decode cX1_fewest 31 = .ok (.getfield 36, 3) := by decide +kernel
theorem dX1_fewest_34 : decode cX1_fewest 34 = .ok (.lconst 0, 1) := by decide +kernel
theorem dX1_fewest_35 : decode cX1_fewest 35 = .ok (.invokestatic 92, 3) := by decide +kernel
theorem dX1_fewest_38 : decode cX1_fewest 38 = .ok (.aload_n 0, 1) := by decide +kernel
theorem dX1_fewest_39 : decode cX1_fewest 39 = .ok (.iconst 0, 1) := by decide +kernel
theorem dX1_fewest_40 : decode cX1_fewest 40 = .ok (.invokevirtual 98, 3) := by decide +kernel
theorem dX1_fewest_43 : decode cX1_fewest 43 = .ok (.iconst 1, 1) := by decide +kernel
theorem dX1_fewest_44 : decode cX1_fewest 44 = .ok (.istore_n 3, 1) := by decide +kernel
theorem dX1_fewest_45 : decode cX1_fewest 45 = .ok (.iload_n 3, 1) := by decide +kernel
theorem dX1_fewest_46 : decode cX1_fewest 46 = .ok (.bipush 30, 2) := by decide +kernel
theorem dX1_fewest_48 : decode cX1_fewest 48 = .ok (.if_icmp .gt 19, 3) := by decide +kernel
theorem dX1_fewest_51 : decode cX1_fewest 51 = .ok (.aload_n 0, 1) := by decide +kernel
theorem dX1_fewest_52 : decode cX1_fewest 52 = .ok (.iload_n 1, 1) := by decide +kernel
theorem dX1_fewest_53 : decode cX1_fewest 53 = .ok (.invokevirtual 101, 3) := by decide +kernel
theorem dX1_fewest_56 : decode cX1_fewest 56 = .ok (.ifCond .eq 5, 3) := by decide +kernel
theorem dX1_fewest_59 : decode cX1_fewest 59 = .ok (.iload_n 3, 1) := by decide +kernel
theorem dX1_fewest_60 : decode cX1_fewest 60 = .ok (.ireturn, 1) := by decide +kernel
theorem dX1_fewest_61 : decode cX1_fewest 61 = .ok (.iinc 3 1, 3) := by decide +kernel
theorem dX1_fewest_64 : decode cX1_fewest 64 = .ok (.goto (-19), 3) := by decide +kernel
theorem dX1_fewest_67 : decode cX1_fewest 67 = .ok (.bipush (-6), 2) := by decide +kernel
theorem dX1_fewest_69 : decode cX1_fewest 69 = .ok (.ireturn, 1) := by decide +kernel
theorem dX1_setLimits_0 : decode cX1_setLimits 0 = .ok (.iconst 1, 1) := by decide +kernel
theorem dX1_setLimits_1 : decode cX1_setLimits 1 = .ok (.istore_n 3, 1) := by decide +kernel
theorem dX1_setLimits_2 : decode cX1_setLimits 2 = .ok (.iconst 0, 1) := by decide +kernel
theorem dX1_setLimits_3 : decode cX1_setLimits 3 = .ok (.istore 4, 2) := by decide +kernel
theorem dX1_setLimits_5 : decode cX1_setLimits 5 = .ok (.iload 4, 2) := by decide +kernel
theorem dX1_setLimits_7 : decode cX1_setLimits 7 = .ok (.bipush 6, 2) := by decide +kernel
theorem dX1_setLimits_9 : decode cX1_setLimits 9 = .ok (.if_icmp .ge 53, 3) := by decide +kernel
theorem dX1_setLimits_12 : decode cX1_setLimits 12 = .ok (.aload_n 0, 1) := by decide +kernel
theorem dX1_setLimits_13 : decode cX1_setLimits 13 = .ok (.getfield 30, 3) := by decide +kernel
theorem dX1_setLimits_16 : decode cX1_setLimits 16 = .ok (.iload 4, 2) := by decide +kernel
theorem dX1_setLimits_18 : decode cX1_setLimits 18 = .ok (.iload 4, 2) := by decide +kernel
theorem dX1_setLimits_20 : decode cX1_setLimits 20 = .ok (.iload_n 1, 1) := by decide +kernel
theorem dX1_setLimits_21 : decode cX1_setLimits 21 = .ok (.if_icmp .ne 7, 3) := by decide +kernel
theorem dX1_setLimits_24 : decode cX1_setLimits 24 = .ok (.iload_n 2, 1) := by decide +kernel
theorem dX1_setLimits_25 : decode cX1_setLimits 25 = .ok (.goto 10, 3) := by decide +kernel
theorem dX1_setLimits_28 : decode cX1_setLimits 28 = .ok (.aload_n 0, 1) := by decide +kernel
theorem dX1_setLimits_29 : decode cX1_setLimits 29 = .ok (.getfield 27, 3) := by decide +kernel
theorem dX1_setLimits_32 : decode cX1_setLimits 32 = .ok (.iload 4, 2) := by decide +kernel
theorem dX1_setLimits_34 : decode cX1_setLimits 34 = .ok (.iaload, 1) := by decide +kernel
theorem dX1_setLimits_35 : decode cX1_setLimits 35 = .ok (.iastore, 1) := by decide +kernel
theorem dX1_setLimits_36 : decode cX1_setLimits 36 = .ok (.aload_n 0, 1) := by decide +kernel
theorem dX1_setLimits_37 : decode cX1_setLimits 37 = .ok (.getfield 33, 3) := by decide +kernel
theorem dX1_setLimits_40 : decode cX1_setLimits 40 = .ok (.iload 4, 2) := by decide +kernel
theorem dX1_setLimits_42 : decode cX1_setLimits 42 = .ok (.iload_n 3, 1) := by decide +kernel
theorem dX1_setLimits_43 : decode cX1_setLimits 43 = .ok (.iastore, 1) := by decide +kernel
theorem dX1_setLimits_44 : decode cX1_setLimits 44 = .ok (.iload_n 3, 1) := by decide +kernel
theorem dX1_setLimits_45 : decode cX1_setLimits 45 = .ok (.aload_n 0, 1) := by decide +kernel
theorem dX1_setLimits_46 : decode cX1_setLimits 46 = .ok (.getfield 30, 3) := by decide +kernel
theorem dX1_setLimits_49 : decode cX1_setLimits 49 = .ok (.iload 4, 2) := by decide +kernel
theorem dX1_setLimits_51 : decode cX1_setLimits 51 = .ok (.iaload, 1) := by decide +kernel
theorem dX1_setLimits_52 : decode cX1_setLimits 52 = .ok (.iconst 1, 1) := by decide +kernel
theorem dX1_setLimits_53 : decode cX1_setLimits 53 = .ok (.iadd, 1) := by decide +kernel
theorem dX1_setLimits_54 : decode cX1_setLimits 54 = .ok (.imul, 1) := by decide +kernel
theorem dX1_setLimits_55 : decode cX1_setLimits 55 = .ok (.istore_n 3, 1) := by decide +kernel
theorem dX1_setLimits_56 : decode cX1_setLimits 56 = .ok (.iinc 4 1, 3) := by decide +kernel
theorem dX1_setLimits_59 : decode cX1_setLimits 59 = .ok (.goto (-54), 3) := by decide +kernel
theorem dX1_setLimits_62 : decode cX1_setLimits 62 = .ok (.aload_n 0, 1) := by decide +kernel
theorem dX1_setLimits_63 : decode cX1_setLimits 63 = .ok (.iload_n 3, 1) := by decide +kernel
theorem dX1_setLimits_64 : decode cX1_setLimits 64 = .ok (.bipush 64, 2) := by decide +kernel
theorem dX1_setLimits_66 : decode cX1_setLimits 66 = .ok (.iadd, 1) := by decide +kernel
theorem dX1_setLimits_67 : decode cX1_setLimits 67 = .ok (.iconst 1, 1) := by decide +kernel
theorem dX1_setLimits_68 : decode cX1_setLimits 68 = .ok (.isub, 1) := by decide +kernel
theorem dX1_setLimits_69 : decode cX1_setLimits 69 = .ok (.bipush 64, 2) := by decide +kernel
theorem dX1_setLimits_71 : decode cX1_setLimits 71 = .ok (.idiv, 1) := by decide +kernel
theorem dX1_setLimits_72 : decode cX1_setLimits 72 = .ok (.sipush 729, 3) := by decide +kernel
theorem dX1_setLimits_75 : decode cX1_setLimits 75 = .ok (.invokestatic 104, 3) := by decide +kernel
theorem dX1_setLimits_78 : decode cX1_setLimits 78 = .ok (.putfield 40, 3) := by decide +kernel
theorem dX1_setLimits_81 : decode cX1_setLimits 81 = .ok (.return_, 1) := by decide +kernel
set_option maxRecDepth 20000 in
theorem ggX1_spread_J13_numberOfTrailingZeros_95d88 : GoodIn wsX1_spread wsJ13_numberOfTrailingZeros_95d88 := goodIn_r _ [6, 7, 8, 9, 10, 11] (by decide +kernel) (by decide +kernel)
set_option maxRecDepth 20000 in
theorem gX1_spread_J13_numberOfTrailingZeros_95d88 : GoodIn wsX1_spread (va_wsS RX1 109 yJ13_numberOfTrailingZeros_95d88 wsJ13_numberOfTrailingZeros_95d88) := goodIn_app (goodIn_of _ (by decide +kernel)) ggX1_spread_J13_numberOfTrailingZeros_95d88
set_option maxRecDepth 20000 in
theorem ggX1_spread_X1_leave : GoodIn wsX1_spread wsX1_leave := goodIn_r _ [16, 17, 18, 19, 20, 21, 22, 15, 23, 24, 25, 26, 27, 28, 29, 30, 31, 32, 33, 34, 35, 36, 37, 38, 39, 40, 41, 42, 43, 44, 45, 46, 47, 48, 49, 50, 51, 52, 53, 54, 55, 56, 2, 57, 58, 59, 60, 61, 62, 63, 64, 65, 66] (by decide +kernel) (by decide +kernel)
set_option maxRecDepth 20000 in
theorem gX1_spread_X1_leave : GoodIn wsX1_spread (wsV RX1 115 RX1 yX1_leave wsX1_leave) := goodIn_app (goodIn_of _ (by decide +kernel)) ggX1_spread_X1_leave
theorem dX1_spread_0 : decode cX1_spread 0 = .ok (.aload_n 0, 1) := by decide +kernel
theorem dX1_spread_1 : decode cX1_spread 1 = .ok (.getfield 40, 3) := by decide +kernel
theorem dX1_spread_4 : decode cX1_spread 4 = .ok (.iconst 1, 1) := by decide +kernel
theorem dX1_spread_5 : decode cX1_spread 5 = .ok (.isub, 1) := by decide +kernel
theorem dX1_spread_6 : decode cX1_spread 6 = .ok (.istore_n 2, 1) := by decide +kernel
theorem dX1_spread_7 : decode cX1_spread 7 = .ok (.iload_n 2, 1) := by decide +kernel
theorem dX1_spread_8 : decode cX1_spread 8 = .ok (.ifCond .lt 74, 3) := by decide +kernel
theorem dX1_spread_11 : decode cX1_spread 11 = .ok (.aload_n 0, 1) := by decide +kernel
theorem dX1_spread_12 : decode cX1_spread 12 = .ok (.getfield 36, 3) := by decide +kernel
theorem dX1_spread_15 : decode cX1_spread 15 = .ok (.iload_n 2, 1) := by decide +kernel
theorem dX1_spread_16 : decode cX1_spread 16 = .ok (.laload, 1) := by decide +kernel
theorem dX1_spread_17 : decode cX1_spread 17 = .ok (.lstore_n 3, 1) := by decide +kernel
theorem dX1_spread_18 : decode cX1_spread 18 = .ok (.aload_n 0, 1) := by decide +kernel
theorem dX1_spread_19 : decode cX1_spread 19 = .ok (.getfield 36, 3) := by decide +kernel
theorem dX1_spread_22 : decode cX1_spread 22 = .ok (.iload_n 2, 1) := by decide +kernel
theorem dX1_spread_23 : decode cX1_spread 23 = .ok (.lconst 0, 1) := by decide +kernel
theorem dX1_spread_24 : decode cX1_spread 24 = .ok (.lastore, 1) := by decide +kernel
theorem dX1_spread_25 : decode cX1_spread 25 = .ok (.iconst 0, 1) := by decide +kernel
theorem dX1_spread_26 : decode cX1_spread 26 = .ok (.istore 5, 2) := by decide +kernel
theorem dX1_spread_28 : decode cX1_spread 28 = .ok (.iload 5, 2) := by decide +kernel
theorem dX1_spread_30 : decode cX1_spread 30 = .ok (.bipush 64, 2) := by decide +kernel
theorem dX1_spread_32 : decode cX1_spread 32 = .ok (.if_icmp .ge 44, 3) := by decide +kernel
theorem dX1_spread_35 : decode cX1_spread 35 = .ok (.lload_n 3, 1) := by decide +kernel
theorem dX1_spread_36 : decode cX1_spread 36 = .ok (.lconst 0, 1) := by decide +kernel
theorem dX1_spread_37 : decode cX1_spread 37 = .ok (.lcmp, 1) := by decide +kernel
theorem dX1_spread_38 : decode cX1_spread 38 = .ok (.ifCond .eq 38, 3) := by decide +kernel
theorem dX1_spread_41 : decode cX1_spread 41 = .ok (.lload_n 3, 1) := by decide +kernel
theorem dX1_spread_42 : decode cX1_spread 42 = .ok (.invokestatic 109, 3) := by decide +kernel
theorem dX1_spread_45 : decode cX1_spread 45 = .ok (.istore 6, 2) := by decide +kernel
theorem dX1_spread_47 : decode cX1_spread 47 = .ok (.lload_n 3, 1) := by decide +kernel
theorem dX1_spread_48 : decode cX1_spread 48 = .ok (.lload_n 3, 1) := by decide +kernel
theorem dX1_spread_49 : decode cX1_spread 49 = .ok (.lconst 1, 1) := by decide +kernel
theorem dX1_spread_50 : decode cX1_spread 50 = .ok (.lsub, 1) := by decide +kernel
theorem dX1_spread_51 : decode cX1_spread 51 = .ok (.land, 1) := by decide +kernel
theorem dX1_spread_52 : decode cX1_spread 52 = .ok (.lstore_n 3, 1) := by decide +kernel
theorem dX1_spread_53 : decode cX1_spread 53 = .ok (.aload_n 0, 1) := by decide +kernel
theorem dX1_spread_54 : decode cX1_spread 54 = .ok (.iload_n 2, 1) := by decide +kernel
theorem dX1_spread_55 : decode cX1_spread 55 = .ok (.bipush 64, 2) := by decide +kernel
theorem dX1_spread_57 : decode cX1_spread 57 = .ok (.imul, 1) := by decide +kernel
theorem dX1_spread_58 : decode cX1_spread 58 = .ok (.iload 6, 2) := by decide +kernel
theorem dX1_spread_60 : decode cX1_spread 60 = .ok (.iadd, 1) := by decide +kernel
theorem dX1_spread_61 : decode cX1_spread 61 = .ok (.iload_n 1, 1) := by decide +kernel
theorem dX1_spread_62 : decode cX1_spread 62 = .ok (.invokevirtual 115, 3) := by decide +kernel
theorem dX1_spread_65 : decode cX1_spread 65 = .ok (.ifCond .eq 5, 3) := by decide +kernel
theorem dX1_spread_68 : decode cX1_spread 68 = .ok (.iconst 1, 1) := by decide +kernel
theorem dX1_spread_69 : decode cX1_spread 69 = .ok (.ireturn, 1) := by decide +kernel
theorem dX1_spread_70 : decode cX1_spread 70 = .ok (.iinc 5 1, 3) := by decide +kernel
theorem dX1_spread_73 : decode cX1_spread 73 = .ok (.goto (-45), 3) := by decide +kernel
theorem dX1_spread_76 : decode cX1_spread 76 = .ok (.iinc 2 (-1), 3) := by decide +kernel
theorem dX1_spread_79 : decode cX1_spread 79 = .ok (.goto (-72), 3) := by decide +kernel
theorem dX1_spread_82 : decode cX1_spread 82 = .ok (.iconst 0, 1) := by decide +kernel
theorem dX1_spread_83 : decode cX1_spread 83 = .ok (.ireturn, 1) := by decide +kernel
set_option maxRecDepth 20000 in
theorem ggX1_leave_X1_standAt : GoodIn wsX1_leave wsX1_standAt := goodIn_r _ [8, 9, 10, 11, 12, 13, 14, 1, 2, 15, 16, 17, 18, 19, 20, 21, 7, 22, 23, 24, 25, 26, 27, 28, 29, 30, 31, 32, 43, 44, 45, 46, 47, 48, 49, 50, 51, 52] (by decide +kernel) (by decide +kernel)
set_option maxRecDepth 20000 in
theorem gX1_leave_X1_standAt : GoodIn wsX1_leave (wsV RX1 119 RX1 yX1_standAt wsX1_standAt) := goodIn_app (goodIn_of _ (by decide +kernel)) ggX1_leave_X1_standAt
set_option maxRecDepth 20000 in
theorem ggX1_leave_X1_canPay : GoodIn wsX1_leave wsX1_canPay := goodIn_r _ [36, 10, 23, 1, 25, 26, 27, 7, 28, 29, 43, 44, 45, 46, 47, 48, 49, 50, 51, 52] (by decide +kernel) (by decide +kernel)
set_option maxRecDepth 20000 in
theorem gX1_leave_X1_canPay : GoodIn wsX1_leave (wsV RX1 74 RX1 yX1_canPay wsX1_canPay) := goodIn_app (goodIn_of _ (by decide +kernel)) ggX1_leave_X1_canPay
set_option maxRecDepth 20000 in
theorem ggX1_leave_X1_mark : GoodIn wsX1_leave wsX1_mark := goodIn_r _ [40, 41, 42, 43, 44, 45, 46, 47, 48, 49, 50, 51, 52] (by decide +kernel) (by decide +kernel)
set_option maxRecDepth 20000 in
theorem gX1_leave_X1_mark : GoodIn wsX1_leave (wsV RX1 98 RX1 yX1_mark wsX1_mark) := goodIn_app (goodIn_of _ (by decide +kernel)) ggX1_leave_X1_mark
theorem dX1_leave_0 : decode cX1_leave 0 = .ok (.aload_n 0, 1) := by decide +kernel
theorem dX1_leave_1 : decode cX1_leave 1 = .ok (.iload_n 1, 1) := by decide +kernel
theorem dX1_leave_2 : decode cX1_leave 2 = .ok (.invokevirtual 119, 3) := by decide +kernel
theorem dX1_leave_5 : decode cX1_leave 5 = .ok (.iconst 0, 1) := by decide +kernel
theorem dX1_leave_6 : decode cX1_leave 6 = .ok (.istore_n 3, 1) := by decide +kernel
theorem dX1_leave_7 : decode cX1_leave 7 = .ok (.iload_n 3, 1) := by decide +kernel
theorem dX1_leave_8 : decode cX1_leave 8 = .ok (.bipush 6, 2) := by decide +kernel
theorem dX1_leave_10 : decode cX1_leave 10 = .ok (.if_icmp .ge 68, 3) := by decide +kernel
theorem dX1_leave_13 : decode cX1_leave 13 = .ok (.aload_n 0, 1) := by decide +kernel
theorem dX1_leave_14 : decode cX1_leave 14 = .ok (.getfield 27, 3) := by decide +kernel
theorem dX1_leave_17 : decode cX1_leave 17 = .ok (.iload_n 3, 1) := by decide +kernel
theorem dX1_leave_18 : decode cX1_leave 18 = .ok (.iaload, 1) := by decide +kernel
theorem dX1_leave_19 : decode cX1_leave 19 = .ok (.aload_n 0, 1) := by decide +kernel
theorem dX1_leave_20 : decode cX1_leave 20 = .ok (.getfield 30, 3) := by decide +kernel
theorem dX1_leave_23 : decode cX1_leave 23 = .ok (.iload_n 3, 1) := by decide +kernel
theorem dX1_leave_24 : decode cX1_leave 24 = .ok (.iaload, 1) := by decide +kernel
theorem dX1_leave_25 : decode cX1_leave 25 = .ok (.if_icmp .ge 47, 3) := by decide +kernel
theorem dX1_leave_28 : decode cX1_leave 28 = .ok (.aload_n 0, 1) := by decide +kernel
theorem dX1_leave_29 : decode cX1_leave 29 = .ok (.iload_n 3, 1) := by decide +kernel
theorem dX1_leave_30 : decode cX1_leave 30 = .ok (.invokevirtual 74, 3) := by decide +kernel
theorem dX1_leave_33 : decode cX1_leave 33 = .ok (.ifCond .eq 39, 3) := by decide +kernel
theorem dX1_leave_36 : decode cX1_leave 36 = .ok (.iload_n 3, 1) := by decide +kernel
theorem dX1_leave_37 : decode cX1_leave 37 = .ok (.iload_n 2, 1) := by decide +kernel
theorem dX1_leave_38 : decode cX1_leave 38 = .ok (.if_icmp .ne 22, 3) := by decide +kernel
theorem dX1_leave_41 : decode cX1_leave 41 = .ok (.aload_n 0, 1) := by decide +kernel
theorem dX1_leave_42 : decode cX1_leave 42 = .ok (.getfield 27, 3) := by decide +kernel
theorem dX1_leave_45 : decode cX1_leave 45 = .ok (.iload_n 3, 1) := by decide +kernel
theorem dX1_leave_46 : decode cX1_leave 46 = .ok (.iaload, 1) := by decide +kernel
theorem dX1_leave_47 : decode cX1_leave 47 = .ok (.iconst 1, 1) := by decide +kernel
theorem dX1_leave_48 : decode cX1_leave 48 = .ok (.iadd, 1) := by decide +kernel
theorem dX1_leave_49 : decode cX1_leave 49 = .ok (.aload_n 0, 1) := by decide +kernel
theorem dX1_leave_50 : decode cX1_leave 50 = .ok (.getfield 30, 3) := by decide +kernel
theorem dX1_leave_53 : decode cX1_leave 53 = .ok (.iload_n 3, 1) := by decide +kernel
theorem dX1_leave_54 : decode cX1_leave 54 = .ok (.iaload, 1) := by decide +kernel
theorem dX1_leave_55 : decode cX1_leave 55 = .ok (.if_icmp .ne 5, 3) := by decide +kernel
theorem dX1_leave_58 : decode cX1_leave 58 = .ok (.iconst 1, 1) := by decide +kernel
theorem dX1_leave_59 : decode cX1_leave 59 = .ok (.ireturn, 1) := by decide +kernel
theorem dX1_leave_60 : decode cX1_leave 60 = .ok (.aload_n 0, 1) := by decide +kernel
theorem dX1_leave_61 : decode cX1_leave 61 = .ok (.iload_n 1, 1) := by decide +kernel
theorem dX1_leave_62 : decode cX1_leave 62 = .ok (.aload_n 0, 1) := by decide +kernel
theorem dX1_leave_63 : decode cX1_leave 63 = .ok (.getfield 33, 3) := by decide +kernel
theorem dX1_leave_66 : decode cX1_leave 66 = .ok (.iload_n 3, 1) := by decide +kernel
theorem dX1_leave_67 : decode cX1_leave 67 = .ok (.iaload, 1) := by decide +kernel
theorem dX1_leave_68 : decode cX1_leave 68 = .ok (.iadd, 1) := by decide +kernel
theorem dX1_leave_69 : decode cX1_leave 69 = .ok (.invokevirtual 98, 3) := by decide +kernel
theorem dX1_leave_72 : decode cX1_leave 72 = .ok (.iinc 3 1, 3) := by decide +kernel
theorem dX1_leave_75 : decode cX1_leave 75 = .ok (.goto (-68), 3) := by decide +kernel
theorem dX1_leave_78 : decode cX1_leave 78 = .ok (.iconst 0, 1) := by decide +kernel
theorem dX1_leave_79 : decode cX1_leave 79 = .ok (.ireturn, 1) := by decide +kernel
set_option maxRecDepth 20000 in
theorem ggX1_standAt_J7_fill_53178 : GoodIn wsX1_standAt wsJ7_fill_53178 := goodIn_r _ [12] (by decide +kernel) (by decide +kernel)
set_option maxRecDepth 20000 in
theorem gX1_standAt_J7_fill_53178 : GoodIn wsX1_standAt (va_wsS RX1 128 yJ7_fill_53178 wsJ7_fill_53178) := goodIn_app (goodIn_of _ (by decide +kernel)) ggX1_standAt_J7_fill_53178
set_option maxRecDepth 20000 in
theorem ggX1_standAt_X1_pay : GoodIn wsX1_standAt wsX1_pay := goodIn_r _ [17, 7, 2, 18, 19, 20, 21, 22, 16, 23, 24, 25, 26, 27, 28, 29, 30, 31, 32, 33, 34, 35, 36, 37] (by decide +kernel) (by decide +kernel)
set_option maxRecDepth 20000 in
theorem gX1_standAt_X1_pay : GoodIn wsX1_standAt (wsV RX1 77 RX1 yX1_pay wsX1_pay) := goodIn_app (goodIn_of _ (by decide +kernel)) ggX1_standAt_X1_pay
theorem dX1_standAt_0 : decode cX1_standAt 0 = .ok (.aload_n 0, 1) := by decide +kernel
theorem dX1_standAt_1 : decode cX1_standAt 1 = .ok (.getfield 11, 3) := by decide +kernel
theorem dX1_standAt_4 : decode cX1_standAt 4 = .ok (.iconst 0, 1) := by decide +kernel
theorem dX1_standAt_5 : decode cX1_standAt 5 = .ok (.aload_n 0, 1) := by decide +kernel
theorem dX1_standAt_6 : decode cX1_standAt 6 = .ok (.getfield 15, 3) := by decide +kernel
theorem dX1_standAt_9 : decode cX1_standAt 9 = .ok (.iconst 0, 1) := by decide +kernel
theorem dX1_standAt_10 : decode cX1_standAt 10 = .ok (.bipush 6, 2) := by decide +kernel
theorem dX1_standAt_12 : decode cX1_standAt 12 = .ok (.invokestatic 122, 3) := by decide +kernel
theorem dX1_standAt_15 : decode cX1_standAt 15 = .ok (.aload_n 0, 1) := by decide +kernel
theorem dX1_standAt_16 : decode cX1_standAt 16 = .ok (.getfield 27, 3) := by decide +kernel
theorem dX1_standAt_19 : decode cX1_standAt 19 = .ok (.iconst 0, 1) := by decide +kernel
theorem dX1_standAt_20 : decode cX1_standAt 20 = .ok (.invokestatic 128, 3) := by decide +kernel
theorem dX1_standAt_23 : decode cX1_standAt 23 = .ok (.iload_n 1, 1) := by decide +kernel
theorem dX1_standAt_24 : decode cX1_standAt 24 = .ok (.istore_n 2, 1) := by decide +kernel
theorem dX1_standAt_25 : decode cX1_standAt 25 = .ok (.iconst 0, 1) := by decide +kernel
theorem dX1_standAt_26 : decode cX1_standAt 26 = .ok (.istore_n 3, 1) := by decide +kernel
theorem dX1_standAt_27 : decode cX1_standAt 27 = .ok (.iload_n 3, 1) := by decide +kernel
theorem dX1_standAt_28 : decode cX1_standAt 28 = .ok (.bipush 6, 2) := by decide +kernel
theorem dX1_standAt_30 : decode cX1_standAt 30 = .ok (.if_icmp .ge 56, 3) := by decide +kernel
theorem dX1_standAt_33 : decode cX1_standAt 33 = .ok (.aload_n 0, 1) := by decide +kernel
theorem dX1_standAt_34 : decode cX1_standAt 34 = .ok (.getfield 30, 3) := by decide +kernel
theorem dX1_standAt_37 : decode cX1_standAt 37 = .ok (.iload_n 3, 1) := by decide +kernel
theorem dX1_standAt_38 : decode cX1_standAt 38 = .ok (.iaload, 1) := by decide +kernel
theorem dX1_standAt_39 : decode cX1_standAt 39 = .ok (.iconst 1, 1) := by decide +kernel
theorem dX1_standAt_40 : decode cX1_standAt 40 = .ok (.iadd, 1) := by decide +kernel
theorem dX1_standAt_41 : decode cX1_standAt 41 = .ok (.istore 4, 2) := by decide +kernel
theorem dX1_standAt_43 : decode cX1_standAt 43 = .ok (.iload 4, 2) := by decide +kernel
theorem dX1_standAt_45 : decode cX1_standAt 45 = .ok (.ifCond .le 35, 3) := by decide +kernel
theorem dX1_standAt_48 : decode cX1_standAt 48 = .ok (.iload_n 2, 1) := by decide +kernel
theorem dX1_standAt_49 : decode cX1_standAt 49 = .ok (.iload 4, 2) := by decide +kernel
theorem dX1_standAt_51 : decode cX1_standAt 51 = .ok (.irem, 1) := by decide +kernel
theorem dX1_standAt_52 : decode cX1_standAt 52 = .ok (.istore 5, 2) := by decide +kernel
theorem dX1_standAt_54 : decode cX1_standAt 54 = .ok (.iload_n 2, 1) := by decide +kernel
theorem dX1_standAt_55 : decode cX1_standAt 55 = .ok (.iload 4, 2) := by decide +kernel
theorem dX1_standAt_57 : decode cX1_standAt 57 = .ok (.idiv, 1) := by decide +kernel
theorem dX1_standAt_58 : decode cX1_standAt 58 = .ok (.istore_n 2, 1) := by decide +kernel
theorem dX1_standAt_59 : decode cX1_standAt 59 = .ok (.iconst 0, 1) := by decide +kernel
theorem dX1_standAt_60 : decode cX1_standAt 60 = .ok (.istore 6, 2) := by decide +kernel
theorem dX1_standAt_62 : decode cX1_standAt 62 = .ok (.iload 6, 2) := by decide +kernel
theorem dX1_standAt_64 : decode cX1_standAt 64 = .ok (.iload 5, 2) := by decide +kernel
theorem dX1_standAt_66 : decode cX1_standAt 66 = .ok (.if_icmp .ge 14, 3) := by decide +kernel
theorem dX1_standAt_69 : decode cX1_standAt 69 = .ok (.aload_n 0, 1) := by decide +kernel
theorem dX1_standAt_70 : decode cX1_standAt 70 = .ok (.iload_n 3, 1) := by decide +kernel
theorem dX1_standAt_71 : decode cX1_standAt 71 = .ok (.invokevirtual 77, 3) := by decide +kernel
theorem dX1_standAt_74 : decode cX1_standAt 74 = .ok (.iinc 6 1, 3) := by decide +kernel
theorem dX1_standAt_77 : decode cX1_standAt 77 = .ok (.goto (-15), 3) := by decide +kernel
theorem dX1_standAt_80 : decode cX1_standAt 80 = .ok (.iinc 3 1, 3) := by decide +kernel
theorem dX1_standAt_83 : decode cX1_standAt 83 = .ok (.goto (-56), 3) := by decide +kernel
theorem dX1_standAt_86 : decode cX1_standAt 86 = .ok (.return_, 1) := by decide +kernel
theorem dX1_mark_0 : decode cX1_mark 0 = .ok (.iload_n 1, 1) := by decide +kernel
theorem dX1_mark_1 : decode cX1_mark 1 = .ok (.ifCond .lt 27, 3) := by decide +kernel
theorem dX1_mark_4 : decode cX1_mark 4 = .ok (.iload_n 1, 1) := by decide +kernel
theorem dX1_mark_5 : decode cX1_mark 5 = .ok (.ldc 131, 2) := by decide +kernel
theorem dX1_mark_7 : decode cX1_mark 7 = .ok (.if_icmp .ge 21, 3) := by decide +kernel
theorem dX1_mark_10 : decode cX1_mark 10 = .ok (.aload_n 0, 1) := by decide +kernel
theorem dX1_mark_11 : decode cX1_mark 11 = .ok (.getfield 36, 3) := by decide +kernel
theorem dX1_mark_14 : decode cX1_mark 14 = .ok (.iload_n 1, 1) := by decide +kernel
theorem dX1_mark_15 : decode cX1_mark 15 = .ok (.bipush 64, 2) := by decide +kernel
theorem dX1_mark_17 : decode cX1_mark 17 = .ok (.idiv, 1) := by decide +kernel
theorem dX1_mark_18 : decode cX1_mark 18 = .ok (.dup2, 1) := by decide +kernel
theorem dX1_mark_19 : decode cX1_mark 19 = .ok (.laload, 1) := by decide +kernel
theorem dX1_mark_20 : decode cX1_mark 20 = .ok (.lconst 1, 1) := by decide +kernel
theorem dX1_mark_21 : decode cX1_mark 21 = .ok (.iload_n 1, 1) := by decide +kernel
theorem dX1_mark_22 : decode cX1_mark 22 = .ok (.bipush 64, 2) := by decide +kernel
theorem dX1_mark_24 : decode cX1_mark 24 = .ok (.irem, 1) := by decide +kernel
theorem dX1_mark_25 : decode cX1_mark 25 = .ok (.lshl, 1) := by decide +kernel
theorem dX1_mark_26 : decode cX1_mark 26 = .ok (.lor, 1) := by decide +kernel
theorem dX1_mark_27 : decode cX1_mark 27 = .ok (.lastore, 1) := by decide +kernel
theorem dX1_mark_28 : decode cX1_mark 28 = .ok (.return_, 1) := by decide +kernel
end
section
set_option maxRecDepth 20000 in
theorem ggX2_init_J7_fill_53178 : GoodIn wsX2_init wsJ7_fill_53178 := goodIn_r _ [19] (by decide +kernel) (by decide +kernel)
set_option maxRecDepth 20000 in
theorem gX2_init_J7_fill_53178 : GoodIn wsX2_init (va_wsS RX2 15 yJ7_fill_53178 wsJ7_fill_53178) := goodIn_app (goodIn_of _ (by decide +kernel)) ggX2_init_J7_fill_53178
theorem dX2_init_0 : decode cX2_init 0 = .ok (.aload_n 0, 1) := by decide +kernel
theorem dX2_init_1 : decode cX2_init 1 = .ok (.invokespecial 3, 3) := by decide +kernel
theorem dX2_init_4 : decode cX2_init 4 = .ok (.aload_n 0, 1) := by decide +kernel
theorem dX2_init_5 : decode cX2_init 5 = .ok (.bipush 6, 2) := by decide +kernel
theorem dX2_init_7 : decode cX2_init 7 = .ok (.newarray .int, 2) := by decide +kernel
theorem dX2_init_9 : decode cX2_init 9 = .ok (.putfield 9, 3) := by decide +kernel
theorem dX2_init_12 : decode cX2_init 12 = .ok (.aload_n 0, 1) := by decide +kernel
theorem dX2_init_13 : decode cX2_init 13 = .ok (.getfield 9, 3) := by decide +kernel
theorem dX2_init_16 : decode cX2_init 16 = .ok (.bipush 20, 2) := by decide +kernel
theorem dX2_init_18 : decode cX2_init 18 = .ok (.invokestatic 15, 3) := by decide +kernel
theorem dX2_init_21 : decode cX2_init 21 = .ok (.aload_n 0, 1) := by decide +kernel
theorem dX2_init_22 : decode cX2_init 22 = .ok (.bipush 6, 2) := by decide +kernel
theorem dX2_init_24 : decode cX2_init 24 = .ok (.newarray .int, 2) := by decide +kernel
theorem dX2_init_26 : decode cX2_init 26 = .ok (.putfield 21, 3) := by decide +kernel
theorem dX2_init_29 : decode cX2_init 29 = .ok (.aload_n 0, 1) := by decide +kernel
theorem dX2_init_30 : decode cX2_init 30 = .ok (.bipush 30, 2) := by decide +kernel
theorem dX2_init_32 : decode cX2_init 32 = .ok (.newarray .int, 2) := by decide +kernel
theorem dX2_init_34 : decode cX2_init 34 = .ok (.putfield 24, 3) := by decide +kernel
theorem dX2_init_37 : decode cX2_init 37 = .ok (.aload_n 0, 1) := by decide +kernel
theorem dX2_init_38 : decode cX2_init 38 = .ok (.bipush 30, 2) := by decide +kernel
theorem dX2_init_40 : decode cX2_init 40 = .ok (.newarray .int, 2) := by decide +kernel
theorem dX2_init_42 : decode cX2_init 42 = .ok (.putfield 27, 3) := by decide +kernel
theorem dX2_init_45 : decode cX2_init 45 = .ok (.aload_n 0, 1) := by decide +kernel
theorem dX2_init_46 : decode cX2_init 46 = .ok (.bipush 30, 2) := by decide +kernel
theorem dX2_init_48 : decode cX2_init 48 = .ok (.newarray .int, 2) := by decide +kernel
theorem dX2_init_50 : decode cX2_init 50 = .ok (.putfield 30, 3) := by decide +kernel
theorem dX2_init_53 : decode cX2_init 53 = .ok (.aload_n 0, 1) := by decide +kernel
theorem dX2_init_54 : decode cX2_init 54 = .ok (.bipush 6, 2) := by decide +kernel
theorem dX2_init_56 : decode cX2_init 56 = .ok (.newarray .int, 2) := by decide +kernel
theorem dX2_init_58 : decode cX2_init 58 = .ok (.putfield 33, 3) := by decide +kernel
theorem dX2_init_61 : decode cX2_init 61 = .ok (.aload_n 0, 1) := by decide +kernel
theorem dX2_init_62 : decode cX2_init 62 = .ok (.bipush 6, 2) := by decide +kernel
theorem dX2_init_64 : decode cX2_init 64 = .ok (.newarray .int, 2) := by decide +kernel
theorem dX2_init_66 : decode cX2_init 66 = .ok (.putfield 36, 3) := by decide +kernel
theorem dX2_init_69 : decode cX2_init 69 = .ok (.aload_n 0, 1) := by decide +kernel
theorem dX2_init_70 : decode cX2_init 70 = .ok (.iconst 0, 1) := by decide +kernel
theorem dX2_init_71 : decode cX2_init 71 = .ok (.putfield 39, 3) := by decide +kernel
theorem dX2_init_74 : decode cX2_init 74 = .ok (.aload_n 0, 1) := by decide +kernel
theorem dX2_init_75 : decode cX2_init 75 = .ok (.iconst 0, 1) := by decide +kernel
theorem dX2_init_76 : decode cX2_init 76 = .ok (.putfield 43, 3) := by decide +kernel
theorem dX2_init_79 : decode cX2_init 79 = .ok (.aload_n 0, 1) := by decide +kernel
theorem dX2_init_80 : decode cX2_init 80 = .ok (.iconst 0, 1) := by decide +kernel
theorem dX2_init_81 : decode cX2_init 81 = .ok (.putfield 46, 3) := by decide +kernel
theorem dX2_init_84 : decode cX2_init 84 = .ok (.aload_n 0, 1) := by decide +kernel
theorem dX2_init_85 : decode cX2_init 85 = .ok (.iconst 0, 1) := by decide +kernel
theorem dX2_init_86 : decode cX2_init 86 = .ok (.putfield 49, 3) := by decide +kernel
theorem dX2_init_89 : decode cX2_init 89 = .ok (.return_, 1) := by decide +kernel
theorem dX2_copyFrom_0 : decode cX2_copyFrom 0 = .ok (.aload_n 1, 1) := by decide +kernel
theorem dX2_copyFrom_1 : decode cX2_copyFrom 1 = .ok (.getfield 9, 3) := by decide +kernel
theorem dX2_copyFrom_4 : decode cX2_copyFrom 4 = .ok (.iconst 0, 1) := by decide +kernel
theorem dX2_copyFrom_5 : decode cX2_copyFrom 5 = .ok (.aload_n 0, 1) := by decide +kernel
theorem dX2_copyFrom_6 : decode cX2_copyFrom 6 = .ok (.getfield 9, 3) := by decide +kernel
theorem dX2_copyFrom_9 : decode cX2_copyFrom 9 = .ok (.iconst 0, 1) := by decide +kernel
theorem dX2_copyFrom_10 : decode cX2_copyFrom 10 = .ok (.bipush 6, 2) := by decide +kernel
theorem dX2_copyFrom_12 : decode cX2_copyFrom 12 = .ok (.invokestatic 52, 3) := by decide +kernel
theorem dX2_copyFrom_15 : decode cX2_copyFrom 15 = .ok (.aload_n 1, 1) := by decide +kernel
theorem dX2_copyFrom_16 : decode cX2_copyFrom 16 = .ok (.getfield 21, 3) := by decide +kernel
theorem dX2_copyFrom_19 : decode cX2_copyFrom 19 = .ok (.iconst 0, 1) := by decide +kernel
theorem dX2_copyFrom_20 : decode cX2_copyFrom 20 = .ok (.aload_n 0, 1) := by decide +kernel
theorem dX2_copyFrom_21 : decode cX2_copyFrom 21 = .ok (.getfield 21, 3) := by decide +kernel
theorem dX2_copyFrom_24 : decode cX2_copyFrom 24 = .ok (.iconst 0, 1) := by decide +kernel
theorem dX2_copyFrom_25 : decode cX2_copyFrom 25 = .ok (.bipush 6, 2) := by decide +kernel
theorem dX2_copyFrom_27 : decode cX2_copyFrom 27 = .ok (.invokestatic 52, 3) := by decide +kernel
theorem dX2_copyFrom_30 : decode cX2_copyFrom 30 = .ok (.aload_n 1, 1) := by decide +kernel
theorem dX2_copyFrom_31 : decode cX2_copyFrom 31 = .ok (.getfield 24, 3) := by decide +kernel
theorem dX2_copyFrom_34 : decode cX2_copyFrom 34 = .ok (.iconst 0, 1) := by decide +kernel
theorem dX2_copyFrom_35 : decode cX2_copyFrom 35 = .ok (.aload_n 0, 1) := by decide +kernel
theorem dX2_copyFrom_36 : decode cX2_copyFrom 36 = .ok (.getfield 24, 3) := by decide +kernel
theorem dX2_copyFrom_39 : decode cX2_copyFrom 39 = .ok (.iconst 0, 1) := by decide +kernel
theorem dX2_copyFrom_40 : decode cX2_copyFrom 40 = .ok (.bipush 30, 2) := by decide +kernel
theorem dX2_copyFrom_42 : decode cX2_copyFrom 42 = .ok (.invokestatic 52, 3) := by decide +kernel
theorem dX2_copyFrom_45 : decode cX2_copyFrom 45 = .ok (.aload_n 1, 1) := by decide +kernel
theorem dX2_copyFrom_46 : decode cX2_copyFrom 46 = .ok (.getfield 27, 3) := by decide +kernel
theorem dX2_copyFrom_49 : decode cX2_copyFrom 49 = .ok (.iconst 0, 1) := by decide +kernel
theorem dX2_copyFrom_50 : decode cX2_copyFrom 50 = .ok (.aload_n 0, 1) := by decide +kernel
theorem dX2_copyFrom_51 : decode cX2_copyFrom 51 = .ok (.getfield 27, 3) := by decide +kernel
theorem dX2_copyFrom_54 : decode cX2_copyFrom 54 = .ok (.iconst 0, 1) := by decide +kernel
theorem dX2_copyFrom_55 : decode cX2_copyFrom 55 = .ok (.bipush 30, 2) := by decide +kernel
theorem dX2_copyFrom_57 : decode cX2_copyFrom 57 = .ok (.invokestatic 52, 3) := by decide +kernel
theorem dX2_copyFrom_60 : decode cX2_copyFrom 60 = .ok (.aload_n 1, 1) := by decide +kernel
theorem dX2_copyFrom_61 : decode cX2_copyFrom 61 = .ok (.getfield 30, 3) := by decide +kernel
theorem dX2_copyFrom_64 : decode cX2_copyFrom 64 = .ok (.iconst 0, 1) := by decide +kernel
theorem dX2_copyFrom_65 : decode cX2_copyFrom 65 = .ok (.aload_n 0, 1) := by decide +kernel
theorem dX2_copyFrom_66 : decode cX2_copyFrom 66 = .ok (.getfield 30, 3) := by decide +kernel
theorem dX2_copyFrom_69 : decode cX2_copyFrom 69 = .ok (.iconst 0, 1) := by decide +kernel
theorem dX2_copyFrom_70 : decode cX2_copyFrom 70 = .ok (.bipush 30, 2) := by decide +kernel
theorem dX2_copyFrom_72 : decode cX2_copyFrom 72 = .ok (.invokestatic 52, 3) := by decide +kernel
theorem dX2_copyFrom_75 : decode cX2_copyFrom 75 = .ok (.aload_n 1, 1) := by decide +kernel
theorem dX2_copyFrom_76 : decode cX2_copyFrom 76 = .ok (.getfield 33, 3) := by decide +kernel
theorem dX2_copyFrom_79 : decode cX2_copyFrom 79 = .ok (.iconst 0, 1) := by decide +kernel
theorem dX2_copyFrom_80 : decode cX2_copyFrom 80 = .ok (.aload_n 0, 1) := by decide +kernel
theorem dX2_copyFrom_81 : decode cX2_copyFrom 81 = .ok (.getfield 33, 3) := by decide +kernel
theorem dX2_copyFrom_84 : decode cX2_copyFrom 84 = .ok (.iconst 0, 1) := by decide +kernel
theorem dX2_copyFrom_85 : decode cX2_copyFrom 85 = .ok (.bipush 6, 2) := by decide +kernel
theorem dX2_copyFrom_87 : decode cX2_copyFrom 87 = .ok (.invokestatic 52, 3) := by decide +kernel
theorem dX2_copyFrom_90 : decode cX2_copyFrom 90 = .ok (.aload_n 1, 1) := by decide +kernel
theorem dX2_copyFrom_91 : decode cX2_copyFrom 91 = .ok (.getfield 36, 3) := by decide +kernel
theorem dX2_copyFrom_94 : decode cX2_copyFrom 94 = .ok (.iconst 0, 1) := by decide +kernel
theorem dX2_copyFrom_95 : decode cX2_copyFrom 95 = .ok (.aload_n 0, 1) := by decide +kernel
theorem dX2_copyFrom_96 : decode cX2_copyFrom 96 = .ok (.getfield 36, 3) := by decide +kernel
theorem dX2_copyFrom_99 : decode cX2_copyFrom 99 = .ok (.iconst 0, 1) := by decide +kernel
theorem dX2_copyFrom_100 : decode cX2_copyFrom 100 = .ok (.bipush 6, 2) := by decide +kernel
theorem dX2_copyFrom_102 : decode cX2_copyFrom 102 = .ok (.invokestatic 52, 3) := by decide +kernel
theorem dX2_copyFrom_105 : decode cX2_copyFrom 105 = .ok (.aload_n 0, 1) := by decide +kernel
theorem dX2_copyFrom_106 : decode cX2_copyFrom 106 = .ok (.aload_n 1, 1) := by decide +kernel
theorem dX2_copyFrom_107 : decode cX2_copyFrom 107 = .ok (.getfield 39, 3) := by decide +kernel
theorem dX2_copyFrom_110 : decode cX2_copyFrom 110 = .ok (.putfield 39, 3) := by decide +kernel
theorem dX2_copyFrom_113 : decode cX2_copyFrom 113 = .ok (.aload_n 0, 1) := by decide +kernel
theorem dX2_copyFrom_114 : decode cX2_copyFrom 114 = .ok (.aload_n 1, 1) := by decide +kernel
theorem dX2_copyFrom_115 : decode cX2_copyFrom 115 = .ok (.getfield 43, 3) := by decide +kernel
theorem dX2_copyFrom_118 : decode cX2_copyFrom 118 = .ok (.putfield 43, 3) := by decide +kernel
theorem dX2_copyFrom_121 : decode cX2_copyFrom 121 = .ok (.aload_n 0, 1) := by decide +kernel
theorem dX2_copyFrom_122 : decode cX2_copyFrom 122 = .ok (.aload_n 1, 1) := by decide +kernel
theorem dX2_copyFrom_123 : decode cX2_copyFrom 123 = .ok (.getfield 46, 3) := by decide +kernel
theorem dX2_copyFrom_126 : decode cX2_copyFrom 126 = .ok (.putfield 46, 3) := by decide +kernel
theorem dX2_copyFrom_129 : decode cX2_copyFrom 129 = .ok (.aload_n 0, 1) := by decide +kernel
theorem dX2_copyFrom_130 : decode cX2_copyFrom 130 = .ok (.aload_n 1, 1) := by decide +kernel
theorem dX2_copyFrom_131 : decode cX2_copyFrom 131 = .ok (.getfield 49, 3) := by decide +kernel
theorem dX2_copyFrom_134 : decode cX2_copyFrom 134 = .ok (.putfield 49, 3) := by decide +kernel
theorem dX2_copyFrom_137 : decode cX2_copyFrom 137 = .ok (.return_, 1) := by decide +kernel
set_option maxRecDepth 20000 in
theorem ggX2_purseOf_X3_isMan : GoodIn wsX2_purseOf wsX3_isMan := goodIn_r _ [4] (by decide +kernel) (by decide +kernel)
set_option maxRecDepth 20000 in
theorem gX2_purseOf_X3_isMan_n58 : GoodIn wsX2_purseOf (wsX3_isMan) := ggX2_purseOf_X3_isMan
theorem dX2_purseOf_0 : decode cX2_purseOf 0 = .ok (.iload_n 1, 1) := by decide +kernel
theorem dX2_purseOf_1 : decode cX2_purseOf 1 = .ok (.invokestatic 58, 3) := by decide +kernel
theorem dX2_purseOf_4 : decode cX2_purseOf 4 = .ok (.ifCond .eq 12, 3) := by decide +kernel
theorem dX2_purseOf_7 : decode cX2_purseOf 7 = .ok (.aload_n 0, 1) := by decide +kernel
theorem dX2_purseOf_8 : decode cX2_purseOf 8 = .ok (.getfield 9, 3) := by decide +kernel
theorem dX2_purseOf_11 : decode cX2_purseOf 11 = .ok (.iload_n 1, 1) := by decide +kernel
theorem dX2_purseOf_12 : decode cX2_purseOf 12 = .ok (.iaload, 1) := by decide +kernel
theorem dX2_purseOf_13 : decode cX2_purseOf 13 = .ok (.goto 4, 3) := by decide +kernel
theorem dX2_purseOf_16 : decode cX2_purseOf 16 = .ok (.iconst 0, 1) := by decide +kernel
theorem dX2_purseOf_17 : decode cX2_purseOf 17 = .ok (.ireturn, 1) := by decide +kernel
set_option maxRecDepth 20000 in
theorem ggX2_fillPurse_X3_isMan : GoodIn wsX2_fillPurse wsX3_isMan := goodIn_r _ [4] (by decide +kernel) (by decide +kernel)
set_option maxRecDepth 20000 in
theorem gX2_fillPurse_X3_isMan_n58 : GoodIn wsX2_fillPurse (wsX3_isMan) := ggX2_fillPurse_X3_isMan
theorem dX2_fillPurse_0 : decode cX2_fillPurse 0 = .ok (.iload_n 1, 1) := by decide +kernel
theorem dX2_fillPurse_1 : decode cX2_fillPurse 1 = .ok (.invokestatic 58, 3) := by decide +kernel
theorem dX2_fillPurse_4 : decode cX2_fillPurse 4 = .ok (.ifCond .eq 10, 3) := by decide +kernel
theorem dX2_fillPurse_7 : decode cX2_fillPurse 7 = .ok (.aload_n 0, 1) := by decide +kernel
theorem dX2_fillPurse_8 : decode cX2_fillPurse 8 = .ok (.getfield 9, 3) := by decide +kernel
theorem dX2_fillPurse_11 : decode cX2_fillPurse 11 = .ok (.iload_n 1, 1) := by decide +kernel
theorem dX2_fillPurse_12 : decode cX2_fillPurse 12 = .ok (.iload_n 2, 1) := by decide +kernel
theorem dX2_fillPurse_13 : decode cX2_fillPurse 13 = .ok (.iastore, 1) := by decide +kernel
theorem dX2_fillPurse_14 : decode cX2_fillPurse 14 = .ok (.return_, 1) := by decide +kernel
set_option maxRecDepth 20000 in
theorem ggX2_debtsOf_X3_isMan : GoodIn wsX2_debtsOf wsX3_isMan := goodIn_r _ [4] (by decide +kernel) (by decide +kernel)
set_option maxRecDepth 20000 in
theorem gX2_debtsOf_X3_isMan_n58 : GoodIn wsX2_debtsOf (wsX3_isMan) := ggX2_debtsOf_X3_isMan
theorem dX2_debtsOf_0 : decode cX2_debtsOf 0 = .ok (.iload_n 1, 1) := by decide +kernel
theorem dX2_debtsOf_1 : decode cX2_debtsOf 1 = .ok (.invokestatic 58, 3) := by decide +kernel
theorem dX2_debtsOf_4 : decode cX2_debtsOf 4 = .ok (.ifCond .eq 12, 3) := by decide +kernel
theorem dX2_debtsOf_7 : decode cX2_debtsOf 7 = .ok (.aload_n 0, 1) := by decide +kernel
theorem dX2_debtsOf_8 : decode cX2_debtsOf 8 = .ok (.getfield 21, 3) := by decide +kernel
theorem dX2_debtsOf_11 : decode cX2_debtsOf 11 = .ok (.iload_n 1, 1) := by decide +kernel
theorem dX2_debtsOf_12 : decode cX2_debtsOf 12 = .ok (.iaload, 1) := by decide +kernel
theorem dX2_debtsOf_13 : decode cX2_debtsOf 13 = .ok (.goto 4, 3) := by decide +kernel
theorem dX2_debtsOf_16 : decode cX2_debtsOf 16 = .ok (.iconst 0, 1) := by decide +kernel
theorem dX2_debtsOf_17 : decode cX2_debtsOf 17 = .ok (.ireturn, 1) := by decide +kernel
theorem dX2_hasDebt_0 : decode cX2_hasDebt 0 = .ok (.iload_n 1, 1) := by decide +kernel
theorem dX2_hasDebt_1 : decode cX2_hasDebt 1 = .ok (.ifCond .lt 32, 3) := by decide +kernel
theorem dX2_hasDebt_4 : decode cX2_hasDebt 4 = .ok (.iload_n 1, 1) := by decide +kernel
theorem dX2_hasDebt_5 : decode cX2_hasDebt 5 = .ok (.bipush 6, 2) := by decide +kernel
theorem dX2_hasDebt_7 : decode cX2_hasDebt 7 = .ok (.if_icmp .ge 26, 3) := by decide +kernel
theorem dX2_hasDebt_10 : decode cX2_hasDebt 10 = .ok (.iload_n 2, 1) := by decide +kernel
theorem dX2_hasDebt_11 : decode cX2_hasDebt 11 = .ok (.ifCond .lt 22, 3) := by decide +kernel
theorem dX2_hasDebt_14 : decode cX2_hasDebt 14 = .ok (.iload_n 2, 1) := by decide +kernel
theorem dX2_hasDebt_15 : decode cX2_hasDebt 15 = .ok (.iconst 5, 1) := by decide +kernel
theorem dX2_hasDebt_16 : decode cX2_hasDebt 16 = .ok (.if_icmp .ge 17, 3) := by decide +kernel
theorem dX2_hasDebt_19 : decode cX2_hasDebt 19 = .ok (.iload_n 2, 1) := by decide +kernel
theorem dX2_hasDebt_20 : decode cX2_hasDebt 20 = .ok (.aload_n 0, 1) := by decide +kernel
theorem dX2_hasDebt_21 : decode cX2_hasDebt 21 = .ok (.getfield 21, 3) := by decide +kernel
theorem dX2_hasDebt_24 : decode cX2_hasDebt 24 = .ok (.iload_n 1, 1) := by decide +kernel
theorem dX2_hasDebt_25 : decode cX2_hasDebt 25 = .ok (.iaload, 1) := by decide +kernel
theorem dX2_hasDebt_26 : decode cX2_hasDebt 26 = .ok (.if_icmp .ge 7, 3) := by decide +kernel
theorem dX2_hasDebt_29 : decode cX2_hasDebt 29 = .ok (.iconst 1, 1) := by decide +kernel
theorem dX2_hasDebt_30 : decode cX2_hasDebt 30 = .ok (.goto 4, 3) := by decide +kernel
theorem dX2_hasDebt_33 : decode cX2_hasDebt 33 = .ok (.iconst 0, 1) := by decide +kernel
theorem dX2_hasDebt_34 : decode cX2_hasDebt 34 = .ok (.ireturn, 1) := by decide +kernel
set_option maxRecDepth 20000 in
theorem ggX2_lenderOf_X2_hasDebt : GoodIn wsX2_lenderOf wsX2_hasDebt := goodIn_r _ [6, 7, 8, 9, 10, 11, 12, 13, 14, 15, 16, 17, 18] (by decide +kernel) (by decide +kernel)
set_option maxRecDepth 20000 in
theorem gX2_lenderOf_X2_hasDebt : GoodIn wsX2_lenderOf (wsV RX2 62 RX2 yX2_hasDebt wsX2_hasDebt) := goodIn_app (goodIn_of _ (by decide +kernel)) ggX2_lenderOf_X2_hasDebt
theorem dX2_lenderOf_0 : decode cX2_lenderOf 0 = .ok (.aload_n 0, 1) := by decide +kernel
theorem dX2_lenderOf_1 : decode cX2_lenderOf 1 = .ok (.iload_n 1, 1) := by decide +kernel
theorem dX2_lenderOf_2 : decode cX2_lenderOf 2 = .ok (.iload_n 2, 1) := by decide +kernel
theorem dX2_lenderOf_3 : decode cX2_lenderOf 3 = .ok (.invokevirtual 62, 3) := by decide +kernel
theorem dX2_lenderOf_6 : decode cX2_lenderOf 6 = .ok (.ifCond .eq 16, 3) := by decide +kernel
theorem dX2_lenderOf_9 : decode cX2_lenderOf 9 = .ok (.aload_n 0, 1) := by decide +kernel
theorem dX2_lenderOf_10 : decode cX2_lenderOf 10 = .ok (.getfield 24, 3) := by decide +kernel
theorem dX2_lenderOf_13 : decode cX2_lenderOf 13 = .ok (.iload_n 1, 1) := by decide +kernel
theorem dX2_lenderOf_14 : decode cX2_lenderOf 14 = .ok (.iconst 5, 1) := by decide +kernel
theorem dX2_lenderOf_15 : decode cX2_lenderOf 15 = .ok (.imul, 1) := by decide +kernel
theorem dX2_lenderOf_16 : decode cX2_lenderOf 16 = .ok (.iload_n 2, 1) := by decide +kernel
theorem dX2_lenderOf_17 : decode cX2_lenderOf 17 = .ok (.iadd, 1) := by decide +kernel
theorem dX2_lenderOf_18 : decode cX2_lenderOf 18 = .ok (.iaload, 1) := by decide +kernel
theorem dX2_lenderOf_19 : decode cX2_lenderOf 19 = .ok (.goto 5, 3) := by decide +kernel
theorem dX2_lenderOf_22 : decode cX2_lenderOf 22 = .ok (.bipush (-6), 2) := by decide +kernel
theorem dX2_lenderOf_24 : decode cX2_lenderOf 24 = .ok (.ireturn, 1) := by decide +kernel
set_option maxRecDepth 20000 in
theorem ggX2_penceOf_X2_hasDebt : GoodIn wsX2_penceOf wsX2_hasDebt := goodIn_r _ [6, 7, 8, 9, 10, 11, 12, 13, 14, 15, 16, 17, 18] (by decide +kernel) (by decide +kernel)
set_option maxRecDepth 20000 in
theorem gX2_penceOf_X2_hasDebt : GoodIn wsX2_penceOf (wsV RX2 62 RX2 yX2_hasDebt wsX2_hasDebt) := goodIn_app (goodIn_of _ (by decide +kernel)) ggX2_penceOf_X2_hasDebt
theorem dX2_penceOf_0 : decode cX2_penceOf 0 = .ok (.aload_n 0, 1) := by decide +kernel
theorem dX2_penceOf_1 : decode cX2_penceOf 1 = .ok (.iload_n 1, 1) := by decide +kernel
theorem dX2_penceOf_2 : decode cX2_penceOf 2 = .ok (.iload_n 2, 1) := by decide +kernel
theorem dX2_penceOf_3 : decode cX2_penceOf 3 = .ok (.invokevirtual 62, 3) := by decide +kernel
theorem dX2_penceOf_6 : decode cX2_penceOf 6 = .ok (.ifCond .eq 16, 3) := by decide +kernel
theorem dX2_penceOf_9 : decode cX2_penceOf 9 = .ok (.aload_n 0, 1) := by decide +kernel
theorem dX2_penceOf_10 : decode cX2_penceOf 10 = .ok (.getfield 27, 3) := by decide +kernel
theorem dX2_penceOf_13 : decode cX2_penceOf 13 = .ok (.iload_n 1, 1) := by decide +kernel
theorem dX2_penceOf_14 : decode cX2_penceOf 14 = .ok (.iconst 5, 1) := by decide +kernel
theorem dX2_penceOf_15 : decode cX2_penceOf 15 = .ok (.imul, 1) := by decide +kernel
theorem dX2_penceOf_16 : decode cX2_penceOf 16 = .ok (.iload_n 2, 1) := by decide +kernel
theorem dX2_penceOf_17 : decode cX2_penceOf 17 = .ok (.iadd, 1) := by decide +kernel
theorem dX2_penceOf_18 : decode cX2_penceOf 18 = .ok (.iaload, 1) := by decide +kernel
theorem dX2_penceOf_19 : decode cX2_penceOf 19 = .ok (.goto 4, 3) := by decide +kernel
theorem dX2_penceOf_22 : decode cX2_penceOf 22 = .ok (.iconst 0, 1) := by decide +kernel
theorem dX2_penceOf_23 : decode cX2_penceOf 23 = .ok (.ireturn, 1) := by decide +kernel
set_option maxRecDepth 20000 in
theorem ggX2_dayOf_X2_hasDebt : GoodIn wsX2_dayOf wsX2_hasDebt := goodIn_r _ [6, 7, 8, 9, 10, 11, 12, 13, 14, 15, 16, 17, 18] (by decide +kernel) (by decide +kernel)
set_option maxRecDepth 20000 in
theorem gX2_dayOf_X2_hasDebt : GoodIn wsX2_dayOf (wsV RX2 62 RX2 yX2_hasDebt wsX2_hasDebt) := goodIn_app (goodIn_of _ (by decide +kernel)) ggX2_dayOf_X2_hasDebt
theorem dX2_dayOf_0 : decode cX2_dayOf 0 = .ok (.aload_n 0, 1) := by decide +kernel
theorem dX2_dayOf_1 : decode cX2_dayOf 1 = .ok (.iload_n 1, 1) := by decide +kernel
theorem dX2_dayOf_2 : decode cX2_dayOf 2 = .ok (.iload_n 2, 1) := by decide +kernel
theorem dX2_dayOf_3 : decode cX2_dayOf 3 = .ok (.invokevirtual 62, 3) := by decide +kernel
theorem dX2_dayOf_6 : decode cX2_dayOf 6 = .ok (.ifCond .eq 16, 3) := by decide +kernel
theorem dX2_dayOf_9 : decode cX2_dayOf 9 = .ok (.aload_n 0, 1) := by decide +kernel
theorem dX2_dayOf_10 : decode cX2_dayOf 10 = .ok (.getfield 30, 3) := by decide +kernel
theorem dX2_dayOf_13 : decode cX2_dayOf 13 = .ok (.iload_n 1, 1) := by decide +kernel
theorem dX2_dayOf_14 : decode cX2_dayOf 14 = .ok (.iconst 5, 1) := by decide +kernel
theorem dX2_dayOf_15 : decode cX2_dayOf 15 = .ok (.imul, 1) := by decide +kernel
theorem dX2_dayOf_16 : decode cX2_dayOf 16 = .ok (.iload_n 2, 1) := by decide +kernel
theorem dX2_dayOf_17 : decode cX2_dayOf 17 = .ok (.iadd, 1) := by decide +kernel
theorem dX2_dayOf_18 : decode cX2_dayOf 18 = .ok (.iaload, 1) := by decide +kernel
theorem dX2_dayOf_19 : decode cX2_dayOf 19 = .ok (.goto 4, 3) := by decide +kernel
theorem dX2_dayOf_22 : decode cX2_dayOf 22 = .ok (.iconst 0, 1) := by decide +kernel
theorem dX2_dayOf_23 : decode cX2_dayOf 23 = .ok (.ireturn, 1) := by decide +kernel
set_option maxRecDepth 20000 in
theorem ggX2_changeLender_X2_hasDebt : GoodIn wsX2_changeLender wsX2_hasDebt := goodIn_r _ [6, 7, 8, 9, 10, 11, 12, 13, 14, 15, 16, 17, 18] (by decide +kernel) (by decide +kernel)
set_option maxRecDepth 20000 in
theorem gX2_changeLender_X2_hasDebt : GoodIn wsX2_changeLender (wsV RX2 62 RX2 yX2_hasDebt wsX2_hasDebt) := goodIn_app (goodIn_of _ (by decide +kernel)) ggX2_changeLender_X2_hasDebt
theorem dX2_changeLender_0 : decode cX2_changeLender 0 = .ok (.aload_n 0, 1) := by decide +kernel
theorem dX2_changeLender_1 : decode cX2_changeLender 1 = .ok (.iload_n 1, 1) := by decide +kernel
theorem dX2_changeLender_2 : decode cX2_changeLender 2 = .ok (.iload_n 2, 1) := by decide +kernel
theorem dX2_changeLender_3 : decode cX2_changeLender 3 = .ok (.invokevirtual 62, 3) := by decide +kernel
theorem dX2_changeLender_6 : decode cX2_changeLender 6 = .ok (.ifCond .eq 14, 3) := by decide +kernel
theorem dX2_changeLender_9 : decode cX2_changeLender 9 = .ok (.aload_n 0, 1) := by decide +kernel
theorem dX2_changeLender_10 : decode cX2_changeLender 10 = .ok (.getfield 24, 3) := by decide +kernel
theorem dX2_changeLender_13 : decode cX2_changeLender 13 = .ok (.iload_n 1, 1) := by decide +kernel
theorem dX2_changeLender_14 : decode cX2_changeLender 14 = .ok (.iconst 5, 1) := by decide +kernel
theorem dX2_changeLender_15 : decode cX2_changeLender 15 = .ok (.imul, 1) := by decide +kernel
theorem dX2_changeLender_16 : decode cX2_changeLender 16 = .ok (.iload_n 2, 1) := by decide +kernel
theorem dX2_changeLender_17 : decode cX2_changeLender 17 = .ok (.iadd, 1) := by decide +kernel
theorem dX2_changeLender_18 : decode cX2_changeLender 18 = .ok (.iload_n 3, 1) := by decide +kernel
theorem dX2_changeLender_19 : decode cX2_changeLender 19 = .ok (.iastore, 1) := by decide +kernel
theorem dX2_changeLender_20 : decode cX2_changeLender 20 = .ok (.return_, 1) := by decide +kernel
set_option maxRecDepth 20000 in
theorem ggX2_notLater_X2_hasDebt : GoodIn wsX2_notLater wsX2_hasDebt := goodIn_r _ [7, 8, 9, 10, 11, 12, 13, 14, 15, 16, 17, 18, 19] (by decide +kernel) (by decide +kernel)
set_option maxRecDepth 20000 in
theorem gX2_notLater_X2_hasDebt : GoodIn wsX2_notLater (wsV RX2 62 RX2 yX2_hasDebt wsX2_hasDebt) := goodIn_app (goodIn_of _ (by decide +kernel)) ggX2_notLater_X2_hasDebt
theorem dX2_notLater_0 : decode cX2_notLater 0 = .ok (.aload_n 0, 1) := by decide +kernel
theorem dX2_notLater_1 : decode cX2_notLater 1 = .ok (.iload_n 1, 1) := by decide +kernel
theorem dX2_notLater_2 : decode cX2_notLater 2 = .ok (.iload_n 2, 1) := by decide +kernel
theorem dX2_notLater_3 : decode cX2_notLater 3 = .ok (.invokevirtual 62, 3) := by decide +kernel
theorem dX2_notLater_6 : decode cX2_notLater 6 = .ok (.ifCond .eq 12, 3) := by decide +kernel
theorem dX2_notLater_9 : decode cX2_notLater 9 = .ok (.aload_n 0, 1) := by decide +kernel
theorem dX2_notLater_10 : decode cX2_notLater 10 = .ok (.iload_n 1, 1) := by decide +kernel
theorem dX2_notLater_11 : decode cX2_notLater 11 = .ok (.iload_n 3, 1) := by decide +kernel
theorem dX2_notLater_12 : decode cX2_notLater 12 = .ok (.invokevirtual 62, 3) := by decide +kernel
theorem dX2_notLater_15 : decode cX2_notLater 15 = .ok (.ifCond .ne 5, 3) := by decide +kernel
theorem dX2_notLater_18 : decode cX2_notLater 18 = .ok (.iconst 0, 1) := by decide +kernel
theorem dX2_notLater_19 : decode cX2_notLater 19 = .ok (.ireturn, 1) := by decide +kernel
theorem dX2_notLater_20 : decode cX2_notLater 20 = .ok (.aload_n 0, 1) := by decide +kernel
theorem dX2_notLater_21 : decode cX2_notLater 21 = .ok (.getfield 46, 3) := by decide +kernel
theorem dX2_notLater_24 : decode cX2_notLater 24 = .ok (.iconst 1, 1) := by decide +kernel
theorem dX2_notLater_25 : decode cX2_notLater 25 = .ok (.if_icmp .ne 14, 3) := by decide +kernel
theorem dX2_notLater_28 : decode cX2_notLater 28 = .ok (.iload_n 2, 1) := by decide +kernel
theorem dX2_notLater_29 : decode cX2_notLater 29 = .ok (.iload_n 3, 1) := by decide +kernel
theorem dX2_notLater_30 : decode cX2_notLater 30 = .ok (.if_icmp .gt 7, 3) := by decide +kernel
theorem dX2_notLater_33 : decode cX2_notLater 33 = .ok (.iconst 1, 1) := by decide +kernel
theorem dX2_notLater_34 : decode cX2_notLater 34 = .ok (.goto 4, 3) := by decide +kernel
theorem dX2_notLater_37 : decode cX2_notLater 37 = .ok (.iconst 0, 1) := by decide +kernel
theorem dX2_notLater_38 : decode cX2_notLater 38 = .ok (.ireturn, 1) := by decide +kernel
theorem dX2_notLater_39 : decode cX2_notLater 39 = .ok (.iload_n 1, 1) := by decide +kernel
theorem dX2_notLater_40 : decode cX2_notLater 40 = .ok (.iconst 5, 1) := by decide +kernel
theorem dX2_notLater_41 : decode cX2_notLater 41 = .ok (.imul, 1) := by decide +kernel
theorem dX2_notLater_42 : decode cX2_notLater 42 = .ok (.istore 4, 2) := by decide +kernel
theorem dX2_notLater_44 : decode cX2_notLater 44 = .ok (.aload_n 0, 1) := by decide +kernel
theorem dX2_notLater_45 : decode cX2_notLater 45 = .ok (.getfield 46, 3) := by decide +kernel
theorem dX2_notLater_48 : decode cX2_notLater 48 = .ok (.iconst 2, 1) := by decide +kernel
theorem dX2_notLater_49 : decode cX2_notLater 49 = .ok (.if_icmp .ne 25, 3) := by decide +kernel
theorem dX2_notLater_52 : decode cX2_notLater 52 = .ok (.aload_n 0, 1) := by decide +kernel
theorem dX2_notLater_53 : decode cX2_notLater 53 = .ok (.getfield 27, 3) := by decide +kernel
theorem dX2_notLater_56 : decode cX2_notLater 56 = .ok (.iload 4, 2) := by decide +kernel
theorem dX2_notLater_58 : decode cX2_notLater 58 = .ok (.iload_n 2, 1) := by decide +kernel
theorem dX2_notLater_59 : decode cX2_notLater 59 = .ok (.iadd, 1) := by decide +kernel
theorem dX2_notLater_60 : decode cX2_notLater 60 = .ok (.iaload, 1) := by decide +kernel
theorem dX2_notLater_61 : decode cX2_notLater 61 = .ok (.aload_n 0, 1) := by decide +kernel
theorem dX2_notLater_62 : decode cX2_notLater 62 = .ok (.getfield 27, 3) := by decide +kernel
theorem dX2_notLater_65 : decode cX2_notLater 65 = .ok (.iload 4, 2) := by decide +kernel
theorem dX2_notLater_67 : decode cX2_notLater 67 = .ok (.iload_n 3, 1) := by decide +kernel
theorem dX2_notLater_68 : decode cX2_notLater 68 = .ok (.iadd, 1) := by decide +kernel
theorem dX2_notLater_69 : decode cX2_notLater 69 = .ok (.iaload, 1) := by decide +kernel
theorem dX2_notLater_70 : decode cX2_notLater 70 = .ok (.isub, 1) := by decide +kernel
theorem dX2_notLater_71 : decode cX2_notLater 71 = .ok (.goto 4, 3) := by decide +kernel
theorem dX2_notLater_74 : decode cX2_notLater 74 = .ok (.iconst 0, 1) := by decide +kernel
theorem dX2_notLater_75 : decode cX2_notLater 75 = .ok (.istore 5, 2) := by decide +kernel
theorem dX2_notLater_77 : decode cX2_notLater 77 = .ok (.iload 5, 2) := by decide +kernel
theorem dX2_notLater_79 : decode cX2_notLater 79 = .ok (.ifCond .gt 13, 3) := by decide +kernel
theorem dX2_notLater_82 : decode cX2_notLater 82 = .ok (.iload 5, 2) := by decide +kernel
theorem dX2_notLater_84 : decode cX2_notLater 84 = .ok (.ifCond .ne 12, 3) := by decide +kernel
theorem dX2_notLater_87 : decode cX2_notLater 87 = .ok (.iload_n 2, 1) := by decide +kernel
theorem dX2_notLater_88 : decode cX2_notLater 88 = .ok (.iload_n 3, 1) := by decide +kernel
theorem dX2_notLater_89 : decode cX2_notLater 89 = .ok (.if_icmp .lt 7, 3) := by decide +kernel
theorem dX2_notLater_92 : decode cX2_notLater 92 = .ok (.iconst 1, 1) := by decide +kernel
theorem dX2_notLater_93 : decode cX2_notLater 93 = .ok (.goto 4, 3) := by decide +kernel
theorem dX2_notLater_96 : decode cX2_notLater 96 = .ok (.iconst 0, 1) := by decide +kernel
theorem dX2_notLater_97 : decode cX2_notLater 97 = .ok (.ireturn, 1) := by decide +kernel
set_option maxRecDepth 20000 in
theorem ggX2_dueOf_X2_hasDebt : GoodIn wsX2_dueOf wsX2_hasDebt := goodIn_r _ [5, 6, 20, 21, 22, 23, 24, 25, 26, 27, 28, 29, 30] (by decide +kernel) (by decide +kernel)
set_option maxRecDepth 20000 in
theorem gX2_dueOf_X2_hasDebt : GoodIn wsX2_dueOf (wsV RX2 62 RX2 yX2_hasDebt wsX2_hasDebt) := goodIn_app (goodIn_of _ (by decide +kernel)) ggX2_dueOf_X2_hasDebt
set_option maxRecDepth 20000 in
theorem ggX2_dueOf_X2_debtsOf : GoodIn wsX2_dueOf wsX2_debtsOf := goodIn_r _ [10, 6, 11, 12, 13, 20, 21, 22, 23, 24, 25, 26, 27, 28, 29, 30] (by decide +kernel) (by decide +kernel)
set_option maxRecDepth 20000 in
theorem gX2_dueOf_X2_debtsOf : GoodIn wsX2_dueOf (wsV RX2 66 RX2 yX2_debtsOf wsX2_debtsOf) := goodIn_app (goodIn_of _ (by decide +kernel)) ggX2_dueOf_X2_debtsOf
set_option maxRecDepth 20000 in
theorem ggX2_dueOf_X2_notLater : GoodIn wsX2_dueOf wsX2_notLater := goodIn_r _ [17, 18, 19, 1, 2, 3, 4, 5, 6, 20, 21, 22, 23, 24, 25, 26, 27, 28, 29, 30] (by decide +kernel) (by decide +kernel)
set_option maxRecDepth 20000 in
theorem gX2_dueOf_X2_notLater : GoodIn wsX2_dueOf (wsV RX2 70 RX2 yX2_notLater wsX2_notLater) := goodIn_app (goodIn_of _ (by decide +kernel)) ggX2_dueOf_X2_notLater
theorem dX2_dueOf_0 : decode cX2_dueOf 0 = .ok (.aload_n 0, 1) := by decide +kernel
theorem dX2_dueOf_1 : decode cX2_dueOf 1 = .ok (.iload_n 1, 1) := by decide +kernel
theorem dX2_dueOf_2 : decode cX2_dueOf 2 = .ok (.iconst 0, 1) := by decide +kernel
theorem dX2_dueOf_3 : decode cX2_dueOf 3 = .ok (.invokevirtual 62, 3) := by decide +kernel
theorem dX2_dueOf_6 : decode cX2_dueOf 6 = .ok (.ifCond .ne 6, 3) := by decide +kernel
theorem dX2_dueOf_9 : decode cX2_dueOf 9 = .ok (.bipush (-6), 2) := by decide +kernel
theorem dX2_dueOf_11 : decode cX2_dueOf 11 = .ok (.ireturn, 1) := by decide +kernel
theorem dX2_dueOf_12 : decode cX2_dueOf 12 = .ok (.iconst 0, 1) := by decide +kernel
theorem dX2_dueOf_13 : decode cX2_dueOf 13 = .ok (.istore_n 2, 1) := by decide +kernel
theorem dX2_dueOf_14 : decode cX2_dueOf 14 = .ok (.iconst 1, 1) := by decide +kernel
theorem dX2_dueOf_15 : decode cX2_dueOf 15 = .ok (.istore_n 3, 1) := by decide +kernel
theorem dX2_dueOf_16 : decode cX2_dueOf 16 = .ok (.iload_n 3, 1) := by decide +kernel
theorem dX2_dueOf_17 : decode cX2_dueOf 17 = .ok (.aload_n 0, 1) := by decide +kernel
theorem dX2_dueOf_18 : decode cX2_dueOf 18 = .ok (.iload_n 1, 1) := by decide +kernel
theorem dX2_dueOf_19 : decode cX2_dueOf 19 = .ok (.invokevirtual 66, 3) := by decide +kernel
theorem dX2_dueOf_22 : decode cX2_dueOf 22 = .ok (.if_icmp .ge 25, 3) := by decide +kernel
theorem dX2_dueOf_25 : decode cX2_dueOf 25 = .ok (.aload_n 0, 1) := by decide +kernel
theorem dX2_dueOf_26 : decode cX2_dueOf 26 = .ok (.iload_n 1, 1) := by decide +kernel
theorem dX2_dueOf_27 : decode cX2_dueOf 27 = .ok (.iload_n 3, 1) := by decide +kernel
theorem dX2_dueOf_28 : decode cX2_dueOf 28 = .ok (.iload_n 2, 1) := by decide +kernel
theorem dX2_dueOf_29 : decode cX2_dueOf 29 = .ok (.invokevirtual 70, 3) := by decide +kernel
theorem dX2_dueOf_32 : decode cX2_dueOf 32 = .ok (.ifCond .eq 7, 3) := by decide +kernel
theorem dX2_dueOf_35 : decode cX2_dueOf 35 = .ok (.iload_n 3, 1) := by decide +kernel
theorem dX2_dueOf_36 : decode cX2_dueOf 36 = .ok (.goto 4, 3) := by decide +kernel
theorem dX2_dueOf_39 : decode cX2_dueOf 39 = .ok (.iload_n 2, 1) := by decide +kernel
theorem dX2_dueOf_40 : decode cX2_dueOf 40 = .ok (.istore_n 2, 1) := by decide +kernel
theorem dX2_dueOf_41 : decode cX2_dueOf 41 = .ok (.iinc 3 1, 3) := by decide +kernel
theorem dX2_dueOf_44 : decode cX2_dueOf 44 = .ok (.goto (-28), 3) := by decide +kernel
theorem dX2_dueOf_47 : decode cX2_dueOf 47 = .ok (.iload_n 2, 1) := by decide +kernel
theorem dX2_dueOf_48 : decode cX2_dueOf 48 = .ok (.ireturn, 1) := by decide +kernel
set_option maxRecDepth 20000 in
theorem ggX2_turnOf_X2_debtsOf : GoodIn wsX2_turnOf wsX2_debtsOf := goodIn_r _ [5, 6, 7, 8, 9, 20, 21, 22, 23, 24, 25, 26, 27, 28, 29, 30] (by decide +kernel) (by decide +kernel)
set_option maxRecDepth 20000 in
theorem gX2_turnOf_X2_debtsOf : GoodIn wsX2_turnOf (wsV RX2 66 RX2 yX2_debtsOf wsX2_debtsOf) := goodIn_app (goodIn_of _ (by decide +kernel)) ggX2_turnOf_X2_debtsOf
set_option maxRecDepth 20000 in
theorem ggX2_turnOf_X2_notLater : GoodIn wsX2_turnOf wsX2_notLater := goodIn_r _ [13, 14, 15, 16, 17, 18, 4, 19, 6, 20, 21, 22, 23, 24, 25, 26, 27, 28, 29, 30] (by decide +kernel) (by decide +kernel)
set_option maxRecDepth 20000 in
theorem gX2_turnOf_X2_notLater : GoodIn wsX2_turnOf (wsV RX2 70 RX2 yX2_notLater wsX2_notLater) := goodIn_app (goodIn_of _ (by decide +kernel)) ggX2_turnOf_X2_notLater
theorem dX2_turnOf_0 : decode cX2_turnOf 0 = .ok (.iconst 0, 1) := by decide +kernel
theorem dX2_turnOf_1 : decode cX2_turnOf 1 = .ok (.istore_n 3, 1) := by decide +kernel
theorem dX2_turnOf_2 : decode cX2_turnOf 2 = .ok (.iconst 0, 1) := by decide +kernel
theorem dX2_turnOf_3 : decode cX2_turnOf 3 = .ok (.istore 4, 2) := by decide +kernel
theorem dX2_turnOf_5 : decode cX2_turnOf 5 = .ok (.iload 4, 2) := by decide +kernel
theorem dX2_turnOf_7 : decode cX2_turnOf 7 = .ok (.aload_n 0, 1) := by decide +kernel
theorem dX2_turnOf_8 : decode cX2_turnOf 8 = .ok (.iload_n 1, 1) := by decide +kernel
theorem dX2_turnOf_9 : decode cX2_turnOf 9 = .ok (.invokevirtual 66, 3) := by decide +kernel
theorem dX2_turnOf_12 : decode cX2_turnOf 12 = .ok (.if_icmp .ge 28, 3) := by decide +kernel
theorem dX2_turnOf_15 : decode cX2_turnOf 15 = .ok (.iload_n 3, 1) := by decide +kernel
theorem dX2_turnOf_16 : decode cX2_turnOf 16 = .ok (.aload_n 0, 1) := by decide +kernel
theorem dX2_turnOf_17 : decode cX2_turnOf 17 = .ok (.iload_n 1, 1) := by decide +kernel
theorem dX2_turnOf_18 : decode cX2_turnOf 18 = .ok (.iload 4, 2) := by decide +kernel
theorem dX2_turnOf_20 : decode cX2_turnOf 20 = .ok (.iload_n 2, 1) := by decide +kernel
theorem dX2_turnOf_21 : decode cX2_turnOf 21 = .ok (.invokevirtual 70, 3) := by decide +kernel
theorem dX2_turnOf_24 : decode cX2_turnOf 24 = .ok (.ifCond .eq 7, 3) := by decide +kernel
theorem dX2_turnOf_27 : decode cX2_turnOf 27 = .ok (.iconst 1, 1) := by decide +kernel
theorem dX2_turnOf_28 : decode cX2_turnOf 28 = .ok (.goto 4, 3) := by decide +kernel
theorem dX2_turnOf_31 : decode cX2_turnOf 31 = .ok (.iconst 0, 1) := by decide +kernel
theorem dX2_turnOf_32 : decode cX2_turnOf 32 = .ok (.iadd, 1) := by decide +kernel
theorem dX2_turnOf_33 : decode cX2_turnOf 33 = .ok (.istore_n 3, 1) := by decide +kernel
theorem dX2_turnOf_34 : decode cX2_turnOf 34 = .ok (.iinc 4 1, 3) := by decide +kernel
theorem dX2_turnOf_37 : decode cX2_turnOf 37 = .ok (.goto (-32), 3) := by decide +kernel
theorem dX2_turnOf_40 : decode cX2_turnOf 40 = .ok (.iload_n 3, 1) := by decide +kernel
theorem dX2_turnOf_41 : decode cX2_turnOf 41 = .ok (.ireturn, 1) := by decide +kernel
set_option maxRecDepth 20000 in
theorem ggX2_penceTill_X2_debtsOf : GoodIn wsX2_penceTill wsX2_debtsOf := goodIn_r _ [5, 6, 7, 8, 9, 24, 25, 26, 27, 28, 29, 30, 31, 32, 33, 34] (by decide +kernel) (by decide +kernel)
set_option maxRecDepth 20000 in
theorem gX2_penceTill_X2_debtsOf : GoodIn wsX2_penceTill (wsV RX2 66 RX2 yX2_debtsOf wsX2_debtsOf) := goodIn_app (goodIn_of _ (by decide +kernel)) ggX2_penceTill_X2_debtsOf
set_option maxRecDepth 20000 in
theorem ggX2_penceTill_X2_notLater : GoodIn wsX2_penceTill wsX2_notLater := goodIn_r _ [13, 14, 15, 16, 17, 18, 4, 19, 6, 24, 25, 26, 27, 28, 29, 30, 31, 32, 33, 34] (by decide +kernel) (by decide +kernel)
set_option maxRecDepth 20000 in
theorem gX2_penceTill_X2_notLater : GoodIn wsX2_penceTill (wsV RX2 70 RX2 yX2_notLater wsX2_notLater) := goodIn_app (goodIn_of _ (by decide +kernel)) ggX2_penceTill_X2_notLater
set_option maxRecDepth 20000 in
theorem ggX2_penceTill_X2_penceOf : GoodIn wsX2_penceTill wsX2_penceOf := goodIn_r _ [23, 15, 16, 17, 18, 4, 19, 6, 24, 25, 26, 27, 28, 29, 30, 31, 32, 33, 34] (by decide +kernel) (by decide +kernel)
set_option maxRecDepth 20000 in
theorem gX2_penceTill_X2_penceOf : GoodIn wsX2_penceTill (wsV RX2 74 RX2 yX2_penceOf wsX2_penceOf) := goodIn_app (goodIn_of _ (by decide +kernel)) ggX2_penceTill_X2_penceOf
theorem dX2_penceTill_0 : decode cX2_penceTill 0 = .ok (.iconst 0, 1) := by decide +kernel
theorem dX2_penceTill_1 : decode cX2_penceTill 1 = .ok (.istore_n 3, 1) := by decide +kernel
theorem dX2_penceTill_2 : decode cX2_penceTill 2 = .ok (.iconst 0, 1) := by decide +kernel
theorem dX2_penceTill_3 : decode cX2_penceTill 3 = .ok (.istore 4, 2) := by decide +kernel
theorem dX2_penceTill_5 : decode cX2_penceTill 5 = .ok (.iload 4, 2) := by decide +kernel
theorem dX2_penceTill_7 : decode cX2_penceTill 7 = .ok (.aload_n 0, 1) := by decide +kernel
theorem dX2_penceTill_8 : decode cX2_penceTill 8 = .ok (.iload_n 1, 1) := by decide +kernel
theorem dX2_penceTill_9 : decode cX2_penceTill 9 = .ok (.invokevirtual 66, 3) := by decide +kernel
theorem dX2_penceTill_12 : decode cX2_penceTill 12 = .ok (.if_icmp .ge 34, 3) := by decide +kernel
theorem dX2_penceTill_15 : decode cX2_penceTill 15 = .ok (.iload_n 3, 1) := by decide +kernel
theorem dX2_penceTill_16 : decode cX2_penceTill 16 = .ok (.aload_n 0, 1) := by decide +kernel
theorem dX2_penceTill_17 : decode cX2_penceTill 17 = .ok (.iload_n 1, 1) := by decide +kernel
theorem dX2_penceTill_18 : decode cX2_penceTill 18 = .ok (.iload 4, 2) := by decide +kernel
theorem dX2_penceTill_20 : decode cX2_penceTill 20 = .ok (.iload_n 2, 1) := by decide +kernel
theorem dX2_penceTill_21 : decode cX2_penceTill 21 = .ok (.invokevirtual 70, 3) := by decide +kernel
theorem dX2_penceTill_24 : decode cX2_penceTill 24 = .ok (.ifCond .eq 13, 3) := by decide +kernel
theorem dX2_penceTill_27 : decode cX2_penceTill 27 = .ok (.aload_n 0, 1) := by decide +kernel
theorem dX2_penceTill_28 : decode cX2_penceTill 28 = .ok (.iload_n 1, 1) := by decide +kernel
theorem dX2_penceTill_29 : decode cX2_penceTill 29 = .ok (.iload 4, 2) := by decide +kernel
theorem dX2_penceTill_31 : decode cX2_penceTill 31 = .ok (.invokevirtual 74, 3) := by decide +kernel
theorem dX2_penceTill_34 : decode cX2_penceTill 34 = .ok (.goto 4, 3) := by decide +kernel
theorem dX2_penceTill_37 : decode cX2_penceTill 37 = .ok (.iconst 0, 1) := by decide +kernel
theorem dX2_penceTill_38 : decode cX2_penceTill 38 = .ok (.iadd, 1) := by decide +kernel
theorem dX2_penceTill_39 : decode cX2_penceTill 39 = .ok (.istore_n 3, 1) := by decide +kernel
theorem dX2_penceTill_40 : decode cX2_penceTill 40 = .ok (.iinc 4 1, 3) := by decide +kernel
theorem dX2_penceTill_43 : decode cX2_penceTill 43 = .ok (.goto (-38), 3) := by decide +kernel
theorem dX2_penceTill_46 : decode cX2_penceTill 46 = .ok (.iload_n 3, 1) := by decide +kernel
theorem dX2_penceTill_47 : decode cX2_penceTill 47 = .ok (.ireturn, 1) := by decide +kernel
set_option maxRecDepth 20000 in
theorem ggX2_owedTo_X2_debtsOf : GoodIn wsX2_owedTo wsX2_debtsOf := goodIn_r _ [5, 6, 7, 8, 9, 24, 25, 26, 27, 28, 29, 30, 31, 32, 33, 34] (by decide +kernel) (by decide +kernel)
set_option maxRecDepth 20000 in
theorem gX2_owedTo_X2_debtsOf : GoodIn wsX2_owedTo (wsV RX2 66 RX2 yX2_debtsOf wsX2_debtsOf) := goodIn_app (goodIn_of _ (by decide +kernel)) ggX2_owedTo_X2_debtsOf
set_option maxRecDepth 20000 in
theorem ggX2_owedTo_X2_lenderOf : GoodIn wsX2_owedTo wsX2_lenderOf := goodIn_r _ [13, 14, 15, 16, 17, 4, 18, 6, 24, 25, 26, 27, 28, 29, 30, 31, 32, 33, 34] (by decide +kernel) (by decide +kernel)
set_option maxRecDepth 20000 in
theorem gX2_owedTo_X2_lenderOf : GoodIn wsX2_owedTo (wsV RX2 78 RX2 yX2_lenderOf wsX2_lenderOf) := goodIn_app (goodIn_of _ (by decide +kernel)) ggX2_owedTo_X2_lenderOf
set_option maxRecDepth 20000 in
theorem ggX2_owedTo_X2_penceOf : GoodIn wsX2_owedTo wsX2_penceOf := goodIn_r _ [22, 23, 15, 16, 17, 4, 18, 6, 24, 25, 26, 27, 28, 29, 30, 31, 32, 33, 34] (by decide +kernel) (by decide +kernel)
set_option maxRecDepth 20000 in
theorem gX2_owedTo_X2_penceOf : GoodIn wsX2_owedTo (wsV RX2 74 RX2 yX2_penceOf wsX2_penceOf) := goodIn_app (goodIn_of _ (by decide +kernel)) ggX2_owedTo_X2_penceOf
theorem dX2_owedTo_0 : decode cX2_owedTo 0 = .ok (.iconst 0, 1) := by decide +kernel
theorem dX2_owedTo_1 : decode cX2_owedTo 1 = .ok (.istore_n 3, 1) := by decide +kernel
theorem dX2_owedTo_2 : decode cX2_owedTo 2 = .ok (.iconst 0, 1) := by decide +kernel
theorem dX2_owedTo_3 : decode cX2_owedTo 3 = .ok (.istore 4, 2) := by decide +kernel
theorem dX2_owedTo_5 : decode cX2_owedTo 5 = .ok (.iload 4, 2) := by decide +kernel
theorem dX2_owedTo_7 : decode cX2_owedTo 7 = .ok (.aload_n 0, 1) := by decide +kernel
theorem dX2_owedTo_8 : decode cX2_owedTo 8 = .ok (.iload_n 1, 1) := by decide +kernel
theorem dX2_owedTo_9 : decode cX2_owedTo 9 = .ok (.invokevirtual 66, 3) := by decide +kernel
theorem dX2_owedTo_12 : decode cX2_owedTo 12 = .ok (.if_icmp .ge 34, 3) := by decide +kernel
theorem dX2_owedTo_15 : decode cX2_owedTo 15 = .ok (.iload_n 3, 1) := by decide +kernel
theorem dX2_owedTo_16 : decode cX2_owedTo 16 = .ok (.aload_n 0, 1) := by decide +kernel
theorem dX2_owedTo_17 : decode cX2_owedTo 17 = .ok (.iload_n 1, 1) := by decide +kernel
theorem dX2_owedTo_18 : decode cX2_owedTo 18 = .ok (.iload 4, 2) := by decide +kernel
theorem dX2_owedTo_20 : decode cX2_owedTo 20 = .ok (.invokevirtual 78, 3) := by decide +kernel
theorem dX2_owedTo_23 : decode cX2_owedTo 23 = .ok (.iload_n 2, 1) := by decide +kernel
theorem dX2_owedTo_24 : decode cX2_owedTo 24 = .ok (.if_icmp .ne 13, 3) := by decide +kernel
theorem dX2_owedTo_27 : decode cX2_owedTo 27 = .ok (.aload_n 0, 1) := by decide +kernel
theorem dX2_owedTo_28 : decode cX2_owedTo 28 = .ok (.iload_n 1, 1) := by decide +kernel
theorem dX2_owedTo_29 : decode cX2_owedTo 29 = .ok (.iload 4, 2) := by decide +kernel
theorem dX2_owedTo_31 : decode cX2_owedTo 31 = .ok (.invokevirtual 74, 3) := by decide +kernel
theorem dX2_owedTo_34 : decode cX2_owedTo 34 = .ok (.goto 4, 3) := by decide +kernel
theorem dX2_owedTo_37 : decode cX2_owedTo 37 = .ok (.iconst 0, 1) := by decide +kernel
theorem dX2_owedTo_38 : decode cX2_owedTo 38 = .ok (.iadd, 1) := by decide +kernel
theorem dX2_owedTo_39 : decode cX2_owedTo 39 = .ok (.istore_n 3, 1) := by decide +kernel
theorem dX2_owedTo_40 : decode cX2_owedTo 40 = .ok (.iinc 4 1, 3) := by decide +kernel
theorem dX2_owedTo_43 : decode cX2_owedTo 43 = .ok (.goto (-38), 3) := by decide +kernel
theorem dX2_owedTo_46 : decode cX2_owedTo 46 = .ok (.iload_n 3, 1) := by decide +kernel
theorem dX2_owedTo_47 : decode cX2_owedTo 47 = .ok (.ireturn, 1) := by decide +kernel
theorem dX2_allDebts_0 : decode cX2_allDebts 0 = .ok (.iconst 0, 1) := by decide +kernel
theorem dX2_allDebts_1 : decode cX2_allDebts 1 = .ok (.istore_n 1, 1) := by decide +kernel
theorem dX2_allDebts_2 : decode cX2_allDebts 2 = .ok (.iconst 0, 1) := by decide +kernel
theorem dX2_allDebts_3 : decode cX2_allDebts 3 = .ok (.istore_n 2, 1) := by decide +kernel
theorem dX2_allDebts_4 : decode cX2_allDebts 4 = .ok (.iload_n 2, 1) := by decide +kernel
theorem dX2_allDebts_5 : decode cX2_allDebts 5 = .ok (.bipush 6, 2) := by decide +kernel
theorem dX2_allDebts_7 : decode cX2_allDebts 7 = .ok (.if_icmp .ge 18, 3) := by decide +kernel
theorem dX2_allDebts_10 : decode cX2_allDebts 10 = .ok (.iload_n 1, 1) := by decide +kernel
theorem dX2_allDebts_11 : decode cX2_allDebts 11 = .ok (.aload_n 0, 1) := by decide +kernel
theorem dX2_allDebts_12 : decode cX2_allDebts 12 = .ok (.getfield 21, 3) := by decide +kernel
theorem dX2_allDebts_15 : decode cX2_allDebts 15 = .ok (.iload_n 2, 1) := by decide +kernel
theorem dX2_allDebts_16 : decode cX2_allDebts 16 = .ok (.iaload, 1) := by decide +kernel
theorem dX2_allDebts_17 : decode cX2_allDebts 17 = .ok (.iadd, 1) := by decide +kernel
theorem dX2_allDebts_18 : decode cX2_allDebts 18 = .ok (.istore_n 1, 1) := by decide +kernel
theorem dX2_allDebts_19 : decode cX2_allDebts 19 = .ok (.iinc 2 1, 3) := by decide +kernel
theorem dX2_allDebts_22 : decode cX2_allDebts 22 = .ok (.goto (-18), 3) := by decide +kernel
theorem dX2_allDebts_25 : decode cX2_allDebts 25 = .ok (.iload_n 1, 1) := by decide +kernel
theorem dX2_allDebts_26 : decode cX2_allDebts 26 = .ok (.ireturn, 1) := by decide +kernel
set_option maxRecDepth 20000 in
theorem ggX2_allPence_X2_debtsOf : GoodIn wsX2_allPence wsX2_debtsOf := goodIn_r _ [5, 6, 7, 8, 9, 19, 20, 21, 22, 23, 24, 25, 26, 27, 28, 29] (by decide +kernel) (by decide +kernel)
set_option maxRecDepth 20000 in
theorem gX2_allPence_X2_debtsOf : GoodIn wsX2_allPence (wsV RX2 66 RX2 yX2_debtsOf wsX2_debtsOf) := goodIn_app (goodIn_of _ (by decide +kernel)) ggX2_allPence_X2_debtsOf
set_option maxRecDepth 20000 in
theorem ggX2_allPence_X2_penceOf : GoodIn wsX2_allPence wsX2_penceOf := goodIn_r _ [13, 14, 15, 16, 17, 4, 18, 6, 19, 20, 21, 22, 23, 24, 25, 26, 27, 28, 29] (by decide +kernel) (by decide +kernel)
set_option maxRecDepth 20000 in
theorem gX2_allPence_X2_penceOf : GoodIn wsX2_allPence (wsV RX2 74 RX2 yX2_penceOf wsX2_penceOf) := goodIn_app (goodIn_of _ (by decide +kernel)) ggX2_allPence_X2_penceOf
theorem dX2_allPence_0 : decode cX2_allPence 0 = .ok (.iconst 0, 1) := by decide +kernel
theorem dX2_allPence_1 : decode cX2_allPence 1 = .ok (.istore_n 1, 1) := by decide +kernel
theorem dX2_allPence_2 : decode cX2_allPence 2 = .ok (.iconst 0, 1) := by decide +kernel
theorem dX2_allPence_3 : decode cX2_allPence 3 = .ok (.istore_n 2, 1) := by decide +kernel
theorem dX2_allPence_4 : decode cX2_allPence 4 = .ok (.iload_n 2, 1) := by decide +kernel
theorem dX2_allPence_5 : decode cX2_allPence 5 = .ok (.bipush 6, 2) := by decide +kernel
theorem dX2_allPence_7 : decode cX2_allPence 7 = .ok (.if_icmp .ge 35, 3) := by decide +kernel
theorem dX2_allPence_10 : decode cX2_allPence 10 = .ok (.iconst 0, 1) := by decide +kernel
theorem dX2_allPence_11 : decode cX2_allPence 11 = .ok (.istore_n 3, 1) := by decide +kernel
theorem dX2_allPence_12 : decode cX2_allPence 12 = .ok (.iload_n 3, 1) := by decide +kernel
theorem dX2_allPence_13 : decode cX2_allPence 13 = .ok (.aload_n 0, 1) := by decide +kernel
theorem dX2_allPence_14 : decode cX2_allPence 14 = .ok (.iload_n 2, 1) := by decide +kernel
theorem dX2_allPence_15 : decode cX2_allPence 15 = .ok (.invokevirtual 66, 3) := by decide +kernel
theorem dX2_allPence_18 : decode cX2_allPence 18 = .ok (.if_icmp .ge 18, 3) := by decide +kernel
theorem dX2_allPence_21 : decode cX2_allPence 21 = .ok (.iload_n 1, 1) := by decide +kernel
theorem dX2_allPence_22 : decode cX2_allPence 22 = .ok (.aload_n 0, 1) := by decide +kernel
theorem dX2_allPence_23 : decode cX2_allPence 23 = .ok (.iload_n 2, 1) := by decide +kernel
theorem dX2_allPence_24 : decode cX2_allPence 24 = .ok (.iload_n 3, 1) := by decide +kernel
theorem dX2_allPence_25 : decode cX2_allPence 25 = .ok (.invokevirtual 74, 3) := by decide +kernel
theorem dX2_allPence_28 : decode cX2_allPence 28 = .ok (.iadd, 1) := by decide +kernel
theorem dX2_allPence_29 : decode cX2_allPence 29 = .ok (.istore_n 1, 1) := by decide +kernel
theorem dX2_allPence_30 : decode cX2_allPence 30 = .ok (.iinc 3 1, 3) := by decide +kernel
theorem dX2_allPence_33 : decode cX2_allPence 33 = .ok (.goto (-21), 3) := by decide +kernel
theorem dX2_allPence_36 : decode cX2_allPence 36 = .ok (.iinc 2 1, 3) := by decide +kernel
theorem dX2_allPence_39 : decode cX2_allPence 39 = .ok (.goto (-35), 3) := by decide +kernel
theorem dX2_allPence_42 : decode cX2_allPence 42 = .ok (.iload_n 1, 1) := by decide +kernel
theorem dX2_allPence_43 : decode cX2_allPence 43 = .ok (.ireturn, 1) := by decide +kernel
set_option maxRecDepth 20000 in
theorem ggX2_lend_X2_purseOf : GoodIn wsX2_lend wsX2_purseOf := goodIn_r _ [10, 11, 12, 13, 14, 23, 24, 25, 26, 27, 28, 29, 30, 31, 32, 33] (by decide +kernel) (by decide +kernel)
set_option maxRecDepth 20000 in
theorem gX2_lend_X2_purseOf : GoodIn wsX2_lend (wsV RX2 81 RX2 yX2_purseOf wsX2_purseOf) := goodIn_app (goodIn_of _ (by decide +kernel)) ggX2_lend_X2_purseOf
set_option maxRecDepth 20000 in
theorem ggX2_lend_X2_debtsOf : GoodIn wsX2_lend wsX2_debtsOf := goodIn_r _ [18, 5, 12, 13, 14, 23, 24, 25, 26, 27, 28, 29, 30, 31, 32, 33] (by decide +kernel) (by decide +kernel)
set_option maxRecDepth 20000 in
theorem gX2_lend_X2_debtsOf : GoodIn wsX2_lend (wsV RX2 66 RX2 yX2_debtsOf wsX2_debtsOf) := goodIn_app (goodIn_of _ (by decide +kernel)) ggX2_lend_X2_debtsOf
set_option maxRecDepth 20000 in
theorem ggX2_lend_X3_isMan : GoodIn wsX2_lend wsX3_isMan := goodIn_r _ [14] (by decide +kernel) (by decide +kernel)
set_option maxRecDepth 20000 in
theorem gX2_lend_X3_isMan_n58 : GoodIn wsX2_lend (wsX3_isMan) := ggX2_lend_X3_isMan
set_option maxRecDepth 20000 in
theorem ggX2_lend_X2_fillPurse : GoodIn wsX2_lend wsX2_fillPurse := goodIn_r _ [22, 11, 12, 13, 14, 23, 24, 25, 26, 27, 28, 29, 30, 31, 32, 33] (by decide +kernel) (by decide +kernel)
set_option maxRecDepth 20000 in
theorem gX2_lend_X2_fillPurse : GoodIn wsX2_lend (wsV RX2 84 RX2 yX2_fillPurse wsX2_fillPurse) := goodIn_app (goodIn_of _ (by decide +kernel)) ggX2_lend_X2_fillPurse
theorem dX2_lend_0 : decode cX2_lend 0 = .ok (.aload_n 0, 1) := by decide +kernel
theorem dX2_lend_1 : decode cX2_lend 1 = .ok (.iload_n 1, 1) := by decide +kernel
theorem dX2_lend_2 : decode cX2_lend 2 = .ok (.invokevirtual 81, 3) := by decide +kernel
theorem dX2_lend_5 : decode cX2_lend 5 = .ok (.iload_n 3, 1) := by decide +kernel
theorem dX2_lend_6 : decode cX2_lend 6 = .ok (.if_icmp .ge 5, 3) := by decide +kernel
theorem dX2_lend_9 : decode cX2_lend 9 = .ok (.iconst 1, 1) := by decide +kernel
theorem dX2_lend_10 : decode cX2_lend 10 = .ok (.ireturn, 1) := by decide +kernel
theorem dX2_lend_11 : decode cX2_lend 11 = .ok (.aload_n 0, 1) := by decide +kernel
theorem dX2_lend_12 : decode cX2_lend 12 = .ok (.iload_n 2, 1) := by decide +kernel
theorem dX2_lend_13 : decode cX2_lend 13 = .ok (.invokevirtual 66, 3) := by decide +kernel
theorem dX2_lend_16 : decode cX2_lend 16 = .ok (.istore 4, 2) := by decide +kernel
theorem dX2_lend_18 : decode cX2_lend 18 = .ok (.iload_n 2, 1) := by decide +kernel
theorem dX2_lend_19 : decode cX2_lend 19 = .ok (.invokestatic 58, 3) := by decide +kernel
theorem dX2_lend_22 : decode cX2_lend 22 = .ok (.ifCond .eq 14, 3) := by decide +kernel
theorem dX2_lend_25 : decode cX2_lend 25 = .ok (.iload 4, 2) := by decide +kernel
theorem dX2_lend_27 : decode cX2_lend 27 = .ok (.ifCond .lt 9, 3) := by decide +kernel
theorem dX2_lend_30 : decode cX2_lend 30 = .ok (.iload 4, 2) := by decide +kernel
theorem dX2_lend_32 : decode cX2_lend 32 = .ok (.iconst 5, 1) := by decide +kernel
theorem dX2_lend_33 : decode cX2_lend 33 = .ok (.if_icmp .lt 5, 3) := by decide +kernel
theorem dX2_lend_36 : decode cX2_lend 36 = .ok (.iconst 2, 1) := by decide +kernel
theorem dX2_lend_37 : decode cX2_lend 37 = .ok (.ireturn, 1) := by decide +kernel
theorem dX2_lend_38 : decode cX2_lend 38 = .ok (.iload_n 2, 1) := by decide +kernel
theorem dX2_lend_39 : decode cX2_lend 39 = .ok (.iconst 5, 1) := by decide +kernel
theorem dX2_lend_40 : decode cX2_lend 40 = .ok (.imul, 1) := by decide +kernel
theorem dX2_lend_41 : decode cX2_lend 41 = .ok (.iload 4, 2) := by decide +kernel
theorem dX2_lend_43 : decode cX2_lend 43 = .ok (.iadd, 1) := by decide +kernel
theorem dX2_lend_44 : decode cX2_lend 44 = .ok (.istore 5, 2) := by decide +kernel
theorem dX2_lend_46 : decode cX2_lend 46 = .ok (.aload_n 0, 1) := by decide +kernel
theorem dX2_lend_47 : decode cX2_lend 47 = .ok (.getfield 24, 3) := by decide +kernel
theorem dX2_lend_50 : decode cX2_lend 50 = .ok (.iload 5, 2) := by decide +kernel
theorem dX2_lend_52 : decode cX2_lend 52 = .ok (.iload_n 1, 1) := by decide +kernel
theorem dX2_lend_53 : decode cX2_lend 53 = .ok (.iastore, 1) := by decide +kernel
theorem dX2_lend_54 : decode cX2_lend 54 = .ok (.aload_n 0, 1) := by decide +kernel
theorem dX2_lend_55 : decode cX2_lend 55 = .ok (.getfield 27, 3) := by decide +kernel
theorem dX2_lend_58 : decode cX2_lend 58 = .ok (.iload 5, 2) := by decide +kernel
theorem dX2_lend_60 : decode cX2_lend 60 = .ok (.iload_n 3, 1) := by decide +kernel
theorem dX2_lend_61 : decode cX2_lend 61 = .ok (.iastore, 1) := by decide +kernel
theorem dX2_lend_62 : decode cX2_lend 62 = .ok (.aload_n 0, 1) := by decide +kernel
theorem dX2_lend_63 : decode cX2_lend 63 = .ok (.getfield 30, 3) := by decide +kernel
theorem dX2_lend_66 : decode cX2_lend 66 = .ok (.iload 5, 2) := by decide +kernel
theorem dX2_lend_68 : decode cX2_lend 68 = .ok (.aload_n 0, 1) := by decide +kernel
theorem dX2_lend_69 : decode cX2_lend 69 = .ok (.getfield 43, 3) := by decide +kernel
theorem dX2_lend_72 : decode cX2_lend 72 = .ok (.iastore, 1) := by decide +kernel
theorem dX2_lend_73 : decode cX2_lend 73 = .ok (.aload_n 0, 1) := by decide +kernel
theorem dX2_lend_74 : decode cX2_lend 74 = .ok (.getfield 21, 3) := by decide +kernel
theorem dX2_lend_77 : decode cX2_lend 77 = .ok (.iload_n 2, 1) := by decide +kernel
theorem dX2_lend_78 : decode cX2_lend 78 = .ok (.iload 4, 2) := by decide +kernel
theorem dX2_lend_80 : decode cX2_lend 80 = .ok (.iconst 1, 1) := by decide +kernel
theorem dX2_lend_81 : decode cX2_lend 81 = .ok (.iadd, 1) := by decide +kernel
theorem dX2_lend_82 : decode cX2_lend 82 = .ok (.iastore, 1) := by decide +kernel
theorem dX2_lend_83 : decode cX2_lend 83 = .ok (.aload_n 0, 1) := by decide +kernel
theorem dX2_lend_84 : decode cX2_lend 84 = .ok (.iload_n 1, 1) := by decide +kernel
theorem dX2_lend_85 : decode cX2_lend 85 = .ok (.aload_n 0, 1) := by decide +kernel
theorem dX2_lend_86 : decode cX2_lend 86 = .ok (.iload_n 1, 1) := by decide +kernel
theorem dX2_lend_87 : decode cX2_lend 87 = .ok (.invokevirtual 81, 3) := by decide +kernel
theorem dX2_lend_90 : decode cX2_lend 90 = .ok (.iload_n 3, 1) := by decide +kernel
theorem dX2_lend_91 : decode cX2_lend 91 = .ok (.isub, 1) := by decide +kernel
theorem dX2_lend_92 : decode cX2_lend 92 = .ok (.invokevirtual 84, 3) := by decide +kernel
theorem dX2_lend_95 : decode cX2_lend 95 = .ok (.aload_n 0, 1) := by decide +kernel
theorem dX2_lend_96 : decode cX2_lend 96 = .ok (.iload_n 2, 1) := by decide +kernel
theorem dX2_lend_97 : decode cX2_lend 97 = .ok (.aload_n 0, 1) := by decide +kernel
theorem dX2_lend_98 : decode cX2_lend 98 = .ok (.iload_n 2, 1) := by decide +kernel
theorem dX2_lend_99 : decode cX2_lend 99 = .ok (.invokevirtual 81, 3) := by decide +kernel
theorem dX2_lend_102 : decode cX2_lend 102 = .ok (.iload_n 3, 1) := by decide +kernel
theorem dX2_lend_103 : decode cX2_lend 103 = .ok (.iadd, 1) := by decide +kernel
theorem dX2_lend_104 : decode cX2_lend 104 = .ok (.invokevirtual 84, 3) := by decide +kernel
theorem dX2_lend_107 : decode cX2_lend 107 = .ok (.iconst 0, 1) := by decide +kernel
theorem dX2_lend_108 : decode cX2_lend 108 = .ok (.ireturn, 1) := by decide +kernel
set_option maxRecDepth 20000 in
theorem ggX2_repay_X2_dueOf : GoodIn wsX2_repay wsX2_dueOf := goodIn_r _ [5, 6, 7, 8, 4, 9, 10, 11, 12, 13, 14, 15, 16, 17, 18, 19, 20, 21, 22, 23, 47, 48, 49, 50, 51, 52, 53, 54, 55, 56, 57] (by decide +kernel) (by decide +kernel)
set_option maxRecDepth 20000 in
theorem gX2_repay_X2_dueOf : GoodIn wsX2_repay (wsV RX2 88 RX2 yX2_dueOf wsX2_dueOf) := goodIn_app (goodIn_of _ (by decide +kernel)) ggX2_repay_X2_dueOf
set_option maxRecDepth 20000 in
theorem ggX2_repay_X2_penceOf : GoodIn wsX2_repay wsX2_penceOf := goodIn_r _ [27, 23, 6, 7, 8, 4, 9, 10, 47, 48, 49, 50, 51, 52, 53, 54, 55, 56, 57] (by decide +kernel) (by decide +kernel)
set_option maxRecDepth 20000 in
theorem gX2_repay_X2_penceOf : GoodIn wsX2_repay (wsV RX2 74 RX2 yX2_penceOf wsX2_penceOf) := goodIn_app (goodIn_of _ (by decide +kernel)) ggX2_repay_X2_penceOf
set_option maxRecDepth 20000 in
theorem ggX2_repay_X2_purseOf : GoodIn wsX2_repay wsX2_purseOf := goodIn_r _ [31, 32, 15, 16, 17, 47, 48, 49, 50, 51, 52, 53, 54, 55, 56, 57] (by decide +kernel) (by decide +kernel)
set_option maxRecDepth 20000 in
theorem gX2_repay_X2_purseOf : GoodIn wsX2_repay (wsV RX2 81 RX2 yX2_purseOf wsX2_purseOf) := goodIn_app (goodIn_of _ (by decide +kernel)) ggX2_repay_X2_purseOf
set_option maxRecDepth 20000 in
theorem ggX2_repay_X2_lenderOf : GoodIn wsX2_repay wsX2_lenderOf := goodIn_r _ [36, 37, 6, 7, 8, 4, 9, 10, 47, 48, 49, 50, 51, 52, 53, 54, 55, 56, 57] (by decide +kernel) (by decide +kernel)
set_option maxRecDepth 20000 in
theorem gX2_repay_X2_lenderOf : GoodIn wsX2_repay (wsV RX2 78 RX2 yX2_lenderOf wsX2_lenderOf) := goodIn_app (goodIn_of _ (by decide +kernel)) ggX2_repay_X2_lenderOf
set_option maxRecDepth 20000 in
theorem ggX2_repay_X2_fillPurse : GoodIn wsX2_repay wsX2_fillPurse := goodIn_r _ [41, 32, 15, 16, 17, 47, 48, 49, 50, 51, 52, 53, 54, 55, 56, 57] (by decide +kernel) (by decide +kernel)
set_option maxRecDepth 20000 in
theorem gX2_repay_X2_fillPurse : GoodIn wsX2_repay (wsV RX2 84 RX2 yX2_fillPurse wsX2_fillPurse) := goodIn_app (goodIn_of _ (by decide +kernel)) ggX2_repay_X2_fillPurse
set_option maxRecDepth 20000 in
theorem ggX2_repay_X2_drop : GoodIn wsX2_repay wsX2_drop := goodIn_r _ [45, 10, 37, 23, 46, 6, 7, 8, 4, 9, 47, 48, 49, 50, 51, 52, 53, 54, 55, 56, 57] (by decide +kernel) (by decide +kernel)
set_option maxRecDepth 20000 in
theorem gX2_repay_X2_drop : GoodIn wsX2_repay (wsV RX2 91 RX2 yX2_drop wsX2_drop) := goodIn_app (goodIn_of _ (by decide +kernel)) ggX2_repay_X2_drop
theorem dX2_repay_0 : decode cX2_repay 0 = .ok (.aload_n 0, 1) := by decide +kernel
theorem dX2_repay_1 : decode cX2_repay 1 = .ok (.iload_n 1, 1) := by decide +kernel
theorem dX2_repay_2 : decode cX2_repay 2 = .ok (.invokevirtual 88, 3) := by decide +kernel
theorem dX2_repay_5 : decode cX2_repay 5 = .ok (.istore_n 2, 1) := by decide +kernel
theorem dX2_repay_6 : decode cX2_repay 6 = .ok (.iload_n 2, 1) := by decide +kernel
theorem dX2_repay_7 : decode cX2_repay 7 = .ok (.bipush (-6), 2) := by decide +kernel
theorem dX2_repay_9 : decode cX2_repay 9 = .ok (.if_icmp .ne 5, 3) := by decide +kernel
theorem dX2_repay_12 : decode cX2_repay 12 = .ok (.iconst 3, 1) := by decide +kernel
theorem dX2_repay_13 : decode cX2_repay 13 = .ok (.ireturn, 1) := by decide +kernel
theorem dX2_repay_14 : decode cX2_repay 14 = .ok (.aload_n 0, 1) := by decide +kernel
theorem dX2_repay_15 : decode cX2_repay 15 = .ok (.iload_n 1, 1) := by decide +kernel
theorem dX2_repay_16 : decode cX2_repay 16 = .ok (.iload_n 2, 1) := by decide +kernel
theorem dX2_repay_17 : decode cX2_repay 17 = .ok (.invokevirtual 74, 3) := by decide +kernel
theorem dX2_repay_20 : decode cX2_repay 20 = .ok (.istore_n 3, 1) := by decide +kernel
theorem dX2_repay_21 : decode cX2_repay 21 = .ok (.aload_n 0, 1) := by decide +kernel
theorem dX2_repay_22 : decode cX2_repay 22 = .ok (.iload_n 1, 1) := by decide +kernel
theorem dX2_repay_23 : decode cX2_repay 23 = .ok (.invokevirtual 81, 3) := by decide +kernel
theorem dX2_repay_26 : decode cX2_repay 26 = .ok (.iload_n 3, 1) := by decide +kernel
theorem dX2_repay_27 : decode cX2_repay 27 = .ok (.if_icmp .ge 5, 3) := by decide +kernel
theorem dX2_repay_30 : decode cX2_repay 30 = .ok (.iconst 4, 1) := by decide +kernel
theorem dX2_repay_31 : decode cX2_repay 31 = .ok (.ireturn, 1) := by decide +kernel
theorem dX2_repay_32 : decode cX2_repay 32 = .ok (.aload_n 0, 1) := by decide +kernel
theorem dX2_repay_33 : decode cX2_repay 33 = .ok (.iload_n 1, 1) := by decide +kernel
theorem dX2_repay_34 : decode cX2_repay 34 = .ok (.iload_n 2, 1) := by decide +kernel
theorem dX2_repay_35 : decode cX2_repay 35 = .ok (.invokevirtual 78, 3) := by decide +kernel
theorem dX2_repay_38 : decode cX2_repay 38 = .ok (.istore 4, 2) := by decide +kernel
theorem dX2_repay_40 : decode cX2_repay 40 = .ok (.aload_n 0, 1) := by decide +kernel
theorem dX2_repay_41 : decode cX2_repay 41 = .ok (.iload_n 1, 1) := by decide +kernel
theorem dX2_repay_42 : decode cX2_repay 42 = .ok (.aload_n 0, 1) := by decide +kernel
theorem dX2_repay_43 : decode cX2_repay 43 = .ok (.iload_n 1, 1) := by decide +kernel
theorem dX2_repay_44 : decode cX2_repay 44 = .ok (.invokevirtual 81, 3) := by decide +kernel
theorem dX2_repay_47 : decode cX2_repay 47 = .ok (.iload_n 3, 1) := by decide +kernel
theorem dX2_repay_48 : decode cX2_repay 48 = .ok (.isub, 1) := by decide +kernel
theorem dX2_repay_49 : decode cX2_repay 49 = .ok (.invokevirtual 84, 3) := by decide +kernel
theorem dX2_repay_52 : decode cX2_repay 52 = .ok (.aload_n 0, 1) := by decide +kernel
theorem dX2_repay_53 : decode cX2_repay 53 = .ok (.iload 4, 2) := by decide +kernel
theorem dX2_repay_55 : decode cX2_repay 55 = .ok (.aload_n 0, 1) := by decide +kernel
theorem dX2_repay_56 : decode cX2_repay 56 = .ok (.iload 4, 2) := by decide +kernel
theorem dX2_repay_58 : decode cX2_repay 58 = .ok (.invokevirtual 81, 3) := by decide +kernel
theorem dX2_repay_61 : decode cX2_repay 61 = .ok (.iload_n 3, 1) := by decide +kernel
theorem dX2_repay_62 : decode cX2_repay 62 = .ok (.iadd, 1) := by decide +kernel
theorem dX2_repay_63 : decode cX2_repay 63 = .ok (.invokevirtual 84, 3) := by decide +kernel
theorem dX2_repay_66 : decode cX2_repay 66 = .ok (.aload_n 0, 1) := by decide +kernel
theorem dX2_repay_67 : decode cX2_repay 67 = .ok (.iload_n 1, 1) := by decide +kernel
theorem dX2_repay_68 : decode cX2_repay 68 = .ok (.iload_n 2, 1) := by decide +kernel
theorem dX2_repay_69 : decode cX2_repay 69 = .ok (.invokevirtual 91, 3) := by decide +kernel
theorem dX2_repay_72 : decode cX2_repay 72 = .ok (.iconst 0, 1) := by decide +kernel
theorem dX2_repay_73 : decode cX2_repay 73 = .ok (.ireturn, 1) := by decide +kernel
set_option maxRecDepth 20000 in
theorem ggX2_drop_X2_hasDebt : GoodIn wsX2_drop wsX2_hasDebt := goodIn_r _ [9, 1, 10, 11, 12, 13, 14, 15, 16, 17, 18, 19, 20] (by decide +kernel) (by decide +kernel)
set_option maxRecDepth 20000 in
theorem gX2_drop_X2_hasDebt : GoodIn wsX2_drop (wsV RX2 62 RX2 yX2_hasDebt wsX2_hasDebt) := goodIn_app (goodIn_of _ (by decide +kernel)) ggX2_drop_X2_hasDebt
theorem dX2_drop_0 : decode cX2_drop 0 = .ok (.aload_n 0, 1) := by decide +kernel
theorem dX2_drop_1 : decode cX2_drop 1 = .ok (.iload_n 1, 1) := by decide +kernel
theorem dX2_drop_2 : decode cX2_drop 2 = .ok (.iload_n 2, 1) := by decide +kernel
theorem dX2_drop_3 : decode cX2_drop 3 = .ok (.invokevirtual 62, 3) := by decide +kernel
theorem dX2_drop_6 : decode cX2_drop 6 = .ok (.ifCond .ne 4, 3) := by decide +kernel
theorem dX2_drop_9 : decode cX2_drop 9 = .ok (.return_, 1) := by decide +kernel
theorem dX2_drop_10 : decode cX2_drop 10 = .ok (.iload_n 1, 1) := by decide +kernel
theorem dX2_drop_11 : decode cX2_drop 11 = .ok (.iconst 5, 1) := by decide +kernel
theorem dX2_drop_12 : decode cX2_drop 12 = .ok (.imul, 1) := by decide +kernel
theorem dX2_drop_13 : decode cX2_drop 13 = .ok (.istore_n 3, 1) := by decide +kernel
theorem dX2_drop_14 : decode cX2_drop 14 = .ok (.iload_n 2, 1) := by decide +kernel
theorem dX2_drop_15 : decode cX2_drop 15 = .ok (.istore 4, 2) := by decide +kernel
theorem dX2_drop_17 : decode cX2_drop 17 = .ok (.iload 4, 2) := by decide +kernel
theorem dX2_drop_19 : decode cX2_drop 19 = .ok (.iconst 1, 1) := by decide +kernel
theorem dX2_drop_20 : decode cX2_drop 20 = .ok (.iadd, 1) := by decide +kernel
theorem dX2_drop_21 : decode cX2_drop 21 = .ok (.aload_n 0, 1) := by decide +kernel
theorem dX2_drop_22 : decode cX2_drop 22 = .ok (.getfield 21, 3) := by decide +kernel
theorem dX2_drop_25 : decode cX2_drop 25 = .ok (.iload_n 1, 1) := by decide +kernel
theorem dX2_drop_26 : decode cX2_drop 26 = .ok (.iaload, 1) := by decide +kernel
theorem dX2_drop_27 : decode cX2_drop 27 = .ok (.if_icmp .ge 77, 3) := by decide +kernel
theorem dX2_drop_30 : decode cX2_drop 30 = .ok (.iload 4, 2) := by decide +kernel
theorem dX2_drop_32 : decode cX2_drop 32 = .ok (.iconst 1, 1) := by decide +kernel
theorem dX2_drop_33 : decode cX2_drop 33 = .ok (.iadd, 1) := by decide +kernel
theorem dX2_drop_34 : decode cX2_drop 34 = .ok (.iconst 5, 1) := by decide +kernel
theorem dX2_drop_35 : decode cX2_drop 35 = .ok (.if_icmp .ge 69, 3) := by decide +kernel
theorem dX2_drop_38 : decode cX2_drop 38 = .ok (.aload_n 0, 1) := by decide +kernel
theorem dX2_drop_39 : decode cX2_drop 39 = .ok (.getfield 24, 3) := by decide +kernel
theorem dX2_drop_42 : decode cX2_drop 42 = .ok (.iload_n 3, 1) := by decide +kernel
theorem dX2_drop_43 : decode cX2_drop 43 = .ok (.iload 4, 2) := by decide +kernel
theorem dX2_drop_45 : decode cX2_drop 45 = .ok (.iadd, 1) := by decide +kernel
theorem dX2_drop_46 : decode cX2_drop 46 = .ok (.aload_n 0, 1) := by decide +kernel
theorem dX2_drop_47 : decode cX2_drop 47 = .ok (.getfield 24, 3) := by decide +kernel
theorem dX2_drop_50 : decode cX2_drop 50 = .ok (.iload_n 3, 1) := by decide +kernel
theorem dX2_drop_51 : decode cX2_drop 51 = .ok (.iload 4, 2) := by decide +kernel
theorem dX2_drop_53 : decode cX2_drop 53 = .ok (.iadd, 1) := by decide +kernel
theorem dX2_drop_54 : decode cX2_drop 54 = .ok (.iconst 1, 1) := by decide +kernel
theorem dX2_drop_55 : decode cX2_drop 55 = .ok (.iadd, 1) := by decide +kernel
theorem dX2_drop_56 : decode cX2_drop 56 = .ok (.iaload, 1) := by decide +kernel
theorem dX2_drop_57 : decode cX2_drop 57 = .ok (.iastore, 1) := by decide +kernel
theorem dX2_drop_58 : decode cX2_drop 58 = .ok (.aload_n 0, 1) := by decide +kernel
theorem dX2_drop_59 : decode cX2_drop 59 = .ok (.getfield 27, 3) := by decide +kernel
theorem dX2_drop_62 : decode cX2_drop 62 = .ok (.iload_n 3, 1) := by decide +kernel
theorem dX2_drop_63 : decode cX2_drop 63 = .ok (.iload 4, 2) := by decide +kernel
theorem dX2_drop_65 : decode cX2_drop 65 = .ok (.iadd, 1) := by decide +kernel
theorem dX2_drop_66 : decode cX2_drop 66 = .ok (.aload_n 0, 1) := by decide +kernel
theorem dX2_drop_67 : decode cX2_drop 67 = .ok (.getfield 27, 3) := by decide +kernel
theorem dX2_drop_70 : decode cX2_drop 70 = .ok (.iload_n 3, 1) := by decide +kernel
theorem dX2_drop_71 : decode cX2_drop 71 = .ok (.iload 4, 2) := by decide +kernel
theorem dX2_drop_73 : decode cX2_drop 73 = .ok (.iadd, 1) := by decide +kernel
theorem dX2_drop_74 : decode cX2_drop 74 = .ok (.iconst 1, 1) := by decide +kernel
theorem dX2_drop_75 : decode cX2_drop 75 = .ok (.iadd, 1) := by decide +kernel
theorem dX2_drop_76 : decode cX2_drop 76 = .ok (.iaload, 1) := by decide +kernel
theorem dX2_drop_77 : decode cX2_drop 77 = .ok (.iastore, 1) := by decide +kernel
theorem dX2_drop_78 : decode cX2_drop 78 = .ok (.aload_n 0, 1) := by decide +kernel
theorem dX2_drop_79 : decode cX2_drop 79 = .ok (.getfield 30, 3) := by decide +kernel
theorem dX2_drop_82 : decode cX2_drop 82 = .ok (.iload_n 3, 1) := by decide +kernel
theorem dX2_drop_83 : decode cX2_drop 83 = .ok (.iload 4, 2) := by decide +kernel
theorem dX2_drop_85 : decode cX2_drop 85 = .ok (.iadd, 1) := by decide +kernel
theorem dX2_drop_86 : decode cX2_drop 86 = .ok (.aload_n 0, 1) := by decide +kernel
theorem dX2_drop_87 : decode cX2_drop 87 = .ok (.getfield 30, 3) := by decide +kernel
theorem dX2_drop_90 : decode cX2_drop 90 = .ok (.iload_n 3, 1) := by decide +kernel
theorem dX2_drop_91 : decode cX2_drop 91 = .ok (.iload 4, 2) := by decide +kernel
theorem dX2_drop_93 : decode cX2_drop 93 = .ok (.iadd, 1) := by decide +kernel
theorem dX2_drop_94 : decode cX2_drop 94 = .ok (.iconst 1, 1) := by decide +kernel
theorem dX2_drop_95 : decode cX2_drop 95 = .ok (.iadd, 1) := by decide +kernel
theorem dX2_drop_96 : decode cX2_drop 96 = .ok (.iaload, 1) := by decide +kernel
theorem dX2_drop_97 : decode cX2_drop 97 = .ok (.iastore, 1) := by decide +kernel
theorem dX2_drop_98 : decode cX2_drop 98 = .ok (.iinc 4 1, 3) := by decide +kernel
theorem dX2_drop_101 : decode cX2_drop 101 = .ok (.goto (-84), 3) := by decide +kernel
theorem dX2_drop_104 : decode cX2_drop 104 = .ok (.aload_n 0, 1) := by decide +kernel
theorem dX2_drop_105 : decode cX2_drop 105 = .ok (.getfield 21, 3) := by decide +kernel
theorem dX2_drop_108 : decode cX2_drop 108 = .ok (.iload_n 1, 1) := by decide +kernel
theorem dX2_drop_109 : decode cX2_drop 109 = .ok (.dup2, 1) := by decide +kernel
theorem dX2_drop_110 : decode cX2_drop 110 = .ok (.iaload, 1) := by decide +kernel
theorem dX2_drop_111 : decode cX2_drop 111 = .ok (.iconst 1, 1) := by decide +kernel
theorem dX2_drop_112 : decode cX2_drop 112 = .ok (.isub, 1) := by decide +kernel
theorem dX2_drop_113 : decode cX2_drop 113 = .ok (.iastore, 1) := by decide +kernel
theorem dX2_drop_114 : decode cX2_drop 114 = .ok (.return_, 1) := by decide +kernel
set_option maxRecDepth 20000 in
theorem ggX2_passDay_X3_grown : GoodIn wsX2_passDay wsX3_grown := goodIn_r _ [6, 7, 8, 9, 10] (by decide +kernel) (by decide +kernel)
set_option maxRecDepth 20000 in
theorem gX2_passDay_X3_grown_n94 : GoodIn wsX2_passDay (wsX3_grown) := ggX2_passDay_X3_grown
theorem dX2_passDay_0 : decode cX2_passDay 0 = .ok (.aload_n 0, 1) := by decide +kernel
theorem dX2_passDay_1 : decode cX2_passDay 1 = .ok (.dup, 1) := by decide +kernel
theorem dX2_passDay_2 : decode cX2_passDay 2 = .ok (.getfield 43, 3) := by decide +kernel
theorem dX2_passDay_5 : decode cX2_passDay 5 = .ok (.iconst 1, 1) := by decide +kernel
theorem dX2_passDay_6 : decode cX2_passDay 6 = .ok (.iadd, 1) := by decide +kernel
theorem dX2_passDay_7 : decode cX2_passDay 7 = .ok (.putfield 43, 3) := by decide +kernel
theorem dX2_passDay_10 : decode cX2_passDay 10 = .ok (.iconst 0, 1) := by decide +kernel
theorem dX2_passDay_11 : decode cX2_passDay 11 = .ok (.istore_n 1, 1) := by decide +kernel
theorem dX2_passDay_12 : decode cX2_passDay 12 = .ok (.iload_n 1, 1) := by decide +kernel
theorem dX2_passDay_13 : decode cX2_passDay 13 = .ok (.bipush 30, 2) := by decide +kernel
theorem dX2_passDay_15 : decode cX2_passDay 15 = .ok (.if_icmp .ge 28, 3) := by decide +kernel
theorem dX2_passDay_18 : decode cX2_passDay 18 = .ok (.aload_n 0, 1) := by decide +kernel
theorem dX2_passDay_19 : decode cX2_passDay 19 = .ok (.getfield 27, 3) := by decide +kernel
theorem dX2_passDay_22 : decode cX2_passDay 22 = .ok (.iload_n 1, 1) := by decide +kernel
theorem dX2_passDay_23 : decode cX2_passDay 23 = .ok (.aload_n 0, 1) := by decide +kernel
theorem dX2_passDay_24 : decode cX2_passDay 24 = .ok (.getfield 27, 3) := by decide +kernel
theorem dX2_passDay_27 : decode cX2_passDay 27 = .ok (.iload_n 1, 1) := by decide +kernel
theorem dX2_passDay_28 : decode cX2_passDay 28 = .ok (.iaload, 1) := by decide +kernel
theorem dX2_passDay_29 : decode cX2_passDay 29 = .ok (.aload_n 0, 1) := by decide +kernel
theorem dX2_passDay_30 : decode cX2_passDay 30 = .ok (.getfield 49, 3) := by decide +kernel
theorem dX2_passDay_33 : decode cX2_passDay 33 = .ok (.invokestatic 94, 3) := by decide +kernel
theorem dX2_passDay_36 : decode cX2_passDay 36 = .ok (.iastore, 1) := by decide +kernel
theorem dX2_passDay_37 : decode cX2_passDay 37 = .ok (.iinc 1 1, 3) := by decide +kernel
theorem dX2_passDay_40 : decode cX2_passDay 40 = .ok (.goto (-28), 3) := by decide +kernel
theorem dX2_passDay_43 : decode cX2_passDay 43 = .ok (.return_, 1) := by decide +kernel
set_option maxRecDepth 20000 in
theorem ggX2_ringOf_X3_isMan : GoodIn wsX2_ringOf wsX3_isMan := goodIn_r _ [3] (by decide +kernel) (by decide +kernel)
set_option maxRecDepth 20000 in
theorem gX2_ringOf_X3_isMan_n58 : GoodIn wsX2_ringOf (wsX3_isMan) := ggX2_ringOf_X3_isMan
set_option maxRecDepth 20000 in
theorem ggX2_ringOf_X2_dueOf : GoodIn wsX2_ringOf wsX2_dueOf := goodIn_r _ [8, 9, 10, 11, 7, 12, 13, 14, 15, 16, 17, 1, 2, 3, 18, 19, 20, 21, 22, 23, 29, 30, 31, 32, 33, 34, 35, 36, 37, 38, 39] (by decide +kernel) (by decide +kernel)
set_option maxRecDepth 20000 in
theorem gX2_ringOf_X2_dueOf : GoodIn wsX2_ringOf (wsV RX2 88 RX2 yX2_dueOf wsX2_dueOf) := goodIn_app (goodIn_of _ (by decide +kernel)) ggX2_ringOf_X2_dueOf
set_option maxRecDepth 20000 in
theorem ggX2_ringOf_X2_lenderOf : GoodIn wsX2_ringOf wsX2_lenderOf := goodIn_r _ [27, 28, 9, 10, 11, 7, 12, 13, 29, 30, 31, 32, 33, 34, 35, 36, 37, 38, 39] (by decide +kernel) (by decide +kernel)
set_option maxRecDepth 20000 in
theorem gX2_ringOf_X2_lenderOf : GoodIn wsX2_ringOf (wsV RX2 78 RX2 yX2_lenderOf wsX2_lenderOf) := goodIn_app (goodIn_of _ (by decide +kernel)) ggX2_ringOf_X2_lenderOf
theorem dX2_ringOf_0 : decode cX2_ringOf 0 = .ok (.iconst 0, 1) := by decide +kernel
theorem dX2_ringOf_1 : decode cX2_ringOf 1 = .ok (.istore_n 2, 1) := by decide +kernel
theorem dX2_ringOf_2 : decode cX2_ringOf 2 = .ok (.iload_n 1, 1) := by decide +kernel
theorem dX2_ringOf_3 : decode cX2_ringOf 3 = .ok (.istore_n 3, 1) := by decide +kernel
theorem dX2_ringOf_4 : decode cX2_ringOf 4 = .ok (.iconst 0, 1) := by decide +kernel
theorem dX2_ringOf_5 : decode cX2_ringOf 5 = .ok (.istore 4, 2) := by decide +kernel
theorem dX2_ringOf_7 : decode cX2_ringOf 7 = .ok (.iload 4, 2) := by decide +kernel
theorem dX2_ringOf_9 : decode cX2_ringOf 9 = .ok (.bipush 6, 2) := by decide +kernel
theorem dX2_ringOf_11 : decode cX2_ringOf 11 = .ok (.if_icmp .ge 40, 3) := by decide +kernel
theorem dX2_ringOf_14 : decode cX2_ringOf 14 = .ok (.iload_n 3, 1) := by decide +kernel
theorem dX2_ringOf_15 : decode cX2_ringOf 15 = .ok (.invokestatic 58, 3) := by decide +kernel
theorem dX2_ringOf_18 : decode cX2_ringOf 18 = .ok (.ifCond .eq 33, 3) := by decide +kernel
theorem dX2_ringOf_21 : decode cX2_ringOf 21 = .ok (.iload_n 2, 1) := by decide +kernel
theorem dX2_ringOf_22 : decode cX2_ringOf 22 = .ok (.iconst 1, 1) := by decide +kernel
theorem dX2_ringOf_23 : decode cX2_ringOf 23 = .ok (.iload_n 3, 1) := by decide +kernel
theorem dX2_ringOf_24 : decode cX2_ringOf 24 = .ok (.ishl, 1) := by decide +kernel
theorem dX2_ringOf_25 : decode cX2_ringOf 25 = .ok (.ior, 1) := by decide +kernel
theorem dX2_ringOf_26 : decode cX2_ringOf 26 = .ok (.istore_n 2, 1) := by decide +kernel
theorem dX2_ringOf_27 : decode cX2_ringOf 27 = .ok (.aload_n 0, 1) := by decide +kernel
theorem dX2_ringOf_28 : decode cX2_ringOf 28 = .ok (.iload_n 3, 1) := by decide +kernel
theorem dX2_ringOf_29 : decode cX2_ringOf 29 = .ok (.aload_n 0, 1) := by decide +kernel
theorem dX2_ringOf_30 : decode cX2_ringOf 30 = .ok (.iload_n 3, 1) := by decide +kernel
theorem dX2_ringOf_31 : decode cX2_ringOf 31 = .ok (.invokevirtual 88, 3) := by decide +kernel
theorem dX2_ringOf_34 : decode cX2_ringOf 34 = .ok (.invokevirtual 78, 3) := by decide +kernel
theorem dX2_ringOf_37 : decode cX2_ringOf 37 = .ok (.istore_n 3, 1) := by decide +kernel
theorem dX2_ringOf_38 : decode cX2_ringOf 38 = .ok (.iload_n 3, 1) := by decide +kernel
theorem dX2_ringOf_39 : decode cX2_ringOf 39 = .ok (.iload_n 1, 1) := by decide +kernel
theorem dX2_ringOf_40 : decode cX2_ringOf 40 = .ok (.if_icmp .ne 5, 3) := by decide +kernel
theorem dX2_ringOf_43 : decode cX2_ringOf 43 = .ok (.iload_n 2, 1) := by decide +kernel
theorem dX2_ringOf_44 : decode cX2_ringOf 44 = .ok (.ireturn, 1) := by decide +kernel
theorem dX2_ringOf_45 : decode cX2_ringOf 45 = .ok (.iinc 4 1, 3) := by decide +kernel
theorem dX2_ringOf_48 : decode cX2_ringOf 48 = .ok (.goto (-41), 3) := by decide +kernel
theorem dX2_ringOf_51 : decode cX2_ringOf 51 = .ok (.bipush (-6), 2) := by decide +kernel
theorem dX2_ringOf_53 : decode cX2_ringOf 53 = .ok (.ireturn, 1) := by decide +kernel
set_option maxRecDepth 20000 in
theorem ggX2_setOffDues_X2_dueOf : GoodIn wsX2_setOffDues wsX2_dueOf := goodIn_r _ [9, 10, 11, 12, 8, 13, 14, 15, 16, 17, 18, 19, 20, 21, 22, 23, 24, 25, 26, 27, 42, 43, 44, 45, 46, 47, 48, 49, 50, 51, 52] (by decide +kernel) (by decide +kernel)
set_option maxRecDepth 20000 in
theorem gX2_setOffDues_X2_dueOf : GoodIn wsX2_setOffDues (wsV RX2 88 RX2 yX2_dueOf wsX2_dueOf) := goodIn_app (goodIn_of _ (by decide +kernel)) ggX2_setOffDues_X2_dueOf
set_option maxRecDepth 20000 in
theorem ggX2_setOffDues_X2_penceOf : GoodIn wsX2_setOffDues wsX2_penceOf := goodIn_r _ [31, 27, 10, 11, 12, 8, 13, 14, 42, 43, 44, 45, 46, 47, 48, 49, 50, 51, 52] (by decide +kernel) (by decide +kernel)
set_option maxRecDepth 20000 in
theorem gX2_setOffDues_X2_penceOf : GoodIn wsX2_setOffDues (wsV RX2 74 RX2 yX2_penceOf wsX2_penceOf) := goodIn_app (goodIn_of _ (by decide +kernel)) ggX2_setOffDues_X2_penceOf
set_option maxRecDepth 20000 in
theorem ggX2_setOffDues_X2_lower : GoodIn wsX2_setOffDues wsX2_lower := goodIn_r _ [35, 27, 10, 11, 12, 8, 13, 14, 28, 29, 30, 31, 36, 37, 38, 39, 40, 41, 42, 43, 44, 45, 46, 47, 48, 49, 50, 51, 52] (by decide +kernel) (by decide +kernel)
set_option maxRecDepth 20000 in
theorem gX2_setOffDues_X2_lower : GoodIn wsX2_setOffDues (wsV RX2 102 RX2 yX2_lower wsX2_lower) := goodIn_app (goodIn_of _ (by decide +kernel)) ggX2_setOffDues_X2_lower
theorem dX2_setOffDues_0 : decode cX2_setOffDues 0 = .ok (.sipush 9999, 3) := by decide +kernel
theorem dX2_setOffDues_3 : decode cX2_setOffDues 3 = .ok (.istore_n 2, 1) := by decide +kernel
theorem dX2_setOffDues_4 : decode cX2_setOffDues 4 = .ok (.iconst 0, 1) := by decide +kernel
theorem dX2_setOffDues_5 : decode cX2_setOffDues 5 = .ok (.istore_n 3, 1) := by decide +kernel
theorem dX2_setOffDues_6 : decode cX2_setOffDues 6 = .ok (.iload_n 3, 1) := by decide +kernel
theorem dX2_setOffDues_7 : decode cX2_setOffDues 7 = .ok (.bipush 6, 2) := by decide +kernel
theorem dX2_setOffDues_9 : decode cX2_setOffDues 9 = .ok (.if_icmp .ge 32, 3) := by decide +kernel
theorem dX2_setOffDues_12 : decode cX2_setOffDues 12 = .ok (.iload_n 1, 1) := by decide +kernel
theorem dX2_setOffDues_13 : decode cX2_setOffDues 13 = .ok (.iconst 1, 1) := by decide +kernel
theorem dX2_setOffDues_14 : decode cX2_setOffDues 14 = .ok (.iload_n 3, 1) := by decide +kernel
theorem dX2_setOffDues_15 : decode cX2_setOffDues 15 = .ok (.ishl, 1) := by decide +kernel
theorem dX2_setOffDues_16 : decode cX2_setOffDues 16 = .ok (.iand, 1) := by decide +kernel
theorem dX2_setOffDues_17 : decode cX2_setOffDues 17 = .ok (.ifCond .eq 18, 3) := by decide +kernel
theorem dX2_setOffDues_20 : decode cX2_setOffDues 20 = .ok (.iload_n 2, 1) := by decide +kernel
theorem dX2_setOffDues_21 : decode cX2_setOffDues 21 = .ok (.aload_n 0, 1) := by decide +kernel
theorem dX2_setOffDues_22 : decode cX2_setOffDues 22 = .ok (.iload_n 3, 1) := by decide +kernel
theorem dX2_setOffDues_23 : decode cX2_setOffDues 23 = .ok (.aload_n 0, 1) := by decide +kernel
theorem dX2_setOffDues_24 : decode cX2_setOffDues 24 = .ok (.iload_n 3, 1) := by decide +kernel
theorem dX2_setOffDues_25 : decode cX2_setOffDues 25 = .ok (.invokevirtual 88, 3) := by decide +kernel
theorem dX2_setOffDues_28 : decode cX2_setOffDues 28 = .ok (.invokevirtual 74, 3) := by decide +kernel
theorem dX2_setOffDues_31 : decode cX2_setOffDues 31 = .ok (.invokestatic 97, 3) := by decide +kernel
theorem dX2_setOffDues_34 : decode cX2_setOffDues 34 = .ok (.istore_n 2, 1) := by decide +kernel
theorem dX2_setOffDues_35 : decode cX2_setOffDues 35 = .ok (.iinc 3 1, 3) := by decide +kernel
theorem dX2_setOffDues_38 : decode cX2_setOffDues 38 = .ok (.goto (-32), 3) := by decide +kernel
theorem dX2_setOffDues_41 : decode cX2_setOffDues 41 = .ok (.iconst 0, 1) := by decide +kernel
theorem dX2_setOffDues_42 : decode cX2_setOffDues 42 = .ok (.istore_n 3, 1) := by decide +kernel
theorem dX2_setOffDues_43 : decode cX2_setOffDues 43 = .ok (.iload_n 3, 1) := by decide +kernel
theorem dX2_setOffDues_44 : decode cX2_setOffDues 44 = .ok (.bipush 6, 2) := by decide +kernel
theorem dX2_setOffDues_46 : decode cX2_setOffDues 46 = .ok (.if_icmp .ge 28, 3) := by decide +kernel
theorem dX2_setOffDues_49 : decode cX2_setOffDues 49 = .ok (.iload_n 1, 1) := by decide +kernel
theorem dX2_setOffDues_50 : decode cX2_setOffDues 50 = .ok (.iconst 1, 1) := by decide +kernel
theorem dX2_setOffDues_51 : decode cX2_setOffDues 51 = .ok (.iload_n 3, 1) := by decide +kernel
theorem dX2_setOffDues_52 : decode cX2_setOffDues 52 = .ok (.ishl, 1) := by decide +kernel
theorem dX2_setOffDues_53 : decode cX2_setOffDues 53 = .ok (.iand, 1) := by decide +kernel
theorem dX2_setOffDues_54 : decode cX2_setOffDues 54 = .ok (.ifCond .eq 14, 3) := by decide +kernel
theorem dX2_setOffDues_57 : decode cX2_setOffDues 57 = .ok (.aload_n 0, 1) := by decide +kernel
theorem dX2_setOffDues_58 : decode cX2_setOffDues 58 = .ok (.iload_n 3, 1) := by decide +kernel
theorem dX2_setOffDues_59 : decode cX2_setOffDues 59 = .ok (.aload_n 0, 1) := by decide +kernel
theorem dX2_setOffDues_60 : decode cX2_setOffDues 60 = .ok (.iload_n 3, 1) := by decide +kernel
theorem dX2_setOffDues_61 : decode cX2_setOffDues 61 = .ok (.invokevirtual 88, 3) := by decide +kernel
theorem dX2_setOffDues_64 : decode cX2_setOffDues 64 = .ok (.iload_n 2, 1) := by decide +kernel
theorem dX2_setOffDues_65 : decode cX2_setOffDues 65 = .ok (.invokevirtual 102, 3) := by decide +kernel
theorem dX2_setOffDues_68 : decode cX2_setOffDues 68 = .ok (.iinc 3 1, 3) := by decide +kernel
theorem dX2_setOffDues_71 : decode cX2_setOffDues 71 = .ok (.goto (-28), 3) := by decide +kernel
theorem dX2_setOffDues_74 : decode cX2_setOffDues 74 = .ok (.iload_n 2, 1) := by decide +kernel
theorem dX2_setOffDues_75 : decode cX2_setOffDues 75 = .ok (.ireturn, 1) := by decide +kernel
set_option maxRecDepth 20000 in
theorem ggX2_lower_X2_hasDebt : GoodIn wsX2_lower wsX2_hasDebt := goodIn_r _ [6, 7, 18, 19, 20, 21, 22, 23, 24, 25, 26, 27, 28] (by decide +kernel) (by decide +kernel)
set_option maxRecDepth 20000 in
theorem gX2_lower_X2_hasDebt : GoodIn wsX2_lower (wsV RX2 62 RX2 yX2_hasDebt wsX2_hasDebt) := goodIn_app (goodIn_of _ (by decide +kernel)) ggX2_lower_X2_hasDebt
set_option maxRecDepth 20000 in
theorem ggX2_lower_X2_penceOf : GoodIn wsX2_lower wsX2_penceOf := goodIn_r _ [11, 1, 2, 3, 4, 5, 6, 7, 18, 19, 20, 21, 22, 23, 24, 25, 26, 27, 28] (by decide +kernel) (by decide +kernel)
set_option maxRecDepth 20000 in
theorem gX2_lower_X2_penceOf : GoodIn wsX2_lower (wsV RX2 74 RX2 yX2_penceOf wsX2_penceOf) := goodIn_app (goodIn_of _ (by decide +kernel)) ggX2_lower_X2_penceOf
set_option maxRecDepth 20000 in
theorem ggX2_lower_X2_drop : GoodIn wsX2_lower wsX2_drop := goodIn_r _ [15, 7, 16, 1, 17, 2, 3, 4, 5, 6, 18, 19, 20, 21, 22, 23, 24, 25, 26, 27, 28] (by decide +kernel) (by decide +kernel)
set_option maxRecDepth 20000 in
theorem gX2_lower_X2_drop : GoodIn wsX2_lower (wsV RX2 91 RX2 yX2_drop wsX2_drop) := goodIn_app (goodIn_of _ (by decide +kernel)) ggX2_lower_X2_drop
theorem dX2_lower_0 : decode cX2_lower 0 = .ok (.aload_n 0, 1) := by decide +kernel
theorem dX2_lower_1 : decode cX2_lower 1 = .ok (.iload_n 1, 1) := by decide +kernel
theorem dX2_lower_2 : decode cX2_lower 2 = .ok (.iload_n 2, 1) := by decide +kernel
theorem dX2_lower_3 : decode cX2_lower 3 = .ok (.invokevirtual 62, 3) := by decide +kernel
theorem dX2_lower_6 : decode cX2_lower 6 = .ok (.ifCond .ne 4, 3) := by decide +kernel
theorem dX2_lower_9 : decode cX2_lower 9 = .ok (.return_, 1) := by decide +kernel
theorem dX2_lower_10 : decode cX2_lower 10 = .ok (.aload_n 0, 1) := by decide +kernel
theorem dX2_lower_11 : decode cX2_lower 11 = .ok (.iload_n 1, 1) := by decide +kernel
theorem dX2_lower_12 : decode cX2_lower 12 = .ok (.iload_n 2, 1) := by decide +kernel
theorem dX2_lower_13 : decode cX2_lower 13 = .ok (.invokevirtual 74, 3) := by decide +kernel
theorem dX2_lower_16 : decode cX2_lower 16 = .ok (.iload_n 3, 1) := by decide +kernel
theorem dX2_lower_17 : decode cX2_lower 17 = .ok (.isub, 1) := by decide +kernel
theorem dX2_lower_18 : decode cX2_lower 18 = .ok (.istore 4, 2) := by decide +kernel
theorem dX2_lower_20 : decode cX2_lower 20 = .ok (.iload 4, 2) := by decide +kernel
theorem dX2_lower_22 : decode cX2_lower 22 = .ok (.ifCond .le 18, 3) := by decide +kernel
theorem dX2_lower_25 : decode cX2_lower 25 = .ok (.aload_n 0, 1) := by decide +kernel
theorem dX2_lower_26 : decode cX2_lower 26 = .ok (.getfield 27, 3) := by decide +kernel
theorem dX2_lower_29 : decode cX2_lower 29 = .ok (.iload_n 1, 1) := by decide +kernel
theorem dX2_lower_30 : decode cX2_lower 30 = .ok (.iconst 5, 1) := by decide +kernel
theorem dX2_lower_31 : decode cX2_lower 31 = .ok (.imul, 1) := by decide +kernel
theorem dX2_lower_32 : decode cX2_lower 32 = .ok (.iload_n 2, 1) := by decide +kernel
theorem dX2_lower_33 : decode cX2_lower 33 = .ok (.iadd, 1) := by decide +kernel
theorem dX2_lower_34 : decode cX2_lower 34 = .ok (.iload 4, 2) := by decide +kernel
theorem dX2_lower_36 : decode cX2_lower 36 = .ok (.iastore, 1) := by decide +kernel
theorem dX2_lower_37 : decode cX2_lower 37 = .ok (.goto 9, 3) := by decide +kernel
theorem dX2_lower_40 : decode cX2_lower 40 = .ok (.aload_n 0, 1) := by decide +kernel
theorem dX2_lower_41 : decode cX2_lower 41 = .ok (.iload_n 1, 1) := by decide +kernel
theorem dX2_lower_42 : decode cX2_lower 42 = .ok (.iload_n 2, 1) := by decide +kernel
theorem dX2_lower_43 : decode cX2_lower 43 = .ok (.invokevirtual 91, 3) := by decide +kernel
theorem dX2_lower_46 : decode cX2_lower 46 = .ok (.return_, 1) := by decide +kernel
theorem dX2_addSight_0 : decode cX2_addSight 0 = .ok (.aload_n 0, 1) := by decide +kernel
theorem dX2_addSight_1 : decode cX2_addSight 1 = .ok (.getfield 39, 3) := by decide +kernel
theorem dX2_addSight_4 : decode cX2_addSight 4 = .ok (.ifCond .lt 12, 3) := by decide +kernel
theorem dX2_addSight_7 : decode cX2_addSight 7 = .ok (.aload_n 0, 1) := by decide +kernel
theorem dX2_addSight_8 : decode cX2_addSight 8 = .ok (.getfield 39, 3) := by decide +kernel
theorem dX2_addSight_11 : decode cX2_addSight 11 = .ok (.bipush 6, 2) := by decide +kernel
theorem dX2_addSight_13 : decode cX2_addSight 13 = .ok (.if_icmp .lt 5, 3) := by decide +kernel
theorem dX2_addSight_16 : decode cX2_addSight 16 = .ok (.iconst 0, 1) := by decide +kernel
theorem dX2_addSight_17 : decode cX2_addSight 17 = .ok (.ireturn, 1) := by decide +kernel
theorem dX2_addSight_18 : decode cX2_addSight 18 = .ok (.aload_n 0, 1) := by decide +kernel
theorem dX2_addSight_19 : decode cX2_addSight 19 = .ok (.getfield 33, 3) := by decide +kernel
theorem dX2_addSight_22 : decode cX2_addSight 22 = .ok (.aload_n 0, 1) := by decide +kernel
theorem dX2_addSight_23 : decode cX2_addSight 23 = .ok (.getfield 39, 3) := by decide +kernel
theorem dX2_addSight_26 : decode cX2_addSight 26 = .ok (.iload_n 1, 1) := by decide +kernel
theorem dX2_addSight_27 : decode cX2_addSight 27 = .ok (.iastore, 1) := by decide +kernel
theorem dX2_addSight_28 : decode cX2_addSight 28 = .ok (.aload_n 0, 1) := by decide +kernel
theorem dX2_addSight_29 : decode cX2_addSight 29 = .ok (.getfield 36, 3) := by decide +kernel
theorem dX2_addSight_32 : decode cX2_addSight 32 = .ok (.aload_n 0, 1) := by decide +kernel
theorem dX2_addSight_33 : decode cX2_addSight 33 = .ok (.getfield 39, 3) := by decide +kernel
theorem dX2_addSight_36 : decode cX2_addSight 36 = .ok (.iload_n 2, 1) := by decide +kernel
theorem dX2_addSight_37 : decode cX2_addSight 37 = .ok (.iastore, 1) := by decide +kernel
theorem dX2_addSight_38 : decode cX2_addSight 38 = .ok (.aload_n 0, 1) := by decide +kernel
theorem dX2_addSight_39 : decode cX2_addSight 39 = .ok (.dup, 1) := by decide +kernel
theorem dX2_addSight_40 : decode cX2_addSight 40 = .ok (.getfield 39, 3) := by decide +kernel
theorem dX2_addSight_43 : decode cX2_addSight 43 = .ok (.iconst 1, 1) := by decide +kernel
theorem dX2_addSight_44 : decode cX2_addSight 44 = .ok (.iadd, 1) := by decide +kernel
theorem dX2_addSight_45 : decode cX2_addSight 45 = .ok (.putfield 39, 3) := by decide +kernel
theorem dX2_addSight_48 : decode cX2_addSight 48 = .ok (.iconst 1, 1) := by decide +kernel
theorem dX2_addSight_49 : decode cX2_addSight 49 = .ok (.ireturn, 1) := by decide +kernel
set_option maxRecDepth 20000 in
theorem ggX2_sightsHold_X2_purseOf : GoodIn wsX2_sightsHold wsX2_purseOf := goodIn_r _ [8, 9, 10, 11, 12, 13, 14, 15, 16, 17, 18, 19, 20, 21, 22, 23] (by decide +kernel) (by decide +kernel)
set_option maxRecDepth 20000 in
theorem gX2_sightsHold_X2_purseOf : GoodIn wsX2_sightsHold (wsV RX2 81 RX2 yX2_purseOf wsX2_purseOf) := goodIn_app (goodIn_of _ (by decide +kernel)) ggX2_sightsHold_X2_purseOf
theorem dX2_sightsHold_0 : decode cX2_sightsHold 0 = .ok (.iconst 0, 1) := by decide +kernel
theorem dX2_sightsHold_1 : decode cX2_sightsHold 1 = .ok (.istore_n 1, 1) := by decide +kernel
theorem dX2_sightsHold_2 : decode cX2_sightsHold 2 = .ok (.iload_n 1, 1) := by decide +kernel
theorem dX2_sightsHold_3 : decode cX2_sightsHold 3 = .ok (.aload_n 0, 1) := by decide +kernel
theorem dX2_sightsHold_4 : decode cX2_sightsHold 4 = .ok (.getfield 39, 3) := by decide +kernel
theorem dX2_sightsHold_7 : decode cX2_sightsHold 7 = .ok (.if_icmp .ge 36, 3) := by decide +kernel
theorem dX2_sightsHold_10 : decode cX2_sightsHold 10 = .ok (.iload_n 1, 1) := by decide +kernel
theorem dX2_sightsHold_11 : decode cX2_sightsHold 11 = .ok (.bipush 6, 2) := by decide +kernel
theorem dX2_sightsHold_13 : decode cX2_sightsHold 13 = .ok (.if_icmp .ge 30, 3) := by decide +kernel
theorem dX2_sightsHold_16 : decode cX2_sightsHold 16 = .ok (.aload_n 0, 1) := by decide +kernel
theorem dX2_sightsHold_17 : decode cX2_sightsHold 17 = .ok (.aload_n 0, 1) := by decide +kernel
theorem dX2_sightsHold_18 : decode cX2_sightsHold 18 = .ok (.getfield 33, 3) := by decide +kernel
theorem dX2_sightsHold_21 : decode cX2_sightsHold 21 = .ok (.iload_n 1, 1) := by decide +kernel
theorem dX2_sightsHold_22 : decode cX2_sightsHold 22 = .ok (.iaload, 1) := by decide +kernel
theorem dX2_sightsHold_23 : decode cX2_sightsHold 23 = .ok (.invokevirtual 81, 3) := by decide +kernel
theorem dX2_sightsHold_26 : decode cX2_sightsHold 26 = .ok (.aload_n 0, 1) := by decide +kernel
theorem dX2_sightsHold_27 : decode cX2_sightsHold 27 = .ok (.getfield 36, 3) := by decide +kernel
theorem dX2_sightsHold_30 : decode cX2_sightsHold 30 = .ok (.iload_n 1, 1) := by decide +kernel
theorem dX2_sightsHold_31 : decode cX2_sightsHold 31 = .ok (.iaload, 1) := by decide +kernel
theorem dX2_sightsHold_32 : decode cX2_sightsHold 32 = .ok (.if_icmp .eq 5, 3) := by decide +kernel
theorem dX2_sightsHold_35 : decode cX2_sightsHold 35 = .ok (.iconst 0, 1) := by decide +kernel
theorem dX2_sightsHold_36 : decode cX2_sightsHold 36 = .ok (.ireturn, 1) := by decide +kernel
theorem dX2_sightsHold_37 : decode cX2_sightsHold 37 = .ok (.iinc 1 1, 3) := by decide +kernel
theorem dX2_sightsHold_40 : decode cX2_sightsHold 40 = .ok (.goto (-38), 3) := by decide +kernel
theorem dX2_sightsHold_43 : decode cX2_sightsHold 43 = .ok (.iconst 1, 1) := by decide +kernel
theorem dX2_sightsHold_44 : decode cX2_sightsHold 44 = .ok (.ireturn, 1) := by decide +kernel
end
section
set_option maxRecDepth 20000 in
theorem ggX3_init_X2_init : GoodIn wsX3_init wsX2_init := goodIn_r _ [24, 25, 2, 3, 26, 27, 28, 29, 30, 31, 32, 33, 34, 35, 36, 37, 38, 39, 40, 41, 71, 72, 73, 74, 75, 76, 77, 78, 79, 80, 81] (by decide +kernel) (by decide +kernel)
set_option maxRecDepth 20000 in
theorem gX3_init_X2_init : GoodIn wsX3_init (wsX2_init) := ggX3_init_X2_init
set_option maxRecDepth 20000 in
theorem ggX3_init_X0_init : GoodIn wsX3_init wsX0_init := goodIn_r _ [44, 45, 2, 3, 46, 47, 26, 48, 49, 50, 51, 52, 53, 54, 55, 56, 90, 91, 92, 93, 94, 95, 96, 97, 98, 99] (by decide +kernel) (by decide +kernel)
set_option maxRecDepth 20000 in
theorem gX3_init_X0_init : GoodIn wsX3_init (wsX0_init) := ggX3_init_X0_init
set_option maxRecDepth 20000 in
theorem ggX3_init_X1_init : GoodIn wsX3_init wsX1_init := goodIn_r _ [59, 60, 2, 3, 26, 61, 62, 63, 64, 65, 66, 67, 68, 19, 69, 70, 100, 101, 102, 103, 104, 105, 106, 107, 108, 109] (by decide +kernel) (by decide +kernel)
set_option maxRecDepth 20000 in
theorem gX3_init_X1_init : GoodIn wsX3_init (wsX1_init) := ggX3_init_X1_init
theorem dX3_init_0 : decode cX3_init 0 = .ok (.aload_n 0, 1) := by decide +kernel
theorem dX3_init_1 : decode cX3_init 1 = .ok (.invokespecial 3, 3) := by decide +kernel
theorem dX3_init_4 : decode cX3_init 4 = .ok (.aload_n 0, 1) := by decide +kernel
theorem dX3_init_5 : decode cX3_init 5 = .ok (.new 9, 3) := by decide +kernel
theorem dX3_init_8 : decode cX3_init 8 = .ok (.dup, 1) := by decide +kernel
theorem dX3_init_9 : decode cX3_init 9 = .ok (.invokespecial 11, 3) := by decide +kernel
theorem dX3_init_12 : decode cX3_init 12 = .ok (.putfield 12, 3) := by decide +kernel
theorem dX3_init_15 : decode cX3_init 15 = .ok (.aload_n 0, 1) := by decide +kernel
theorem dX3_init_16 : decode cX3_init 16 = .ok (.new 9, 3) := by decide +kernel
theorem dX3_init_19 : decode cX3_init 19 = .ok (.dup, 1) := by decide +kernel
theorem dX3_init_20 : decode cX3_init 20 = .ok (.invokespecial 11, 3) := by decide +kernel
theorem dX3_init_23 : decode cX3_init 23 = .ok (.putfield 16, 3) := by decide +kernel
theorem dX3_init_26 : decode cX3_init 26 = .ok (.aload_n 0, 1) := by decide +kernel
theorem dX3_init_27 : decode cX3_init 27 = .ok (.new 9, 3) := by decide +kernel
theorem dX3_init_30 : decode cX3_init 30 = .ok (.dup, 1) := by decide +kernel
theorem dX3_init_31 : decode cX3_init 31 = .ok (.invokespecial 11, 3) := by decide +kernel
theorem dX3_init_34 : decode cX3_init 34 = .ok (.putfield 19, 3) := by decide +kernel
theorem dX3_init_37 : decode cX3_init 37 = .ok (.aload_n 0, 1) := by decide +kernel
theorem dX3_init_38 : decode cX3_init 38 = .ok (.new 9, 3) := by decide +kernel
theorem dX3_init_41 : decode cX3_init 41 = .ok (.dup, 1) := by decide +kernel
theorem dX3_init_42 : decode cX3_init 42 = .ok (.invokespecial 11, 3) := by decide +kernel
theorem dX3_init_45 : decode cX3_init 45 = .ok (.putfield 22, 3) := by decide +kernel
theorem dX3_init_48 : decode cX3_init 48 = .ok (.aload_n 0, 1) := by decide +kernel
theorem dX3_init_49 : decode cX3_init 49 = .ok (.new 25, 3) := by decide +kernel
theorem dX3_init_52 : decode cX3_init 52 = .ok (.dup, 1) := by decide +kernel
theorem dX3_init_53 : decode cX3_init 53 = .ok (.invokespecial 27, 3) := by decide +kernel
theorem dX3_init_56 : decode cX3_init 56 = .ok (.putfield 28, 3) := by decide +kernel
theorem dX3_init_59 : decode cX3_init 59 = .ok (.aload_n 0, 1) := by decide +kernel
theorem dX3_init_60 : decode cX3_init 60 = .ok (.new 32, 3) := by decide +kernel
theorem dX3_init_63 : decode cX3_init 63 = .ok (.dup, 1) := by decide +kernel
theorem dX3_init_64 : decode cX3_init 64 = .ok (.invokespecial 34, 3) := by decide +kernel
theorem dX3_init_67 : decode cX3_init 67 = .ok (.putfield 35, 3) := by decide +kernel
theorem dX3_init_70 : decode cX3_init 70 = .ok (.aload_n 0, 1) := by decide +kernel
theorem dX3_init_71 : decode cX3_init 71 = .ok (.bipush 13, 2) := by decide +kernel
theorem dX3_init_73 : decode cX3_init 73 = .ok (.newarray .long, 2) := by decide +kernel
theorem dX3_init_75 : decode cX3_init 75 = .ok (.putfield 39, 3) := by decide +kernel
theorem dX3_init_78 : decode cX3_init 78 = .ok (.aload_n 0, 1) := by decide +kernel
theorem dX3_init_79 : decode cX3_init 79 = .ok (.iconst 0, 1) := by decide +kernel
theorem dX3_init_80 : decode cX3_init 80 = .ok (.putfield 43, 3) := by decide +kernel
theorem dX3_init_83 : decode cX3_init 83 = .ok (.return_, 1) := by decide +kernel
set_option maxRecDepth 20000 in
theorem ggX3_money_X3_isMan : GoodIn wsX3_money wsX3_isMan := goodIn_r _ [5] (by decide +kernel) (by decide +kernel)
set_option maxRecDepth 20000 in
theorem gX3_money_X3_isMan : GoodIn wsX3_money (va_wsS RX3 47 yX3_isMan wsX3_isMan) := goodIn_app (goodIn_of _ (by decide +kernel)) ggX3_money_X3_isMan
set_option maxRecDepth 20000 in
theorem ggX3_money_X3_isWithin : GoodIn wsX3_money wsX3_isWithin := goodIn_r _ [8] (by decide +kernel) (by decide +kernel)
set_option maxRecDepth 20000 in
theorem gX3_money_X3_isWithin : GoodIn wsX3_money (va_wsS RX3 51 yX3_isWithin wsX3_isWithin) := goodIn_app (goodIn_of _ (by decide +kernel)) ggX3_money_X3_isWithin
set_option maxRecDepth 20000 in
theorem ggX3_money_X2_purseOf : GoodIn wsX3_money wsX2_purseOf := goodIn_r _ [13, 14, 3, 4, 5, 27, 28, 29, 30, 31, 32, 33, 34, 35, 36, 37] (by decide +kernel) (by decide +kernel)
set_option maxRecDepth 20000 in
theorem gX3_money_X2_purseOf : GoodIn wsX3_money (wsV RX3 55 RX2 yX2_purseOf wsX2_purseOf) := goodIn_app (goodIn_of _ (by decide +kernel)) ggX3_money_X2_purseOf
set_option maxRecDepth 20000 in
theorem ggX3_money_X2_fillPurse : GoodIn wsX3_money wsX2_fillPurse := goodIn_r _ [18, 14, 3, 4, 5, 27, 28, 29, 30, 31, 32, 33, 34, 35, 36, 37] (by decide +kernel) (by decide +kernel)
set_option maxRecDepth 20000 in
theorem gX3_money_X2_fillPurse : GoodIn wsX3_money (wsV RX3 59 RX2 yX2_fillPurse wsX2_fillPurse) := goodIn_app (goodIn_of _ (by decide +kernel)) ggX3_money_X2_fillPurse
theorem dX3_money_0 : decode cX3_money 0 = .ok (.iload_n 1, 1) := by decide +kernel
theorem dX3_money_1 : decode cX3_money 1 = .ok (.invokestatic 47, 3) := by decide +kernel
theorem dX3_money_4 : decode cX3_money 4 = .ok (.ifCond .ne 5, 3) := by decide +kernel
theorem dX3_money_7 : decode cX3_money 7 = .ok (.iconst (-1), 1) := by decide +kernel
theorem dX3_money_8 : decode cX3_money 8 = .ok (.ireturn, 1) := by decide +kernel
theorem dX3_money_9 : decode cX3_money 9 = .ok (.iload_n 2, 1) := by decide +kernel
theorem dX3_money_10 : decode cX3_money 10 = .ok (.iconst 0, 1) := by decide +kernel
theorem dX3_money_11 : decode cX3_money 11 = .ok (.sipush 999, 3) := by decide +kernel
theorem dX3_money_14 : decode cX3_money 14 = .ok (.invokestatic 51, 3) := by decide +kernel
theorem dX3_money_17 : decode cX3_money 17 = .ok (.ifCond .ne 6, 3) := by decide +kernel
theorem dX3_money_20 : decode cX3_money 20 = .ok (.bipush (-2), 2) := by decide +kernel
theorem dX3_money_22 : decode cX3_money 22 = .ok (.ireturn, 1) := by decide +kernel
theorem dX3_money_23 : decode cX3_money 23 = .ok (.aload_n 0, 1) := by decide +kernel
theorem dX3_money_24 : decode cX3_money 24 = .ok (.getfield 12, 3) := by decide +kernel
theorem dX3_money_27 : decode cX3_money 27 = .ok (.iload_n 1, 1) := by decide +kernel
theorem dX3_money_28 : decode cX3_money 28 = .ok (.invokevirtual 55, 3) := by decide +kernel
theorem dX3_money_31 : decode cX3_money 31 = .ok (.istore_n 3, 1) := by decide +kernel
theorem dX3_money_32 : decode cX3_money 32 = .ok (.aload_n 0, 1) := by decide +kernel
theorem dX3_money_33 : decode cX3_money 33 = .ok (.getfield 12, 3) := by decide +kernel
theorem dX3_money_36 : decode cX3_money 36 = .ok (.iload_n 1, 1) := by decide +kernel
theorem dX3_money_37 : decode cX3_money 37 = .ok (.iload_n 2, 1) := by decide +kernel
theorem dX3_money_38 : decode cX3_money 38 = .ok (.invokevirtual 59, 3) := by decide +kernel
theorem dX3_money_41 : decode cX3_money 41 = .ok (.iload_n 3, 1) := by decide +kernel
theorem dX3_money_42 : decode cX3_money 42 = .ok (.ireturn, 1) := by decide +kernel
set_option maxRecDepth 20000 in
theorem ggX3_set_X3_isWithin : GoodIn wsX3_set wsX3_isWithin := goodIn_r _ [5] (by decide +kernel) (by decide +kernel)
set_option maxRecDepth 20000 in
theorem gX3_set_X3_isWithin : GoodIn wsX3_set (va_wsS RX3 51 yX3_isWithin wsX3_isWithin) := goodIn_app (goodIn_of _ (by decide +kernel)) ggX3_set_X3_isWithin
theorem dX3_set_0 : decode cX3_set 0 = .ok (.iload_n 1, 1) := by decide +kernel
theorem dX3_set_1 : decode cX3_set 1 = .ok (.ifCond .ne 30, 3) := by decide +kernel
theorem dX3_set_4 : decode cX3_set 4 = .ok (.iload_n 2, 1) := by decide +kernel
theorem dX3_set_5 : decode cX3_set 5 = .ok (.iconst 0, 1) := by decide +kernel
theorem dX3_set_6 : decode cX3_set 6 = .ok (.iconst 2, 1) := by decide +kernel
theorem dX3_set_7 : decode cX3_set 7 = .ok (.invokestatic 51, 3) := by decide +kernel
theorem dX3_set_10 : decode cX3_set 10 = .ok (.ifCond .eq 21, 3) := by decide +kernel
theorem dX3_set_13 : decode cX3_set 13 = .ok (.aload_n 0, 1) := by decide +kernel
theorem dX3_set_14 : decode cX3_set 14 = .ok (.getfield 12, 3) := by decide +kernel
theorem dX3_set_17 : decode cX3_set 17 = .ok (.getfield 63, 3) := by decide +kernel
theorem dX3_set_20 : decode cX3_set 20 = .ok (.istore_n 3, 1) := by decide +kernel
theorem dX3_set_21 : decode cX3_set 21 = .ok (.aload_n 0, 1) := by decide +kernel
theorem dX3_set_22 : decode cX3_set 22 = .ok (.getfield 12, 3) := by decide +kernel
theorem dX3_set_25 : decode cX3_set 25 = .ok (.iload_n 2, 1) := by decide +kernel
theorem dX3_set_26 : decode cX3_set 26 = .ok (.putfield 63, 3) := by decide +kernel
theorem dX3_set_29 : decode cX3_set 29 = .ok (.iload_n 3, 1) := by decide +kernel
theorem dX3_set_30 : decode cX3_set 30 = .ok (.ireturn, 1) := by decide +kernel
theorem dX3_set_31 : decode cX3_set 31 = .ok (.iload_n 1, 1) := by decide +kernel
theorem dX3_set_32 : decode cX3_set 32 = .ok (.iconst 1, 1) := by decide +kernel
theorem dX3_set_33 : decode cX3_set 33 = .ok (.if_icmp .ne 31, 3) := by decide +kernel
theorem dX3_set_36 : decode cX3_set 36 = .ok (.iload_n 2, 1) := by decide +kernel
theorem dX3_set_37 : decode cX3_set 37 = .ok (.iconst 0, 1) := by decide +kernel
theorem dX3_set_38 : decode cX3_set 38 = .ok (.bipush 9, 2) := by decide +kernel
theorem dX3_set_40 : decode cX3_set 40 = .ok (.invokestatic 51, 3) := by decide +kernel
theorem dX3_set_43 : decode cX3_set 43 = .ok (.ifCond .eq 21, 3) := by decide +kernel
theorem dX3_set_46 : decode cX3_set 46 = .ok (.aload_n 0, 1) := by decide +kernel
theorem dX3_set_47 : decode cX3_set 47 = .ok (.getfield 12, 3) := by decide +kernel
theorem dX3_set_50 : decode cX3_set 50 = .ok (.getfield 66, 3) := by decide +kernel
theorem dX3_set_53 : decode cX3_set 53 = .ok (.istore_n 3, 1) := by decide +kernel
theorem dX3_set_54 : decode cX3_set 54 = .ok (.aload_n 0, 1) := by decide +kernel
theorem dX3_set_55 : decode cX3_set 55 = .ok (.getfield 12, 3) := by decide +kernel
theorem dX3_set_58 : decode cX3_set 58 = .ok (.iload_n 2, 1) := by decide +kernel
theorem dX3_set_59 : decode cX3_set 59 = .ok (.putfield 66, 3) := by decide +kernel
theorem dX3_set_62 : decode cX3_set 62 = .ok (.iload_n 3, 1) := by decide +kernel
theorem dX3_set_63 : decode cX3_set 63 = .ok (.ireturn, 1) := by decide +kernel
theorem dX3_set_64 : decode cX3_set 64 = .ok (.bipush (-2), 2) := by decide +kernel
theorem dX3_set_66 : decode cX3_set 66 = .ok (.ireturn, 1) := by decide +kernel
set_option maxRecDepth 20000 in
theorem ggX3_say_X3_isWithin : GoodIn wsX3_say wsX3_isWithin := goodIn_r _ [5] (by decide +kernel) (by decide +kernel)
set_option maxRecDepth 20000 in
theorem gX3_say_X3_isWithin : GoodIn wsX3_say (va_wsS RX3 51 yX3_isWithin wsX3_isWithin) := goodIn_app (goodIn_of _ (by decide +kernel)) ggX3_say_X3_isWithin
set_option maxRecDepth 20000 in
theorem ggX3_say_X0_write : GoodIn wsX3_say wsX0_write := goodIn_r _ [10, 11, 12, 21, 22, 23, 24, 25, 26, 27, 28, 29, 30] (by decide +kernel) (by decide +kernel)
set_option maxRecDepth 20000 in
theorem gX3_say_X0_write : GoodIn wsX3_say (wsV RX3 69 RX0 yX0_write wsX0_write) := goodIn_app (goodIn_of _ (by decide +kernel)) ggX3_say_X0_write
theorem dX3_say_0 : decode cX3_say 0 = .ok (.iload_n 1, 1) := by decide +kernel
theorem dX3_say_1 : decode cX3_say 1 = .ok (.bipush 33, 2) := by decide +kernel
theorem dX3_say_3 : decode cX3_say 3 = .ok (.bipush 126, 2) := by decide +kernel
theorem dX3_say_5 : decode cX3_say 5 = .ok (.invokestatic 51, 3) := by decide +kernel
theorem dX3_say_8 : decode cX3_say 8 = .ok (.ifCond .ne 6, 3) := by decide +kernel
theorem dX3_say_11 : decode cX3_say 11 = .ok (.bipush (-2), 2) := by decide +kernel
theorem dX3_say_13 : decode cX3_say 13 = .ok (.ireturn, 1) := by decide +kernel
theorem dX3_say_14 : decode cX3_say 14 = .ok (.aload_n 0, 1) := by decide +kernel
theorem dX3_say_15 : decode cX3_say 15 = .ok (.getfield 28, 3) := by decide +kernel
theorem dX3_say_18 : decode cX3_say 18 = .ok (.iload_n 1, 1) := by decide +kernel
theorem dX3_say_19 : decode cX3_say 19 = .ok (.i2c, 1) := by decide +kernel
theorem dX3_say_20 : decode cX3_say 20 = .ok (.invokevirtual 69, 3) := by decide +kernel
theorem dX3_say_23 : decode cX3_say 23 = .ok (.ifCond .eq 13, 3) := by decide +kernel
theorem dX3_say_26 : decode cX3_say 26 = .ok (.aload_n 0, 1) := by decide +kernel
theorem dX3_say_27 : decode cX3_say 27 = .ok (.getfield 28, 3) := by decide +kernel
theorem dX3_say_30 : decode cX3_say 30 = .ok (.getfield 73, 3) := by decide +kernel
theorem dX3_say_33 : decode cX3_say 33 = .ok (.goto 5, 3) := by decide +kernel
theorem dX3_say_36 : decode cX3_say 36 = .ok (.bipush (-4), 2) := by decide +kernel
theorem dX3_say_38 : decode cX3_say 38 = .ok (.ireturn, 1) := by decide +kernel
set_option maxRecDepth 20000 in
theorem ggX3_wipe_X0_clear : GoodIn wsX3_wipe wsX0_clear := goodIn_r _ [6, 7, 16, 17, 18, 19, 20, 21, 22, 23, 24, 25] (by decide +kernel) (by decide +kernel)
set_option maxRecDepth 20000 in
theorem gX3_wipe_X0_clear : GoodIn wsX3_wipe (wsV RX3 76 RX0 yX0_clear wsX0_clear) := goodIn_app (goodIn_of _ (by decide +kernel)) ggX3_wipe_X0_clear
theorem dX3_wipe_0 : decode cX3_wipe 0 = .ok (.aload_n 0, 1) := by decide +kernel
theorem dX3_wipe_1 : decode cX3_wipe 1 = .ok (.getfield 28, 3) := by decide +kernel
theorem dX3_wipe_4 : decode cX3_wipe 4 = .ok (.getfield 73, 3) := by decide +kernel
theorem dX3_wipe_7 : decode cX3_wipe 7 = .ok (.istore_n 1, 1) := by decide +kernel
theorem dX3_wipe_8 : decode cX3_wipe 8 = .ok (.aload_n 0, 1) := by decide +kernel
theorem dX3_wipe_9 : decode cX3_wipe 9 = .ok (.getfield 28, 3) := by decide +kernel
theorem dX3_wipe_12 : decode cX3_wipe 12 = .ok (.invokevirtual 76, 3) := by decide +kernel
theorem dX3_wipe_15 : decode cX3_wipe 15 = .ok (.iload_n 1, 1) := by decide +kernel
theorem dX3_wipe_16 : decode cX3_wipe 16 = .ok (.ireturn, 1) := by decide +kernel
set_option maxRecDepth 20000 in
theorem ggX3_fault_X0_read : GoodIn wsX3_fault wsX0_read := goodIn_r _ [6, 7, 8, 9, 10, 11, 12, 5, 13, 14, 15, 16, 17, 18, 19, 20, 21, 22, 23, 24, 25, 26, 27, 28, 29, 30, 31, 32, 33, 34, 35, 36, 45, 46, 47, 48, 49, 50, 51, 52, 53, 54] (by decide +kernel) (by decide +kernel)
set_option maxRecDepth 20000 in
theorem gX3_fault_X0_read : GoodIn wsX3_fault (wsV RX3 79 RX0 yX0_read wsX0_read) := goodIn_app (goodIn_of _ (by decide +kernel)) ggX3_fault_X0_read
theorem dX3_fault_0 : decode cX3_fault 0 = .ok (.aload_n 0, 1) := by decide +kernel
theorem dX3_fault_1 : decode cX3_fault 1 = .ok (.getfield 28, 3) := by decide +kernel
theorem dX3_fault_4 : decode cX3_fault 4 = .ok (.invokevirtual 79, 3) := by decide +kernel
theorem dX3_fault_7 : decode cX3_fault 7 = .ok (.ireturn, 1) := by decide +kernel
set_option maxRecDepth 20000 in
theorem ggX3_judge_X3_isWithin : GoodIn wsX3_judge wsX3_isWithin := goodIn_r _ [7] (by decide +kernel) (by decide +kernel)
set_option maxRecDepth 20000 in
theorem gX3_judge_X3_isWithin : GoodIn wsX3_judge (va_wsS RX3 51 yX3_isWithin wsX3_isWithin) := goodIn_app (goodIn_of _ (by decide +kernel)) ggX3_judge_X3_isWithin
set_option maxRecDepth 20000 in
theorem ggX3_judge_X0_read : GoodIn wsX3_judge wsX0_read := goodIn_r _ [12, 13, 14, 15, 16, 17, 18, 11, 19, 20, 21, 22, 23, 24, 25, 26, 27, 28, 29, 30, 31, 32, 33, 34, 35, 36, 37, 38, 39, 40, 41, 42, 145, 146, 147, 148, 149, 150, 151, 152, 153, 154] (by decide +kernel) (by decide +kernel)
set_option maxRecDepth 20000 in
theorem gX3_judge_X0_read : GoodIn wsX3_judge (wsV RX3 79 RX0 yX0_read wsX0_read) := goodIn_app (goodIn_of _ (by decide +kernel)) ggX3_judge_X0_read
set_option maxRecDepth 20000 in
theorem ggX3_judge_X0_perform : GoodIn wsX3_judge wsX0_perform := goodIn_r _ [46, 13, 47, 48, 49, 50, 51, 52, 53, 54, 55, 56, 57, 58, 59, 60, 61, 62, 63, 64, 65, 66, 67, 68, 69, 70, 11, 71, 39, 40, 41, 42, 72, 73, 74, 75, 76, 6, 77, 78, 79, 80, 81, 82, 83, 84, 85, 86, 87, 88, 89, 90, 91, 14, 92, 93, 94, 95, 96, 97, 98, 99, 100, 101, 102, 103, 104, 105, 106, 107, 108, 109, 110, 111, 112, 113, 114, 115, 116, 117, 118, 119, 120, 121, 122, 123, 124, 125, 126, 127, 128, 129, 130, 131, 132, 133, 134, 135, 136, 145, 146, 147, 148, 149, 150, 151, 152, 153, 154, 155, 156, 157, 158, 159, 160, 161, 162, 163, 164, 165] (by decide +kernel) (by decide +kernel)
set_option maxRecDepth 20000 in
theorem gX3_judge_X0_perform : GoodIn wsX3_judge (wsV RX3 86 RX0 yX0_perform wsX0_perform) := goodIn_app (goodIn_of _ (by decide +kernel)) ggX3_judge_X0_perform
theorem dX3_judge_0 : decode cX3_judge 0 = .ok (.iload_n 1, 1) := by decide +kernel
theorem dX3_judge_1 : decode cX3_judge 1 = .ok (.iconst 0, 1) := by decide +kernel
theorem dX3_judge_2 : decode cX3_judge 2 = .ok (.iconst 1, 1) := by decide +kernel
theorem dX3_judge_3 : decode cX3_judge 3 = .ok (.invokestatic 51, 3) := by decide +kernel
theorem dX3_judge_6 : decode cX3_judge 6 = .ok (.ifCond .ne 6, 3) := by decide +kernel
theorem dX3_judge_9 : decode cX3_judge 9 = .ok (.bipush (-2), 2) := by decide +kernel
theorem dX3_judge_11 : decode cX3_judge 11 = .ok (.ireturn, 1) := by decide +kernel
theorem dX3_judge_12 : decode cX3_judge 12 = .ok (.aload_n 0, 1) := by decide +kernel
theorem dX3_judge_13 : decode cX3_judge 13 = .ok (.getfield 28, 3) := by decide +kernel
theorem dX3_judge_16 : decode cX3_judge 16 = .ok (.invokevirtual 79, 3) := by decide +kernel
theorem dX3_judge_19 : decode cX3_judge 19 = .ok (.bipush (-6), 2) := by decide +kernel
theorem dX3_judge_21 : decode cX3_judge 21 = .ok (.if_icmp .eq 6, 3) := by decide +kernel
theorem dX3_judge_24 : decode cX3_judge 24 = .ok (.bipush (-5), 2) := by decide +kernel
theorem dX3_judge_26 : decode cX3_judge 26 = .ok (.ireturn, 1) := by decide +kernel
theorem dX3_judge_27 : decode cX3_judge 27 = .ok (.aload_n 0, 1) := by decide +kernel
theorem dX3_judge_28 : decode cX3_judge 28 = .ok (.getfield 28, 3) := by decide +kernel
theorem dX3_judge_31 : decode cX3_judge 31 = .ok (.getfield 83, 3) := by decide +kernel
theorem dX3_judge_34 : decode cX3_judge 34 = .ok (.ifCond .le 6, 3) := by decide +kernel
theorem dX3_judge_37 : decode cX3_judge 37 = .ok (.bipush (-3), 2) := by decide +kernel
theorem dX3_judge_39 : decode cX3_judge 39 = .ok (.ireturn, 1) := by decide +kernel
theorem dX3_judge_40 : decode cX3_judge 40 = .ok (.aload_n 0, 1) := by decide +kernel
theorem dX3_judge_41 : decode cX3_judge 41 = .ok (.getfield 28, 3) := by decide +kernel
theorem dX3_judge_44 : decode cX3_judge 44 = .ok (.aload_n 0, 1) := by decide +kernel
theorem dX3_judge_45 : decode cX3_judge 45 = .ok (.getfield 12, 3) := by decide +kernel
theorem dX3_judge_48 : decode cX3_judge 48 = .ok (.aload_n 0, 1) := by decide +kernel
theorem dX3_judge_49 : decode cX3_judge 49 = .ok (.getfield 16, 3) := by decide +kernel
theorem dX3_judge_52 : decode cX3_judge 52 = .ok (.invokevirtual 86, 3) := by decide +kernel
theorem dX3_judge_55 : decode cX3_judge 55 = .ok (.istore_n 2, 1) := by decide +kernel
theorem dX3_judge_56 : decode cX3_judge 56 = .ok (.iload_n 2, 1) := by decide +kernel
theorem dX3_judge_57 : decode cX3_judge 57 = .ok (.bipush (-6), 2) := by decide +kernel
theorem dX3_judge_59 : decode cX3_judge 59 = .ok (.if_icmp .ne 6, 3) := by decide +kernel
theorem dX3_judge_62 : decode cX3_judge 62 = .ok (.bipush (-6), 2) := by decide +kernel
theorem dX3_judge_64 : decode cX3_judge 64 = .ok (.ireturn, 1) := by decide +kernel
theorem dX3_judge_65 : decode cX3_judge 65 = .ok (.iload_n 1, 1) := by decide +kernel
theorem dX3_judge_66 : decode cX3_judge 66 = .ok (.ifCond .ne 7, 3) := by decide +kernel
theorem dX3_judge_69 : decode cX3_judge 69 = .ok (.iload_n 2, 1) := by decide +kernel
theorem dX3_judge_70 : decode cX3_judge 70 = .ok (.goto 10, 3) := by decide +kernel
theorem dX3_judge_73 : decode cX3_judge 73 = .ok (.aload_n 0, 1) := by decide +kernel
theorem dX3_judge_74 : decode cX3_judge 74 = .ok (.getfield 28, 3) := by decide +kernel
theorem dX3_judge_77 : decode cX3_judge 77 = .ok (.getfield 90, 3) := by decide +kernel
theorem dX3_judge_80 : decode cX3_judge 80 = .ok (.ireturn, 1) := by decide +kernel
set_option maxRecDepth 20000 in
theorem ggX3_done_X0_read : GoodIn wsX3_done wsX0_read := goodIn_r _ [8, 9, 10, 11, 12, 13, 14, 7, 15, 16, 17, 18, 19, 20, 21, 22, 23, 24, 25, 26, 27, 28, 29, 30, 31, 32, 33, 34, 35, 36, 37, 38, 147, 148, 149, 150, 151, 152, 153, 154, 155, 156] (by decide +kernel) (by decide +kernel)
set_option maxRecDepth 20000 in
theorem gX3_done_X0_read : GoodIn wsX3_done (wsV RX3 79 RX0 yX0_read wsX0_read) := goodIn_app (goodIn_of _ (by decide +kernel)) ggX3_done_X0_read
set_option maxRecDepth 20000 in
theorem ggX3_done_X0_perform : GoodIn wsX3_done wsX0_perform := goodIn_r _ [42, 9, 43, 44, 45, 46, 47, 48, 49, 50, 51, 52, 53, 54, 55, 56, 57, 58, 59, 60, 61, 62, 63, 64, 65, 66, 7, 67, 35, 36, 37, 38, 68, 69, 70, 71, 72, 73, 74, 75, 76, 77, 78, 79, 80, 81, 82, 83, 84, 85, 86, 87, 88, 10, 89, 90, 91, 92, 93, 94, 95, 96, 97, 98, 99, 100, 101, 102, 103, 104, 105, 106, 107, 108, 109, 110, 111, 112, 113, 114, 115, 116, 117, 118, 119, 120, 121, 122, 123, 124, 125, 126, 127, 128, 129, 130, 131, 132, 133, 147, 148, 149, 150, 151, 152, 153, 154, 155, 156, 157, 158, 159, 160, 161, 162, 163, 164, 165, 166, 167] (by decide +kernel) (by decide +kernel)
set_option maxRecDepth 20000 in
theorem gX3_done_X0_perform : GoodIn wsX3_done (wsV RX3 86 RX0 yX0_perform wsX0_perform) := goodIn_app (goodIn_of _ (by decide +kernel)) ggX3_done_X0_perform
set_option maxRecDepth 20000 in
theorem ggX3_done_X2_copyFrom : GoodIn wsX3_done wsX2_copyFrom := goodIn_r _ [48, 49, 50, 51, 52, 53, 54, 55, 56, 57, 58, 59, 60, 61, 62, 63, 157, 158, 159, 160, 161, 162, 163, 164, 165, 166, 167] (by decide +kernel) (by decide +kernel)
set_option maxRecDepth 20000 in
theorem gX3_done_X2_copyFrom : GoodIn wsX3_done (wsV RX3 93 RX2 yX2_copyFrom wsX2_copyFrom) := goodIn_app (goodIn_of _ (by decide +kernel)) ggX3_done_X2_copyFrom
set_option maxRecDepth 20000 in
theorem ggX3_done_X0_clear : GoodIn wsX3_done wsX0_clear := goodIn_r _ [138, 11, 147, 148, 149, 150, 151, 152, 153, 154, 155, 156] (by decide +kernel) (by decide +kernel)
set_option maxRecDepth 20000 in
theorem gX3_done_X0_clear : GoodIn wsX3_done (wsV RX3 76 RX0 yX0_clear wsX0_clear) := goodIn_app (goodIn_of _ (by decide +kernel)) ggX3_done_X0_clear
theorem dX3_done_0 : decode cX3_done 0 = .ok (.aload_n 0, 1) := by decide +kernel
theorem dX3_done_1 : decode cX3_done 1 = .ok (.getfield 28, 3) := by decide +kernel
theorem dX3_done_4 : decode cX3_done 4 = .ok (.invokevirtual 79, 3) := by decide +kernel
theorem dX3_done_7 : decode cX3_done 7 = .ok (.bipush (-6), 2) := by decide +kernel
theorem dX3_done_9 : decode cX3_done 9 = .ok (.if_icmp .eq 6, 3) := by decide +kernel
theorem dX3_done_12 : decode cX3_done 12 = .ok (.bipush (-5), 2) := by decide +kernel
theorem dX3_done_14 : decode cX3_done 14 = .ok (.ireturn, 1) := by decide +kernel
theorem dX3_done_15 : decode cX3_done 15 = .ok (.aload_n 0, 1) := by decide +kernel
theorem dX3_done_16 : decode cX3_done 16 = .ok (.getfield 28, 3) := by decide +kernel
theorem dX3_done_19 : decode cX3_done 19 = .ok (.getfield 83, 3) := by decide +kernel
theorem dX3_done_22 : decode cX3_done 22 = .ok (.ifCond .le 6, 3) := by decide +kernel
theorem dX3_done_25 : decode cX3_done 25 = .ok (.bipush (-3), 2) := by decide +kernel
theorem dX3_done_27 : decode cX3_done 27 = .ok (.ireturn, 1) := by decide +kernel
theorem dX3_done_28 : decode cX3_done 28 = .ok (.aload_n 0, 1) := by decide +kernel
theorem dX3_done_29 : decode cX3_done 29 = .ok (.getfield 28, 3) := by decide +kernel
theorem dX3_done_32 : decode cX3_done 32 = .ok (.aload_n 0, 1) := by decide +kernel
theorem dX3_done_33 : decode cX3_done 33 = .ok (.getfield 12, 3) := by decide +kernel
theorem dX3_done_36 : decode cX3_done 36 = .ok (.aload_n 0, 1) := by decide +kernel
theorem dX3_done_37 : decode cX3_done 37 = .ok (.getfield 16, 3) := by decide +kernel
theorem dX3_done_40 : decode cX3_done 40 = .ok (.invokevirtual 86, 3) := by decide +kernel
theorem dX3_done_43 : decode cX3_done 43 = .ok (.bipush (-6), 2) := by decide +kernel
theorem dX3_done_45 : decode cX3_done 45 = .ok (.if_icmp .eq 6, 3) := by decide +kernel
theorem dX3_done_48 : decode cX3_done 48 = .ok (.bipush (-5), 2) := by decide +kernel
theorem dX3_done_50 : decode cX3_done 50 = .ok (.ireturn, 1) := by decide +kernel
theorem dX3_done_51 : decode cX3_done 51 = .ok (.aload_n 0, 1) := by decide +kernel
theorem dX3_done_52 : decode cX3_done 52 = .ok (.getfield 12, 3) := by decide +kernel
theorem dX3_done_55 : decode cX3_done 55 = .ok (.aload_n 0, 1) := by decide +kernel
theorem dX3_done_56 : decode cX3_done 56 = .ok (.getfield 16, 3) := by decide +kernel
theorem dX3_done_59 : decode cX3_done 59 = .ok (.invokevirtual 93, 3) := by decide +kernel
theorem dX3_done_62 : decode cX3_done 62 = .ok (.aload_n 0, 1) := by decide +kernel
theorem dX3_done_63 : decode cX3_done 63 = .ok (.getfield 28, 3) := by decide +kernel
theorem dX3_done_66 : decode cX3_done 66 = .ok (.getfield 97, 3) := by decide +kernel
theorem dX3_done_69 : decode cX3_done 69 = .ok (.istore_n 1, 1) := by decide +kernel
theorem dX3_done_70 : decode cX3_done 70 = .ok (.aload_n 0, 1) := by decide +kernel
theorem dX3_done_71 : decode cX3_done 71 = .ok (.getfield 28, 3) := by decide +kernel
theorem dX3_done_74 : decode cX3_done 74 = .ok (.invokevirtual 76, 3) := by decide +kernel
theorem dX3_done_77 : decode cX3_done 77 = .ok (.iload_n 1, 1) := by decide +kernel
theorem dX3_done_78 : decode cX3_done 78 = .ok (.ireturn, 1) := by decide +kernel
set_option maxRecDepth 20000 in
theorem ggX3_debt_X2_hasDebt : GoodIn wsX3_debt wsX2_hasDebt := goodIn_r _ [6, 7, 32, 33, 34, 35, 36, 37, 38, 39, 40, 41, 42] (by decide +kernel) (by decide +kernel)
set_option maxRecDepth 20000 in
theorem gX3_debt_X2_hasDebt : GoodIn wsX3_debt (wsV RX3 100 RX2 yX2_hasDebt wsX2_hasDebt) := goodIn_app (goodIn_of _ (by decide +kernel)) ggX3_debt_X2_hasDebt
set_option maxRecDepth 20000 in
theorem ggX3_debt_X2_lenderOf : GoodIn wsX3_debt wsX2_lenderOf := goodIn_r _ [11, 12, 13, 3, 4, 5, 6, 7, 32, 33, 34, 35, 36, 37, 38, 39, 40, 41, 42] (by decide +kernel) (by decide +kernel)
set_option maxRecDepth 20000 in
theorem gX3_debt_X2_lenderOf : GoodIn wsX3_debt (wsV RX3 104 RX2 yX2_lenderOf wsX2_lenderOf) := goodIn_app (goodIn_of _ (by decide +kernel)) ggX3_debt_X2_lenderOf
set_option maxRecDepth 20000 in
theorem ggX3_debt_X2_penceOf : GoodIn wsX3_debt wsX2_penceOf := goodIn_r _ [17, 18, 13, 3, 4, 5, 6, 7, 32, 33, 34, 35, 36, 37, 38, 39, 40, 41, 42] (by decide +kernel) (by decide +kernel)
set_option maxRecDepth 20000 in
theorem gX3_debt_X2_penceOf : GoodIn wsX3_debt (wsV RX3 108 RX2 yX2_penceOf wsX2_penceOf) := goodIn_app (goodIn_of _ (by decide +kernel)) ggX3_debt_X2_penceOf
set_option maxRecDepth 20000 in
theorem ggX3_debt_X2_dayOf : GoodIn wsX3_debt wsX2_dayOf := goodIn_r _ [22, 23, 13, 3, 4, 5, 6, 7, 32, 33, 34, 35, 36, 37, 38, 39, 40, 41, 42] (by decide +kernel) (by decide +kernel)
set_option maxRecDepth 20000 in
theorem gX3_debt_X2_dayOf : GoodIn wsX3_debt (wsV RX3 111 RX2 yX2_dayOf wsX2_dayOf) := goodIn_app (goodIn_of _ (by decide +kernel)) ggX3_debt_X2_dayOf
theorem dX3_debt_0 : decode cX3_debt 0 = .ok (.aload_n 0, 1) := by decide +kernel
theorem dX3_debt_1 : decode cX3_debt 1 = .ok (.getfield 12, 3) := by decide +kernel
theorem dX3_debt_4 : decode cX3_debt 4 = .ok (.iload_n 1, 1) := by decide +kernel
theorem dX3_debt_5 : decode cX3_debt 5 = .ok (.iload_n 2, 1) := by decide +kernel
theorem dX3_debt_6 : decode cX3_debt 6 = .ok (.invokevirtual 100, 3) := by decide +kernel
theorem dX3_debt_9 : decode cX3_debt 9 = .ok (.ifCond .ne 5, 3) := by decide +kernel
theorem dX3_debt_12 : decode cX3_debt 12 = .ok (.iconst (-1), 1) := by decide +kernel
theorem dX3_debt_13 : decode cX3_debt 13 = .ok (.ireturn, 1) := by decide +kernel
theorem dX3_debt_14 : decode cX3_debt 14 = .ok (.iload_n 3, 1) := by decide +kernel
theorem dX3_debt_15 : decode cX3_debt 15 = .ok (.tableswitch 55 0 2 #[25, 35, 45], 25) := by decide +kernel
theorem dX3_debt_40 : decode cX3_debt 40 = .ok (.aload_n 0, 1) := by decide +kernel
theorem dX3_debt_41 : decode cX3_debt 41 = .ok (.getfield 12, 3) := by decide +kernel
theorem dX3_debt_44 : decode cX3_debt 44 = .ok (.iload_n 1, 1) := by decide +kernel
theorem dX3_debt_45 : decode cX3_debt 45 = .ok (.iload_n 2, 1) := by decide +kernel
theorem dX3_debt_46 : decode cX3_debt 46 = .ok (.invokevirtual 104, 3) := by decide +kernel
theorem dX3_debt_49 : decode cX3_debt 49 = .ok (.ireturn, 1) := by decide +kernel
theorem dX3_debt_50 : decode cX3_debt 50 = .ok (.aload_n 0, 1) := by decide +kernel
theorem dX3_debt_51 : decode cX3_debt 51 = .ok (.getfield 12, 3) := by decide +kernel
theorem dX3_debt_54 : decode cX3_debt 54 = .ok (.iload_n 1, 1) := by decide +kernel
theorem dX3_debt_55 : decode cX3_debt 55 = .ok (.iload_n 2, 1) := by decide +kernel
theorem dX3_debt_56 : decode cX3_debt 56 = .ok (.invokevirtual 108, 3) := by decide +kernel
theorem dX3_debt_59 : decode cX3_debt 59 = .ok (.ireturn, 1) := by decide +kernel
theorem dX3_debt_60 : decode cX3_debt 60 = .ok (.aload_n 0, 1) := by decide +kernel
theorem dX3_debt_61 : decode cX3_debt 61 = .ok (.getfield 12, 3) := by decide +kernel
theorem dX3_debt_64 : decode cX3_debt 64 = .ok (.iload_n 1, 1) := by decide +kernel
theorem dX3_debt_65 : decode cX3_debt 65 = .ok (.iload_n 2, 1) := by decide +kernel
theorem dX3_debt_66 : decode cX3_debt 66 = .ok (.invokevirtual 111, 3) := by decide +kernel
theorem dX3_debt_69 : decode cX3_debt 69 = .ok (.ireturn, 1) := by decide +kernel
theorem dX3_debt_70 : decode cX3_debt 70 = .ok (.bipush (-2), 2) := by decide +kernel
theorem dX3_debt_72 : decode cX3_debt 72 = .ok (.ireturn, 1) := by decide +kernel
set_option maxRecDepth 20000 in
theorem ggX3_due_X3_isMan : GoodIn wsX3_due wsX3_isMan := goodIn_r _ [5] (by decide +kernel) (by decide +kernel)
set_option maxRecDepth 20000 in
theorem gX3_due_X3_isMan : GoodIn wsX3_due (va_wsS RX3 47 yX3_isMan wsX3_isMan) := goodIn_app (goodIn_of _ (by decide +kernel)) ggX3_due_X3_isMan
set_option maxRecDepth 20000 in
theorem ggX3_due_X2_dueOf : GoodIn wsX3_due wsX2_dueOf := goodIn_r _ [10, 11, 12, 13, 9, 14, 15, 16, 17, 18, 19, 3, 4, 5, 20, 21, 22, 23, 24, 25, 34, 35, 36, 37, 38, 39, 40, 41, 42, 43, 44] (by decide +kernel) (by decide +kernel)
set_option maxRecDepth 20000 in
theorem gX3_due_X2_dueOf : GoodIn wsX3_due (wsV RX3 114 RX2 yX2_dueOf wsX2_dueOf) := goodIn_app (goodIn_of _ (by decide +kernel)) ggX3_due_X2_dueOf
theorem dX3_due_0 : decode cX3_due 0 = .ok (.iload_n 1, 1) := by decide +kernel
theorem dX3_due_1 : decode cX3_due 1 = .ok (.invokestatic 47, 3) := by decide +kernel
theorem dX3_due_4 : decode cX3_due 4 = .ok (.ifCond .eq 14, 3) := by decide +kernel
theorem dX3_due_7 : decode cX3_due 7 = .ok (.aload_n 0, 1) := by decide +kernel
theorem dX3_due_8 : decode cX3_due 8 = .ok (.getfield 12, 3) := by decide +kernel
theorem dX3_due_11 : decode cX3_due 11 = .ok (.iload_n 1, 1) := by decide +kernel
theorem dX3_due_12 : decode cX3_due 12 = .ok (.invokevirtual 114, 3) := by decide +kernel
theorem dX3_due_15 : decode cX3_due 15 = .ok (.goto 4, 3) := by decide +kernel
theorem dX3_due_18 : decode cX3_due 18 = .ok (.iconst (-1), 1) := by decide +kernel
theorem dX3_due_19 : decode cX3_due 19 = .ok (.ireturn, 1) := by decide +kernel
set_option maxRecDepth 20000 in
theorem ggX3_owes_X3_isMan : GoodIn wsX3_owes wsX3_isMan := goodIn_r _ [5] (by decide +kernel) (by decide +kernel)
set_option maxRecDepth 20000 in
theorem gX3_owes_X3_isMan : GoodIn wsX3_owes (va_wsS RX3 47 yX3_isMan wsX3_isMan) := goodIn_app (goodIn_of _ (by decide +kernel)) ggX3_owes_X3_isMan
set_option maxRecDepth 20000 in
theorem ggX3_owes_X2_owedTo : GoodIn wsX3_owes wsX2_owedTo := goodIn_r _ [10, 11, 12, 13, 9, 14, 15, 3, 4, 5, 16, 17, 18, 19, 20, 21, 22, 23, 24, 25, 26, 27, 28, 29, 38, 39, 40, 41, 42, 43, 44, 45, 46, 47, 48] (by decide +kernel) (by decide +kernel)
set_option maxRecDepth 20000 in
theorem gX3_owes_X2_owedTo : GoodIn wsX3_owes (wsV RX3 117 RX2 yX2_owedTo wsX2_owedTo) := goodIn_app (goodIn_of _ (by decide +kernel)) ggX3_owes_X2_owedTo
theorem dX3_owes_0 : decode cX3_owes 0 = .ok (.iload_n 1, 1) := by decide +kernel
theorem dX3_owes_1 : decode cX3_owes 1 = .ok (.invokestatic 47, 3) := by decide +kernel
theorem dX3_owes_4 : decode cX3_owes 4 = .ok (.ifCond .eq 22, 3) := by decide +kernel
theorem dX3_owes_7 : decode cX3_owes 7 = .ok (.iload_n 2, 1) := by decide +kernel
theorem dX3_owes_8 : decode cX3_owes 8 = .ok (.invokestatic 47, 3) := by decide +kernel
theorem dX3_owes_11 : decode cX3_owes 11 = .ok (.ifCond .eq 15, 3) := by decide +kernel
theorem dX3_owes_14 : decode cX3_owes 14 = .ok (.aload_n 0, 1) := by decide +kernel
theorem dX3_owes_15 : decode cX3_owes 15 = .ok (.getfield 12, 3) := by decide +kernel
theorem dX3_owes_18 : decode cX3_owes 18 = .ok (.iload_n 1, 1) := by decide +kernel
theorem dX3_owes_19 : decode cX3_owes 19 = .ok (.iload_n 2, 1) := by decide +kernel
theorem dX3_owes_20 : decode cX3_owes 20 = .ok (.invokevirtual 117, 3) := by decide +kernel
theorem dX3_owes_23 : decode cX3_owes 23 = .ok (.goto 4, 3) := by decide +kernel
theorem dX3_owes_26 : decode cX3_owes 26 = .ok (.iconst (-1), 1) := by decide +kernel
theorem dX3_owes_27 : decode cX3_owes 27 = .ok (.ireturn, 1) := by decide +kernel
set_option maxRecDepth 20000 in
theorem ggX3_seen_X3_isMan : GoodIn wsX3_seen wsX3_isMan := goodIn_r _ [5] (by decide +kernel) (by decide +kernel)
set_option maxRecDepth 20000 in
theorem gX3_seen_X3_isMan : GoodIn wsX3_seen (va_wsS RX3 47 yX3_isMan wsX3_isMan) := goodIn_app (goodIn_of _ (by decide +kernel)) ggX3_seen_X3_isMan
set_option maxRecDepth 20000 in
theorem ggX3_seen_X3_isWithin : GoodIn wsX3_seen wsX3_isWithin := goodIn_r _ [8] (by decide +kernel) (by decide +kernel)
set_option maxRecDepth 20000 in
theorem gX3_seen_X3_isWithin : GoodIn wsX3_seen (va_wsS RX3 51 yX3_isWithin wsX3_isWithin) := goodIn_app (goodIn_of _ (by decide +kernel)) ggX3_seen_X3_isWithin
set_option maxRecDepth 20000 in
theorem ggX3_seen_X2_addSight : GoodIn wsX3_seen wsX2_addSight := goodIn_r _ [13, 14, 15, 16, 25, 26, 27, 28, 29, 30, 31, 32, 33, 34, 35] (by decide +kernel) (by decide +kernel)
set_option maxRecDepth 20000 in
theorem gX3_seen_X2_addSight : GoodIn wsX3_seen (wsV RX3 120 RX2 yX2_addSight wsX2_addSight) := goodIn_app (goodIn_of _ (by decide +kernel)) ggX3_seen_X2_addSight
theorem dX3_seen_0 : decode cX3_seen 0 = .ok (.iload_n 1, 1) := by decide +kernel
theorem dX3_seen_1 : decode cX3_seen 1 = .ok (.invokestatic 47, 3) := by decide +kernel
theorem dX3_seen_4 : decode cX3_seen 4 = .ok (.ifCond .ne 5, 3) := by decide +kernel
theorem dX3_seen_7 : decode cX3_seen 7 = .ok (.iconst (-1), 1) := by decide +kernel
theorem dX3_seen_8 : decode cX3_seen 8 = .ok (.ireturn, 1) := by decide +kernel
theorem dX3_seen_9 : decode cX3_seen 9 = .ok (.iload_n 2, 1) := by decide +kernel
theorem dX3_seen_10 : decode cX3_seen 10 = .ok (.iconst 0, 1) := by decide +kernel
theorem dX3_seen_11 : decode cX3_seen 11 = .ok (.sipush 9999, 3) := by decide +kernel
theorem dX3_seen_14 : decode cX3_seen 14 = .ok (.invokestatic 51, 3) := by decide +kernel
theorem dX3_seen_17 : decode cX3_seen 17 = .ok (.ifCond .ne 6, 3) := by decide +kernel
theorem dX3_seen_20 : decode cX3_seen 20 = .ok (.bipush (-2), 2) := by decide +kernel
theorem dX3_seen_22 : decode cX3_seen 22 = .ok (.ireturn, 1) := by decide +kernel
theorem dX3_seen_23 : decode cX3_seen 23 = .ok (.aload_n 0, 1) := by decide +kernel
theorem dX3_seen_24 : decode cX3_seen 24 = .ok (.getfield 12, 3) := by decide +kernel
theorem dX3_seen_27 : decode cX3_seen 27 = .ok (.iload_n 1, 1) := by decide +kernel
theorem dX3_seen_28 : decode cX3_seen 28 = .ok (.iload_n 2, 1) := by decide +kernel
theorem dX3_seen_29 : decode cX3_seen 29 = .ok (.invokevirtual 120, 3) := by decide +kernel
theorem dX3_seen_32 : decode cX3_seen 32 = .ok (.ifCond .eq 13, 3) := by decide +kernel
theorem dX3_seen_35 : decode cX3_seen 35 = .ok (.aload_n 0, 1) := by decide +kernel
theorem dX3_seen_36 : decode cX3_seen 36 = .ok (.getfield 12, 3) := by decide +kernel
theorem dX3_seen_39 : decode cX3_seen 39 = .ok (.getfield 123, 3) := by decide +kernel
theorem dX3_seen_42 : decode cX3_seen 42 = .ok (.goto 5, 3) := by decide +kernel
theorem dX3_seen_45 : decode cX3_seen 45 = .ok (.bipush (-4), 2) := by decide +kernel
theorem dX3_seen_47 : decode cX3_seen 47 = .ok (.ireturn, 1) := by decide +kernel
theorem dX3_forget_0 : decode cX3_forget 0 = .ok (.aload_n 0, 1) := by decide +kernel
theorem dX3_forget_1 : decode cX3_forget 1 = .ok (.getfield 12, 3) := by decide +kernel
theorem dX3_forget_4 : decode cX3_forget 4 = .ok (.getfield 123, 3) := by decide +kernel
theorem dX3_forget_7 : decode cX3_forget 7 = .ok (.istore_n 1, 1) := by decide +kernel
theorem dX3_forget_8 : decode cX3_forget 8 = .ok (.aload_n 0, 1) := by decide +kernel
theorem dX3_forget_9 : decode cX3_forget 9 = .ok (.getfield 12, 3) := by decide +kernel
theorem dX3_forget_12 : decode cX3_forget 12 = .ok (.iconst 0, 1) := by decide +kernel
theorem dX3_forget_13 : decode cX3_forget 13 = .ok (.putfield 123, 3) := by decide +kernel
theorem dX3_forget_16 : decode cX3_forget 16 = .ok (.iload_n 1, 1) := by decide +kernel
theorem dX3_forget_17 : decode cX3_forget 17 = .ok (.ireturn, 1) := by decide +kernel
set_option maxRecDepth 20000 in
theorem ggX3_filled_X0_read : GoodIn wsX3_filled wsX0_read := goodIn_r _ [8, 9, 10, 11, 12, 13, 14, 7, 15, 16, 17, 18, 19, 20, 21, 22, 23, 24, 25, 26, 27, 28, 29, 30, 31, 32, 33, 34, 35, 36, 37, 38, 160, 161, 162, 163, 164, 165, 166, 167, 168, 169] (by decide +kernel) (by decide +kernel)
set_option maxRecDepth 20000 in
theorem gX3_filled_X0_read : GoodIn wsX3_filled (wsV RX3 79 RX0 yX0_read wsX0_read) := goodIn_app (goodIn_of _ (by decide +kernel)) ggX3_filled_X0_read
set_option maxRecDepth 20000 in
theorem ggX3_filled_X0_guesses : GoodIn wsX3_filled wsX0_guesses := goodIn_r _ [42, 10, 160, 161, 162, 163, 164, 165, 166, 167, 168, 169] (by decide +kernel) (by decide +kernel)
set_option maxRecDepth 20000 in
theorem gX3_filled_X0_guesses : GoodIn wsX3_filled (wsV RX3 126 RX0 yX0_guesses wsX0_guesses) := goodIn_app (goodIn_of _ (by decide +kernel)) ggX3_filled_X0_guesses
set_option maxRecDepth 20000 in
theorem ggX3_filled_X0_writeMen : GoodIn wsX3_filled wsX0_writeMen := goodIn_r _ [46, 10, 47, 48, 49, 50, 51, 160, 161, 162, 163, 164, 165, 166, 167, 168, 169] (by decide +kernel) (by decide +kernel)
set_option maxRecDepth 20000 in
theorem gX3_filled_X0_writeMen : GoodIn wsX3_filled (wsV RX3 129 RX0 yX0_writeMen wsX0_writeMen) := goodIn_app (goodIn_of _ (by decide +kernel)) ggX3_filled_X0_writeMen
set_option maxRecDepth 20000 in
theorem ggX3_filled_X0_lendsToHimself : GoodIn wsX3_filled wsX0_lendsToHimself := goodIn_r _ [55, 9, 35, 36, 37, 56, 57, 58, 7, 59, 60, 61, 62, 63, 64, 65, 66, 10, 51, 160, 161, 162, 163, 164, 165, 166, 167, 168, 169] (by decide +kernel) (by decide +kernel)
set_option maxRecDepth 20000 in
theorem gX3_filled_X0_lendsToHimself : GoodIn wsX3_filled (wsV RX3 133 RX0 yX0_lendsToHimself wsX0_lendsToHimself) := goodIn_app (goodIn_of _ (by decide +kernel)) ggX3_filled_X0_lendsToHimself
set_option maxRecDepth 20000 in
theorem ggX3_filled_X0_perform : GoodIn wsX3_filled wsX0_perform := goodIn_r _ [70, 9, 71, 72, 73, 74, 75, 76, 77, 78, 79, 80, 81, 82, 83, 84, 85, 86, 87, 88, 89, 90, 91, 92, 93, 94, 7, 95, 35, 36, 37, 38, 96, 97, 98, 99, 100, 61, 101, 102, 48, 49, 50, 56, 57, 58, 59, 60, 62, 63, 64, 65, 66, 10, 51, 103, 104, 105, 106, 107, 108, 109, 110, 111, 112, 113, 114, 115, 116, 117, 118, 119, 120, 121, 122, 123, 124, 125, 126, 127, 128, 129, 130, 131, 132, 133, 134, 135, 136, 137, 138, 139, 140, 141, 142, 143, 144, 145, 146, 160, 161, 162, 163, 164, 165, 166, 167, 168, 169, 170, 171, 172, 173, 174, 175, 176, 177, 178, 179, 180] (by decide +kernel) (by decide +kernel)
set_option maxRecDepth 20000 in
theorem gX3_filled_X0_perform : GoodIn wsX3_filled (wsV RX3 86 RX0 yX0_perform wsX0_perform) := goodIn_app (goodIn_of _ (by decide +kernel)) ggX3_filled_X0_perform
set_option maxRecDepth 20000 in
theorem ggX3_filled_X2_sightsHold : GoodIn wsX3_filled wsX2_sightsHold := goodIn_r _ [150, 88, 86, 87, 127, 128, 129, 75, 130, 77, 60, 61, 62, 170, 171, 172, 173, 174, 175, 176, 177, 178, 179, 180] (by decide +kernel) (by decide +kernel)
set_option maxRecDepth 20000 in
theorem gX3_filled_X2_sightsHold : GoodIn wsX3_filled (wsV RX3 137 RX2 yX2_sightsHold wsX2_sightsHold) := goodIn_app (goodIn_of _ (by decide +kernel)) ggX3_filled_X2_sightsHold
set_option maxRecDepth 20000 in
theorem ggX3_filled_X0_manFor : GoodIn wsX3_filled wsX0_manFor := goodIn_r _ [66, 10, 51, 160, 161, 162, 163, 164, 165, 166, 167, 168, 169] (by decide +kernel) (by decide +kernel)
set_option maxRecDepth 20000 in
theorem gX3_filled_X0_manFor : GoodIn wsX3_filled (wsV RX3 140 RX0 yX0_manFor wsX0_manFor) := goodIn_app (goodIn_of _ (by decide +kernel)) ggX3_filled_X0_manFor
theorem dX3_filled_0 : decode cX3_filled 0 = .ok (.aload_n 0, 1) := by decide +kernel
theorem dX3_filled_1 : decode cX3_filled 1 = .ok (.getfield 28, 3) := by decide +kernel
theorem dX3_filled_4 : decode cX3_filled 4 = .ok (.invokevirtual 79, 3) := by decide +kernel
theorem dX3_filled_7 : decode cX3_filled 7 = .ok (.bipush (-6), 2) := by decide +kernel
theorem dX3_filled_9 : decode cX3_filled 9 = .ok (.if_icmp .eq 6, 3) := by decide +kernel
theorem dX3_filled_12 : decode cX3_filled 12 = .ok (.bipush (-5), 2) := by decide +kernel
theorem dX3_filled_14 : decode cX3_filled 14 = .ok (.ireturn, 1) := by decide +kernel
theorem dX3_filled_15 : decode cX3_filled 15 = .ok (.aload_n 0, 1) := by decide +kernel
theorem dX3_filled_16 : decode cX3_filled 16 = .ok (.getfield 28, 3) := by decide +kernel
theorem dX3_filled_19 : decode cX3_filled 19 = .ok (.invokevirtual 126, 3) := by decide +kernel
theorem dX3_filled_22 : decode cX3_filled 22 = .ok (.istore_n 2, 1) := by decide +kernel
theorem dX3_filled_23 : decode cX3_filled 23 = .ok (.bipush (-6), 2) := by decide +kernel
theorem dX3_filled_25 : decode cX3_filled 25 = .ok (.istore_n 3, 1) := by decide +kernel
theorem dX3_filled_26 : decode cX3_filled 26 = .ok (.iconst 0, 1) := by decide +kernel
theorem dX3_filled_27 : decode cX3_filled 27 = .ok (.istore 4, 2) := by decide +kernel
theorem dX3_filled_29 : decode cX3_filled 29 = .ok (.iconst 0, 1) := by decide +kernel
theorem dX3_filled_30 : decode cX3_filled 30 = .ok (.istore 5, 2) := by decide +kernel
theorem dX3_filled_32 : decode cX3_filled 32 = .ok (.iload 5, 2) := by decide +kernel
theorem dX3_filled_34 : decode cX3_filled 34 = .ok (.iload_n 2, 1) := by decide +kernel
theorem dX3_filled_35 : decode cX3_filled 35 = .ok (.if_icmp .ge 74, 3) := by decide +kernel
theorem dX3_filled_38 : decode cX3_filled 38 = .ok (.aload_n 0, 1) := by decide +kernel
theorem dX3_filled_39 : decode cX3_filled 39 = .ok (.getfield 28, 3) := by decide +kernel
theorem dX3_filled_42 : decode cX3_filled 42 = .ok (.iload 5, 2) := by decide +kernel
theorem dX3_filled_44 : decode cX3_filled 44 = .ok (.invokevirtual 129, 3) := by decide +kernel
theorem dX3_filled_47 : decode cX3_filled 47 = .ok (.aload_n 0, 1) := by decide +kernel
theorem dX3_filled_48 : decode cX3_filled 48 = .ok (.getfield 28, 3) := by decide +kernel
theorem dX3_filled_51 : decode cX3_filled 51 = .ok (.invokevirtual 133, 3) := by decide +kernel
theorem dX3_filled_54 : decode cX3_filled 54 = .ok (.ifCond .ne 49, 3) := by decide +kernel
theorem dX3_filled_57 : decode cX3_filled 57 = .ok (.aload_n 0, 1) := by decide +kernel
theorem dX3_filled_58 : decode cX3_filled 58 = .ok (.getfield 28, 3) := by decide +kernel
theorem dX3_filled_61 : decode cX3_filled 61 = .ok (.aload_n 0, 1) := by decide +kernel
theorem dX3_filled_62 : decode cX3_filled 62 = .ok (.getfield 12, 3) := by decide +kernel
theorem dX3_filled_65 : decode cX3_filled 65 = .ok (.aload_n 0, 1) := by decide +kernel
theorem dX3_filled_66 : decode cX3_filled 66 = .ok (.getfield 16, 3) := by decide +kernel
theorem dX3_filled_69 : decode cX3_filled 69 = .ok (.invokevirtual 86, 3) := by decide +kernel
theorem dX3_filled_72 : decode cX3_filled 72 = .ok (.bipush (-6), 2) := by decide +kernel
theorem dX3_filled_74 : decode cX3_filled 74 = .ok (.if_icmp .ne 29, 3) := by decide +kernel
theorem dX3_filled_77 : decode cX3_filled 77 = .ok (.aload_n 0, 1) := by decide +kernel
theorem dX3_filled_78 : decode cX3_filled 78 = .ok (.getfield 16, 3) := by decide +kernel
theorem dX3_filled_81 : decode cX3_filled 81 = .ok (.invokevirtual 137, 3) := by decide +kernel
theorem dX3_filled_84 : decode cX3_filled 84 = .ok (.ifCond .eq 19, 3) := by decide +kernel
theorem dX3_filled_87 : decode cX3_filled 87 = .ok (.iload_n 3, 1) := by decide +kernel
theorem dX3_filled_88 : decode cX3_filled 88 = .ok (.bipush (-6), 2) := by decide +kernel
theorem dX3_filled_90 : decode cX3_filled 90 = .ok (.if_icmp .ne 8, 3) := by decide +kernel
theorem dX3_filled_93 : decode cX3_filled 93 = .ok (.iload 5, 2) := by decide +kernel
theorem dX3_filled_95 : decode cX3_filled 95 = .ok (.goto 4, 3) := by decide +kernel
theorem dX3_filled_98 : decode cX3_filled 98 = .ok (.iload_n 3, 1) := by decide +kernel
theorem dX3_filled_99 : decode cX3_filled 99 = .ok (.istore_n 3, 1) := by decide +kernel
theorem dX3_filled_100 : decode cX3_filled 100 = .ok (.iinc 4 1, 3) := by decide +kernel
theorem dX3_filled_103 : decode cX3_filled 103 = .ok (.iinc 5 1, 3) := by decide +kernel
theorem dX3_filled_106 : decode cX3_filled 106 = .ok (.goto (-74), 3) := by decide +kernel
theorem dX3_filled_109 : decode cX3_filled 109 = .ok (.iload_n 1, 1) := by decide +kernel
theorem dX3_filled_110 : decode cX3_filled 110 = .ok (.iconst (-1), 1) := by decide +kernel
theorem dX3_filled_111 : decode cX3_filled 111 = .ok (.if_icmp .ne 6, 3) := by decide +kernel
theorem dX3_filled_114 : decode cX3_filled 114 = .ok (.iload 4, 2) := by decide +kernel
theorem dX3_filled_116 : decode cX3_filled 116 = .ok (.ireturn, 1) := by decide +kernel
theorem dX3_filled_117 : decode cX3_filled 117 = .ok (.iload_n 3, 1) := by decide +kernel
theorem dX3_filled_118 : decode cX3_filled 118 = .ok (.bipush (-6), 2) := by decide +kernel
theorem dX3_filled_120 : decode cX3_filled 120 = .ok (.if_icmp .ne 6, 3) := by decide +kernel
theorem dX3_filled_123 : decode cX3_filled 123 = .ok (.bipush (-6), 2) := by decide +kernel
theorem dX3_filled_125 : decode cX3_filled 125 = .ok (.ireturn, 1) := by decide +kernel
theorem dX3_filled_126 : decode cX3_filled 126 = .ok (.aload_n 0, 1) := by decide +kernel
theorem dX3_filled_127 : decode cX3_filled 127 = .ok (.getfield 28, 3) := by decide +kernel
theorem dX3_filled_130 : decode cX3_filled 130 = .ok (.iload_n 3, 1) := by decide +kernel
theorem dX3_filled_131 : decode cX3_filled 131 = .ok (.invokevirtual 129, 3) := by decide +kernel
theorem dX3_filled_134 : decode cX3_filled 134 = .ok (.aload_n 0, 1) := by decide +kernel
theorem dX3_filled_135 : decode cX3_filled 135 = .ok (.getfield 28, 3) := by decide +kernel
theorem dX3_filled_138 : decode cX3_filled 138 = .ok (.iload_n 1, 1) := by decide +kernel
theorem dX3_filled_139 : decode cX3_filled 139 = .ok (.invokevirtual 140, 3) := by decide +kernel
theorem dX3_filled_142 : decode cX3_filled 142 = .ok (.ireturn, 1) := by decide +kernel
set_option maxRecDepth 20000 in
theorem ggX3_soon_X2_hasDebt : GoodIn wsX3_soon wsX2_hasDebt := goodIn_r _ [7, 8, 133, 134, 135, 136, 137, 138, 139, 140, 141, 142, 143] (by decide +kernel) (by decide +kernel)
set_option maxRecDepth 20000 in
theorem gX3_soon_X2_hasDebt : GoodIn wsX3_soon (wsV RX3 100 RX2 yX2_hasDebt wsX2_hasDebt) := goodIn_app (goodIn_of _ (by decide +kernel)) ggX3_soon_X2_hasDebt
set_option maxRecDepth 20000 in
theorem ggX3_soon_X1_load : GoodIn wsX3_soon wsX1_load := goodIn_r _ [13, 14, 15, 16, 17, 18, 19, 20, 21, 22, 6, 23, 24, 25, 26, 27, 28, 29, 30, 31, 8, 32, 33, 34, 35, 36, 37, 38, 39, 40, 41, 42, 43, 4, 5, 7, 44, 45, 46, 47, 48, 49, 50, 51, 52, 53, 54, 144, 145, 146, 147, 148, 149, 150, 151, 152, 153, 133, 134, 135, 136, 137, 138, 139, 140, 141, 142, 143] (by decide +kernel) (by decide +kernel)
set_option maxRecDepth 20000 in
theorem gX3_soon_X1_load : GoodIn wsX3_soon (wsV RX3 143 RX1 yX1_load wsX1_load) := goodIn_app (goodIn_of _ (by decide +kernel)) ggX3_soon_X1_load
set_option maxRecDepth 20000 in
theorem ggX3_soon_X2_turnOf : GoodIn wsX3_soon wsX2_turnOf := goodIn_r _ [35, 36, 29, 30, 6, 31, 8, 25, 26, 27, 37, 38, 39, 40, 41, 42, 43, 4, 5, 7, 133, 134, 135, 136, 137, 138, 139, 140, 141, 142, 143] (by decide +kernel) (by decide +kernel)
set_option maxRecDepth 20000 in
theorem gX3_soon_X2_turnOf : GoodIn wsX3_soon (wsV RX3 146 RX2 yX2_turnOf wsX2_turnOf) := goodIn_app (goodIn_of _ (by decide +kernel)) ggX3_soon_X2_turnOf
set_option maxRecDepth 20000 in
theorem ggX3_soon_X1_fewest : GoodIn wsX3_soon wsX1_fewest := goodIn_r _ [59, 17, 60, 61, 62, 63, 12, 64, 65, 66, 67, 68, 15, 19, 69, 70, 71, 72, 16, 73, 74, 75, 76, 18, 25, 26, 27, 77, 78, 79, 80, 81, 82, 83, 84, 85, 86, 87, 88, 89, 90, 91, 92, 93, 94, 95, 96, 97, 98, 99, 100, 101, 102, 103, 104, 105, 106, 107, 108, 109, 110, 111, 112, 113, 114, 115, 116, 117, 14, 118, 119, 120, 121, 122, 123, 124, 144, 145, 146, 147, 148, 149, 150, 151, 152, 153] (by decide +kernel) (by decide +kernel)
set_option maxRecDepth 20000 in
theorem gX3_soon_X1_fewest : GoodIn wsX3_soon (wsV RX3 149 RX1 yX1_fewest wsX1_fewest) := goodIn_app (goodIn_of _ (by decide +kernel)) ggX3_soon_X1_fewest
theorem dX3_soon_0 : decode cX3_soon 0 = .ok (.aload_n 0, 1) := by decide +kernel
theorem dX3_soon_1 : decode cX3_soon 1 = .ok (.getfield 12, 3) := by decide +kernel
theorem dX3_soon_4 : decode cX3_soon 4 = .ok (.iload_n 1, 1) := by decide +kernel
theorem dX3_soon_5 : decode cX3_soon 5 = .ok (.iload_n 2, 1) := by decide +kernel
theorem dX3_soon_6 : decode cX3_soon 6 = .ok (.invokevirtual 100, 3) := by decide +kernel
theorem dX3_soon_9 : decode cX3_soon 9 = .ok (.ifCond .ne 5, 3) := by decide +kernel
theorem dX3_soon_12 : decode cX3_soon 12 = .ok (.iconst (-1), 1) := by decide +kernel
theorem dX3_soon_13 : decode cX3_soon 13 = .ok (.ireturn, 1) := by decide +kernel
theorem dX3_soon_14 : decode cX3_soon 14 = .ok (.aload_n 0, 1) := by decide +kernel
theorem dX3_soon_15 : decode cX3_soon 15 = .ok (.getfield 35, 3) := by decide +kernel
theorem dX3_soon_18 : decode cX3_soon 18 = .ok (.aload_n 0, 1) := by decide +kernel
theorem dX3_soon_19 : decode cX3_soon 19 = .ok (.getfield 12, 3) := by decide +kernel
theorem dX3_soon_22 : decode cX3_soon 22 = .ok (.invokevirtual 143, 3) := by decide +kernel
theorem dX3_soon_25 : decode cX3_soon 25 = .ok (.aload_n 0, 1) := by decide +kernel
theorem dX3_soon_26 : decode cX3_soon 26 = .ok (.getfield 35, 3) := by decide +kernel
theorem dX3_soon_29 : decode cX3_soon 29 = .ok (.iload_n 1, 1) := by decide +kernel
theorem dX3_soon_30 : decode cX3_soon 30 = .ok (.aload_n 0, 1) := by decide +kernel
theorem dX3_soon_31 : decode cX3_soon 31 = .ok (.getfield 12, 3) := by decide +kernel
theorem dX3_soon_34 : decode cX3_soon 34 = .ok (.iload_n 1, 1) := by decide +kernel
theorem dX3_soon_35 : decode cX3_soon 35 = .ok (.iload_n 2, 1) := by decide +kernel
theorem dX3_soon_36 : decode cX3_soon 36 = .ok (.invokevirtual 146, 3) := by decide +kernel
theorem dX3_soon_39 : decode cX3_soon 39 = .ok (.invokevirtual 149, 3) := by decide +kernel
theorem dX3_soon_42 : decode cX3_soon 42 = .ok (.ireturn, 1) := by decide +kernel
set_option maxRecDepth 20000 in
theorem ggX3_barred_X1_load : GoodIn wsX3_barred wsX1_load := goodIn_r _ [7, 8, 9, 10, 11, 12, 13, 14, 15, 16, 17, 18, 19, 20, 21, 22, 23, 24, 25, 26, 27, 28, 29, 30, 31, 32, 33, 34, 35, 36, 37, 38, 39, 40, 41, 42, 43, 44, 45, 46, 47, 48, 49, 50, 51, 52, 53, 82, 83, 84, 85, 86, 87, 88, 89, 90, 91, 92, 93, 94, 95, 96, 97, 98, 99, 100, 101, 102] (by decide +kernel) (by decide +kernel)
set_option maxRecDepth 20000 in
theorem gX3_barred_X1_load : GoodIn wsX3_barred (wsV RX3 143 RX1 yX1_load wsX1_load) := goodIn_app (goodIn_of _ (by decide +kernel)) ggX3_barred_X1_load
set_option maxRecDepth 20000 in
theorem ggX3_barred_X1_payAllThatCan : GoodIn wsX3_barred wsX1_payAllThatCan := goodIn_r _ [57, 58, 59, 60, 6, 61, 9, 13, 11, 62, 63, 64, 65, 10, 66, 67, 68, 69, 12, 20, 21, 22, 82, 83, 84, 85, 86, 87, 88, 89, 90, 91] (by decide +kernel) (by decide +kernel)
set_option maxRecDepth 20000 in
theorem gX3_barred_X1_payAllThatCan : GoodIn wsX3_barred (wsV RX3 152 RX1 yX1_payAllThatCan wsX1_payAllThatCan) := goodIn_app (goodIn_of _ (by decide +kernel)) ggX3_barred_X1_payAllThatCan
set_option maxRecDepth 20000 in
theorem ggX3_barred_X1_stillOwing : GoodIn wsX3_barred wsX1_stillOwing := goodIn_r _ [73, 62, 63, 64, 6, 65, 11, 10, 82, 83, 84, 85, 86, 87, 88, 89, 90, 91] (by decide +kernel) (by decide +kernel)
set_option maxRecDepth 20000 in
theorem gX3_barred_X1_stillOwing : GoodIn wsX3_barred (wsV RX3 155 RX1 yX1_stillOwing wsX1_stillOwing) := goodIn_app (goodIn_of _ (by decide +kernel)) ggX3_barred_X1_stillOwing
theorem dX3_barred_0 : decode cX3_barred 0 = .ok (.aload_n 0, 1) := by decide +kernel
theorem dX3_barred_1 : decode cX3_barred 1 = .ok (.getfield 35, 3) := by decide +kernel
theorem dX3_barred_4 : decode cX3_barred 4 = .ok (.aload_n 0, 1) := by decide +kernel
theorem dX3_barred_5 : decode cX3_barred 5 = .ok (.getfield 12, 3) := by decide +kernel
theorem dX3_barred_8 : decode cX3_barred 8 = .ok (.invokevirtual 143, 3) := by decide +kernel
theorem dX3_barred_11 : decode cX3_barred 11 = .ok (.aload_n 0, 1) := by decide +kernel
theorem dX3_barred_12 : decode cX3_barred 12 = .ok (.getfield 35, 3) := by decide +kernel
theorem dX3_barred_15 : decode cX3_barred 15 = .ok (.invokevirtual 152, 3) := by decide +kernel
theorem dX3_barred_18 : decode cX3_barred 18 = .ok (.aload_n 0, 1) := by decide +kernel
theorem dX3_barred_19 : decode cX3_barred 19 = .ok (.getfield 35, 3) := by decide +kernel
theorem dX3_barred_22 : decode cX3_barred 22 = .ok (.invokevirtual 155, 3) := by decide +kernel
theorem dX3_barred_25 : decode cX3_barred 25 = .ok (.ireturn, 1) := by decide +kernel
set_option maxRecDepth 20000 in
theorem ggX3_help_X3_isMan : GoodIn wsX3_help wsX3_isMan := goodIn_r _ [4] (by decide +kernel) (by decide +kernel)
set_option maxRecDepth 20000 in
theorem gX3_help_X3_isMan : GoodIn wsX3_help (va_wsS RX3 47 yX3_isMan wsX3_isMan) := goodIn_app (goodIn_of _ (by decide +kernel)) ggX3_help_X3_isMan
set_option maxRecDepth 20000 in
theorem ggX3_help_X3_leastHelp : GoodIn wsX3_help wsX3_leastHelp := goodIn_r _ [8, 9, 10, 11, 12, 13, 14, 15, 16, 17, 18, 19, 20, 21, 22, 23, 24, 25, 26, 27, 2, 3, 4, 28, 29, 30, 31, 32, 33, 34, 35, 36, 37, 38, 39, 40, 41, 42, 43, 44, 45, 46, 47, 48, 49, 50, 51, 52, 53, 54, 55, 56, 57, 58, 59, 60, 61, 62, 63, 64, 65, 66, 67, 68, 69, 70, 71, 72, 73, 74, 75, 76, 77, 78, 79, 80, 81, 82, 83, 84, 85, 86, 87, 88, 89, 90, 91, 92, 93, 94, 95, 96, 97, 98, 99, 100, 101, 102, 103, 104, 105, 106, 107, 108, 109, 110, 111] (by decide +kernel) (by decide +kernel)
set_option maxRecDepth 20000 in
theorem gX3_help_X3_leastHelp : GoodIn wsX3_help (wsV RX3 158 RX3 yX3_leastHelp wsX3_leastHelp) := goodIn_app (goodIn_of _ (by decide +kernel)) ggX3_help_X3_leastHelp
theorem dX3_help_0 : decode cX3_help 0 = .ok (.iload_n 1, 1) := by decide +kernel
theorem dX3_help_1 : decode cX3_help 1 = .ok (.invokestatic 47, 3) := by decide +kernel
theorem dX3_help_4 : decode cX3_help 4 = .ok (.ifCond .eq 11, 3) := by decide +kernel
theorem dX3_help_7 : decode cX3_help 7 = .ok (.aload_n 0, 1) := by decide +kernel
theorem dX3_help_8 : decode cX3_help 8 = .ok (.iload_n 1, 1) := by decide +kernel
theorem dX3_help_9 : decode cX3_help 9 = .ok (.invokevirtual 158, 3) := by decide +kernel
theorem dX3_help_12 : decode cX3_help 12 = .ok (.goto 4, 3) := by decide +kernel
theorem dX3_help_15 : decode cX3_help 15 = .ok (.iconst (-1), 1) := by decide +kernel
theorem dX3_help_16 : decode cX3_help 16 = .ok (.ireturn, 1) := by decide +kernel
set_option maxRecDepth 20000 in
theorem ggX3_whom_X3_leastHelp : GoodIn wsX3_whom wsX3_leastHelp := goodIn_r _ [5, 6, 7, 8, 9, 10, 11, 12, 13, 14, 15, 16, 17, 18, 19, 20, 21, 22, 23, 24, 25, 4, 26, 27, 28, 29, 30, 31, 32, 33, 34, 35, 36, 37, 38, 39, 40, 41, 42, 43, 44, 45, 46, 47, 48, 49, 50, 51, 52, 53, 54, 55, 56, 57, 58, 59, 60, 61, 62, 63, 64, 65, 66, 67, 68, 69, 70, 71, 72, 73, 74, 75, 76, 77, 78, 79, 80, 81, 82, 83, 84, 85, 86, 87, 88, 89, 90, 91, 92, 93, 94, 95, 96, 97, 98, 99, 100, 101, 102, 103, 104, 105, 106, 107, 108, 109, 110] (by decide +kernel) (by decide +kernel)
set_option maxRecDepth 20000 in
theorem gX3_whom_X3_leastHelp : GoodIn wsX3_whom (wsV RX3 158 RX3 yX3_leastHelp wsX3_leastHelp) := goodIn_app (goodIn_of _ (by decide +kernel)) ggX3_whom_X3_leastHelp
theorem dX3_whom_0 : decode cX3_whom 0 = .ok (.bipush (-6), 2) := by decide +kernel
theorem dX3_whom_2 : decode cX3_whom 2 = .ok (.istore_n 1, 1) := by decide +kernel
theorem dX3_whom_3 : decode cX3_whom 3 = .ok (.bipush (-6), 2) := by decide +kernel
theorem dX3_whom_5 : decode cX3_whom 5 = .ok (.istore_n 2, 1) := by decide +kernel
theorem dX3_whom_6 : decode cX3_whom 6 = .ok (.iconst 0, 1) := by decide +kernel
theorem dX3_whom_7 : decode cX3_whom 7 = .ok (.istore_n 3, 1) := by decide +kernel
theorem dX3_whom_8 : decode cX3_whom 8 = .ok (.iload_n 3, 1) := by decide +kernel
theorem dX3_whom_9 : decode cX3_whom 9 = .ok (.bipush 6, 2) := by decide +kernel
theorem dX3_whom_11 : decode cX3_whom 11 = .ok (.if_icmp .ge 40, 3) := by decide +kernel
theorem dX3_whom_14 : decode cX3_whom 14 = .ok (.aload_n 0, 1) := by decide +kernel
theorem dX3_whom_15 : decode cX3_whom 15 = .ok (.iload_n 3, 1) := by decide +kernel
theorem dX3_whom_16 : decode cX3_whom 16 = .ok (.invokevirtual 158, 3) := by decide +kernel
theorem dX3_whom_19 : decode cX3_whom 19 = .ok (.istore 4, 2) := by decide +kernel
theorem dX3_whom_21 : decode cX3_whom 21 = .ok (.iload 4, 2) := by decide +kernel
theorem dX3_whom_23 : decode cX3_whom 23 = .ok (.bipush (-6), 2) := by decide +kernel
theorem dX3_whom_25 : decode cX3_whom 25 = .ok (.if_icmp .eq 20, 3) := by decide +kernel
theorem dX3_whom_28 : decode cX3_whom 28 = .ok (.iload_n 1, 1) := by decide +kernel
theorem dX3_whom_29 : decode cX3_whom 29 = .ok (.bipush (-6), 2) := by decide +kernel
theorem dX3_whom_31 : decode cX3_whom 31 = .ok (.if_icmp .eq 9, 3) := by decide +kernel
theorem dX3_whom_34 : decode cX3_whom 34 = .ok (.iload 4, 2) := by decide +kernel
theorem dX3_whom_36 : decode cX3_whom 36 = .ok (.iload_n 2, 1) := by decide +kernel
theorem dX3_whom_37 : decode cX3_whom 37 = .ok (.if_icmp .ge 8, 3) := by decide +kernel
theorem dX3_whom_40 : decode cX3_whom 40 = .ok (.iload_n 3, 1) := by decide +kernel
theorem dX3_whom_41 : decode cX3_whom 41 = .ok (.istore_n 1, 1) := by decide +kernel
theorem dX3_whom_42 : decode cX3_whom 42 = .ok (.iload 4, 2) := by decide +kernel
theorem dX3_whom_44 : decode cX3_whom 44 = .ok (.istore_n 2, 1) := by decide +kernel
theorem dX3_whom_45 : decode cX3_whom 45 = .ok (.iinc 3 1, 3) := by decide +kernel
theorem dX3_whom_48 : decode cX3_whom 48 = .ok (.goto (-40), 3) := by decide +kernel
theorem dX3_whom_51 : decode cX3_whom 51 = .ok (.iload_n 1, 1) := by decide +kernel
theorem dX3_whom_52 : decode cX3_whom 52 = .ok (.ireturn, 1) := by decide +kernel
set_option maxRecDepth 20000 in
theorem ggX3_ring_X3_isMan : GoodIn wsX3_ring wsX3_isMan := goodIn_r _ [5] (by decide +kernel) (by decide +kernel)
set_option maxRecDepth 20000 in
theorem gX3_ring_X3_isMan : GoodIn wsX3_ring (va_wsS RX3 47 yX3_isMan wsX3_isMan) := goodIn_app (goodIn_of _ (by decide +kernel)) ggX3_ring_X3_isMan
set_option maxRecDepth 20000 in
theorem ggX3_ring_X2_ringOf : GoodIn wsX3_ring wsX2_ringOf := goodIn_r _ [10, 3, 4, 5, 11, 12, 13, 9, 14, 15, 16, 17, 18, 19, 20, 21, 22, 23, 24, 25, 26, 27, 28, 29, 30, 31, 32, 33, 34, 43, 44, 45, 46, 47, 48, 49, 50, 51, 52, 53] (by decide +kernel) (by decide +kernel)
set_option maxRecDepth 20000 in
theorem gX3_ring_X2_ringOf : GoodIn wsX3_ring (wsV RX3 161 RX2 yX2_ringOf wsX2_ringOf) := goodIn_app (goodIn_of _ (by decide +kernel)) ggX3_ring_X2_ringOf
theorem dX3_ring_0 : decode cX3_ring 0 = .ok (.iload_n 1, 1) := by decide +kernel
theorem dX3_ring_1 : decode cX3_ring 1 = .ok (.invokestatic 47, 3) := by decide +kernel
theorem dX3_ring_4 : decode cX3_ring 4 = .ok (.ifCond .eq 14, 3) := by decide +kernel
theorem dX3_ring_7 : decode cX3_ring 7 = .ok (.aload_n 0, 1) := by decide +kernel
theorem dX3_ring_8 : decode cX3_ring 8 = .ok (.getfield 12, 3) := by decide +kernel
theorem dX3_ring_11 : decode cX3_ring 11 = .ok (.iload_n 1, 1) := by decide +kernel
theorem dX3_ring_12 : decode cX3_ring 12 = .ok (.invokevirtual 161, 3) := by decide +kernel
theorem dX3_ring_15 : decode cX3_ring 15 = .ok (.goto 4, 3) := by decide +kernel
theorem dX3_ring_18 : decode cX3_ring 18 = .ok (.iconst (-1), 1) := by decide +kernel
theorem dX3_ring_19 : decode cX3_ring 19 = .ok (.ireturn, 1) := by decide +kernel
set_option maxRecDepth 20000 in
theorem ggX3_setOff_X3_isMan : GoodIn wsX3_setOff wsX3_isMan := goodIn_r _ [5] (by decide +kernel) (by decide +kernel)
set_option maxRecDepth 20000 in
theorem gX3_setOff_X3_isMan : GoodIn wsX3_setOff (va_wsS RX3 47 yX3_isMan wsX3_isMan) := goodIn_app (goodIn_of _ (by decide +kernel)) ggX3_setOff_X3_isMan
set_option maxRecDepth 20000 in
theorem ggX3_setOff_X2_ringOf : GoodIn wsX3_setOff wsX2_ringOf := goodIn_r _ [10, 3, 4, 5, 11, 12, 13, 9, 14, 15, 16, 17, 18, 19, 20, 21, 22, 23, 24, 25, 26, 27, 28, 29, 30, 31, 32, 33, 34, 64, 65, 66, 67, 68, 69, 70, 71, 72, 73, 74] (by decide +kernel) (by decide +kernel)
set_option maxRecDepth 20000 in
theorem gX3_setOff_X2_ringOf : GoodIn wsX3_setOff (wsV RX3 161 RX2 yX2_ringOf wsX2_ringOf) := goodIn_app (goodIn_of _ (by decide +kernel)) ggX3_setOff_X2_ringOf
set_option maxRecDepth 20000 in
theorem ggX3_setOff_X2_setOffDues : GoodIn wsX3_setOff wsX2_setOffDues := goodIn_r _ [38, 39, 40, 41, 42, 11, 12, 13, 9, 14, 15, 16, 17, 18, 19, 20, 21, 22, 23, 3, 4, 5, 24, 25, 26, 27, 28, 29, 43, 44, 45, 46, 47, 48, 49, 50, 51, 52, 53, 54, 34, 55, 64, 65, 66, 67, 68, 69, 70, 71, 72, 73, 74] (by decide +kernel) (by decide +kernel)
set_option maxRecDepth 20000 in
theorem gX3_setOff_X2_setOffDues : GoodIn wsX3_setOff (wsV RX3 164 RX2 yX2_setOffDues wsX2_setOffDues) := goodIn_app (goodIn_of _ (by decide +kernel)) ggX3_setOff_X2_setOffDues
theorem dX3_setOff_0 : decode cX3_setOff 0 = .ok (.iload_n 1, 1) := by decide +kernel
theorem dX3_setOff_1 : decode cX3_setOff 1 = .ok (.invokestatic 47, 3) := by decide +kernel
theorem dX3_setOff_4 : decode cX3_setOff 4 = .ok (.ifCond .ne 5, 3) := by decide +kernel
theorem dX3_setOff_7 : decode cX3_setOff 7 = .ok (.iconst (-1), 1) := by decide +kernel
theorem dX3_setOff_8 : decode cX3_setOff 8 = .ok (.ireturn, 1) := by decide +kernel
theorem dX3_setOff_9 : decode cX3_setOff 9 = .ok (.aload_n 0, 1) := by decide +kernel
theorem dX3_setOff_10 : decode cX3_setOff 10 = .ok (.getfield 12, 3) := by decide +kernel
theorem dX3_setOff_13 : decode cX3_setOff 13 = .ok (.iload_n 1, 1) := by decide +kernel
theorem dX3_setOff_14 : decode cX3_setOff 14 = .ok (.invokevirtual 161, 3) := by decide +kernel
theorem dX3_setOff_17 : decode cX3_setOff 17 = .ok (.istore_n 2, 1) := by decide +kernel
theorem dX3_setOff_18 : decode cX3_setOff 18 = .ok (.iload_n 2, 1) := by decide +kernel
theorem dX3_setOff_19 : decode cX3_setOff 19 = .ok (.bipush (-6), 2) := by decide +kernel
theorem dX3_setOff_21 : decode cX3_setOff 21 = .ok (.if_icmp .ne 6, 3) := by decide +kernel
theorem dX3_setOff_24 : decode cX3_setOff 24 = .ok (.bipush (-3), 2) := by decide +kernel
theorem dX3_setOff_26 : decode cX3_setOff 26 = .ok (.ireturn, 1) := by decide +kernel
theorem dX3_setOff_27 : decode cX3_setOff 27 = .ok (.aload_n 0, 1) := by decide +kernel
theorem dX3_setOff_28 : decode cX3_setOff 28 = .ok (.getfield 12, 3) := by decide +kernel
theorem dX3_setOff_31 : decode cX3_setOff 31 = .ok (.iload_n 2, 1) := by decide +kernel
theorem dX3_setOff_32 : decode cX3_setOff 32 = .ok (.invokevirtual 164, 3) := by decide +kernel
theorem dX3_setOff_35 : decode cX3_setOff 35 = .ok (.ireturn, 1) := by decide +kernel
set_option maxRecDepth 20000 in
theorem ggX3_give_X2_hasDebt : GoodIn wsX3_give wsX2_hasDebt := goodIn_r _ [6, 7, 30, 31, 32, 33, 34, 35, 36, 37, 38, 39, 40] (by decide +kernel) (by decide +kernel)
set_option maxRecDepth 20000 in
theorem gX3_give_X2_hasDebt : GoodIn wsX3_give (wsV RX3 100 RX2 yX2_hasDebt wsX2_hasDebt) := goodIn_app (goodIn_of _ (by decide +kernel)) ggX3_give_X2_hasDebt
set_option maxRecDepth 20000 in
theorem ggX3_give_X3_isMan : GoodIn wsX3_give wsX3_isMan := goodIn_r _ [11] (by decide +kernel) (by decide +kernel)
set_option maxRecDepth 20000 in
theorem gX3_give_X3_isMan : GoodIn wsX3_give (va_wsS RX3 47 yX3_isMan wsX3_isMan) := goodIn_app (goodIn_of _ (by decide +kernel)) ggX3_give_X3_isMan
set_option maxRecDepth 20000 in
theorem ggX3_give_X2_lenderOf : GoodIn wsX3_give wsX2_lenderOf := goodIn_r _ [15, 16, 17, 3, 4, 5, 6, 7, 30, 31, 32, 33, 34, 35, 36, 37, 38, 39, 40] (by decide +kernel) (by decide +kernel)
set_option maxRecDepth 20000 in
theorem gX3_give_X2_lenderOf : GoodIn wsX3_give (wsV RX3 104 RX2 yX2_lenderOf wsX2_lenderOf) := goodIn_app (goodIn_of _ (by decide +kernel)) ggX3_give_X2_lenderOf
set_option maxRecDepth 20000 in
theorem ggX3_give_X2_changeLender : GoodIn wsX3_give wsX2_changeLender := goodIn_r _ [21, 16, 17, 3, 4, 5, 6, 7, 30, 31, 32, 33, 34, 35, 36, 37, 38, 39, 40] (by decide +kernel) (by decide +kernel)
set_option maxRecDepth 20000 in
theorem gX3_give_X2_changeLender : GoodIn wsX3_give (wsV RX3 167 RX2 yX2_changeLender wsX2_changeLender) := goodIn_app (goodIn_of _ (by decide +kernel)) ggX3_give_X2_changeLender
theorem dX3_give_0 : decode cX3_give 0 = .ok (.aload_n 0, 1) := by decide +kernel
theorem dX3_give_1 : decode cX3_give 1 = .ok (.getfield 12, 3) := by decide +kernel
theorem dX3_give_4 : decode cX3_give 4 = .ok (.iload_n 1, 1) := by decide +kernel
theorem dX3_give_5 : decode cX3_give 5 = .ok (.iload_n 2, 1) := by decide +kernel
theorem dX3_give_6 : decode cX3_give 6 = .ok (.invokevirtual 100, 3) := by decide +kernel
theorem dX3_give_9 : decode cX3_give 9 = .ok (.ifCond .eq 15, 3) := by decide +kernel
theorem dX3_give_12 : decode cX3_give 12 = .ok (.iload_n 3, 1) := by decide +kernel
theorem dX3_give_13 : decode cX3_give 13 = .ok (.invokestatic 47, 3) := by decide +kernel
theorem dX3_give_16 : decode cX3_give 16 = .ok (.ifCond .eq 8, 3) := by decide +kernel
theorem dX3_give_19 : decode cX3_give 19 = .ok (.iload_n 3, 1) := by decide +kernel
theorem dX3_give_20 : decode cX3_give 20 = .ok (.iload_n 1, 1) := by decide +kernel
theorem dX3_give_21 : decode cX3_give 21 = .ok (.if_icmp .ne 5, 3) := by decide +kernel
theorem dX3_give_24 : decode cX3_give 24 = .ok (.iconst (-1), 1) := by decide +kernel
theorem dX3_give_25 : decode cX3_give 25 = .ok (.ireturn, 1) := by decide +kernel
theorem dX3_give_26 : decode cX3_give 26 = .ok (.aload_n 0, 1) := by decide +kernel
theorem dX3_give_27 : decode cX3_give 27 = .ok (.getfield 12, 3) := by decide +kernel
theorem dX3_give_30 : decode cX3_give 30 = .ok (.iload_n 1, 1) := by decide +kernel
theorem dX3_give_31 : decode cX3_give 31 = .ok (.iload_n 2, 1) := by decide +kernel
theorem dX3_give_32 : decode cX3_give 32 = .ok (.invokevirtual 104, 3) := by decide +kernel
theorem dX3_give_35 : decode cX3_give 35 = .ok (.istore 4, 2) := by decide +kernel
theorem dX3_give_37 : decode cX3_give 37 = .ok (.aload_n 0, 1) := by decide +kernel
theorem dX3_give_38 : decode cX3_give 38 = .ok (.getfield 12, 3) := by decide +kernel
theorem dX3_give_41 : decode cX3_give 41 = .ok (.iload_n 1, 1) := by decide +kernel
theorem dX3_give_42 : decode cX3_give 42 = .ok (.iload_n 2, 1) := by decide +kernel
theorem dX3_give_43 : decode cX3_give 43 = .ok (.iload_n 3, 1) := by decide +kernel
theorem dX3_give_44 : decode cX3_give 44 = .ok (.invokevirtual 167, 3) := by decide +kernel
theorem dX3_give_47 : decode cX3_give 47 = .ok (.iload 4, 2) := by decide +kernel
theorem dX3_give_49 : decode cX3_give 49 = .ok (.ireturn, 1) := by decide +kernel
set_option maxRecDepth 20000 in
theorem ggX3_pawn_X2_hasDebt : GoodIn wsX3_pawn wsX2_hasDebt := goodIn_r _ [6, 7, 38, 39, 40, 41, 42, 43, 44, 45, 46, 47, 48] (by decide +kernel) (by decide +kernel)
set_option maxRecDepth 20000 in
theorem gX3_pawn_X2_hasDebt : GoodIn wsX3_pawn (wsV RX3 100 RX2 yX2_hasDebt wsX2_hasDebt) := goodIn_app (goodIn_of _ (by decide +kernel)) ggX3_pawn_X2_hasDebt
set_option maxRecDepth 20000 in
theorem ggX3_pawn_X2_penceTill : GoodIn wsX3_pawn wsX2_penceTill := goodIn_r _ [11, 12, 13, 14, 5, 15, 7, 16, 17, 18, 19, 20, 21, 22, 23, 24, 25, 3, 4, 6, 26, 27, 28, 29, 38, 39, 40, 41, 42, 43, 44, 45, 46, 47, 48] (by decide +kernel) (by decide +kernel)
set_option maxRecDepth 20000 in
theorem gX3_pawn_X2_penceTill : GoodIn wsX3_pawn (wsV RX3 171 RX2 yX2_penceTill wsX2_penceTill) := goodIn_app (goodIn_of _ (by decide +kernel)) ggX3_pawn_X2_penceTill
theorem dX3_pawn_0 : decode cX3_pawn 0 = .ok (.aload_n 0, 1) := by decide +kernel
theorem dX3_pawn_1 : decode cX3_pawn 1 = .ok (.getfield 12, 3) := by decide +kernel
theorem dX3_pawn_4 : decode cX3_pawn 4 = .ok (.iload_n 1, 1) := by decide +kernel
theorem dX3_pawn_5 : decode cX3_pawn 5 = .ok (.iload_n 2, 1) := by decide +kernel
theorem dX3_pawn_6 : decode cX3_pawn 6 = .ok (.invokevirtual 100, 3) := by decide +kernel
theorem dX3_pawn_9 : decode cX3_pawn 9 = .ok (.ifCond .eq 15, 3) := by decide +kernel
theorem dX3_pawn_12 : decode cX3_pawn 12 = .ok (.aload_n 0, 1) := by decide +kernel
theorem dX3_pawn_13 : decode cX3_pawn 13 = .ok (.getfield 12, 3) := by decide +kernel
theorem dX3_pawn_16 : decode cX3_pawn 16 = .ok (.iload_n 1, 1) := by decide +kernel
theorem dX3_pawn_17 : decode cX3_pawn 17 = .ok (.iload_n 2, 1) := by decide +kernel
theorem dX3_pawn_18 : decode cX3_pawn 18 = .ok (.invokevirtual 171, 3) := by decide +kernel
theorem dX3_pawn_21 : decode cX3_pawn 21 = .ok (.goto 4, 3) := by decide +kernel
theorem dX3_pawn_24 : decode cX3_pawn 24 = .ok (.iconst (-1), 1) := by decide +kernel
theorem dX3_pawn_25 : decode cX3_pawn 25 = .ok (.ireturn, 1) := by decide +kernel
set_option maxRecDepth 20000 in
theorem ggX3_odds_X3_isMan : GoodIn wsX3_odds wsX3_isMan := goodIn_r _ [8] (by decide +kernel) (by decide +kernel)
set_option maxRecDepth 20000 in
theorem gX3_odds_X3_isMan : GoodIn wsX3_odds (va_wsS RX3 47 yX3_isMan wsX3_isMan) := goodIn_app (goodIn_of _ (by decide +kernel)) ggX3_odds_X3_isMan
set_option maxRecDepth 20000 in
theorem ggX3_odds_X3_isWithin : GoodIn wsX3_odds wsX3_isWithin := goodIn_r _ [11] (by decide +kernel) (by decide +kernel)
set_option maxRecDepth 20000 in
theorem gX3_odds_X3_isWithin : GoodIn wsX3_odds (va_wsS RX3 51 yX3_isWithin wsX3_isWithin) := goodIn_app (goodIn_of _ (by decide +kernel)) ggX3_odds_X3_isWithin
set_option maxRecDepth 20000 in
theorem ggX3_odds_X2_dueOf : GoodIn wsX3_odds wsX2_dueOf := goodIn_r _ [16, 17, 18, 19, 15, 20, 21, 22, 23, 24, 25, 6, 7, 8, 26, 27, 28, 29, 30, 31, 75, 76, 77, 78, 79, 80, 81, 82, 83, 84, 85] (by decide +kernel) (by decide +kernel)
set_option maxRecDepth 20000 in
theorem gX3_odds_X2_dueOf : GoodIn wsX3_odds (wsV RX3 114 RX2 yX2_dueOf wsX2_dueOf) := goodIn_app (goodIn_of _ (by decide +kernel)) ggX3_odds_X2_dueOf
set_option maxRecDepth 20000 in
theorem ggX3_odds_X2_penceOf : GoodIn wsX3_odds wsX2_penceOf := goodIn_r _ [35, 31, 17, 18, 19, 15, 20, 21, 75, 76, 77, 78, 79, 80, 81, 82, 83, 84, 85] (by decide +kernel) (by decide +kernel)
set_option maxRecDepth 20000 in
theorem gX3_odds_X2_penceOf : GoodIn wsX3_odds (wsV RX3 108 RX2 yX2_penceOf wsX2_penceOf) := goodIn_app (goodIn_of _ (by decide +kernel)) ggX3_odds_X2_penceOf
set_option maxRecDepth 20000 in
theorem ggX3_odds_X3_grown : GoodIn wsX3_odds wsX3_grown := goodIn_r _ [38, 39, 40, 41, 42] (by decide +kernel) (by decide +kernel)
set_option maxRecDepth 20000 in
theorem gX3_odds_X3_grown : GoodIn wsX3_odds (va_wsS RX3 180 yX3_grown wsX3_grown) := goodIn_app (goodIn_of _ (by decide +kernel)) ggX3_odds_X3_grown
set_option maxRecDepth 20000 in
theorem ggX3_odds_X2_purseOf : GoodIn wsX3_odds wsX2_purseOf := goodIn_r _ [46, 47, 6, 7, 8, 75, 76, 77, 78, 79, 80, 81, 82, 83, 84, 85] (by decide +kernel) (by decide +kernel)
set_option maxRecDepth 20000 in
theorem gX3_odds_X2_purseOf : GoodIn wsX3_odds (wsV RX3 55 RX2 yX2_purseOf wsX2_purseOf) := goodIn_app (goodIn_of _ (by decide +kernel)) ggX3_odds_X2_purseOf
set_option maxRecDepth 20000 in
theorem ggX3_odds_X3_luckyShares : GoodIn wsX3_odds wsX3_luckyShares := goodIn_r _ [51, 52, 53, 54, 55, 56, 67, 68, 69, 70, 71, 72, 73, 74] (by decide +kernel) (by decide +kernel)
set_option maxRecDepth 20000 in
theorem gX3_odds_X3_luckyShares : GoodIn wsX3_odds (wsV RX3 183 RX3 yX3_luckyShares wsX3_luckyShares) := goodIn_app (goodIn_of _ (by decide +kernel)) ggX3_odds_X3_luckyShares
set_option maxRecDepth 20000 in
theorem ggX3_odds_X3_allShares : GoodIn wsX3_odds wsX3_allShares := goodIn_r _ [59, 60] (by decide +kernel) (by decide +kernel)
set_option maxRecDepth 20000 in
theorem gX3_odds_X3_allShares : GoodIn wsX3_odds (va_wsS RX3 187 yX3_allShares wsX3_allShares) := goodIn_app (goodIn_of _ (by decide +kernel)) ggX3_odds_X3_allShares
set_option maxRecDepth 20000 in
theorem ggX3_odds_X3_lowestTerms : GoodIn wsX3_odds wsX3_lowestTerms := goodIn_r _ [63, 64, 65, 7, 66] (by decide +kernel) (by decide +kernel)
set_option maxRecDepth 20000 in
theorem gX3_odds_X3_lowestTerms : GoodIn wsX3_odds (va_wsS RX3 191 yX3_lowestTerms wsX3_lowestTerms) := goodIn_app (goodIn_of _ (by decide +kernel)) ggX3_odds_X3_lowestTerms
theorem dX3_odds_0 : decode cX3_odds 0 = .ok (.iload_n 1, 1) := by decide +kernel
theorem dX3_odds_1 : decode cX3_odds 1 = .ok (.invokestatic 47, 3) := by decide +kernel
theorem dX3_odds_4 : decode cX3_odds 4 = .ok (.ifCond .ne 7, 3) := by decide +kernel
theorem dX3_odds_7 : decode cX3_odds 7 = .ok (.ldc2_w 174, 3) := by decide +kernel
theorem dX3_odds_10 : decode cX3_odds 10 = .ok (.lreturn, 1) := by decide +kernel
theorem dX3_odds_11 : decode cX3_odds 11 = .ok (.iload_n 2, 1) := by decide +kernel
theorem dX3_odds_12 : decode cX3_odds 12 = .ok (.iconst 1, 1) := by decide +kernel
theorem dX3_odds_13 : decode cX3_odds 13 = .ok (.bipush 99, 2) := by decide +kernel
theorem dX3_odds_15 : decode cX3_odds 15 = .ok (.invokestatic 51, 3) := by decide +kernel
theorem dX3_odds_18 : decode cX3_odds 18 = .ok (.ifCond .eq 34, 3) := by decide +kernel
theorem dX3_odds_21 : decode cX3_odds 21 = .ok (.iload_n 3, 1) := by decide +kernel
theorem dX3_odds_22 : decode cX3_odds 22 = .ok (.iconst 0, 1) := by decide +kernel
theorem dX3_odds_23 : decode cX3_odds 23 = .ok (.bipush 12, 2) := by decide +kernel
theorem dX3_odds_25 : decode cX3_odds 25 = .ok (.invokestatic 51, 3) := by decide +kernel
theorem dX3_odds_28 : decode cX3_odds 28 = .ok (.ifCond .eq 24, 3) := by decide +kernel
theorem dX3_odds_31 : decode cX3_odds 31 = .ok (.iload 4, 2) := by decide +kernel
theorem dX3_odds_33 : decode cX3_odds 33 = .ok (.iconst 0, 1) := by decide +kernel
theorem dX3_odds_34 : decode cX3_odds 34 = .ok (.bipush 10, 2) := by decide +kernel
theorem dX3_odds_36 : decode cX3_odds 36 = .ok (.invokestatic 51, 3) := by decide +kernel
theorem dX3_odds_39 : decode cX3_odds 39 = .ok (.ifCond .eq 13, 3) := by decide +kernel
theorem dX3_odds_42 : decode cX3_odds 42 = .ok (.iload 5, 2) := by decide +kernel
theorem dX3_odds_44 : decode cX3_odds 44 = .ok (.iconst 0, 1) := by decide +kernel
theorem dX3_odds_45 : decode cX3_odds 45 = .ok (.iconst 1, 1) := by decide +kernel
theorem dX3_odds_46 : decode cX3_odds 46 = .ok (.invokestatic 51, 3) := by decide +kernel
theorem dX3_odds_49 : decode cX3_odds 49 = .ok (.ifCond .ne 7, 3) := by decide +kernel
theorem dX3_odds_52 : decode cX3_odds 52 = .ok (.ldc2_w 176, 3) := by decide +kernel
theorem dX3_odds_55 : decode cX3_odds 55 = .ok (.lreturn, 1) := by decide +kernel
theorem dX3_odds_56 : decode cX3_odds 56 = .ok (.aload_n 0, 1) := by decide +kernel
theorem dX3_odds_57 : decode cX3_odds 57 = .ok (.getfield 12, 3) := by decide +kernel
theorem dX3_odds_60 : decode cX3_odds 60 = .ok (.iload_n 1, 1) := by decide +kernel
theorem dX3_odds_61 : decode cX3_odds 61 = .ok (.invokevirtual 114, 3) := by decide +kernel
theorem dX3_odds_64 : decode cX3_odds 64 = .ok (.istore 6, 2) := by decide +kernel
theorem dX3_odds_66 : decode cX3_odds 66 = .ok (.iload 6, 2) := by decide +kernel
theorem dX3_odds_68 : decode cX3_odds 68 = .ok (.bipush (-6), 2) := by decide +kernel
theorem dX3_odds_70 : decode cX3_odds 70 = .ok (.if_icmp .ne 7, 3) := by decide +kernel
theorem dX3_odds_73 : decode cX3_odds 73 = .ok (.ldc2_w 178, 3) := by decide +kernel
theorem dX3_odds_76 : decode cX3_odds 76 = .ok (.lreturn, 1) := by decide +kernel
theorem dX3_odds_77 : decode cX3_odds 77 = .ok (.aload_n 0, 1) := by decide +kernel
theorem dX3_odds_78 : decode cX3_odds 78 = .ok (.getfield 12, 3) := by decide +kernel
theorem dX3_odds_81 : decode cX3_odds 81 = .ok (.iload_n 1, 1) := by decide +kernel
theorem dX3_odds_82 : decode cX3_odds 82 = .ok (.iload 6, 2) := by decide +kernel
theorem dX3_odds_84 : decode cX3_odds 84 = .ok (.invokevirtual 108, 3) := by decide +kernel
theorem dX3_odds_87 : decode cX3_odds 87 = .ok (.iload_n 3, 1) := by decide +kernel
theorem dX3_odds_88 : decode cX3_odds 88 = .ok (.aload_n 0, 1) := by decide +kernel
theorem dX3_odds_89 : decode cX3_odds 89 = .ok (.getfield 12, 3) := by decide +kernel
theorem dX3_odds_92 : decode cX3_odds 92 = .ok (.getfield 66, 3) := by decide +kernel
theorem dX3_odds_95 : decode cX3_odds 95 = .ok (.imul, 1) := by decide +kernel
theorem dX3_odds_96 : decode cX3_odds 96 = .ok (.invokestatic 180, 3) := by decide +kernel
theorem dX3_odds_99 : decode cX3_odds 99 = .ok (.aload_n 0, 1) := by decide +kernel
theorem dX3_odds_100 : decode cX3_odds 100 = .ok (.getfield 12, 3) := by decide +kernel
theorem dX3_odds_103 : decode cX3_odds 103 = .ok (.iload_n 1, 1) := by decide +kernel
theorem dX3_odds_104 : decode cX3_odds 104 = .ok (.invokevirtual 55, 3) := by decide +kernel
theorem dX3_odds_107 : decode cX3_odds 107 = .ok (.isub, 1) := by decide +kernel
theorem dX3_odds_108 : decode cX3_odds 108 = .ok (.istore 7, 2) := by decide +kernel
theorem dX3_odds_110 : decode cX3_odds 110 = .ok (.aload_n 0, 1) := by decide +kernel
theorem dX3_odds_111 : decode cX3_odds 111 = .ok (.iload_n 2, 1) := by decide +kernel
theorem dX3_odds_112 : decode cX3_odds 112 = .ok (.iload_n 3, 1) := by decide +kernel
theorem dX3_odds_113 : decode cX3_odds 113 = .ok (.iload 4, 2) := by decide +kernel
theorem dX3_odds_115 : decode cX3_odds 115 = .ok (.iload 7, 2) := by decide +kernel
theorem dX3_odds_117 : decode cX3_odds 117 = .ok (.invokevirtual 183, 3) := by decide +kernel
theorem dX3_odds_120 : decode cX3_odds 120 = .ok (.iload_n 3, 1) := by decide +kernel
theorem dX3_odds_121 : decode cX3_odds 121 = .ok (.invokestatic 187, 3) := by decide +kernel
theorem dX3_odds_124 : decode cX3_odds 124 = .ok (.iload 5, 2) := by decide +kernel
theorem dX3_odds_126 : decode cX3_odds 126 = .ok (.invokestatic 191, 3) := by decide +kernel
theorem dX3_odds_129 : decode cX3_odds 129 = .ok (.lreturn, 1) := by decide +kernel
set_option maxRecDepth 20000 in
theorem ggX3_year_X3_isWithin : GoodIn wsX3_year wsX3_isWithin := goodIn_r _ [6] (by decide +kernel) (by decide +kernel)
set_option maxRecDepth 20000 in
theorem gX3_year_X3_isWithin : GoodIn wsX3_year (va_wsS RX3 51 yX3_isWithin wsX3_isWithin) := goodIn_app (goodIn_of _ (by decide +kernel)) ggX3_year_X3_isWithin
set_option maxRecDepth 20000 in
theorem ggX3_year_X2_copyFrom : GoodIn wsX3_year wsX2_copyFrom := goodIn_r _ [11, 12, 13, 14, 15, 16, 17, 18, 19, 20, 21, 22, 23, 24, 25, 26, 102, 103, 104, 105, 106, 107, 108, 109, 110, 111, 112] (by decide +kernel) (by decide +kernel)
set_option maxRecDepth 20000 in
theorem gX3_year_X2_copyFrom : GoodIn wsX3_year (wsV RX3 93 RX2 yX2_copyFrom wsX2_copyFrom) := goodIn_app (goodIn_of _ (by decide +kernel)) ggX3_year_X2_copyFrom
set_option maxRecDepth 20000 in
theorem ggX3_year_X3_liveYear : GoodIn wsX3_year wsX3_liveYear := goodIn_r _ [30, 31, 1, 32, 33, 34, 10, 35, 12, 36, 5, 37, 38, 39, 40, 41, 42, 43, 44, 45, 46, 47, 48, 49, 50, 51, 52, 53, 17, 54, 55, 56, 57, 58, 59, 60, 61, 25, 19, 62, 63, 64, 65, 66, 67, 68, 69, 70, 18, 71, 72, 73, 74, 75, 20, 76, 77, 78, 79, 24, 26, 80, 81, 82, 83, 84, 85, 94, 95, 96, 97, 98, 99, 100, 101, 102, 103, 104, 105, 106, 107, 108, 109, 110, 111, 112] (by decide +kernel) (by decide +kernel)
set_option maxRecDepth 20000 in
theorem gX3_year_X3_liveYear : GoodIn wsX3_year (wsV RX3 195 RX3 yX3_liveYear wsX3_liveYear) := goodIn_app (goodIn_of _ (by decide +kernel)) ggX3_year_X3_liveYear
set_option maxRecDepth 20000 in
theorem ggX3_year_X2_allDebts : GoodIn wsX3_year wsX2_allDebts := goodIn_r _ [89, 17, 102, 103, 104, 105, 106, 107, 108, 109, 110, 111, 112] (by decide +kernel) (by decide +kernel)
set_option maxRecDepth 20000 in
theorem gX3_year_X2_allDebts : GoodIn wsX3_year (wsV RX3 198 RX2 yX2_allDebts wsX2_allDebts) := goodIn_app (goodIn_of _ (by decide +kernel)) ggX3_year_X2_allDebts
set_option maxRecDepth 20000 in
theorem ggX3_year_X2_allPence : GoodIn wsX3_year wsX2_allPence := goodIn_r _ [93, 54, 55, 56, 10, 57, 17, 36, 5, 37, 62, 63, 64, 65, 19, 50, 51, 52, 53, 102, 103, 104, 105, 106, 107, 108, 109, 110, 111, 112] (by decide +kernel) (by decide +kernel)
set_option maxRecDepth 20000 in
theorem gX3_year_X2_allPence : GoodIn wsX3_year (wsV RX3 201 RX2 yX2_allPence wsX2_allPence) := goodIn_app (goodIn_of _ (by decide +kernel)) ggX3_year_X2_allPence
theorem dX3_year_0 : decode cX3_year 0 = .ok (.iload_n 1, 1) := by decide +kernel
theorem dX3_year_1 : decode cX3_year 1 = .ok (.iconst 0, 1) := by decide +kernel
theorem dX3_year_2 : decode cX3_year 2 = .ok (.sipush 9999, 3) := by decide +kernel
theorem dX3_year_5 : decode cX3_year 5 = .ok (.invokestatic 51, 3) := by decide +kernel
theorem dX3_year_8 : decode cX3_year 8 = .ok (.ifCond .eq 22, 3) := by decide +kernel
theorem dX3_year_11 : decode cX3_year 11 = .ok (.iload_n 2, 1) := by decide +kernel
theorem dX3_year_12 : decode cX3_year 12 = .ok (.iconst 1, 1) := by decide +kernel
theorem dX3_year_13 : decode cX3_year 13 = .ok (.bipush 99, 2) := by decide +kernel
theorem dX3_year_15 : decode cX3_year 15 = .ok (.invokestatic 51, 3) := by decide +kernel
theorem dX3_year_18 : decode cX3_year 18 = .ok (.ifCond .eq 12, 3) := by decide +kernel
theorem dX3_year_21 : decode cX3_year 21 = .ok (.iload_n 3, 1) := by decide +kernel
theorem dX3_year_22 : decode cX3_year 22 = .ok (.iconst 0, 1) := by decide +kernel
theorem dX3_year_23 : decode cX3_year 23 = .ok (.iconst 2, 1) := by decide +kernel
theorem dX3_year_24 : decode cX3_year 24 = .ok (.invokestatic 51, 3) := by decide +kernel
theorem dX3_year_27 : decode cX3_year 27 = .ok (.ifCond .ne 6, 3) := by decide +kernel
theorem dX3_year_30 : decode cX3_year 30 = .ok (.bipush (-2), 2) := by decide +kernel
theorem dX3_year_32 : decode cX3_year 32 = .ok (.ireturn, 1) := by decide +kernel
theorem dX3_year_33 : decode cX3_year 33 = .ok (.aload_n 0, 1) := by decide +kernel
theorem dX3_year_34 : decode cX3_year 34 = .ok (.getfield 16, 3) := by decide +kernel
theorem dX3_year_37 : decode cX3_year 37 = .ok (.aload_n 0, 1) := by decide +kernel
theorem dX3_year_38 : decode cX3_year 38 = .ok (.getfield 12, 3) := by decide +kernel
theorem dX3_year_41 : decode cX3_year 41 = .ok (.invokevirtual 93, 3) := by decide +kernel
theorem dX3_year_44 : decode cX3_year 44 = .ok (.aload_n 0, 1) := by decide +kernel
theorem dX3_year_45 : decode cX3_year 45 = .ok (.iload_n 1, 1) := by decide +kernel
theorem dX3_year_46 : decode cX3_year 46 = .ok (.iload_n 2, 1) := by decide +kernel
theorem dX3_year_47 : decode cX3_year 47 = .ok (.invokevirtual 195, 3) := by decide +kernel
theorem dX3_year_50 : decode cX3_year 50 = .ok (.istore 4, 2) := by decide +kernel
theorem dX3_year_52 : decode cX3_year 52 = .ok (.iload_n 3, 1) := by decide +kernel
theorem dX3_year_53 : decode cX3_year 53 = .ok (.ifCond .ne 6, 3) := by decide +kernel
theorem dX3_year_56 : decode cX3_year 56 = .ok (.iload 4, 2) := by decide +kernel
theorem dX3_year_58 : decode cX3_year 58 = .ok (.ireturn, 1) := by decide +kernel
theorem dX3_year_59 : decode cX3_year 59 = .ok (.iload_n 3, 1) := by decide +kernel
theorem dX3_year_60 : decode cX3_year 60 = .ok (.iconst 1, 1) := by decide +kernel
theorem dX3_year_61 : decode cX3_year 61 = .ok (.if_icmp .ne 13, 3) := by decide +kernel
theorem dX3_year_64 : decode cX3_year 64 = .ok (.aload_n 0, 1) := by decide +kernel
theorem dX3_year_65 : decode cX3_year 65 = .ok (.getfield 16, 3) := by decide +kernel
theorem dX3_year_68 : decode cX3_year 68 = .ok (.invokevirtual 198, 3) := by decide +kernel
theorem dX3_year_71 : decode cX3_year 71 = .ok (.goto 10, 3) := by decide +kernel
theorem dX3_year_74 : decode cX3_year 74 = .ok (.aload_n 0, 1) := by decide +kernel
theorem dX3_year_75 : decode cX3_year 75 = .ok (.getfield 16, 3) := by decide +kernel
theorem dX3_year_78 : decode cX3_year 78 = .ok (.invokevirtual 201, 3) := by decide +kernel
theorem dX3_year_81 : decode cX3_year 81 = .ok (.ireturn, 1) := by decide +kernel
set_option maxRecDepth 20000 in
theorem ggX3_image_X3_isWithin : GoodIn wsX3_image wsX3_isWithin := goodIn_r _ [6] (by decide +kernel) (by decide +kernel)
set_option maxRecDepth 20000 in
theorem gX3_image_X3_isWithin : GoodIn wsX3_image (va_wsS RX3 51 yX3_isWithin wsX3_isWithin) := goodIn_app (goodIn_of _ (by decide +kernel)) ggX3_image_X3_isWithin
set_option maxRecDepth 20000 in
theorem ggX3_image_X3_imageOf : GoodIn wsX3_image wsX3_imageOf := goodIn_r _ [10, 11, 12, 33, 34, 35, 36, 37, 38, 39, 40] (by decide +kernel) (by decide +kernel)
set_option maxRecDepth 20000 in
theorem gX3_image_X3_imageOf : GoodIn wsX3_image (wsV RX3 204 RX3 yX3_imageOf wsX3_imageOf) := goodIn_app (goodIn_of _ (by decide +kernel)) ggX3_image_X3_imageOf
set_option maxRecDepth 20000 in
theorem ggX3_image_X2_copyFrom : GoodIn wsX3_image wsX2_copyFrom := goodIn_r _ [17, 18, 19, 20, 21, 22, 23, 24, 25, 26, 27, 28, 29, 30, 31, 32, 41, 42, 43, 44, 45, 46, 47, 48, 49, 50, 51] (by decide +kernel) (by decide +kernel)
set_option maxRecDepth 20000 in
theorem gX3_image_X2_copyFrom : GoodIn wsX3_image (wsV RX3 93 RX2 yX2_copyFrom wsX2_copyFrom) := goodIn_app (goodIn_of _ (by decide +kernel)) ggX3_image_X2_copyFrom
theorem dX3_image_0 : decode cX3_image 0 = .ok (.iload_n 1, 1) := by decide +kernel
theorem dX3_image_1 : decode cX3_image 1 = .ok (.iconst 0, 1) := by decide +kernel
theorem dX3_image_2 : decode cX3_image 2 = .ok (.iconst 1, 1) := by decide +kernel
theorem dX3_image_3 : decode cX3_image 3 = .ok (.invokestatic 51, 3) := by decide +kernel
theorem dX3_image_6 : decode cX3_image 6 = .ok (.ifCond .ne 6, 3) := by decide +kernel
theorem dX3_image_9 : decode cX3_image 9 = .ok (.bipush (-2), 2) := by decide +kernel
theorem dX3_image_11 : decode cX3_image 11 = .ok (.ireturn, 1) := by decide +kernel
theorem dX3_image_12 : decode cX3_image 12 = .ok (.aload_n 0, 1) := by decide +kernel
theorem dX3_image_13 : decode cX3_image 13 = .ok (.iload_n 1, 1) := by decide +kernel
theorem dX3_image_14 : decode cX3_image 14 = .ok (.invokevirtual 204, 3) := by decide +kernel
theorem dX3_image_17 : decode cX3_image 17 = .ok (.aload_n 0, 1) := by decide +kernel
theorem dX3_image_18 : decode cX3_image 18 = .ok (.getfield 12, 3) := by decide +kernel
theorem dX3_image_21 : decode cX3_image 21 = .ok (.invokevirtual 93, 3) := by decide +kernel
theorem dX3_image_24 : decode cX3_image 24 = .ok (.aload_n 0, 1) := by decide +kernel
theorem dX3_image_25 : decode cX3_image 25 = .ok (.dup, 1) := by decide +kernel
theorem dX3_image_26 : decode cX3_image 26 = .ok (.getfield 43, 3) := by decide +kernel
theorem dX3_image_29 : decode cX3_image 29 = .ok (.iconst 1, 1) := by decide +kernel
theorem dX3_image_30 : decode cX3_image 30 = .ok (.iload_n 1, 1) := by decide +kernel
theorem dX3_image_31 : decode cX3_image 31 = .ok (.ishl, 1) := by decide +kernel
theorem dX3_image_32 : decode cX3_image 32 = .ok (.ior, 1) := by decide +kernel
theorem dX3_image_33 : decode cX3_image 33 = .ok (.putfield 43, 3) := by decide +kernel
theorem dX3_image_36 : decode cX3_image 36 = .ok (.iconst 1, 1) := by decide +kernel
theorem dX3_image_37 : decode cX3_image 37 = .ok (.ireturn, 1) := by decide +kernel
set_option maxRecDepth 20000 in
theorem ggX3_restore_X3_isWithin : GoodIn wsX3_restore wsX3_isWithin := goodIn_r _ [6] (by decide +kernel) (by decide +kernel)
set_option maxRecDepth 20000 in
theorem gX3_restore_X3_isWithin : GoodIn wsX3_restore (va_wsS RX3 51 yX3_isWithin wsX3_isWithin) := goodIn_app (goodIn_of _ (by decide +kernel)) ggX3_restore_X3_isWithin
set_option maxRecDepth 20000 in
theorem ggX3_restore_X3_imageOf : GoodIn wsX3_restore wsX3_imageOf := goodIn_r _ [10, 11, 12, 33, 34, 35, 36, 37, 38, 39, 40] (by decide +kernel) (by decide +kernel)
set_option maxRecDepth 20000 in
theorem gX3_restore_X3_imageOf : GoodIn wsX3_restore (wsV RX3 204 RX3 yX3_imageOf wsX3_imageOf) := goodIn_app (goodIn_of _ (by decide +kernel)) ggX3_restore_X3_imageOf
set_option maxRecDepth 20000 in
theorem ggX3_restore_X2_copyFrom : GoodIn wsX3_restore wsX2_copyFrom := goodIn_r _ [17, 18, 19, 20, 21, 22, 23, 24, 25, 26, 27, 28, 29, 30, 31, 32, 41, 42, 43, 44, 45, 46, 47, 48, 49, 50, 51] (by decide +kernel) (by decide +kernel)
set_option maxRecDepth 20000 in
theorem gX3_restore_X2_copyFrom : GoodIn wsX3_restore (wsV RX3 93 RX2 yX2_copyFrom wsX2_copyFrom) := goodIn_app (goodIn_of _ (by decide +kernel)) ggX3_restore_X2_copyFrom
theorem dX3_restore_0 : decode cX3_restore 0 = .ok (.iload_n 1, 1) := by decide +kernel
theorem dX3_restore_1 : decode cX3_restore 1 = .ok (.iconst 0, 1) := by decide +kernel
theorem dX3_restore_2 : decode cX3_restore 2 = .ok (.iconst 1, 1) := by decide +kernel
theorem dX3_restore_3 : decode cX3_restore 3 = .ok (.invokestatic 51, 3) := by decide +kernel
theorem dX3_restore_6 : decode cX3_restore 6 = .ok (.ifCond .ne 6, 3) := by decide +kernel
theorem dX3_restore_9 : decode cX3_restore 9 = .ok (.bipush (-2), 2) := by decide +kernel
theorem dX3_restore_11 : decode cX3_restore 11 = .ok (.ireturn, 1) := by decide +kernel
theorem dX3_restore_12 : decode cX3_restore 12 = .ok (.aload_n 0, 1) := by decide +kernel
theorem dX3_restore_13 : decode cX3_restore 13 = .ok (.getfield 43, 3) := by decide +kernel
theorem dX3_restore_16 : decode cX3_restore 16 = .ok (.iconst 1, 1) := by decide +kernel
theorem dX3_restore_17 : decode cX3_restore 17 = .ok (.iload_n 1, 1) := by decide +kernel
theorem dX3_restore_18 : decode cX3_restore 18 = .ok (.ishl, 1) := by decide +kernel
theorem dX3_restore_19 : decode cX3_restore 19 = .ok (.iand, 1) := by decide +kernel
theorem dX3_restore_20 : decode cX3_restore 20 = .ok (.ifCond .ne 6, 3) := by decide +kernel
theorem dX3_restore_23 : decode cX3_restore 23 = .ok (.bipush (-3), 2) := by decide +kernel
theorem dX3_restore_25 : decode cX3_restore 25 = .ok (.ireturn, 1) := by decide +kernel
theorem dX3_restore_26 : decode cX3_restore 26 = .ok (.aload_n 0, 1) := by decide +kernel
theorem dX3_restore_27 : decode cX3_restore 27 = .ok (.getfield 12, 3) := by decide +kernel
theorem dX3_restore_30 : decode cX3_restore 30 = .ok (.aload_n 0, 1) := by decide +kernel
theorem dX3_restore_31 : decode cX3_restore 31 = .ok (.iload_n 1, 1) := by decide +kernel
theorem dX3_restore_32 : decode cX3_restore 32 = .ok (.invokevirtual 204, 3) := by decide +kernel
theorem dX3_restore_35 : decode cX3_restore 35 = .ok (.invokevirtual 93, 3) := by decide +kernel
theorem dX3_restore_38 : decode cX3_restore 38 = .ok (.iconst 1, 1) := by decide +kernel
theorem dX3_restore_39 : decode cX3_restore 39 = .ok (.ireturn, 1) := by decide +kernel
set_option maxRecDepth 20000 in
theorem ggX3_told_X3_isMan : GoodIn wsX3_told wsX3_isMan := goodIn_r _ [6] (by decide +kernel) (by decide +kernel)
set_option maxRecDepth 20000 in
theorem gX3_told_X3_isMan : GoodIn wsX3_told (va_wsS RX3 47 yX3_isMan wsX3_isMan) := goodIn_app (goodIn_of _ (by decide +kernel)) ggX3_told_X3_isMan
set_option maxRecDepth 20000 in
theorem ggX3_told_X2_purseOf : GoodIn wsX3_told wsX2_purseOf := goodIn_r _ [11, 12, 4, 5, 6, 36, 37, 38, 39, 40, 41, 42, 43, 44, 45, 46] (by decide +kernel) (by decide +kernel)
set_option maxRecDepth 20000 in
theorem gX3_told_X2_purseOf : GoodIn wsX3_told (wsV RX3 55 RX2 yX2_purseOf wsX2_purseOf) := goodIn_app (goodIn_of _ (by decide +kernel)) ggX3_told_X2_purseOf
set_option maxRecDepth 20000 in
theorem ggX3_told_X2_debtsOf : GoodIn wsX3_told wsX2_debtsOf := goodIn_r _ [16, 17, 4, 5, 6, 36, 37, 38, 39, 40, 41, 42, 43, 44, 45, 46] (by decide +kernel) (by decide +kernel)
set_option maxRecDepth 20000 in
theorem gX3_told_X2_debtsOf : GoodIn wsX3_told (wsV RX3 208 RX2 yX2_debtsOf wsX2_debtsOf) := goodIn_app (goodIn_of _ (by decide +kernel)) ggX3_told_X2_debtsOf
theorem dX3_told_0 : decode cX3_told 0 = .ok (.iload_n 1, 1) := by decide +kernel
theorem dX3_told_1 : decode cX3_told 1 = .ok (.bipush 10, 2) := by decide +kernel
theorem dX3_told_3 : decode cX3_told 3 = .ok (.isub, 1) := by decide +kernel
theorem dX3_told_4 : decode cX3_told 4 = .ok (.invokestatic 47, 3) := by decide +kernel
theorem dX3_told_7 : decode cX3_told 7 = .ok (.ifCond .eq 15, 3) := by decide +kernel
theorem dX3_told_10 : decode cX3_told 10 = .ok (.aload_n 0, 1) := by decide +kernel
theorem dX3_told_11 : decode cX3_told 11 = .ok (.getfield 12, 3) := by decide +kernel
theorem dX3_told_14 : decode cX3_told 14 = .ok (.iload_n 1, 1) := by decide +kernel
theorem dX3_told_15 : decode cX3_told 15 = .ok (.bipush 10, 2) := by decide +kernel
theorem dX3_told_17 : decode cX3_told 17 = .ok (.isub, 1) := by decide +kernel
theorem dX3_told_18 : decode cX3_told 18 = .ok (.invokevirtual 55, 3) := by decide +kernel
theorem dX3_told_21 : decode cX3_told 21 = .ok (.ireturn, 1) := by decide +kernel
theorem dX3_told_22 : decode cX3_told 22 = .ok (.iload_n 1, 1) := by decide +kernel
theorem dX3_told_23 : decode cX3_told 23 = .ok (.bipush 20, 2) := by decide +kernel
theorem dX3_told_25 : decode cX3_told 25 = .ok (.isub, 1) := by decide +kernel
theorem dX3_told_26 : decode cX3_told 26 = .ok (.invokestatic 47, 3) := by decide +kernel
theorem dX3_told_29 : decode cX3_told 29 = .ok (.ifCond .eq 15, 3) := by decide +kernel
theorem dX3_told_32 : decode cX3_told 32 = .ok (.aload_n 0, 1) := by decide +kernel
theorem dX3_told_33 : decode cX3_told 33 = .ok (.getfield 12, 3) := by decide +kernel
theorem dX3_told_36 : decode cX3_told 36 = .ok (.iload_n 1, 1) := by decide +kernel
theorem dX3_told_37 : decode cX3_told 37 = .ok (.bipush 20, 2) := by decide +kernel
theorem dX3_told_39 : decode cX3_told 39 = .ok (.isub, 1) := by decide +kernel
theorem dX3_told_40 : decode cX3_told 40 = .ok (.invokevirtual 208, 3) := by decide +kernel
theorem dX3_told_43 : decode cX3_told 43 = .ok (.ireturn, 1) := by decide +kernel
theorem dX3_told_44 : decode cX3_told 44 = .ok (.iload_n 1, 1) := by decide +kernel
theorem dX3_told_45 : decode cX3_told 45 = .ok (.tableswitch 75 0 4 #[35, 43, 51, 59, 67], 35) := by decide +kernel
theorem dX3_told_80 : decode cX3_told 80 = .ok (.aload_n 0, 1) := by decide +kernel
theorem dX3_told_81 : decode cX3_told 81 = .ok (.getfield 28, 3) := by decide +kernel
theorem dX3_told_84 : decode cX3_told 84 = .ok (.getfield 73, 3) := by decide +kernel
theorem dX3_told_87 : decode cX3_told 87 = .ok (.ireturn, 1) := by decide +kernel
theorem dX3_told_88 : decode cX3_told 88 = .ok (.aload_n 0, 1) := by decide +kernel
theorem dX3_told_89 : decode cX3_told 89 = .ok (.getfield 12, 3) := by decide +kernel
theorem dX3_told_92 : decode cX3_told 92 = .ok (.getfield 211, 3) := by decide +kernel
theorem dX3_told_95 : decode cX3_told 95 = .ok (.ireturn, 1) := by decide +kernel
theorem dX3_told_96 : decode cX3_told 96 = .ok (.aload_n 0, 1) := by decide +kernel
theorem dX3_told_97 : decode cX3_told 97 = .ok (.getfield 12, 3) := by decide +kernel
theorem dX3_told_100 : decode cX3_told 100 = .ok (.getfield 63, 3) := by decide +kernel
theorem dX3_told_103 : decode cX3_told 103 = .ok (.ireturn, 1) := by decide +kernel
theorem dX3_told_104 : decode cX3_told 104 = .ok (.aload_n 0, 1) := by decide +kernel
theorem dX3_told_105 : decode cX3_told 105 = .ok (.getfield 12, 3) := by decide +kernel
theorem dX3_told_108 : decode cX3_told 108 = .ok (.getfield 66, 3) := by decide +kernel
theorem dX3_told_111 : decode cX3_told 111 = .ok (.ireturn, 1) := by decide +kernel
theorem dX3_told_112 : decode cX3_told 112 = .ok (.aload_n 0, 1) := by decide +kernel
theorem dX3_told_113 : decode cX3_told 113 = .ok (.getfield 12, 3) := by decide +kernel
theorem dX3_told_116 : decode cX3_told 116 = .ok (.getfield 123, 3) := by decide +kernel
theorem dX3_told_119 : decode cX3_told 119 = .ok (.ireturn, 1) := by decide +kernel
theorem dX3_told_120 : decode cX3_told 120 = .ok (.bipush (-2), 2) := by decide +kernel
theorem dX3_told_122 : decode cX3_told 122 = .ok (.ireturn, 1) := by decide +kernel
theorem dX3_isMan_0 : decode cX3_isMan 0 = .ok (.iload_n 0, 1) := by decide +kernel
theorem dX3_isMan_1 : decode cX3_isMan 1 = .ok (.ifCond .lt 13, 3) := by decide +kernel
theorem dX3_isMan_4 : decode cX3_isMan 4 = .ok (.iload_n 0, 1) := by decide +kernel
theorem dX3_isMan_5 : decode cX3_isMan 5 = .ok (.bipush 6, 2) := by decide +kernel
theorem dX3_isMan_7 : decode cX3_isMan 7 = .ok (.if_icmp .ge 7, 3) := by decide +kernel
theorem dX3_isMan_10 : decode cX3_isMan 10 = .ok (.iconst 1, 1) := by decide +kernel
theorem dX3_isMan_11 : decode cX3_isMan 11 = .ok (.goto 4, 3) := by decide +kernel
theorem dX3_isMan_14 : decode cX3_isMan 14 = .ok (.iconst 0, 1) := by decide +kernel
theorem dX3_isMan_15 : decode cX3_isMan 15 = .ok (.ireturn, 1) := by decide +kernel
theorem dX3_isWithin_0 : decode cX3_isWithin 0 = .ok (.iload_n 0, 1) := by decide +kernel
theorem dX3_isWithin_1 : decode cX3_isWithin 1 = .ok (.iload_n 1, 1) := by decide +kernel
theorem dX3_isWithin_2 : decode cX3_isWithin 2 = .ok (.if_icmp .lt 12, 3) := by decide +kernel
theorem dX3_isWithin_5 : decode cX3_isWithin 5 = .ok (.iload_n 0, 1) := by decide +kernel
theorem dX3_isWithin_6 : decode cX3_isWithin 6 = .ok (.iload_n 2, 1) := by decide +kernel
theorem dX3_isWithin_7 : decode cX3_isWithin 7 = .ok (.if_icmp .gt 7, 3) := by decide +kernel
theorem dX3_isWithin_10 : decode cX3_isWithin 10 = .ok (.iconst 1, 1) := by decide +kernel
theorem dX3_isWithin_11 : decode cX3_isWithin 11 = .ok (.goto 4, 3) := by decide +kernel
theorem dX3_isWithin_14 : decode cX3_isWithin 14 = .ok (.iconst 0, 1) := by decide +kernel
theorem dX3_isWithin_15 : decode cX3_isWithin 15 = .ok (.ireturn, 1) := by decide +kernel
theorem dX3_grown_0 : decode cX3_grown 0 = .ok (.iload_n 0, 1) := by decide +kernel
theorem dX3_grown_1 : decode cX3_grown 1 = .ok (.iload_n 1, 1) := by decide +kernel
theorem dX3_grown_2 : decode cX3_grown 2 = .ok (.iadd, 1) := by decide +kernel
theorem dX3_grown_3 : decode cX3_grown 3 = .ok (.sipush 9999, 3) := by decide +kernel
theorem dX3_grown_6 : decode cX3_grown 6 = .ok (.invokestatic 214, 3) := by decide +kernel
theorem dX3_grown_9 : decode cX3_grown 9 = .ok (.ireturn, 1) := by decide +kernel
theorem dX3_imageOf_0 : decode cX3_imageOf 0 = .ok (.iload_n 1, 1) := by decide +kernel
theorem dX3_imageOf_1 : decode cX3_imageOf 1 = .ok (.ifCond .ne 10, 3) := by decide +kernel
theorem dX3_imageOf_4 : decode cX3_imageOf 4 = .ok (.aload_n 0, 1) := by decide +kernel
theorem dX3_imageOf_5 : decode cX3_imageOf 5 = .ok (.getfield 19, 3) := by decide +kernel
theorem dX3_imageOf_8 : decode cX3_imageOf 8 = .ok (.goto 7, 3) := by decide +kernel
theorem dX3_imageOf_11 : decode cX3_imageOf 11 = .ok (.aload_n 0, 1) := by decide +kernel
theorem dX3_imageOf_12 : decode cX3_imageOf 12 = .ok (.getfield 22, 3) := by decide +kernel
theorem dX3_imageOf_15 : decode cX3_imageOf 15 = .ok (.areturn, 1) := by decide +kernel
set_option maxRecDepth 20000 in
theorem ggX3_leastHelp_X1_load : GoodIn wsX3_leastHelp wsX1_load := goodIn_r _ [7, 8, 9, 10, 11, 12, 13, 14, 15, 16, 17, 18, 19, 20, 21, 22, 23, 24, 25, 26, 27, 28, 29, 30, 31, 32, 33, 34, 35, 36, 37, 38, 39, 40, 41, 42, 43, 44, 45, 46, 47, 48, 49, 50, 51, 52, 53, 86, 87, 88, 89, 90, 91, 92, 93, 94, 95, 96, 97, 98, 99, 100, 101, 102, 103, 104, 105, 106] (by decide +kernel) (by decide +kernel)
set_option maxRecDepth 20000 in
theorem gX3_leastHelp_X1_load : GoodIn wsX3_leastHelp (wsV RX3 143 RX1 yX1_load wsX1_load) := goodIn_app (goodIn_of _ (by decide +kernel)) ggX3_leastHelp_X1_load
set_option maxRecDepth 20000 in
theorem ggX3_leastHelp_X1_leastHelp : GoodIn wsX3_leastHelp wsX1_leastHelp := goodIn_r _ [57, 13, 11, 9, 58, 59, 60, 6, 61, 62, 63, 64, 65, 66, 67, 68, 69, 10, 70, 71, 72, 73, 12, 20, 21, 22, 74, 75, 76, 77, 86, 87, 88, 89, 90, 91, 92, 93, 94, 95] (by decide +kernel) (by decide +kernel)
set_option maxRecDepth 20000 in
theorem gX3_leastHelp_X1_leastHelp : GoodIn wsX3_leastHelp (wsV RX3 219 RX1 yX1_leastHelp wsX1_leastHelp) := goodIn_app (goodIn_of _ (by decide +kernel)) ggX3_leastHelp_X1_leastHelp
theorem dX3_leastHelp_0 : decode cX3_leastHelp 0 = .ok (.aload_n 0, 1) := by decide +kernel
theorem dX3_leastHelp_1 : decode cX3_leastHelp 1 = .ok (.getfield 35, 3) := by decide +kernel
theorem dX3_leastHelp_4 : decode cX3_leastHelp 4 = .ok (.aload_n 0, 1) := by decide +kernel
theorem dX3_leastHelp_5 : decode cX3_leastHelp 5 = .ok (.getfield 12, 3) := by decide +kernel
theorem dX3_leastHelp_8 : decode cX3_leastHelp 8 = .ok (.invokevirtual 143, 3) := by decide +kernel
theorem dX3_leastHelp_11 : decode cX3_leastHelp 11 = .ok (.aload_n 0, 1) := by decide +kernel
theorem dX3_leastHelp_12 : decode cX3_leastHelp 12 = .ok (.getfield 35, 3) := by decide +kernel
theorem dX3_leastHelp_15 : decode cX3_leastHelp 15 = .ok (.iload_n 1, 1) := by decide +kernel
theorem dX3_leastHelp_16 : decode cX3_leastHelp 16 = .ok (.invokevirtual 219, 3) := by decide +kernel
theorem dX3_leastHelp_19 : decode cX3_leastHelp 19 = .ok (.ireturn, 1) := by decide +kernel
set_option maxRecDepth 20000 in
theorem ggX3_luckyShares_J7_fill_d0a16 : GoodIn wsX3_luckyShares wsJ7_fill_d0a16 := goodIn_r _ [5] (by decide +kernel) (by decide +kernel)
set_option maxRecDepth 20000 in
theorem gX3_luckyShares_J7_fill_d0a16 : GoodIn wsX3_luckyShares (va_wsS RX3 220 yJ7_fill_d0a16 wsJ7_fill_d0a16) := goodIn_app (goodIn_of _ (by decide +kernel)) ggX3_luckyShares_J7_fill_d0a16
theorem dX3_luckyShares_0 : decode cX3_luckyShares 0 = .ok (.aload_n 0, 1) := by decide +kernel
theorem dX3_luckyShares_1 : decode cX3_luckyShares 1 = .ok (.getfield 39, 3) := by decide +kernel
theorem dX3_luckyShares_4 : decode cX3_luckyShares 4 = .ok (.lconst 0, 1) := by decide +kernel
theorem dX3_luckyShares_5 : decode cX3_luckyShares 5 = .ok (.invokestatic 220, 3) := by decide +kernel
theorem dX3_luckyShares_8 : decode cX3_luckyShares 8 = .ok (.aload_n 0, 1) := by decide +kernel
theorem dX3_luckyShares_9 : decode cX3_luckyShares 9 = .ok (.getfield 39, 3) := by decide +kernel
theorem dX3_luckyShares_12 : decode cX3_luckyShares 12 = .ok (.iconst 0, 1) := by decide +kernel
theorem dX3_luckyShares_13 : decode cX3_luckyShares 13 = .ok (.lconst 1, 1) := by decide +kernel
theorem dX3_luckyShares_14 : decode cX3_luckyShares 14 = .ok (.lastore, 1) := by decide +kernel
theorem dX3_luckyShares_15 : decode cX3_luckyShares 15 = .ok (.iconst 1, 1) := by decide +kernel
theorem dX3_luckyShares_16 : decode cX3_luckyShares 16 = .ok (.istore 5, 2) := by decide +kernel
theorem dX3_luckyShares_18 : decode cX3_luckyShares 18 = .ok (.iload 5, 2) := by decide +kernel
theorem dX3_luckyShares_20 : decode cX3_luckyShares 20 = .ok (.iload_n 2, 1) := by decide +kernel
theorem dX3_luckyShares_21 : decode cX3_luckyShares 21 = .ok (.if_icmp .gt 82, 3) := by decide +kernel
theorem dX3_luckyShares_24 : decode cX3_luckyShares 24 = .ok (.iload 5, 2) := by decide +kernel
theorem dX3_luckyShares_26 : decode cX3_luckyShares 26 = .ok (.bipush 12, 2) := by decide +kernel
theorem dX3_luckyShares_28 : decode cX3_luckyShares 28 = .ok (.if_icmp .gt 75, 3) := by decide +kernel
theorem dX3_luckyShares_31 : decode cX3_luckyShares 31 = .ok (.iload 5, 2) := by decide +kernel
theorem dX3_luckyShares_33 : decode cX3_luckyShares 33 = .ok (.istore 6, 2) := by decide +kernel
theorem dX3_luckyShares_35 : decode cX3_luckyShares 35 = .ok (.iload 6, 2) := by decide +kernel
theorem dX3_luckyShares_37 : decode cX3_luckyShares 37 = .ok (.ifCond .le 42, 3) := by decide +kernel
theorem dX3_luckyShares_40 : decode cX3_luckyShares 40 = .ok (.aload_n 0, 1) := by decide +kernel
theorem dX3_luckyShares_41 : decode cX3_luckyShares 41 = .ok (.getfield 39, 3) := by decide +kernel
theorem dX3_luckyShares_44 : decode cX3_luckyShares 44 = .ok (.iload 6, 2) := by decide +kernel
theorem dX3_luckyShares_46 : decode cX3_luckyShares 46 = .ok (.aload_n 0, 1) := by decide +kernel
theorem dX3_luckyShares_47 : decode cX3_luckyShares 47 = .ok (.getfield 39, 3) := by decide +kernel
theorem dX3_luckyShares_50 : decode cX3_luckyShares 50 = .ok (.iload 6, 2) := by decide +kernel
theorem dX3_luckyShares_52 : decode cX3_luckyShares 52 = .ok (.laload, 1) := by decide +kernel
theorem dX3_luckyShares_53 : decode cX3_luckyShares 53 = .ok (.bipush 10, 2) := by decide +kernel
theorem dX3_luckyShares_55 : decode cX3_luckyShares 55 = .ok (.iload_n 3, 1) := by decide +kernel
theorem dX3_luckyShares_56 : decode cX3_luckyShares 56 = .ok (.isub, 1) := by decide +kernel
theorem dX3_luckyShares_57 : decode cX3_luckyShares 57 = .ok (.i2l, 1) := by decide +kernel
theorem dX3_luckyShares_58 : decode cX3_luckyShares 58 = .ok (.lmul, 1) := by decide +kernel
theorem dX3_luckyShares_59 : decode cX3_luckyShares 59 = .ok (.aload_n 0, 1) := by decide +kernel
theorem dX3_luckyShares_60 : decode cX3_luckyShares 60 = .ok (.getfield 39, 3) := by decide +kernel
theorem dX3_luckyShares_63 : decode cX3_luckyShares 63 = .ok (.iload 6, 2) := by decide +kernel
theorem dX3_luckyShares_65 : decode cX3_luckyShares 65 = .ok (.iconst 1, 1) := by decide +kernel
theorem dX3_luckyShares_66 : decode cX3_luckyShares 66 = .ok (.isub, 1) := by decide +kernel
theorem dX3_luckyShares_67 : decode cX3_luckyShares 67 = .ok (.laload, 1) := by decide +kernel
theorem dX3_luckyShares_68 : decode cX3_luckyShares 68 = .ok (.iload_n 3, 1) := by decide +kernel
theorem dX3_luckyShares_69 : decode cX3_luckyShares 69 = .ok (.i2l, 1) := by decide +kernel
theorem dX3_luckyShares_70 : decode cX3_luckyShares 70 = .ok (.lmul, 1) := by decide +kernel
theorem dX3_luckyShares_71 : decode cX3_luckyShares 71 = .ok (.ladd, 1) := by decide +kernel
theorem dX3_luckyShares_72 : decode cX3_luckyShares 72 = .ok (.lastore, 1) := by decide +kernel
theorem dX3_luckyShares_73 : decode cX3_luckyShares 73 = .ok (.iinc 6 (-1), 3) := by decide +kernel
theorem dX3_luckyShares_76 : decode cX3_luckyShares 76 = .ok (.goto (-41), 3) := by decide +kernel
theorem dX3_luckyShares_79 : decode cX3_luckyShares 79 = .ok (.aload_n 0, 1) := by decide +kernel
theorem dX3_luckyShares_80 : decode cX3_luckyShares 80 = .ok (.getfield 39, 3) := by decide +kernel
theorem dX3_luckyShares_83 : decode cX3_luckyShares 83 = .ok (.iconst 0, 1) := by decide +kernel
theorem dX3_luckyShares_84 : decode cX3_luckyShares 84 = .ok (.aload_n 0, 1) := by decide +kernel
theorem dX3_luckyShares_85 : decode cX3_luckyShares 85 = .ok (.getfield 39, 3) := by decide +kernel
theorem dX3_luckyShares_88 : decode cX3_luckyShares 88 = .ok (.iconst 0, 1) := by decide +kernel
theorem dX3_luckyShares_89 : decode cX3_luckyShares 89 = .ok (.laload, 1) := by decide +kernel
theorem dX3_luckyShares_90 : decode cX3_luckyShares 90 = .ok (.bipush 10, 2) := by decide +kernel
theorem dX3_luckyShares_92 : decode cX3_luckyShares 92 = .ok (.iload_n 3, 1) := by decide +kernel
theorem dX3_luckyShares_93 : decode cX3_luckyShares 93 = .ok (.isub, 1) := by decide +kernel
theorem dX3_luckyShares_94 : decode cX3_luckyShares 94 = .ok (.i2l, 1) := by decide +kernel
theorem dX3_luckyShares_95 : decode cX3_luckyShares 95 = .ok (.lmul, 1) := by decide +kernel
theorem dX3_luckyShares_96 : decode cX3_luckyShares 96 = .ok (.lastore, 1) := by decide +kernel
theorem dX3_luckyShares_97 : decode cX3_luckyShares 97 = .ok (.iinc 5 1, 3) := by decide +kernel
theorem dX3_luckyShares_100 : decode cX3_luckyShares 100 = .ok (.goto (-82), 3) := by decide +kernel
theorem dX3_luckyShares_103 : decode cX3_luckyShares 103 = .ok (.lconst 0, 1) := by decide +kernel
theorem dX3_luckyShares_104 : decode cX3_luckyShares 104 = .ok (.lstore 5, 2) := by decide +kernel
theorem dX3_luckyShares_106 : decode cX3_luckyShares 106 = .ok (.iconst 0, 1) := by decide +kernel
theorem dX3_luckyShares_107 : decode cX3_luckyShares 107 = .ok (.istore 7, 2) := by decide +kernel
theorem dX3_luckyShares_109 : decode cX3_luckyShares 109 = .ok (.iload 7, 2) := by decide +kernel
theorem dX3_luckyShares_111 : decode cX3_luckyShares 111 = .ok (.bipush 12, 2) := by decide +kernel
theorem dX3_luckyShares_113 : decode cX3_luckyShares 113 = .ok (.if_icmp .gt 34, 3) := by decide +kernel
theorem dX3_luckyShares_116 : decode cX3_luckyShares 116 = .ok (.lload 5, 2) := by decide +kernel
theorem dX3_luckyShares_118 : decode cX3_luckyShares 118 = .ok (.iload_n 1, 1) := by decide +kernel
theorem dX3_luckyShares_119 : decode cX3_luckyShares 119 = .ok (.iload 7, 2) := by decide +kernel
theorem dX3_luckyShares_121 : decode cX3_luckyShares 121 = .ok (.imul, 1) := by decide +kernel
theorem dX3_luckyShares_122 : decode cX3_luckyShares 122 = .ok (.iload 4, 2) := by decide +kernel
theorem dX3_luckyShares_124 : decode cX3_luckyShares 124 = .ok (.if_icmp .lt 13, 3) := by decide +kernel
theorem dX3_luckyShares_127 : decode cX3_luckyShares 127 = .ok (.aload_n 0, 1) := by decide +kernel
theorem dX3_luckyShares_128 : decode cX3_luckyShares 128 = .ok (.getfield 39, 3) := by decide +kernel
theorem dX3_luckyShares_131 : decode cX3_luckyShares 131 = .ok (.iload 7, 2) := by decide +kernel
theorem dX3_luckyShares_133 : decode cX3_luckyShares 133 = .ok (.laload, 1) := by decide +kernel
theorem dX3_luckyShares_134 : decode cX3_luckyShares 134 = .ok (.goto 4, 3) := by decide +kernel
theorem dX3_luckyShares_137 : decode cX3_luckyShares 137 = .ok (.lconst 0, 1) := by decide +kernel
theorem dX3_luckyShares_138 : decode cX3_luckyShares 138 = .ok (.ladd, 1) := by decide +kernel
theorem dX3_luckyShares_139 : decode cX3_luckyShares 139 = .ok (.lstore 5, 2) := by decide +kernel
theorem dX3_luckyShares_141 : decode cX3_luckyShares 141 = .ok (.iinc 7 1, 3) := by decide +kernel
theorem dX3_luckyShares_144 : decode cX3_luckyShares 144 = .ok (.goto (-35), 3) := by decide +kernel
theorem dX3_luckyShares_147 : decode cX3_luckyShares 147 = .ok (.lload 5, 2) := by decide +kernel
theorem dX3_luckyShares_149 : decode cX3_luckyShares 149 = .ok (.lreturn, 1) := by decide +kernel
theorem dX3_allShares_0 : decode cX3_allShares 0 = .ok (.lconst 1, 1) := by decide +kernel
theorem dX3_allShares_1 : decode cX3_allShares 1 = .ok (.lstore_n 1, 1) := by decide +kernel
theorem dX3_allShares_2 : decode cX3_allShares 2 = .ok (.iconst 0, 1) := by decide +kernel
theorem dX3_allShares_3 : decode cX3_allShares 3 = .ok (.istore_n 3, 1) := by decide +kernel
theorem dX3_allShares_4 : decode cX3_allShares 4 = .ok (.iload_n 3, 1) := by decide +kernel
theorem dX3_allShares_5 : decode cX3_allShares 5 = .ok (.iload_n 0, 1) := by decide +kernel
theorem dX3_allShares_6 : decode cX3_allShares 6 = .ok (.if_icmp .ge 15, 3) := by decide +kernel
theorem dX3_allShares_9 : decode cX3_allShares 9 = .ok (.lload_n 1, 1) := by decide +kernel
theorem dX3_allShares_10 : decode cX3_allShares 10 = .ok (.ldc2_w 226, 3) := by decide +kernel
theorem dX3_allShares_13 : decode cX3_allShares 13 = .ok (.lmul, 1) := by decide +kernel
theorem dX3_allShares_14 : decode cX3_allShares 14 = .ok (.lstore_n 1, 1) := by decide +kernel
theorem dX3_allShares_15 : decode cX3_allShares 15 = .ok (.iinc 3 1, 3) := by decide +kernel
theorem dX3_allShares_18 : decode cX3_allShares 18 = .ok (.goto (-14), 3) := by decide +kernel
theorem dX3_allShares_21 : decode cX3_allShares 21 = .ok (.lload_n 1, 1) := by decide +kernel
theorem dX3_allShares_22 : decode cX3_allShares 22 = .ok (.lreturn, 1) := by decide +kernel
set_option maxRecDepth 20000 in
theorem ggX3_lowestTerms_X3_commonDivisor : GoodIn wsX3_lowestTerms wsX3_commonDivisor := goodIn_r _ [4] (by decide +kernel) (by decide +kernel)
set_option maxRecDepth 20000 in
theorem gX3_lowestTerms_X3_commonDivisor : GoodIn wsX3_lowestTerms (va_wsS RX3 228 yX3_commonDivisor wsX3_commonDivisor) := goodIn_app (goodIn_of _ (by decide +kernel)) ggX3_lowestTerms_X3_commonDivisor
theorem dX3_lowestTerms_0 : decode cX3_lowestTerms 0 = .ok (.lload_n 0, 1) := by decide +kernel
theorem dX3_lowestTerms_1 : decode cX3_lowestTerms 1 = .ok (.lload_n 2, 1) := by decide +kernel
theorem dX3_lowestTerms_2 : decode cX3_lowestTerms 2 = .ok (.invokestatic 228, 3) := by decide +kernel
theorem dX3_lowestTerms_5 : decode cX3_lowestTerms 5 = .ok (.lstore 5, 2) := by decide +kernel
theorem dX3_lowestTerms_7 : decode cX3_lowestTerms 7 = .ok (.lload 5, 2) := by decide +kernel
theorem dX3_lowestTerms_9 : decode cX3_lowestTerms 9 = .ok (.lconst 0, 1) := by decide +kernel
theorem dX3_lowestTerms_10 : decode cX3_lowestTerms 10 = .ok (.lcmp, 1) := by decide +kernel
theorem dX3_lowestTerms_11 : decode cX3_lowestTerms 11 = .ok (.ifCond .gt 14, 3) := by decide +kernel
theorem dX3_lowestTerms_14 : decode cX3_lowestTerms 14 = .ok (.iload 4, 2) := by decide +kernel
theorem dX3_lowestTerms_16 : decode cX3_lowestTerms 16 = .ok (.ifCond .ne 7, 3) := by decide +kernel
theorem dX3_lowestTerms_19 : decode cX3_lowestTerms 19 = .ok (.lload_n 0, 1) := by decide +kernel
theorem dX3_lowestTerms_20 : decode cX3_lowestTerms 20 = .ok (.goto 4, 3) := by decide +kernel
theorem dX3_lowestTerms_23 : decode cX3_lowestTerms 23 = .ok (.lload_n 2, 1) := by decide +kernel
theorem dX3_lowestTerms_24 : decode cX3_lowestTerms 24 = .ok (.lreturn, 1) := by decide +kernel
theorem dX3_lowestTerms_25 : decode cX3_lowestTerms 25 = .ok (.iload 4, 2) := by decide +kernel
theorem dX3_lowestTerms_27 : decode cX3_lowestTerms 27 = .ok (.ifCond .ne 10, 3) := by decide +kernel
theorem dX3_lowestTerms_30 : decode cX3_lowestTerms 30 = .ok (.lload_n 0, 1) := by decide +kernel
theorem dX3_lowestTerms_31 : decode cX3_lowestTerms 31 = .ok (.lload 5, 2) := by decide +kernel
theorem dX3_lowestTerms_33 : decode cX3_lowestTerms 33 = .ok (.ldiv, 1) := by decide +kernel
theorem dX3_lowestTerms_34 : decode cX3_lowestTerms 34 = .ok (.goto 7, 3) := by decide +kernel
theorem dX3_lowestTerms_37 : decode cX3_lowestTerms 37 = .ok (.lload_n 2, 1) := by decide +kernel
theorem dX3_lowestTerms_38 : decode cX3_lowestTerms 38 = .ok (.lload 5, 2) := by decide +kernel
theorem dX3_lowestTerms_40 : decode cX3_lowestTerms 40 = .ok (.ldiv, 1) := by decide +kernel
theorem dX3_lowestTerms_41 : decode cX3_lowestTerms 41 = .ok (.lreturn, 1) := by decide +kernel
theorem dX3_commonDivisor_0 : decode cX3_commonDivisor 0 = .ok (.lload_n 0, 1) := by decide +kernel
theorem dX3_commonDivisor_1 : decode cX3_commonDivisor 1 = .ok (.lstore 4, 2) := by decide +kernel
theorem dX3_commonDivisor_3 : decode cX3_commonDivisor 3 = .ok (.lload_n 2, 1) := by decide +kernel
theorem dX3_commonDivisor_4 : decode cX3_commonDivisor 4 = .ok (.lstore 6, 2) := by decide +kernel
theorem dX3_commonDivisor_6 : decode cX3_commonDivisor 6 = .ok (.iconst 0, 1) := by decide +kernel
theorem dX3_commonDivisor_7 : decode cX3_commonDivisor 7 = .ok (.istore 8, 2) := by decide +kernel
theorem dX3_commonDivisor_9 : decode cX3_commonDivisor 9 = .ok (.iload 8, 2) := by decide +kernel
theorem dX3_commonDivisor_11 : decode cX3_commonDivisor 11 = .ok (.sipush 128, 3) := by decide +kernel
theorem dX3_commonDivisor_14 : decode cX3_commonDivisor 14 = .ok (.if_icmp .ge 31, 3) := by decide +kernel
theorem dX3_commonDivisor_17 : decode cX3_commonDivisor 17 = .ok (.lload 6, 2) := by decide +kernel
theorem dX3_commonDivisor_19 : decode cX3_commonDivisor 19 = .ok (.lconst 0, 1) := by decide +kernel
theorem dX3_commonDivisor_20 : decode cX3_commonDivisor 20 = .ok (.lcmp, 1) := by decide +kernel
theorem dX3_commonDivisor_21 : decode cX3_commonDivisor 21 = .ok (.ifCond .eq 24, 3) := by decide +kernel
theorem dX3_commonDivisor_24 : decode cX3_commonDivisor 24 = .ok (.lload 4, 2) := by decide +kernel
theorem dX3_commonDivisor_26 : decode cX3_commonDivisor 26 = .ok (.lload 6, 2) := by decide +kernel
theorem dX3_commonDivisor_28 : decode cX3_commonDivisor 28 = .ok (.lrem, 1) := by decide +kernel
theorem dX3_commonDivisor_29 : decode cX3_commonDivisor 29 = .ok (.lstore 9, 2) := by decide +kernel
theorem dX3_commonDivisor_31 : decode cX3_commonDivisor 31 = .ok (.lload 6, 2) := by decide +kernel
theorem dX3_commonDivisor_33 : decode cX3_commonDivisor 33 = .ok (.lstore 4, 2) := by decide +kernel
theorem dX3_commonDivisor_35 : decode cX3_commonDivisor 35 = .ok (.lload 9, 2) := by decide +kernel
theorem dX3_commonDivisor_37 : decode cX3_commonDivisor 37 = .ok (.lstore 6, 2) := by decide +kernel
theorem dX3_commonDivisor_39 : decode cX3_commonDivisor 39 = .ok (.iinc 8 1, 3) := by decide +kernel
theorem dX3_commonDivisor_42 : decode cX3_commonDivisor 42 = .ok (.goto (-33), 3) := by decide +kernel
theorem dX3_commonDivisor_45 : decode cX3_commonDivisor 45 = .ok (.lload 4, 2) := by decide +kernel
theorem dX3_commonDivisor_47 : decode cX3_commonDivisor 47 = .ok (.lreturn, 1) := by decide +kernel
set_option maxRecDepth 20000 in
theorem ggX3_liveYear_X2_purseOf : GoodIn wsX3_liveYear wsX2_purseOf := goodIn_r _ [7, 8, 9, 10, 11, 75, 76, 77, 78, 79, 80, 81, 82, 83, 84, 85] (by decide +kernel) (by decide +kernel)
set_option maxRecDepth 20000 in
theorem gX3_liveYear_X2_purseOf : GoodIn wsX3_liveYear (wsV RX3 55 RX2 yX2_purseOf wsX2_purseOf) := goodIn_app (goodIn_of _ (by decide +kernel)) ggX3_liveYear_X2_purseOf
set_option maxRecDepth 20000 in
theorem ggX3_liveYear_X2_fillPurse : GoodIn wsX3_liveYear wsX2_fillPurse := goodIn_r _ [15, 8, 9, 10, 11, 75, 76, 77, 78, 79, 80, 81, 82, 83, 84, 85] (by decide +kernel) (by decide +kernel)
set_option maxRecDepth 20000 in
theorem gX3_liveYear_X2_fillPurse : GoodIn wsX3_liveYear (wsV RX3 59 RX2 yX2_fillPurse wsX2_fillPurse) := goodIn_app (goodIn_of _ (by decide +kernel)) ggX3_liveYear_X2_fillPurse
set_option maxRecDepth 20000 in
theorem ggX3_liveYear_X2_repay : GoodIn wsX3_liveYear wsX2_repay := goodIn_r _ [19, 20, 21, 22, 6, 23, 24, 25, 26, 27, 28, 29, 30, 31, 32, 9, 10, 11, 33, 34, 35, 36, 37, 38, 39, 40, 41, 42, 43, 4, 5, 7, 8, 44, 45, 46, 47, 48, 49, 13, 14, 15, 50, 51, 52, 53, 54, 75, 76, 77, 78, 79, 80, 81, 82, 83, 84, 85] (by decide +kernel) (by decide +kernel)
set_option maxRecDepth 20000 in
theorem gX3_liveYear_X2_repay : GoodIn wsX3_liveYear (wsV RX3 233 RX2 yX2_repay wsX2_repay) := goodIn_app (goodIn_of _ (by decide +kernel)) ggX3_liveYear_X2_repay
set_option maxRecDepth 20000 in
theorem ggX3_liveYear_X2_passDay : GoodIn wsX3_liveYear wsX2_passDay := goodIn_r _ [58, 59, 38, 60, 61, 10, 62, 63, 64, 65, 66, 75, 76, 77, 78, 79, 80, 81, 82, 83, 84, 85] (by decide +kernel) (by decide +kernel)
set_option maxRecDepth 20000 in
theorem gX3_liveYear_X2_passDay : GoodIn wsX3_liveYear (wsV RX3 236 RX2 yX2_passDay wsX2_passDay) := goodIn_app (goodIn_of _ (by decide +kernel)) ggX3_liveYear_X2_passDay
theorem dX3_liveYear_0 : decode cX3_liveYear 0 = .ok (.iload_n 1, 1) := by decide +kernel
theorem dX3_liveYear_1 : decode cX3_liveYear 1 = .ok (.istore_n 3, 1) := by decide +kernel
theorem dX3_liveYear_2 : decode cX3_liveYear 2 = .ok (.iconst 0, 1) := by decide +kernel
theorem dX3_liveYear_3 : decode cX3_liveYear 3 = .ok (.istore 4, 2) := by decide +kernel
theorem dX3_liveYear_5 : decode cX3_liveYear 5 = .ok (.iconst 0, 1) := by decide +kernel
theorem dX3_liveYear_6 : decode cX3_liveYear 6 = .ok (.istore 5, 2) := by decide +kernel
theorem dX3_liveYear_8 : decode cX3_liveYear 8 = .ok (.iload 5, 2) := by decide +kernel
theorem dX3_liveYear_10 : decode cX3_liveYear 10 = .ok (.iload_n 2, 1) := by decide +kernel
theorem dX3_liveYear_11 : decode cX3_liveYear 11 = .ok (.if_icmp .ge 91, 3) := by decide +kernel
theorem dX3_liveYear_14 : decode cX3_liveYear 14 = .ok (.bipush 75, 2) := by decide +kernel
theorem dX3_liveYear_16 : decode cX3_liveYear 16 = .ok (.iload_n 3, 1) := by decide +kernel
theorem dX3_liveYear_17 : decode cX3_liveYear 17 = .ok (.imul, 1) := by decide +kernel
theorem dX3_liveYear_18 : decode cX3_liveYear 18 = .ok (.bipush 74, 2) := by decide +kernel
theorem dX3_liveYear_20 : decode cX3_liveYear 20 = .ok (.iadd, 1) := by decide +kernel
theorem dX3_liveYear_21 : decode cX3_liveYear 21 = .ok (.ldc 232, 2) := by decide +kernel
theorem dX3_liveYear_23 : decode cX3_liveYear 23 = .ok (.irem, 1) := by decide +kernel
theorem dX3_liveYear_24 : decode cX3_liveYear 24 = .ok (.istore_n 3, 1) := by decide +kernel
theorem dX3_liveYear_25 : decode cX3_liveYear 25 = .ok (.iload_n 3, 1) := by decide +kernel
theorem dX3_liveYear_26 : decode cX3_liveYear 26 = .ok (.bipush 6, 2) := by decide +kernel
theorem dX3_liveYear_28 : decode cX3_liveYear 28 = .ok (.irem, 1) := by decide +kernel
theorem dX3_liveYear_29 : decode cX3_liveYear 29 = .ok (.istore 6, 2) := by decide +kernel
theorem dX3_liveYear_31 : decode cX3_liveYear 31 = .ok (.aload_n 0, 1) := by decide +kernel
theorem dX3_liveYear_32 : decode cX3_liveYear 32 = .ok (.getfield 16, 3) := by decide +kernel
theorem dX3_liveYear_35 : decode cX3_liveYear 35 = .ok (.iload 6, 2) := by decide +kernel
theorem dX3_liveYear_37 : decode cX3_liveYear 37 = .ok (.aload_n 0, 1) := by decide +kernel
theorem dX3_liveYear_38 : decode cX3_liveYear 38 = .ok (.getfield 16, 3) := by decide +kernel
theorem dX3_liveYear_41 : decode cX3_liveYear 41 = .ok (.iload 6, 2) := by decide +kernel
theorem dX3_liveYear_43 : decode cX3_liveYear 43 = .ok (.invokevirtual 55, 3) := by decide +kernel
theorem dX3_liveYear_46 : decode cX3_liveYear 46 = .ok (.iconst 1, 1) := by decide +kernel
theorem dX3_liveYear_47 : decode cX3_liveYear 47 = .ok (.iadd, 1) := by decide +kernel
theorem dX3_liveYear_48 : decode cX3_liveYear 48 = .ok (.iload_n 3, 1) := by decide +kernel
theorem dX3_liveYear_49 : decode cX3_liveYear 49 = .ok (.bipush 6, 2) := by decide +kernel
theorem dX3_liveYear_51 : decode cX3_liveYear 51 = .ok (.idiv, 1) := by decide +kernel
theorem dX3_liveYear_52 : decode cX3_liveYear 52 = .ok (.bipush 9, 2) := by decide +kernel
theorem dX3_liveYear_54 : decode cX3_liveYear 54 = .ok (.irem, 1) := by decide +kernel
theorem dX3_liveYear_55 : decode cX3_liveYear 55 = .ok (.iadd, 1) := by decide +kernel
theorem dX3_liveYear_56 : decode cX3_liveYear 56 = .ok (.invokevirtual 59, 3) := by decide +kernel
theorem dX3_liveYear_59 : decode cX3_liveYear 59 = .ok (.iconst 0, 1) := by decide +kernel
theorem dX3_liveYear_60 : decode cX3_liveYear 60 = .ok (.istore 7, 2) := by decide +kernel
theorem dX3_liveYear_62 : decode cX3_liveYear 62 = .ok (.iload 7, 2) := by decide +kernel
theorem dX3_liveYear_64 : decode cX3_liveYear 64 = .ok (.iconst 5, 1) := by decide +kernel
theorem dX3_liveYear_65 : decode cX3_liveYear 65 = .ok (.if_icmp .ge 24, 3) := by decide +kernel
theorem dX3_liveYear_68 : decode cX3_liveYear 68 = .ok (.aload_n 0, 1) := by decide +kernel
theorem dX3_liveYear_69 : decode cX3_liveYear 69 = .ok (.getfield 16, 3) := by decide +kernel
theorem dX3_liveYear_72 : decode cX3_liveYear 72 = .ok (.iload 6, 2) := by decide +kernel
theorem dX3_liveYear_74 : decode cX3_liveYear 74 = .ok (.invokevirtual 233, 3) := by decide +kernel
theorem dX3_liveYear_77 : decode cX3_liveYear 77 = .ok (.ifCond .ne 12, 3) := by decide +kernel
theorem dX3_liveYear_80 : decode cX3_liveYear 80 = .ok (.iinc 4 1, 3) := by decide +kernel
theorem dX3_liveYear_83 : decode cX3_liveYear 83 = .ok (.iinc 7 1, 3) := by decide +kernel
theorem dX3_liveYear_86 : decode cX3_liveYear 86 = .ok (.goto (-24), 3) := by decide +kernel
theorem dX3_liveYear_89 : decode cX3_liveYear 89 = .ok (.aload_n 0, 1) := by decide +kernel
theorem dX3_liveYear_90 : decode cX3_liveYear 90 = .ok (.getfield 16, 3) := by decide +kernel
theorem dX3_liveYear_93 : decode cX3_liveYear 93 = .ok (.invokevirtual 236, 3) := by decide +kernel
theorem dX3_liveYear_96 : decode cX3_liveYear 96 = .ok (.iinc 5 1, 3) := by decide +kernel
theorem dX3_liveYear_99 : decode cX3_liveYear 99 = .ok (.goto (-91), 3) := by decide +kernel
theorem dX3_liveYear_102 : decode cX3_liveYear 102 = .ok (.iload 4, 2) := by decide +kernel
theorem dX3_liveYear_104 : decode cX3_liveYear 104 = .ok (.ireturn, 1) := by decide +kernel
end
section
theorem dX4_init_0 : decode cX4_init 0 = .ok (.aload_n 0, 1) := by decide +kernel
theorem dX4_init_1 : decode cX4_init 1 = .ok (.invokespecial 1, 3) := by decide +kernel
theorem dX4_init_4 : decode cX4_init 4 = .ok (.aload_n 0, 1) := by decide +kernel
theorem dX4_init_5 : decode cX4_init 5 = .ok (.bipush 6, 2) := by decide +kernel
theorem dX4_init_7 : decode cX4_init 7 = .ok (.newarray .int, 2) := by decide +kernel
theorem dX4_init_9 : decode cX4_init 9 = .ok (.putfield 7, 3) := by decide +kernel
theorem dX4_init_12 : decode cX4_init 12 = .ok (.aload_n 0, 1) := by decide +kernel
theorem dX4_init_13 : decode cX4_init 13 = .ok (.bipush 6, 2) := by decide +kernel
theorem dX4_init_15 : decode cX4_init 15 = .ok (.newarray .int, 2) := by decide +kernel
theorem dX4_init_17 : decode cX4_init 17 = .ok (.putfield 13, 3) := by decide +kernel
theorem dX4_init_20 : decode cX4_init 20 = .ok (.aload_n 0, 1) := by decide +kernel
theorem dX4_init_21 : decode cX4_init 21 = .ok (.bipush 90, 2) := by decide +kernel
theorem dX4_init_23 : decode cX4_init 23 = .ok (.newarray .int, 2) := by decide +kernel
theorem dX4_init_25 : decode cX4_init 25 = .ok (.putfield 16, 3) := by decide +kernel
theorem dX4_init_28 : decode cX4_init 28 = .ok (.aload_n 0, 1) := by decide +kernel
theorem dX4_init_29 : decode cX4_init 29 = .ok (.bipush 12, 2) := by decide +kernel
theorem dX4_init_31 : decode cX4_init 31 = .ok (.newarray .int, 2) := by decide +kernel
theorem dX4_init_33 : decode cX4_init 33 = .ok (.putfield 19, 3) := by decide +kernel
theorem dX4_init_36 : decode cX4_init 36 = .ok (.aload_n 0, 1) := by decide +kernel
theorem dX4_init_37 : decode cX4_init 37 = .ok (.bipush 60, 2) := by decide +kernel
theorem dX4_init_39 : decode cX4_init 39 = .ok (.newarray .int, 2) := by decide +kernel
theorem dX4_init_41 : decode cX4_init 41 = .ok (.putfield 22, 3) := by decide +kernel
theorem dX4_init_44 : decode cX4_init 44 = .ok (.aload_n 0, 1) := by decide +kernel
theorem dX4_init_45 : decode cX4_init 45 = .ok (.bipush 6, 2) := by decide +kernel
theorem dX4_init_47 : decode cX4_init 47 = .ok (.newarray .int, 2) := by decide +kernel
theorem dX4_init_49 : decode cX4_init 49 = .ok (.putfield 25, 3) := by decide +kernel
theorem dX4_init_52 : decode cX4_init 52 = .ok (.aload_n 0, 1) := by decide +kernel
theorem dX4_init_53 : decode cX4_init 53 = .ok (.bipush 6, 2) := by decide +kernel
theorem dX4_init_55 : decode cX4_init 55 = .ok (.newarray .int, 2) := by decide +kernel
theorem dX4_init_57 : decode cX4_init 57 = .ok (.putfield 28, 3) := by decide +kernel
theorem dX4_init_60 : decode cX4_init 60 = .ok (.aload_n 0, 1) := by decide +kernel
theorem dX4_init_61 : decode cX4_init 61 = .ok (.bipush 90, 2) := by decide +kernel
theorem dX4_init_63 : decode cX4_init 63 = .ok (.newarray .int, 2) := by decide +kernel
theorem dX4_init_65 : decode cX4_init 65 = .ok (.putfield 31, 3) := by decide +kernel
theorem dX4_init_68 : decode cX4_init 68 = .ok (.aload_n 0, 1) := by decide +kernel
theorem dX4_init_69 : decode cX4_init 69 = .ok (.bipush 30, 2) := by decide +kernel
theorem dX4_init_71 : decode cX4_init 71 = .ok (.newarray .int, 2) := by decide +kernel
theorem dX4_init_73 : decode cX4_init 73 = .ok (.putfield 34, 3) := by decide +kernel
theorem dX4_init_76 : decode cX4_init 76 = .ok (.aload_n 0, 1) := by decide +kernel
theorem dX4_init_77 : decode cX4_init 77 = .ok (.bipush 7, 2) := by decide +kernel
theorem dX4_init_79 : decode cX4_init 79 = .ok (.newarray .int, 2) := by decide +kernel
theorem dX4_init_81 : decode cX4_init 81 = .ok (.putfield 37, 3) := by decide +kernel
theorem dX4_init_84 : decode cX4_init 84 = .ok (.aload_n 0, 1) := by decide +kernel
theorem dX4_init_85 : decode cX4_init 85 = .ok (.ldc 40, 2) := by decide +kernel
theorem dX4_init_87 : decode cX4_init 87 = .ok (.newarray .boolean, 2) := by decide +kernel
theorem dX4_init_89 : decode cX4_init 89 = .ok (.putfield 41, 3) := by decide +kernel
theorem dX4_init_92 : decode cX4_init 92 = .ok (.aload_n 0, 1) := by decide +kernel
theorem dX4_init_93 : decode cX4_init 93 = .ok (.sipush 236, 3) := by decide +kernel
theorem dX4_init_96 : decode cX4_init 96 = .ok (.newarray .int, 2) := by decide +kernel
theorem dX4_init_98 : decode cX4_init 98 = .ok (.putfield 45, 3) := by decide +kernel
theorem dX4_init_101 : decode cX4_init 101 = .ok (.aload_n 0, 1) := by decide +kernel
theorem dX4_init_102 : decode cX4_init 102 = .ok (.iconst 2, 1) := by decide +kernel
theorem dX4_init_103 : decode cX4_init 103 = .ok (.newarray .boolean, 2) := by decide +kernel
theorem dX4_init_105 : decode cX4_init 105 = .ok (.putfield 48, 3) := by decide +kernel
theorem dX4_init_108 : decode cX4_init 108 = .ok (.iconst 0, 1) := by decide +kernel
theorem dX4_init_109 : decode cX4_init 109 = .ok (.istore_n 1, 1) := by decide +kernel
theorem dX4_init_110 : decode cX4_init 110 = .ok (.iload_n 1, 1) := by decide +kernel
theorem dX4_init_111 : decode cX4_init 111 = .ok (.bipush 6, 2) := by decide +kernel
theorem dX4_init_113 : decode cX4_init 113 = .ok (.if_icmp .ge 17, 3) := by decide +kernel
theorem dX4_init_116 : decode cX4_init 116 = .ok (.aload_n 0, 1) := by decide +kernel
theorem dX4_init_117 : decode cX4_init 117 = .ok (.getfield 7, 3) := by decide +kernel
theorem dX4_init_120 : decode cX4_init 120 = .ok (.iload_n 1, 1) := by decide +kernel
theorem dX4_init_121 : decode cX4_init 121 = .ok (.bipush 20, 2) := by decide +kernel
theorem dX4_init_123 : decode cX4_init 123 = .ok (.iastore, 1) := by decide +kernel
theorem dX4_init_124 : decode cX4_init 124 = .ok (.iinc 1 1, 3) := by decide +kernel
theorem dX4_init_127 : decode cX4_init 127 = .ok (.goto (-17), 3) := by decide +kernel
theorem dX4_init_130 : decode cX4_init 130 = .ok (.return_, 1) := by decide +kernel
theorem dX4_in_0 : decode cX4_in 0 = .ok (.iload_n 0, 1) := by decide +kernel
theorem dX4_in_1 : decode cX4_in 1 = .ok (.iload_n 1, 1) := by decide +kernel
theorem dX4_in_2 : decode cX4_in 2 = .ok (.if_icmp .lt 12, 3) := by decide +kernel
theorem dX4_in_5 : decode cX4_in 5 = .ok (.iload_n 0, 1) := by decide +kernel
theorem dX4_in_6 : decode cX4_in 6 = .ok (.iload_n 2, 1) := by decide +kernel
theorem dX4_in_7 : decode cX4_in 7 = .ok (.if_icmp .gt 7, 3) := by decide +kernel
theorem dX4_in_10 : decode cX4_in 10 = .ok (.iconst 1, 1) := by decide +kernel
theorem dX4_in_11 : decode cX4_in 11 = .ok (.goto 4, 3) := by decide +kernel
theorem dX4_in_14 : decode cX4_in 14 = .ok (.iconst 0, 1) := by decide +kernel
theorem dX4_in_15 : decode cX4_in 15 = .ok (.ireturn, 1) := by decide +kernel
theorem dX4_has_0 : decode cX4_has 0 = .ok (.iload_n 0, 1) := by decide +kernel
theorem dX4_has_1 : decode cX4_has 1 = .ok (.iload_n 1, 1) := by decide +kernel
theorem dX4_has_2 : decode cX4_has 2 = .ok (.ishr, 1) := by decide +kernel
theorem dX4_has_3 : decode cX4_has 3 = .ok (.iconst 1, 1) := by decide +kernel
theorem dX4_has_4 : decode cX4_has 4 = .ok (.iand, 1) := by decide +kernel
theorem dX4_has_5 : decode cX4_has 5 = .ok (.iconst 1, 1) := by decide +kernel
theorem dX4_has_6 : decode cX4_has 6 = .ok (.if_icmp .ne 7, 3) := by decide +kernel
theorem dX4_has_9 : decode cX4_has 9 = .ok (.iconst 1, 1) := by decide +kernel
theorem dX4_has_10 : decode cX4_has 10 = .ok (.goto 4, 3) := by decide +kernel
theorem dX4_has_13 : decode cX4_has 13 = .ok (.iconst 0, 1) := by decide +kernel
theorem dX4_has_14 : decode cX4_has 14 = .ok (.ireturn, 1) := by decide +kernel
set_option maxRecDepth 20000 in
theorem ggX4_isMan_X4_in : GoodIn wsX4_isMan wsX4_in := goodIn_r _ [4] (by decide +kernel) (by decide +kernel)
set_option maxRecDepth 20000 in
theorem gX4_isMan_X4_in : GoodIn wsX4_isMan (va_wsS RX4 51 yX4_in wsX4_in) := goodIn_app (goodIn_of _ (by decide +kernel)) ggX4_isMan_X4_in
theorem dX4_isMan_0 : decode cX4_isMan 0 = .ok (.iload_n 0, 1) := by decide +kernel
theorem dX4_isMan_1 : decode cX4_isMan 1 = .ok (.iconst 0, 1) := by decide +kernel
theorem dX4_isMan_2 : decode cX4_isMan 2 = .ok (.iconst 5, 1) := by decide +kernel
theorem dX4_isMan_3 : decode cX4_isMan 3 = .ok (.invokestatic 51, 3) := by decide +kernel
theorem dX4_isMan_6 : decode cX4_isMan 6 = .ok (.ireturn, 1) := by decide +kernel
theorem dX4_at_0 : decode cX4_at 0 = .ok (.bipush 15, 2) := by decide +kernel
theorem dX4_at_2 : decode cX4_at 2 = .ok (.iload_n 0, 1) := by decide +kernel
theorem dX4_at_3 : decode cX4_at 3 = .ok (.imul, 1) := by decide +kernel
theorem dX4_at_4 : decode cX4_at 4 = .ok (.iconst 3, 1) := by decide +kernel
theorem dX4_at_5 : decode cX4_at 5 = .ok (.iload_n 1, 1) := by decide +kernel
theorem dX4_at_6 : decode cX4_at 6 = .ok (.imul, 1) := by decide +kernel
theorem dX4_at_7 : decode cX4_at 7 = .ok (.iadd, 1) := by decide +kernel
theorem dX4_at_8 : decode cX4_at 8 = .ok (.ireturn, 1) := by decide +kernel
set_option maxRecDepth 20000 in
theorem ggX4_isDebt_X4_isMan : GoodIn wsX4_isDebt wsX4_isMan := goodIn_r _ [5, 6, 7, 4, 8] (by decide +kernel) (by decide +kernel)
set_option maxRecDepth 20000 in
theorem gX4_isDebt_X4_isMan : GoodIn wsX4_isDebt (va_wsS RX4 55 yX4_isMan wsX4_isMan) := goodIn_app (goodIn_of _ (by decide +kernel)) ggX4_isDebt_X4_isMan
set_option maxRecDepth 20000 in
theorem ggX4_isDebt_X4_in : GoodIn wsX4_isDebt wsX4_in := goodIn_r _ [8] (by decide +kernel) (by decide +kernel)
set_option maxRecDepth 20000 in
theorem gX4_isDebt_X4_in : GoodIn wsX4_isDebt (va_wsS RX4 51 yX4_in wsX4_in) := goodIn_app (goodIn_of _ (by decide +kernel)) ggX4_isDebt_X4_in
theorem dX4_isDebt_0 : decode cX4_isDebt 0 = .ok (.iload_n 1, 1) := by decide +kernel
theorem dX4_isDebt_1 : decode cX4_isDebt 1 = .ok (.invokestatic 55, 3) := by decide +kernel
theorem dX4_isDebt_4 : decode cX4_isDebt 4 = .ok (.ifCond .eq 23, 3) := by decide +kernel
theorem dX4_isDebt_7 : decode cX4_isDebt 7 = .ok (.iload_n 2, 1) := by decide +kernel
theorem dX4_isDebt_8 : decode cX4_isDebt 8 = .ok (.iconst 0, 1) := by decide +kernel
theorem dX4_isDebt_9 : decode cX4_isDebt 9 = .ok (.aload_n 0, 1) := by decide +kernel
theorem dX4_isDebt_10 : decode cX4_isDebt 10 = .ok (.getfield 13, 3) := by decide +kernel
theorem dX4_isDebt_13 : decode cX4_isDebt 13 = .ok (.iload_n 1, 1) := by decide +kernel
theorem dX4_isDebt_14 : decode cX4_isDebt 14 = .ok (.iaload, 1) := by decide +kernel
theorem dX4_isDebt_15 : decode cX4_isDebt 15 = .ok (.iconst 1, 1) := by decide +kernel
theorem dX4_isDebt_16 : decode cX4_isDebt 16 = .ok (.isub, 1) := by decide +kernel
theorem dX4_isDebt_17 : decode cX4_isDebt 17 = .ok (.invokestatic 51, 3) := by decide +kernel
theorem dX4_isDebt_20 : decode cX4_isDebt 20 = .ok (.ifCond .eq 7, 3) := by decide +kernel
theorem dX4_isDebt_23 : decode cX4_isDebt 23 = .ok (.iconst 1, 1) := by decide +kernel
theorem dX4_isDebt_24 : decode cX4_isDebt 24 = .ok (.goto 4, 3) := by decide +kernel
theorem dX4_isDebt_27 : decode cX4_isDebt 27 = .ok (.iconst 0, 1) := by decide +kernel
theorem dX4_isDebt_28 : decode cX4_isDebt 28 = .ok (.ireturn, 1) := by decide +kernel
set_option maxRecDepth 20000 in
theorem ggX4_money_X4_isMan : GoodIn wsX4_money wsX4_isMan := goodIn_r _ [5, 6, 7, 4, 8] (by decide +kernel) (by decide +kernel)
set_option maxRecDepth 20000 in
theorem gX4_money_X4_isMan : GoodIn wsX4_money (va_wsS RX4 55 yX4_isMan wsX4_isMan) := goodIn_app (goodIn_of _ (by decide +kernel)) ggX4_money_X4_isMan
set_option maxRecDepth 20000 in
theorem ggX4_money_X4_in : GoodIn wsX4_money wsX4_in := goodIn_r _ [8] (by decide +kernel) (by decide +kernel)
set_option maxRecDepth 20000 in
theorem gX4_money_X4_in : GoodIn wsX4_money (va_wsS RX4 51 yX4_in wsX4_in) := goodIn_app (goodIn_of _ (by decide +kernel)) ggX4_money_X4_in
theorem dX4_money_0 : decode cX4_money 0 = .ok (.iload_n 1, 1) := by decide +kernel
theorem dX4_money_1 : decode cX4_money 1 = .ok (.invokestatic 55, 3) := by decide +kernel
theorem dX4_money_4 : decode cX4_money 4 = .ok (.ifCond .ne 5, 3) := by decide +kernel
theorem dX4_money_7 : decode cX4_money 7 = .ok (.iconst (-1), 1) := by decide +kernel
theorem dX4_money_8 : decode cX4_money 8 = .ok (.ireturn, 1) := by decide +kernel
theorem dX4_money_9 : decode cX4_money 9 = .ok (.iload_n 2, 1) := by decide +kernel
theorem dX4_money_10 : decode cX4_money 10 = .ok (.iconst 0, 1) := by decide +kernel
theorem dX4_money_11 : decode cX4_money 11 = .ok (.sipush 999, 3) := by decide +kernel
theorem dX4_money_14 : decode cX4_money 14 = .ok (.invokestatic 51, 3) := by decide +kernel
theorem dX4_money_17 : decode cX4_money 17 = .ok (.ifCond .ne 6, 3) := by decide +kernel
theorem dX4_money_20 : decode cX4_money 20 = .ok (.bipush (-2), 2) := by decide +kernel
theorem dX4_money_22 : decode cX4_money 22 = .ok (.ireturn, 1) := by decide +kernel
theorem dX4_money_23 : decode cX4_money 23 = .ok (.aload_n 0, 1) := by decide +kernel
theorem dX4_money_24 : decode cX4_money 24 = .ok (.getfield 7, 3) := by decide +kernel
theorem dX4_money_27 : decode cX4_money 27 = .ok (.iload_n 1, 1) := by decide +kernel
theorem dX4_money_28 : decode cX4_money 28 = .ok (.iaload, 1) := by decide +kernel
theorem dX4_money_29 : decode cX4_money 29 = .ok (.istore_n 3, 1) := by decide +kernel
theorem dX4_money_30 : decode cX4_money 30 = .ok (.aload_n 0, 1) := by decide +kernel
theorem dX4_money_31 : decode cX4_money 31 = .ok (.getfield 7, 3) := by decide +kernel
theorem dX4_money_34 : decode cX4_money 34 = .ok (.iload_n 1, 1) := by decide +kernel
theorem dX4_money_35 : decode cX4_money 35 = .ok (.iload_n 2, 1) := by decide +kernel
theorem dX4_money_36 : decode cX4_money 36 = .ok (.iastore, 1) := by decide +kernel
theorem dX4_money_37 : decode cX4_money 37 = .ok (.iload_n 3, 1) := by decide +kernel
theorem dX4_money_38 : decode cX4_money 38 = .ok (.ireturn, 1) := by decide +kernel
set_option maxRecDepth 20000 in
theorem ggX4_set_X4_in : GoodIn wsX4_set wsX4_in := goodIn_r _ [6] (by decide +kernel) (by decide +kernel)
set_option maxRecDepth 20000 in
theorem gX4_set_X4_in : GoodIn wsX4_set (va_wsS RX4 51 yX4_in wsX4_in) := goodIn_app (goodIn_of _ (by decide +kernel)) ggX4_set_X4_in
theorem dX4_set_0 : decode cX4_set 0 = .ok (.iload_n 1, 1) := by decide +kernel
theorem dX4_set_1 : decode cX4_set 1 = .ok (.iconst 0, 1) := by decide +kernel
theorem dX4_set_2 : decode cX4_set 2 = .ok (.iconst 1, 1) := by decide +kernel
theorem dX4_set_3 : decode cX4_set 3 = .ok (.invokestatic 51, 3) := by decide +kernel
theorem dX4_set_6 : decode cX4_set 6 = .ok (.ifCond .eq 21, 3) := by decide +kernel
theorem dX4_set_9 : decode cX4_set 9 = .ok (.iload_n 2, 1) := by decide +kernel
theorem dX4_set_10 : decode cX4_set 10 = .ok (.iconst 0, 1) := by decide +kernel
theorem dX4_set_11 : decode cX4_set 11 = .ok (.iload_n 1, 1) := by decide +kernel
theorem dX4_set_12 : decode cX4_set 12 = .ok (.ifCond .ne 7, 3) := by decide +kernel
theorem dX4_set_15 : decode cX4_set 15 = .ok (.iconst 2, 1) := by decide +kernel
theorem dX4_set_16 : decode cX4_set 16 = .ok (.goto 5, 3) := by decide +kernel
theorem dX4_set_19 : decode cX4_set 19 = .ok (.bipush 9, 2) := by decide +kernel
theorem dX4_set_21 : decode cX4_set 21 = .ok (.invokestatic 51, 3) := by decide +kernel
theorem dX4_set_24 : decode cX4_set 24 = .ok (.ifCond .ne 6, 3) := by decide +kernel
theorem dX4_set_27 : decode cX4_set 27 = .ok (.bipush (-2), 2) := by decide +kernel
theorem dX4_set_29 : decode cX4_set 29 = .ok (.ireturn, 1) := by decide +kernel
theorem dX4_set_30 : decode cX4_set 30 = .ok (.iload_n 1, 1) := by decide +kernel
theorem dX4_set_31 : decode cX4_set 31 = .ok (.ifCond .ne 10, 3) := by decide +kernel
theorem dX4_set_34 : decode cX4_set 34 = .ok (.aload_n 0, 1) := by decide +kernel
theorem dX4_set_35 : decode cX4_set 35 = .ok (.getfield 59, 3) := by decide +kernel
theorem dX4_set_38 : decode cX4_set 38 = .ok (.goto 7, 3) := by decide +kernel
theorem dX4_set_41 : decode cX4_set 41 = .ok (.aload_n 0, 1) := by decide +kernel
theorem dX4_set_42 : decode cX4_set 42 = .ok (.getfield 63, 3) := by decide +kernel
theorem dX4_set_45 : decode cX4_set 45 = .ok (.istore_n 3, 1) := by decide +kernel
theorem dX4_set_46 : decode cX4_set 46 = .ok (.aload_n 0, 1) := by decide +kernel
theorem dX4_set_47 : decode cX4_set 47 = .ok (.iload_n 1, 1) := by decide +kernel
theorem dX4_set_48 : decode cX4_set 48 = .ok (.ifCond .ne 7, 3) := by decide +kernel
theorem dX4_set_51 : decode cX4_set 51 = .ok (.iload_n 2, 1) := by decide +kernel
theorem dX4_set_52 : decode cX4_set 52 = .ok (.goto 7, 3) := by decide +kernel
theorem dX4_set_55 : decode cX4_set 55 = .ok (.aload_n 0, 1) := by decide +kernel
theorem dX4_set_56 : decode cX4_set 56 = .ok (.getfield 59, 3) := by decide +kernel
theorem dX4_set_59 : decode cX4_set 59 = .ok (.putfield 59, 3) := by decide +kernel
theorem dX4_set_62 : decode cX4_set 62 = .ok (.aload_n 0, 1) := by decide +kernel
theorem dX4_set_63 : decode cX4_set 63 = .ok (.iload_n 1, 1) := by decide +kernel
theorem dX4_set_64 : decode cX4_set 64 = .ok (.iconst 1, 1) := by decide +kernel
theorem dX4_set_65 : decode cX4_set 65 = .ok (.if_icmp .ne 7, 3) := by decide +kernel
theorem dX4_set_68 : decode cX4_set 68 = .ok (.iload_n 2, 1) := by decide +kernel
theorem dX4_set_69 : decode cX4_set 69 = .ok (.goto 7, 3) := by decide +kernel
theorem dX4_set_72 : decode cX4_set 72 = .ok (.aload_n 0, 1) := by decide +kernel
theorem dX4_set_73 : decode cX4_set 73 = .ok (.getfield 63, 3) := by decide +kernel
theorem dX4_set_76 : decode cX4_set 76 = .ok (.putfield 63, 3) := by decide +kernel
theorem dX4_set_79 : decode cX4_set 79 = .ok (.iload_n 3, 1) := by decide +kernel
theorem dX4_set_80 : decode cX4_set 80 = .ok (.ireturn, 1) := by decide +kernel
set_option maxRecDepth 20000 in
theorem ggX4_say_X4_in : GoodIn wsX4_say wsX4_in := goodIn_r _ [6] (by decide +kernel) (by decide +kernel)
set_option maxRecDepth 20000 in
theorem gX4_say_X4_in : GoodIn wsX4_say (va_wsS RX4 51 yX4_in wsX4_in) := goodIn_app (goodIn_of _ (by decide +kernel)) ggX4_say_X4_in
theorem dX4_say_0 : decode cX4_say 0 = .ok (.iload_n 1, 1) := by decide +kernel
theorem dX4_say_1 : decode cX4_say 1 = .ok (.bipush 33, 2) := by decide +kernel
theorem dX4_say_3 : decode cX4_say 3 = .ok (.bipush 126, 2) := by decide +kernel
theorem dX4_say_5 : decode cX4_say 5 = .ok (.invokestatic 51, 3) := by decide +kernel
theorem dX4_say_8 : decode cX4_say 8 = .ok (.ifCond .ne 6, 3) := by decide +kernel
theorem dX4_say_11 : decode cX4_say 11 = .ok (.bipush (-2), 2) := by decide +kernel
theorem dX4_say_13 : decode cX4_say 13 = .ok (.ireturn, 1) := by decide +kernel
theorem dX4_say_14 : decode cX4_say 14 = .ok (.aload_n 0, 1) := by decide +kernel
theorem dX4_say_15 : decode cX4_say 15 = .ok (.getfield 66, 3) := by decide +kernel
theorem dX4_say_18 : decode cX4_say 18 = .ok (.bipush 60, 2) := by decide +kernel
theorem dX4_say_20 : decode cX4_say 20 = .ok (.if_icmp .ne 6, 3) := by decide +kernel
theorem dX4_say_23 : decode cX4_say 23 = .ok (.bipush (-4), 2) := by decide +kernel
theorem dX4_say_25 : decode cX4_say 25 = .ok (.ireturn, 1) := by decide +kernel
theorem dX4_say_26 : decode cX4_say 26 = .ok (.aload_n 0, 1) := by decide +kernel
theorem dX4_say_27 : decode cX4_say 27 = .ok (.getfield 22, 3) := by decide +kernel
theorem dX4_say_30 : decode cX4_say 30 = .ok (.aload_n 0, 1) := by decide +kernel
theorem dX4_say_31 : decode cX4_say 31 = .ok (.getfield 66, 3) := by decide +kernel
theorem dX4_say_34 : decode cX4_say 34 = .ok (.iload_n 1, 1) := by decide +kernel
theorem dX4_say_35 : decode cX4_say 35 = .ok (.iastore, 1) := by decide +kernel
theorem dX4_say_36 : decode cX4_say 36 = .ok (.aload_n 0, 1) := by decide +kernel
theorem dX4_say_37 : decode cX4_say 37 = .ok (.dup, 1) := by decide +kernel
theorem dX4_say_38 : decode cX4_say 38 = .ok (.getfield 66, 3) := by decide +kernel
theorem dX4_say_41 : decode cX4_say 41 = .ok (.iconst 1, 1) := by decide +kernel
theorem dX4_say_42 : decode cX4_say 42 = .ok (.iadd, 1) := by decide +kernel
theorem dX4_say_43 : decode cX4_say 43 = .ok (.putfield 66, 3) := by decide +kernel
theorem dX4_say_46 : decode cX4_say 46 = .ok (.aload_n 0, 1) := by decide +kernel
theorem dX4_say_47 : decode cX4_say 47 = .ok (.getfield 66, 3) := by decide +kernel
theorem dX4_say_50 : decode cX4_say 50 = .ok (.ireturn, 1) := by decide +kernel
theorem dX4_wipe_0 : decode cX4_wipe 0 = .ok (.aload_n 0, 1) := by decide +kernel
theorem dX4_wipe_1 : decode cX4_wipe 1 = .ok (.getfield 66, 3) := by decide +kernel
theorem dX4_wipe_4 : decode cX4_wipe 4 = .ok (.istore_n 1, 1) := by decide +kernel
theorem dX4_wipe_5 : decode cX4_wipe 5 = .ok (.aload_n 0, 1) := by decide +kernel
theorem dX4_wipe_6 : decode cX4_wipe 6 = .ok (.iconst 0, 1) := by decide +kernel
theorem dX4_wipe_7 : decode cX4_wipe 7 = .ok (.putfield 66, 3) := by decide +kernel
theorem dX4_wipe_10 : decode cX4_wipe 10 = .ok (.iload_n 1, 1) := by decide +kernel
theorem dX4_wipe_11 : decode cX4_wipe 11 = .ok (.ireturn, 1) := by decide +kernel
set_option maxRecDepth 20000 in
theorem ggX4_faultOf_X4_in : GoodIn wsX4_faultOf wsX4_in := goodIn_r _ [6] (by decide +kernel) (by decide +kernel)
set_option maxRecDepth 20000 in
theorem gX4_faultOf_X4_in : GoodIn wsX4_faultOf (va_wsS RX4 51 yX4_in wsX4_in) := goodIn_app (goodIn_of _ (by decide +kernel)) ggX4_faultOf_X4_in
theorem dX4_faultOf_0 : decode cX4_faultOf 0 = .ok (.iconst 0, 1) := by decide +kernel
theorem dX4_faultOf_1 : decode cX4_faultOf 1 = .ok (.istore_n 1, 1) := by decide +kernel
theorem dX4_faultOf_2 : decode cX4_faultOf 2 = .ok (.iconst 0, 1) := by decide +kernel
theorem dX4_faultOf_3 : decode cX4_faultOf 3 = .ok (.istore_n 2, 1) := by decide +kernel
theorem dX4_faultOf_4 : decode cX4_faultOf 4 = .ok (.iconst 0, 1) := by decide +kernel
theorem dX4_faultOf_5 : decode cX4_faultOf 5 = .ok (.istore_n 3, 1) := by decide +kernel
theorem dX4_faultOf_6 : decode cX4_faultOf 6 = .ok (.iconst 0, 1) := by decide +kernel
theorem dX4_faultOf_7 : decode cX4_faultOf 7 = .ok (.istore 4, 2) := by decide +kernel
theorem dX4_faultOf_9 : decode cX4_faultOf 9 = .ok (.iload 4, 2) := by decide +kernel
theorem dX4_faultOf_11 : decode cX4_faultOf 11 = .ok (.aload_n 0, 1) := by decide +kernel
theorem dX4_faultOf_12 : decode cX4_faultOf 12 = .ok (.getfield 66, 3) := by decide +kernel
theorem dX4_faultOf_15 : decode cX4_faultOf 15 = .ok (.if_icmp .ge 233, 3) := by decide +kernel
theorem dX4_faultOf_18 : decode cX4_faultOf 18 = .ok (.aload_n 0, 1) := by decide +kernel
theorem dX4_faultOf_19 : decode cX4_faultOf 19 = .ok (.getfield 22, 3) := by decide +kernel
theorem dX4_faultOf_22 : decode cX4_faultOf 22 = .ok (.iload 4, 2) := by decide +kernel
theorem dX4_faultOf_24 : decode cX4_faultOf 24 = .ok (.iaload, 1) := by decide +kernel
theorem dX4_faultOf_25 : decode cX4_faultOf 25 = .ok (.istore 5, 2) := by decide +kernel
theorem dX4_faultOf_27 : decode cX4_faultOf 27 = .ok (.iload 5, 2) := by decide +kernel
theorem dX4_faultOf_29 : decode cX4_faultOf 29 = .ok (.bipush 65, 2) := by decide +kernel
theorem dX4_faultOf_31 : decode cX4_faultOf 31 = .ok (.bipush 70, 2) := by decide +kernel
theorem dX4_faultOf_33 : decode cX4_faultOf 33 = .ok (.invokestatic 51, 3) := by decide +kernel
theorem dX4_faultOf_36 : decode cX4_faultOf 36 = .ok (.istore 6, 2) := by decide +kernel
theorem dX4_faultOf_38 : decode cX4_faultOf 38 = .ok (.iload_n 1, 1) := by decide +kernel
theorem dX4_faultOf_39 : decode cX4_faultOf 39 = .ok (.iconst 5, 1) := by decide +kernel
theorem dX4_faultOf_40 : decode cX4_faultOf 40 = .ok (.if_icmp .ne 23, 3) := by decide +kernel
theorem dX4_faultOf_43 : decode cX4_faultOf 43 = .ok (.iload 5, 2) := by decide +kernel
theorem dX4_faultOf_45 : decode cX4_faultOf 45 = .ok (.bipush 48, 2) := by decide +kernel
theorem dX4_faultOf_47 : decode cX4_faultOf 47 = .ok (.bipush 57, 2) := by decide +kernel
theorem dX4_faultOf_49 : decode cX4_faultOf 49 = .ok (.invokestatic 51, 3) := by decide +kernel
theorem dX4_faultOf_52 : decode cX4_faultOf 52 = .ok (.ifCond .eq 11, 3) := by decide +kernel
theorem dX4_faultOf_55 : decode cX4_faultOf 55 = .ok (.iconst 1, 1) := by decide +kernel
theorem dX4_faultOf_56 : decode cX4_faultOf 56 = .ok (.istore 7, 2) := by decide +kernel
theorem dX4_faultOf_58 : decode cX4_faultOf 58 = .ok (.iconst 0, 1) := by decide +kernel
theorem dX4_faultOf_59 : decode cX4_faultOf 59 = .ok (.istore_n 1, 1) := by decide +kernel
theorem dX4_faultOf_60 : decode cX4_faultOf 60 = .ok (.goto 174, 3) := by decide +kernel
theorem dX4_faultOf_63 : decode cX4_faultOf 63 = .ok (.iload_n 1, 1) := by decide +kernel
theorem dX4_faultOf_64 : decode cX4_faultOf 64 = .ok (.ifCond .eq 8, 3) := by decide +kernel
theorem dX4_faultOf_67 : decode cX4_faultOf 67 = .ok (.iload_n 1, 1) := by decide +kernel
theorem dX4_faultOf_68 : decode cX4_faultOf 68 = .ok (.iconst 5, 1) := by decide +kernel
theorem dX4_faultOf_69 : decode cX4_faultOf 69 = .ok (.if_icmp .ne 77, 3) := by decide +kernel
theorem dX4_faultOf_72 : decode cX4_faultOf 72 = .ok (.iload_n 2, 1) := by decide +kernel
theorem dX4_faultOf_73 : decode cX4_faultOf 73 = .ok (.iload 5, 2) := by decide +kernel
theorem dX4_faultOf_75 : decode cX4_faultOf 75 = .ok (.bipush 63, 2) := by decide +kernel
theorem dX4_faultOf_77 : decode cX4_faultOf 77 = .ok (.if_icmp .ne 7, 3) := by decide +kernel
theorem dX4_faultOf_80 : decode cX4_faultOf 80 = .ok (.iconst 1, 1) := by decide +kernel
theorem dX4_faultOf_81 : decode cX4_faultOf 81 = .ok (.goto 4, 3) := by decide +kernel
theorem dX4_faultOf_84 : decode cX4_faultOf 84 = .ok (.iconst 0, 1) := by decide +kernel
theorem dX4_faultOf_85 : decode cX4_faultOf 85 = .ok (.iadd, 1) := by decide +kernel
theorem dX4_faultOf_86 : decode cX4_faultOf 86 = .ok (.istore_n 2, 1) := by decide +kernel
theorem dX4_faultOf_87 : decode cX4_faultOf 87 = .ok (.iload 6, 2) := by decide +kernel
theorem dX4_faultOf_89 : decode cX4_faultOf 89 = .ok (.ifCond .ne 22, 3) := by decide +kernel
theorem dX4_faultOf_92 : decode cX4_faultOf 92 = .ok (.iload 5, 2) := by decide +kernel
theorem dX4_faultOf_94 : decode cX4_faultOf 94 = .ok (.bipush 46, 2) := by decide +kernel
theorem dX4_faultOf_96 : decode cX4_faultOf 96 = .ok (.if_icmp .eq 15, 3) := by decide +kernel
theorem dX4_faultOf_99 : decode cX4_faultOf 99 = .ok (.iload 5, 2) := by decide +kernel
theorem dX4_faultOf_101 : decode cX4_faultOf 101 = .ok (.bipush 63, 2) := by decide +kernel
theorem dX4_faultOf_103 : decode cX4_faultOf 103 = .ok (.if_icmp .ne 12, 3) := by decide +kernel
theorem dX4_faultOf_106 : decode cX4_faultOf 106 = .ok (.iload_n 2, 1) := by decide +kernel
theorem dX4_faultOf_107 : decode cX4_faultOf 107 = .ok (.iconst 4, 1) := by decide +kernel
theorem dX4_faultOf_108 : decode cX4_faultOf 108 = .ok (.if_icmp .ge 7, 3) := by decide +kernel
theorem dX4_faultOf_111 : decode cX4_faultOf 111 = .ok (.iconst 1, 1) := by decide +kernel
theorem dX4_faultOf_112 : decode cX4_faultOf 112 = .ok (.goto 4, 3) := by decide +kernel
theorem dX4_faultOf_115 : decode cX4_faultOf 115 = .ok (.iconst 0, 1) := by decide +kernel
theorem dX4_faultOf_116 : decode cX4_faultOf 116 = .ok (.istore 7, 2) := by decide +kernel
theorem dX4_faultOf_118 : decode cX4_faultOf 118 = .ok (.iload 5, 2) := by decide +kernel
theorem dX4_faultOf_120 : decode cX4_faultOf 120 = .ok (.istore_n 3, 1) := by decide +kernel
theorem dX4_faultOf_121 : decode cX4_faultOf 121 = .ok (.iload 6, 2) := by decide +kernel
theorem dX4_faultOf_123 : decode cX4_faultOf 123 = .ok (.ifCond .eq 7, 3) := by decide +kernel
theorem dX4_faultOf_126 : decode cX4_faultOf 126 = .ok (.iconst 1, 1) := by decide +kernel
theorem dX4_faultOf_127 : decode cX4_faultOf 127 = .ok (.goto 15, 3) := by decide +kernel
theorem dX4_faultOf_130 : decode cX4_faultOf 130 = .ok (.iload 5, 2) := by decide +kernel
theorem dX4_faultOf_132 : decode cX4_faultOf 132 = .ok (.bipush 46, 2) := by decide +kernel
theorem dX4_faultOf_134 : decode cX4_faultOf 134 = .ok (.if_icmp .ne 7, 3) := by decide +kernel
theorem dX4_faultOf_137 : decode cX4_faultOf 137 = .ok (.iconst 0, 1) := by decide +kernel
theorem dX4_faultOf_138 : decode cX4_faultOf 138 = .ok (.goto 4, 3) := by decide +kernel
theorem dX4_faultOf_141 : decode cX4_faultOf 141 = .ok (.iconst 2, 1) := by decide +kernel
theorem dX4_faultOf_142 : decode cX4_faultOf 142 = .ok (.istore_n 1, 1) := by decide +kernel
theorem dX4_faultOf_143 : decode cX4_faultOf 143 = .ok (.goto 91, 3) := by decide +kernel
theorem dX4_faultOf_146 : decode cX4_faultOf 146 = .ok (.iload_n 1, 1) := by decide +kernel
theorem dX4_faultOf_147 : decode cX4_faultOf 147 = .ok (.iconst 3, 1) := by decide +kernel
theorem dX4_faultOf_148 : decode cX4_faultOf 148 = .ok (.if_icmp .ge 45, 3) := by decide +kernel
theorem dX4_faultOf_151 : decode cX4_faultOf 151 = .ok (.iload 5, 2) := by decide +kernel
theorem dX4_faultOf_153 : decode cX4_faultOf 153 = .ok (.bipush 62, 2) := by decide +kernel
theorem dX4_faultOf_155 : decode cX4_faultOf 155 = .ok (.if_icmp .eq 15, 3) := by decide +kernel
theorem dX4_faultOf_158 : decode cX4_faultOf 158 = .ok (.iload 5, 2) := by decide +kernel
theorem dX4_faultOf_160 : decode cX4_faultOf 160 = .ok (.bipush 33, 2) := by decide +kernel
theorem dX4_faultOf_162 : decode cX4_faultOf 162 = .ok (.if_icmp .ne 12, 3) := by decide +kernel
theorem dX4_faultOf_165 : decode cX4_faultOf 165 = .ok (.iload_n 1, 1) := by decide +kernel
theorem dX4_faultOf_166 : decode cX4_faultOf 166 = .ok (.iconst 1, 1) := by decide +kernel
theorem dX4_faultOf_167 : decode cX4_faultOf 167 = .ok (.if_icmp .ne 7, 3) := by decide +kernel
theorem dX4_faultOf_170 : decode cX4_faultOf 170 = .ok (.iconst 1, 1) := by decide +kernel
theorem dX4_faultOf_171 : decode cX4_faultOf 171 = .ok (.goto 4, 3) := by decide +kernel
theorem dX4_faultOf_174 : decode cX4_faultOf 174 = .ok (.iconst 0, 1) := by decide +kernel
theorem dX4_faultOf_175 : decode cX4_faultOf 175 = .ok (.istore 7, 2) := by decide +kernel
theorem dX4_faultOf_177 : decode cX4_faultOf 177 = .ok (.iload 5, 2) := by decide +kernel
theorem dX4_faultOf_179 : decode cX4_faultOf 179 = .ok (.bipush 62, 2) := by decide +kernel
theorem dX4_faultOf_181 : decode cX4_faultOf 181 = .ok (.if_icmp .ne 7, 3) := by decide +kernel
theorem dX4_faultOf_184 : decode cX4_faultOf 184 = .ok (.iconst 3, 1) := by decide +kernel
theorem dX4_faultOf_185 : decode cX4_faultOf 185 = .ok (.goto 4, 3) := by decide +kernel
theorem dX4_faultOf_188 : decode cX4_faultOf 188 = .ok (.iconst 0, 1) := by decide +kernel
theorem dX4_faultOf_189 : decode cX4_faultOf 189 = .ok (.istore_n 1, 1) := by decide +kernel
theorem dX4_faultOf_190 : decode cX4_faultOf 190 = .ok (.goto 44, 3) := by decide +kernel
theorem dX4_faultOf_193 : decode cX4_faultOf 193 = .ok (.iload_n 1, 1) := by decide +kernel
theorem dX4_faultOf_194 : decode cX4_faultOf 194 = .ok (.iconst 3, 1) := by decide +kernel
theorem dX4_faultOf_195 : decode cX4_faultOf 195 = .ok (.if_icmp .ne 26, 3) := by decide +kernel
theorem dX4_faultOf_198 : decode cX4_faultOf 198 = .ok (.iload 6, 2) := by decide +kernel
theorem dX4_faultOf_200 : decode cX4_faultOf 200 = .ok (.ifCond .eq 13, 3) := by decide +kernel
theorem dX4_faultOf_203 : decode cX4_faultOf 203 = .ok (.iload 5, 2) := by decide +kernel
theorem dX4_faultOf_205 : decode cX4_faultOf 205 = .ok (.iload_n 3, 1) := by decide +kernel
theorem dX4_faultOf_206 : decode cX4_faultOf 206 = .ok (.if_icmp .eq 7, 3) := by decide +kernel
theorem dX4_faultOf_209 : decode cX4_faultOf 209 = .ok (.iconst 1, 1) := by decide +kernel
theorem dX4_faultOf_210 : decode cX4_faultOf 210 = .ok (.goto 4, 3) := by decide +kernel
theorem dX4_faultOf_213 : decode cX4_faultOf 213 = .ok (.iconst 0, 1) := by decide +kernel
theorem dX4_faultOf_214 : decode cX4_faultOf 214 = .ok (.istore 7, 2) := by decide +kernel
theorem dX4_faultOf_216 : decode cX4_faultOf 216 = .ok (.iconst 4, 1) := by decide +kernel
theorem dX4_faultOf_217 : decode cX4_faultOf 217 = .ok (.istore_n 1, 1) := by decide +kernel
theorem dX4_faultOf_218 : decode cX4_faultOf 218 = .ok (.goto 16, 3) := by decide +kernel
theorem dX4_faultOf_221 : decode cX4_faultOf 221 = .ok (.iload 5, 2) := by decide +kernel
theorem dX4_faultOf_223 : decode cX4_faultOf 223 = .ok (.bipush 49, 2) := by decide +kernel
theorem dX4_faultOf_225 : decode cX4_faultOf 225 = .ok (.bipush 57, 2) := by decide +kernel
theorem dX4_faultOf_227 : decode cX4_faultOf 227 = .ok (.invokestatic 51, 3) := by decide +kernel
theorem dX4_faultOf_230 : decode cX4_faultOf 230 = .ok (.istore 7, 2) := by decide +kernel
theorem dX4_faultOf_232 : decode cX4_faultOf 232 = .ok (.iconst 5, 1) := by decide +kernel
theorem dX4_faultOf_233 : decode cX4_faultOf 233 = .ok (.istore_n 1, 1) := by decide +kernel
theorem dX4_faultOf_234 : decode cX4_faultOf 234 = .ok (.iload 7, 2) := by decide +kernel
theorem dX4_faultOf_236 : decode cX4_faultOf 236 = .ok (.ifCond .ne 6, 3) := by decide +kernel
theorem dX4_faultOf_239 : decode cX4_faultOf 239 = .ok (.iload 4, 2) := by decide +kernel
theorem dX4_faultOf_241 : decode cX4_faultOf 241 = .ok (.ireturn, 1) := by decide +kernel
theorem dX4_faultOf_242 : decode cX4_faultOf 242 = .ok (.iinc 4 1, 3) := by decide +kernel
theorem dX4_faultOf_245 : decode cX4_faultOf 245 = .ok (.goto (-236), 3) := by decide +kernel
theorem dX4_faultOf_248 : decode cX4_faultOf 248 = .ok (.iload_n 1, 1) := by decide +kernel
theorem dX4_faultOf_249 : decode cX4_faultOf 249 = .ok (.ifCond .eq 8, 3) := by decide +kernel
theorem dX4_faultOf_252 : decode cX4_faultOf 252 = .ok (.iload_n 1, 1) := by decide +kernel
theorem dX4_faultOf_253 : decode cX4_faultOf 253 = .ok (.iconst 5, 1) := by decide +kernel
theorem dX4_faultOf_254 : decode cX4_faultOf 254 = .ok (.if_icmp .ne 8, 3) := by decide +kernel
theorem dX4_faultOf_257 : decode cX4_faultOf 257 = .ok (.bipush (-6), 2) := by decide +kernel
theorem dX4_faultOf_259 : decode cX4_faultOf 259 = .ok (.goto 7, 3) := by decide +kernel
theorem dX4_faultOf_262 : decode cX4_faultOf 262 = .ok (.aload_n 0, 1) := by decide +kernel
theorem dX4_faultOf_263 : decode cX4_faultOf 263 = .ok (.getfield 66, 3) := by decide +kernel
theorem dX4_faultOf_266 : decode cX4_faultOf 266 = .ok (.ireturn, 1) := by decide +kernel
set_option maxRecDepth 20000 in
theorem ggX4_fault_X4_faultOf : GoodIn wsX4_fault wsX4_faultOf := goodIn_r _ [5, 6, 7, 8, 9, 4, 10, 11, 12, 13, 14, 15, 16, 17, 18, 19, 20, 21, 22, 23, 24, 25, 26, 27, 28, 29, 30, 31] (by decide +kernel) (by decide +kernel)
set_option maxRecDepth 20000 in
theorem gX4_fault_X4_faultOf : GoodIn wsX4_fault (wsV RX4 69 RX4 yX4_faultOf wsX4_faultOf) := goodIn_app (goodIn_of _ (by decide +kernel)) ggX4_fault_X4_faultOf
theorem dX4_fault_0 : decode cX4_fault 0 = .ok (.aload_n 0, 1) := by decide +kernel
theorem dX4_fault_1 : decode cX4_fault 1 = .ok (.invokevirtual 69, 3) := by decide +kernel
theorem dX4_fault_4 : decode cX4_fault 4 = .ok (.ireturn, 1) := by decide +kernel
theorem dX4_opens_0 : decode cX4_opens 0 = .ok (.iconst 0, 1) := by decide +kernel
theorem dX4_opens_1 : decode cX4_opens 1 = .ok (.istore_n 1, 1) := by decide +kernel
theorem dX4_opens_2 : decode cX4_opens 2 = .ok (.iconst 0, 1) := by decide +kernel
theorem dX4_opens_3 : decode cX4_opens 3 = .ok (.istore_n 2, 1) := by decide +kernel
theorem dX4_opens_4 : decode cX4_opens 4 = .ok (.iload_n 2, 1) := by decide +kernel
theorem dX4_opens_5 : decode cX4_opens 5 = .ok (.aload_n 0, 1) := by decide +kernel
theorem dX4_opens_6 : decode cX4_opens 6 = .ok (.getfield 66, 3) := by decide +kernel
theorem dX4_opens_9 : decode cX4_opens 9 = .ok (.if_icmp .ge 28, 3) := by decide +kernel
theorem dX4_opens_12 : decode cX4_opens 12 = .ok (.iload_n 1, 1) := by decide +kernel
theorem dX4_opens_13 : decode cX4_opens 13 = .ok (.aload_n 0, 1) := by decide +kernel
theorem dX4_opens_14 : decode cX4_opens 14 = .ok (.getfield 22, 3) := by decide +kernel
theorem dX4_opens_17 : decode cX4_opens 17 = .ok (.iload_n 2, 1) := by decide +kernel
theorem dX4_opens_18 : decode cX4_opens 18 = .ok (.iaload, 1) := by decide +kernel
theorem dX4_opens_19 : decode cX4_opens 19 = .ok (.bipush 63, 2) := by decide +kernel
theorem dX4_opens_21 : decode cX4_opens 21 = .ok (.if_icmp .ne 7, 3) := by decide +kernel
theorem dX4_opens_24 : decode cX4_opens 24 = .ok (.iconst 1, 1) := by decide +kernel
theorem dX4_opens_25 : decode cX4_opens 25 = .ok (.goto 4, 3) := by decide +kernel
theorem dX4_opens_28 : decode cX4_opens 28 = .ok (.iconst 0, 1) := by decide +kernel
theorem dX4_opens_29 : decode cX4_opens 29 = .ok (.iadd, 1) := by decide +kernel
theorem dX4_opens_30 : decode cX4_opens 30 = .ok (.istore_n 1, 1) := by decide +kernel
theorem dX4_opens_31 : decode cX4_opens 31 = .ok (.iinc 2 1, 3) := by decide +kernel
theorem dX4_opens_34 : decode cX4_opens 34 = .ok (.goto (-30), 3) := by decide +kernel
theorem dX4_opens_37 : decode cX4_opens 37 = .ok (.iload_n 1, 1) := by decide +kernel
theorem dX4_opens_38 : decode cX4_opens 38 = .ok (.ireturn, 1) := by decide +kernel
theorem dX4_asNow_0 : decode cX4_asNow 0 = .ok (.aload_n 0, 1) := by decide +kernel
theorem dX4_asNow_1 : decode cX4_asNow 1 = .ok (.aload_n 0, 1) := by decide +kernel
theorem dX4_asNow_2 : decode cX4_asNow 2 = .ok (.getfield 73, 3) := by decide +kernel
theorem dX4_asNow_5 : decode cX4_asNow 5 = .ok (.putfield 76, 3) := by decide +kernel
theorem dX4_asNow_8 : decode cX4_asNow 8 = .ok (.iconst 0, 1) := by decide +kernel
theorem dX4_asNow_9 : decode cX4_asNow 9 = .ok (.istore_n 1, 1) := by decide +kernel
theorem dX4_asNow_10 : decode cX4_asNow 10 = .ok (.iload_n 1, 1) := by decide +kernel
theorem dX4_asNow_11 : decode cX4_asNow 11 = .ok (.bipush 6, 2) := by decide +kernel
theorem dX4_asNow_13 : decode cX4_asNow 13 = .ok (.if_icmp .ge 33, 3) := by decide +kernel
theorem dX4_asNow_16 : decode cX4_asNow 16 = .ok (.aload_n 0, 1) := by decide +kernel
theorem dX4_asNow_17 : decode cX4_asNow 17 = .ok (.getfield 25, 3) := by decide +kernel
theorem dX4_asNow_20 : decode cX4_asNow 20 = .ok (.iload_n 1, 1) := by decide +kernel
theorem dX4_asNow_21 : decode cX4_asNow 21 = .ok (.aload_n 0, 1) := by decide +kernel
theorem dX4_asNow_22 : decode cX4_asNow 22 = .ok (.getfield 7, 3) := by decide +kernel
theorem dX4_asNow_25 : decode cX4_asNow 25 = .ok (.iload_n 1, 1) := by decide +kernel
theorem dX4_asNow_26 : decode cX4_asNow 26 = .ok (.iaload, 1) := by decide +kernel
theorem dX4_asNow_27 : decode cX4_asNow 27 = .ok (.iastore, 1) := by decide +kernel
theorem dX4_asNow_28 : decode cX4_asNow 28 = .ok (.aload_n 0, 1) := by decide +kernel
theorem dX4_asNow_29 : decode cX4_asNow 29 = .ok (.getfield 28, 3) := by decide +kernel
theorem dX4_asNow_32 : decode cX4_asNow 32 = .ok (.iload_n 1, 1) := by decide +kernel
theorem dX4_asNow_33 : decode cX4_asNow 33 = .ok (.aload_n 0, 1) := by decide +kernel
theorem dX4_asNow_34 : decode cX4_asNow 34 = .ok (.getfield 13, 3) := by decide +kernel
theorem dX4_asNow_37 : decode cX4_asNow 37 = .ok (.iload_n 1, 1) := by decide +kernel
theorem dX4_asNow_38 : decode cX4_asNow 38 = .ok (.iaload, 1) := by decide +kernel
theorem dX4_asNow_39 : decode cX4_asNow 39 = .ok (.iastore, 1) := by decide +kernel
theorem dX4_asNow_40 : decode cX4_asNow 40 = .ok (.iinc 1 1, 3) := by decide +kernel
theorem dX4_asNow_43 : decode cX4_asNow 43 = .ok (.goto (-33), 3) := by decide +kernel
theorem dX4_asNow_46 : decode cX4_asNow 46 = .ok (.iconst 0, 1) := by decide +kernel
theorem dX4_asNow_47 : decode cX4_asNow 47 = .ok (.istore_n 1, 1) := by decide +kernel
theorem dX4_asNow_48 : decode cX4_asNow 48 = .ok (.iload_n 1, 1) := by decide +kernel
theorem dX4_asNow_49 : decode cX4_asNow 49 = .ok (.bipush 90, 2) := by decide +kernel
theorem dX4_asNow_51 : decode cX4_asNow 51 = .ok (.if_icmp .ge 21, 3) := by decide +kernel
theorem dX4_asNow_54 : decode cX4_asNow 54 = .ok (.aload_n 0, 1) := by decide +kernel
theorem dX4_asNow_55 : decode cX4_asNow 55 = .ok (.getfield 31, 3) := by decide +kernel
theorem dX4_asNow_58 : decode cX4_asNow 58 = .ok (.iload_n 1, 1) := by decide +kernel
theorem dX4_asNow_59 : decode cX4_asNow 59 = .ok (.aload_n 0, 1) := by decide +kernel
theorem dX4_asNow_60 : decode cX4_asNow 60 = .ok (.getfield 16, 3) := by decide +kernel
theorem dX4_asNow_63 : decode cX4_asNow 63 = .ok (.iload_n 1, 1) := by decide +kernel
theorem dX4_asNow_64 : decode cX4_asNow 64 = .ok (.iaload, 1) := by decide +kernel
theorem dX4_asNow_65 : decode cX4_asNow 65 = .ok (.iastore, 1) := by decide +kernel
theorem dX4_asNow_66 : decode cX4_asNow 66 = .ok (.iinc 1 1, 3) := by decide +kernel
theorem dX4_asNow_69 : decode cX4_asNow 69 = .ok (.goto (-21), 3) := by decide +kernel
theorem dX4_asNow_72 : decode cX4_asNow 72 = .ok (.return_, 1) := by decide +kernel
theorem dX4_keepNow_0 : decode cX4_keepNow 0 = .ok (.aload_n 0, 1) := by decide +kernel
theorem dX4_keepNow_1 : decode cX4_keepNow 1 = .ok (.aload_n 0, 1) := by decide +kernel
theorem dX4_keepNow_2 : decode cX4_keepNow 2 = .ok (.getfield 76, 3) := by decide +kernel
theorem dX4_keepNow_5 : decode cX4_keepNow 5 = .ok (.putfield 73, 3) := by decide +kernel
theorem dX4_keepNow_8 : decode cX4_keepNow 8 = .ok (.iconst 0, 1) := by decide +kernel
theorem dX4_keepNow_9 : decode cX4_keepNow 9 = .ok (.istore_n 1, 1) := by decide +kernel
theorem dX4_keepNow_10 : decode cX4_keepNow 10 = .ok (.iload_n 1, 1) := by decide +kernel
theorem dX4_keepNow_11 : decode cX4_keepNow 11 = .ok (.bipush 6, 2) := by decide +kernel
theorem dX4_keepNow_13 : decode cX4_keepNow 13 = .ok (.if_icmp .ge 33, 3) := by decide +kernel
theorem dX4_keepNow_16 : decode cX4_keepNow 16 = .ok (.aload_n 0, 1) := by decide +kernel
theorem dX4_keepNow_17 : decode cX4_keepNow 17 = .ok (.getfield 7, 3) := by decide +kernel
theorem dX4_keepNow_20 : decode cX4_keepNow 20 = .ok (.iload_n 1, 1) := by decide +kernel
theorem dX4_keepNow_21 : decode cX4_keepNow 21 = .ok (.aload_n 0, 1) := by decide +kernel
theorem dX4_keepNow_22 : decode cX4_keepNow 22 = .ok (.getfield 25, 3) := by decide +kernel
theorem dX4_keepNow_25 : decode cX4_keepNow 25 = .ok (.iload_n 1, 1) := by decide +kernel
theorem dX4_keepNow_26 : decode cX4_keepNow 26 = .ok (.iaload, 1) := by decide +kernel
theorem dX4_keepNow_27 : decode cX4_keepNow 27 = .ok (.iastore, 1) := by decide +kernel
theorem dX4_keepNow_28 : decode cX4_keepNow 28 = .ok (.aload_n 0, 1) := by decide +kernel
theorem dX4_keepNow_29 : decode cX4_keepNow 29 = .ok (.getfield 13, 3) := by decide +kernel
theorem dX4_keepNow_32 : decode cX4_keepNow 32 = .ok (.iload_n 1, 1) := by decide +kernel
theorem dX4_keepNow_33 : decode cX4_keepNow 33 = .ok (.aload_n 0, 1) := by decide +kernel
theorem dX4_keepNow_34 : decode cX4_keepNow 34 = .ok (.getfield 28, 3) := by decide +kernel
theorem dX4_keepNow_37 : decode cX4_keepNow 37 = .ok (.iload_n 1, 1) := by decide +kernel
theorem dX4_keepNow_38 : decode cX4_keepNow 38 = .ok (.iaload, 1) := by decide +kernel
theorem dX4_keepNow_39 : decode cX4_keepNow 39 = .ok (.iastore, 1) := by decide +kernel
theorem dX4_keepNow_40 : decode cX4_keepNow 40 = .ok (.iinc 1 1, 3) := by decide +kernel
theorem dX4_keepNow_43 : decode cX4_keepNow 43 = .ok (.goto (-33), 3) := by decide +kernel
theorem dX4_keepNow_46 : decode cX4_keepNow 46 = .ok (.iconst 0, 1) := by decide +kernel
theorem dX4_keepNow_47 : decode cX4_keepNow 47 = .ok (.istore_n 1, 1) := by decide +kernel
theorem dX4_keepNow_48 : decode cX4_keepNow 48 = .ok (.iload_n 1, 1) := by decide +kernel
theorem dX4_keepNow_49 : decode cX4_keepNow 49 = .ok (.bipush 90, 2) := by decide +kernel
theorem dX4_keepNow_51 : decode cX4_keepNow 51 = .ok (.if_icmp .ge 21, 3) := by decide +kernel
theorem dX4_keepNow_54 : decode cX4_keepNow 54 = .ok (.aload_n 0, 1) := by decide +kernel
theorem dX4_keepNow_55 : decode cX4_keepNow 55 = .ok (.getfield 16, 3) := by decide +kernel
theorem dX4_keepNow_58 : decode cX4_keepNow 58 = .ok (.iload_n 1, 1) := by decide +kernel
theorem dX4_keepNow_59 : decode cX4_keepNow 59 = .ok (.aload_n 0, 1) := by decide +kernel
theorem dX4_keepNow_60 : decode cX4_keepNow 60 = .ok (.getfield 31, 3) := by decide +kernel
theorem dX4_keepNow_63 : decode cX4_keepNow 63 = .ok (.iload_n 1, 1) := by decide +kernel
theorem dX4_keepNow_64 : decode cX4_keepNow 64 = .ok (.iaload, 1) := by decide +kernel
theorem dX4_keepNow_65 : decode cX4_keepNow 65 = .ok (.iastore, 1) := by decide +kernel
theorem dX4_keepNow_66 : decode cX4_keepNow 66 = .ok (.iinc 1 1, 3) := by decide +kernel
theorem dX4_keepNow_69 : decode cX4_keepNow 69 = .ok (.goto (-21), 3) := by decide +kernel
theorem dX4_keepNow_72 : decode cX4_keepNow 72 = .ok (.return_, 1) := by decide +kernel
set_option maxRecDepth 20000 in
theorem ggX4_dueNow_X4_at : GoodIn wsX4_dueNow wsX4_at := goodIn_r _ [7] (by decide +kernel) (by decide +kernel)
set_option maxRecDepth 20000 in
theorem gX4_dueNow_X4_at : GoodIn wsX4_dueNow (va_wsS RX4 79 yX4_at wsX4_at) := goodIn_app (goodIn_of _ (by decide +kernel)) ggX4_dueNow_X4_at
theorem dX4_dueNow_0 : decode cX4_dueNow 0 = .ok (.aload_n 0, 1) := by decide +kernel
theorem dX4_dueNow_1 : decode cX4_dueNow 1 = .ok (.getfield 28, 3) := by decide +kernel
theorem dX4_dueNow_4 : decode cX4_dueNow 4 = .ok (.iload_n 1, 1) := by decide +kernel
theorem dX4_dueNow_5 : decode cX4_dueNow 5 = .ok (.iaload, 1) := by decide +kernel
theorem dX4_dueNow_6 : decode cX4_dueNow 6 = .ok (.istore_n 2, 1) := by decide +kernel
theorem dX4_dueNow_7 : decode cX4_dueNow 7 = .ok (.iload_n 2, 1) := by decide +kernel
theorem dX4_dueNow_8 : decode cX4_dueNow 8 = .ok (.ifCond .eq 11, 3) := by decide +kernel
theorem dX4_dueNow_11 : decode cX4_dueNow 11 = .ok (.aload_n 0, 1) := by decide +kernel
theorem dX4_dueNow_12 : decode cX4_dueNow 12 = .ok (.getfield 59, 3) := by decide +kernel
theorem dX4_dueNow_15 : decode cX4_dueNow 15 = .ok (.iconst 1, 1) := by decide +kernel
theorem dX4_dueNow_16 : decode cX4_dueNow 16 = .ok (.if_icmp .ne 14, 3) := by decide +kernel
theorem dX4_dueNow_19 : decode cX4_dueNow 19 = .ok (.iload_n 2, 1) := by decide +kernel
theorem dX4_dueNow_20 : decode cX4_dueNow 20 = .ok (.ifCond .ne 8, 3) := by decide +kernel
theorem dX4_dueNow_23 : decode cX4_dueNow 23 = .ok (.bipush (-6), 2) := by decide +kernel
theorem dX4_dueNow_25 : decode cX4_dueNow 25 = .ok (.goto 4, 3) := by decide +kernel
theorem dX4_dueNow_28 : decode cX4_dueNow 28 = .ok (.iconst 0, 1) := by decide +kernel
theorem dX4_dueNow_29 : decode cX4_dueNow 29 = .ok (.ireturn, 1) := by decide +kernel
theorem dX4_dueNow_30 : decode cX4_dueNow 30 = .ok (.iload_n 2, 1) := by decide +kernel
theorem dX4_dueNow_31 : decode cX4_dueNow 31 = .ok (.iconst 1, 1) := by decide +kernel
theorem dX4_dueNow_32 : decode cX4_dueNow 32 = .ok (.isub, 1) := by decide +kernel
theorem dX4_dueNow_33 : decode cX4_dueNow 33 = .ok (.istore_n 3, 1) := by decide +kernel
theorem dX4_dueNow_34 : decode cX4_dueNow 34 = .ok (.iload_n 2, 1) := by decide +kernel
theorem dX4_dueNow_35 : decode cX4_dueNow 35 = .ok (.iconst 2, 1) := by decide +kernel
theorem dX4_dueNow_36 : decode cX4_dueNow 36 = .ok (.isub, 1) := by decide +kernel
theorem dX4_dueNow_37 : decode cX4_dueNow 37 = .ok (.istore 4, 2) := by decide +kernel
theorem dX4_dueNow_39 : decode cX4_dueNow 39 = .ok (.iload 4, 2) := by decide +kernel
theorem dX4_dueNow_41 : decode cX4_dueNow 41 = .ok (.ifCond .lt 52, 3) := by decide +kernel
theorem dX4_dueNow_44 : decode cX4_dueNow 44 = .ok (.aload_n 0, 1) := by decide +kernel
theorem dX4_dueNow_45 : decode cX4_dueNow 45 = .ok (.getfield 59, 3) := by decide +kernel
theorem dX4_dueNow_48 : decode cX4_dueNow 48 = .ok (.iconst 2, 1) := by decide +kernel
theorem dX4_dueNow_49 : decode cX4_dueNow 49 = .ok (.if_icmp .ne 44, 3) := by decide +kernel
theorem dX4_dueNow_52 : decode cX4_dueNow 52 = .ok (.aload_n 0, 1) := by decide +kernel
theorem dX4_dueNow_53 : decode cX4_dueNow 53 = .ok (.getfield 31, 3) := by decide +kernel
theorem dX4_dueNow_56 : decode cX4_dueNow 56 = .ok (.iload_n 1, 1) := by decide +kernel
theorem dX4_dueNow_57 : decode cX4_dueNow 57 = .ok (.iload 4, 2) := by decide +kernel
theorem dX4_dueNow_59 : decode cX4_dueNow 59 = .ok (.invokestatic 79, 3) := by decide +kernel
theorem dX4_dueNow_62 : decode cX4_dueNow 62 = .ok (.iconst 1, 1) := by decide +kernel
theorem dX4_dueNow_63 : decode cX4_dueNow 63 = .ok (.iadd, 1) := by decide +kernel
theorem dX4_dueNow_64 : decode cX4_dueNow 64 = .ok (.iaload, 1) := by decide +kernel
theorem dX4_dueNow_65 : decode cX4_dueNow 65 = .ok (.aload_n 0, 1) := by decide +kernel
theorem dX4_dueNow_66 : decode cX4_dueNow 66 = .ok (.getfield 31, 3) := by decide +kernel
theorem dX4_dueNow_69 : decode cX4_dueNow 69 = .ok (.iload_n 1, 1) := by decide +kernel
theorem dX4_dueNow_70 : decode cX4_dueNow 70 = .ok (.iload_n 3, 1) := by decide +kernel
theorem dX4_dueNow_71 : decode cX4_dueNow 71 = .ok (.invokestatic 79, 3) := by decide +kernel
theorem dX4_dueNow_74 : decode cX4_dueNow 74 = .ok (.iconst 1, 1) := by decide +kernel
theorem dX4_dueNow_75 : decode cX4_dueNow 75 = .ok (.iadd, 1) := by decide +kernel
theorem dX4_dueNow_76 : decode cX4_dueNow 76 = .ok (.iaload, 1) := by decide +kernel
theorem dX4_dueNow_77 : decode cX4_dueNow 77 = .ok (.if_icmp .le 8, 3) := by decide +kernel
theorem dX4_dueNow_80 : decode cX4_dueNow 80 = .ok (.iload 4, 2) := by decide +kernel
theorem dX4_dueNow_82 : decode cX4_dueNow 82 = .ok (.goto 4, 3) := by decide +kernel
theorem dX4_dueNow_85 : decode cX4_dueNow 85 = .ok (.iload_n 3, 1) := by decide +kernel
theorem dX4_dueNow_86 : decode cX4_dueNow 86 = .ok (.istore_n 3, 1) := by decide +kernel
theorem dX4_dueNow_87 : decode cX4_dueNow 87 = .ok (.iinc 4 (-1), 3) := by decide +kernel
theorem dX4_dueNow_90 : decode cX4_dueNow 90 = .ok (.goto (-51), 3) := by decide +kernel
theorem dX4_dueNow_93 : decode cX4_dueNow 93 = .ok (.iload_n 3, 1) := by decide +kernel
theorem dX4_dueNow_94 : decode cX4_dueNow 94 = .ok (.ireturn, 1) := by decide +kernel
set_option maxRecDepth 20000 in
theorem ggX4_takeOut_X4_at : GoodIn wsX4_takeOut wsX4_at := goodIn_r _ [6] (by decide +kernel) (by decide +kernel)
set_option maxRecDepth 20000 in
theorem gX4_takeOut_X4_at : GoodIn wsX4_takeOut (va_wsS RX4 79 yX4_at wsX4_at) := goodIn_app (goodIn_of _ (by decide +kernel)) ggX4_takeOut_X4_at
theorem dX4_takeOut_0 : decode cX4_takeOut 0 = .ok (.iload_n 1, 1) := by decide +kernel
theorem dX4_takeOut_1 : decode cX4_takeOut 1 = .ok (.iload_n 2, 1) := by decide +kernel
theorem dX4_takeOut_2 : decode cX4_takeOut 2 = .ok (.invokestatic 79, 3) := by decide +kernel
theorem dX4_takeOut_5 : decode cX4_takeOut 5 = .ok (.istore_n 3, 1) := by decide +kernel
theorem dX4_takeOut_6 : decode cX4_takeOut 6 = .ok (.iload_n 3, 1) := by decide +kernel
theorem dX4_takeOut_7 : decode cX4_takeOut 7 = .ok (.iload_n 1, 1) := by decide +kernel
theorem dX4_takeOut_8 : decode cX4_takeOut 8 = .ok (.aload_n 0, 1) := by decide +kernel
theorem dX4_takeOut_9 : decode cX4_takeOut 9 = .ok (.getfield 28, 3) := by decide +kernel
theorem dX4_takeOut_12 : decode cX4_takeOut 12 = .ok (.iload_n 1, 1) := by decide +kernel
theorem dX4_takeOut_13 : decode cX4_takeOut 13 = .ok (.iaload, 1) := by decide +kernel
theorem dX4_takeOut_14 : decode cX4_takeOut 14 = .ok (.iconst 1, 1) := by decide +kernel
theorem dX4_takeOut_15 : decode cX4_takeOut 15 = .ok (.isub, 1) := by decide +kernel
theorem dX4_takeOut_16 : decode cX4_takeOut 16 = .ok (.invokestatic 79, 3) := by decide +kernel
theorem dX4_takeOut_19 : decode cX4_takeOut 19 = .ok (.if_icmp .ge 23, 3) := by decide +kernel
theorem dX4_takeOut_22 : decode cX4_takeOut 22 = .ok (.aload_n 0, 1) := by decide +kernel
theorem dX4_takeOut_23 : decode cX4_takeOut 23 = .ok (.getfield 31, 3) := by decide +kernel
theorem dX4_takeOut_26 : decode cX4_takeOut 26 = .ok (.iload_n 3, 1) := by decide +kernel
theorem dX4_takeOut_27 : decode cX4_takeOut 27 = .ok (.aload_n 0, 1) := by decide +kernel
theorem dX4_takeOut_28 : decode cX4_takeOut 28 = .ok (.getfield 31, 3) := by decide +kernel
theorem dX4_takeOut_31 : decode cX4_takeOut 31 = .ok (.iload_n 3, 1) := by decide +kernel
theorem dX4_takeOut_32 : decode cX4_takeOut 32 = .ok (.iconst 3, 1) := by decide +kernel
theorem dX4_takeOut_33 : decode cX4_takeOut 33 = .ok (.iadd, 1) := by decide +kernel
theorem dX4_takeOut_34 : decode cX4_takeOut 34 = .ok (.iaload, 1) := by decide +kernel
theorem dX4_takeOut_35 : decode cX4_takeOut 35 = .ok (.iastore, 1) := by decide +kernel
theorem dX4_takeOut_36 : decode cX4_takeOut 36 = .ok (.iinc 3 1, 3) := by decide +kernel
theorem dX4_takeOut_39 : decode cX4_takeOut 39 = .ok (.goto (-33), 3) := by decide +kernel
theorem dX4_takeOut_42 : decode cX4_takeOut 42 = .ok (.aload_n 0, 1) := by decide +kernel
theorem dX4_takeOut_43 : decode cX4_takeOut 43 = .ok (.getfield 28, 3) := by decide +kernel
theorem dX4_takeOut_46 : decode cX4_takeOut 46 = .ok (.iload_n 1, 1) := by decide +kernel
theorem dX4_takeOut_47 : decode cX4_takeOut 47 = .ok (.dup2, 1) := by decide +kernel
theorem dX4_takeOut_48 : decode cX4_takeOut 48 = .ok (.iaload, 1) := by decide +kernel
theorem dX4_takeOut_49 : decode cX4_takeOut 49 = .ok (.iconst 1, 1) := by decide +kernel
theorem dX4_takeOut_50 : decode cX4_takeOut 50 = .ok (.isub, 1) := by decide +kernel
theorem dX4_takeOut_51 : decode cX4_takeOut 51 = .ok (.iastore, 1) := by decide +kernel
theorem dX4_takeOut_52 : decode cX4_takeOut 52 = .ok (.return_, 1) := by decide +kernel
set_option maxRecDepth 20000 in
theorem ggX4_penceDue_X4_dueNow : GoodIn wsX4_penceDue wsX4_dueNow := goodIn_r _ [6, 7, 8, 1, 9, 10, 5, 11, 12, 13, 14, 15, 16, 17, 18, 19, 20, 21, 22, 23, 24, 25, 26, 27, 28, 29, 30, 31, 32] (by decide +kernel) (by decide +kernel)
set_option maxRecDepth 20000 in
theorem gX4_penceDue_X4_dueNow : GoodIn wsX4_penceDue (wsV RX4 83 RX4 yX4_dueNow wsX4_dueNow) := goodIn_app (goodIn_of _ (by decide +kernel)) ggX4_penceDue_X4_dueNow
set_option maxRecDepth 20000 in
theorem ggX4_penceDue_X4_at : GoodIn wsX4_penceDue wsX4_at := goodIn_r _ [11] (by decide +kernel) (by decide +kernel)
set_option maxRecDepth 20000 in
theorem gX4_penceDue_X4_at : GoodIn wsX4_penceDue (va_wsS RX4 79 yX4_at wsX4_at) := goodIn_app (goodIn_of _ (by decide +kernel)) ggX4_penceDue_X4_at
theorem dX4_penceDue_0 : decode cX4_penceDue 0 = .ok (.aload_n 0, 1) := by decide +kernel
theorem dX4_penceDue_1 : decode cX4_penceDue 1 = .ok (.iload_n 1, 1) := by decide +kernel
theorem dX4_penceDue_2 : decode cX4_penceDue 2 = .ok (.invokevirtual 83, 3) := by decide +kernel
theorem dX4_penceDue_5 : decode cX4_penceDue 5 = .ok (.istore_n 2, 1) := by decide +kernel
theorem dX4_penceDue_6 : decode cX4_penceDue 6 = .ok (.iload_n 2, 1) := by decide +kernel
theorem dX4_penceDue_7 : decode cX4_penceDue 7 = .ok (.ifCond .ge 8, 3) := by decide +kernel
theorem dX4_penceDue_10 : decode cX4_penceDue 10 = .ok (.bipush (-6), 2) := by decide +kernel
theorem dX4_penceDue_12 : decode cX4_penceDue 12 = .ok (.goto 15, 3) := by decide +kernel
theorem dX4_penceDue_15 : decode cX4_penceDue 15 = .ok (.aload_n 0, 1) := by decide +kernel
theorem dX4_penceDue_16 : decode cX4_penceDue 16 = .ok (.getfield 31, 3) := by decide +kernel
theorem dX4_penceDue_19 : decode cX4_penceDue 19 = .ok (.iload_n 1, 1) := by decide +kernel
theorem dX4_penceDue_20 : decode cX4_penceDue 20 = .ok (.iload_n 2, 1) := by decide +kernel
theorem dX4_penceDue_21 : decode cX4_penceDue 21 = .ok (.invokestatic 79, 3) := by decide +kernel
theorem dX4_penceDue_24 : decode cX4_penceDue 24 = .ok (.iconst 1, 1) := by decide +kernel
theorem dX4_penceDue_25 : decode cX4_penceDue 25 = .ok (.iadd, 1) := by decide +kernel
theorem dX4_penceDue_26 : decode cX4_penceDue 26 = .ok (.iaload, 1) := by decide +kernel
theorem dX4_penceDue_27 : decode cX4_penceDue 27 = .ok (.ireturn, 1) := by decide +kernel
set_option maxRecDepth 20000 in
theorem ggX4_canPay_X4_penceDue : GoodIn wsX4_canPay wsX4_penceDue := goodIn_r _ [6, 7, 8, 9, 10, 5, 11, 12, 13, 14, 15, 16, 17, 18, 19, 20, 21, 22, 23, 24, 25, 26, 27, 28, 29, 30, 31, 32, 33, 34, 35, 36, 37] (by decide +kernel) (by decide +kernel)
set_option maxRecDepth 20000 in
theorem gX4_canPay_X4_penceDue : GoodIn wsX4_canPay (wsV RX4 87 RX4 yX4_penceDue wsX4_penceDue) := goodIn_app (goodIn_of _ (by decide +kernel)) ggX4_canPay_X4_penceDue
theorem dX4_canPay_0 : decode cX4_canPay 0 = .ok (.aload_n 0, 1) := by decide +kernel
theorem dX4_canPay_1 : decode cX4_canPay 1 = .ok (.iload_n 1, 1) := by decide +kernel
theorem dX4_canPay_2 : decode cX4_canPay 2 = .ok (.invokevirtual 87, 3) := by decide +kernel
theorem dX4_canPay_5 : decode cX4_canPay 5 = .ok (.istore_n 2, 1) := by decide +kernel
theorem dX4_canPay_6 : decode cX4_canPay 6 = .ok (.iload_n 2, 1) := by decide +kernel
theorem dX4_canPay_7 : decode cX4_canPay 7 = .ok (.ifCond .lt 17, 3) := by decide +kernel
theorem dX4_canPay_10 : decode cX4_canPay 10 = .ok (.aload_n 0, 1) := by decide +kernel
theorem dX4_canPay_11 : decode cX4_canPay 11 = .ok (.getfield 25, 3) := by decide +kernel
theorem dX4_canPay_14 : decode cX4_canPay 14 = .ok (.iload_n 1, 1) := by decide +kernel
theorem dX4_canPay_15 : decode cX4_canPay 15 = .ok (.iaload, 1) := by decide +kernel
theorem dX4_canPay_16 : decode cX4_canPay 16 = .ok (.iload_n 2, 1) := by decide +kernel
theorem dX4_canPay_17 : decode cX4_canPay 17 = .ok (.if_icmp .lt 7, 3) := by decide +kernel
theorem dX4_canPay_20 : decode cX4_canPay 20 = .ok (.iconst 1, 1) := by decide +kernel
theorem dX4_canPay_21 : decode cX4_canPay 21 = .ok (.goto 4, 3) := by decide +kernel
theorem dX4_canPay_24 : decode cX4_canPay 24 = .ok (.iconst 0, 1) := by decide +kernel
theorem dX4_canPay_25 : decode cX4_canPay 25 = .ok (.ireturn, 1) := by decide +kernel
set_option maxRecDepth 20000 in
theorem ggX4_pay_X4_dueNow : GoodIn wsX4_pay wsX4_dueNow := goodIn_r _ [7, 8, 9, 2, 10, 11, 6, 12, 17, 18, 19, 20, 21, 22, 23, 24, 25, 26, 27, 28, 29, 30, 31, 32, 33, 34, 35, 36, 37] (by decide +kernel) (by decide +kernel)
set_option maxRecDepth 20000 in
theorem gX4_pay_X4_dueNow : GoodIn wsX4_pay (wsV RX4 83 RX4 yX4_dueNow wsX4_dueNow) := goodIn_app (goodIn_of _ (by decide +kernel)) ggX4_pay_X4_dueNow
set_option maxRecDepth 20000 in
theorem ggX4_pay_X4_at : GoodIn wsX4_pay wsX4_at := goodIn_r _ [12] (by decide +kernel) (by decide +kernel)
set_option maxRecDepth 20000 in
theorem gX4_pay_X4_at : GoodIn wsX4_pay (va_wsS RX4 79 yX4_at wsX4_at) := goodIn_app (goodIn_of _ (by decide +kernel)) ggX4_pay_X4_at
set_option maxRecDepth 20000 in
theorem ggX4_pay_X4_takeOut : GoodIn wsX4_pay wsX4_takeOut := goodIn_r _ [16, 8, 2, 10, 11, 6, 12, 17, 18, 19, 20, 21, 22, 23, 24, 25, 26, 27, 28, 29, 30, 31, 32, 33, 34, 35, 36, 37] (by decide +kernel) (by decide +kernel)
set_option maxRecDepth 20000 in
theorem gX4_pay_X4_takeOut : GoodIn wsX4_pay (wsV RX4 90 RX4 yX4_takeOut wsX4_takeOut) := goodIn_app (goodIn_of _ (by decide +kernel)) ggX4_pay_X4_takeOut
theorem dX4_pay_0 : decode cX4_pay 0 = .ok (.aload_n 0, 1) := by decide +kernel
theorem dX4_pay_1 : decode cX4_pay 1 = .ok (.iload_n 1, 1) := by decide +kernel
theorem dX4_pay_2 : decode cX4_pay 2 = .ok (.invokevirtual 83, 3) := by decide +kernel
theorem dX4_pay_5 : decode cX4_pay 5 = .ok (.istore_n 2, 1) := by decide +kernel
theorem dX4_pay_6 : decode cX4_pay 6 = .ok (.iload_n 1, 1) := by decide +kernel
theorem dX4_pay_7 : decode cX4_pay 7 = .ok (.iload_n 2, 1) := by decide +kernel
theorem dX4_pay_8 : decode cX4_pay 8 = .ok (.invokestatic 79, 3) := by decide +kernel
theorem dX4_pay_11 : decode cX4_pay 11 = .ok (.istore_n 3, 1) := by decide +kernel
theorem dX4_pay_12 : decode cX4_pay 12 = .ok (.aload_n 0, 1) := by decide +kernel
theorem dX4_pay_13 : decode cX4_pay 13 = .ok (.getfield 25, 3) := by decide +kernel
theorem dX4_pay_16 : decode cX4_pay 16 = .ok (.iload_n 1, 1) := by decide +kernel
theorem dX4_pay_17 : decode cX4_pay 17 = .ok (.dup2, 1) := by decide +kernel
theorem dX4_pay_18 : decode cX4_pay 18 = .ok (.iaload, 1) := by decide +kernel
theorem dX4_pay_19 : decode cX4_pay 19 = .ok (.aload_n 0, 1) := by decide +kernel
theorem dX4_pay_20 : decode cX4_pay 20 = .ok (.getfield 31, 3) := by decide +kernel
theorem dX4_pay_23 : decode cX4_pay 23 = .ok (.iload_n 3, 1) := by decide +kernel
theorem dX4_pay_24 : decode cX4_pay 24 = .ok (.iconst 1, 1) := by decide +kernel
theorem dX4_pay_25 : decode cX4_pay 25 = .ok (.iadd, 1) := by decide +kernel
theorem dX4_pay_26 : decode cX4_pay 26 = .ok (.iaload, 1) := by decide +kernel
theorem dX4_pay_27 : decode cX4_pay 27 = .ok (.isub, 1) := by decide +kernel
theorem dX4_pay_28 : decode cX4_pay 28 = .ok (.iastore, 1) := by decide +kernel
theorem dX4_pay_29 : decode cX4_pay 29 = .ok (.aload_n 0, 1) := by decide +kernel
theorem dX4_pay_30 : decode cX4_pay 30 = .ok (.getfield 25, 3) := by decide +kernel
theorem dX4_pay_33 : decode cX4_pay 33 = .ok (.aload_n 0, 1) := by decide +kernel
theorem dX4_pay_34 : decode cX4_pay 34 = .ok (.getfield 31, 3) := by decide +kernel
theorem dX4_pay_37 : decode cX4_pay 37 = .ok (.iload_n 3, 1) := by decide +kernel
theorem dX4_pay_38 : decode cX4_pay 38 = .ok (.iaload, 1) := by decide +kernel
theorem dX4_pay_39 : decode cX4_pay 39 = .ok (.dup2, 1) := by decide +kernel
theorem dX4_pay_40 : decode cX4_pay 40 = .ok (.iaload, 1) := by decide +kernel
theorem dX4_pay_41 : decode cX4_pay 41 = .ok (.aload_n 0, 1) := by decide +kernel
theorem dX4_pay_42 : decode cX4_pay 42 = .ok (.getfield 31, 3) := by decide +kernel
theorem dX4_pay_45 : decode cX4_pay 45 = .ok (.iload_n 3, 1) := by decide +kernel
theorem dX4_pay_46 : decode cX4_pay 46 = .ok (.iconst 1, 1) := by decide +kernel
theorem dX4_pay_47 : decode cX4_pay 47 = .ok (.iadd, 1) := by decide +kernel
theorem dX4_pay_48 : decode cX4_pay 48 = .ok (.iaload, 1) := by decide +kernel
theorem dX4_pay_49 : decode cX4_pay 49 = .ok (.iadd, 1) := by decide +kernel
theorem dX4_pay_50 : decode cX4_pay 50 = .ok (.iastore, 1) := by decide +kernel
theorem dX4_pay_51 : decode cX4_pay 51 = .ok (.aload_n 0, 1) := by decide +kernel
theorem dX4_pay_52 : decode cX4_pay 52 = .ok (.iload_n 1, 1) := by decide +kernel
theorem dX4_pay_53 : decode cX4_pay 53 = .ok (.iload_n 2, 1) := by decide +kernel
theorem dX4_pay_54 : decode cX4_pay 54 = .ok (.invokevirtual 90, 3) := by decide +kernel
theorem dX4_pay_57 : decode cX4_pay 57 = .ok (.return_, 1) := by decide +kernel
set_option maxRecDepth 20000 in
theorem ggX4_pass_X4_at : GoodIn wsX4_pass wsX4_at := goodIn_r _ [8] (by decide +kernel) (by decide +kernel)
set_option maxRecDepth 20000 in
theorem gX4_pass_X4_at : GoodIn wsX4_pass (va_wsS RX4 79 yX4_at wsX4_at) := goodIn_app (goodIn_of _ (by decide +kernel)) ggX4_pass_X4_at
theorem dX4_pass_0 : decode cX4_pass 0 = .ok (.aload_n 0, 1) := by decide +kernel
theorem dX4_pass_1 : decode cX4_pass 1 = .ok (.dup, 1) := by decide +kernel
theorem dX4_pass_2 : decode cX4_pass 2 = .ok (.getfield 76, 3) := by decide +kernel
theorem dX4_pass_5 : decode cX4_pass 5 = .ok (.iconst 1, 1) := by decide +kernel
theorem dX4_pass_6 : decode cX4_pass 6 = .ok (.iadd, 1) := by decide +kernel
theorem dX4_pass_7 : decode cX4_pass 7 = .ok (.putfield 76, 3) := by decide +kernel
theorem dX4_pass_10 : decode cX4_pass 10 = .ok (.iconst 0, 1) := by decide +kernel
theorem dX4_pass_11 : decode cX4_pass 11 = .ok (.istore_n 1, 1) := by decide +kernel
theorem dX4_pass_12 : decode cX4_pass 12 = .ok (.iload_n 1, 1) := by decide +kernel
theorem dX4_pass_13 : decode cX4_pass 13 = .ok (.bipush 6, 2) := by decide +kernel
theorem dX4_pass_15 : decode cX4_pass 15 = .ok (.if_icmp .ge 75, 3) := by decide +kernel
theorem dX4_pass_18 : decode cX4_pass 18 = .ok (.iconst 0, 1) := by decide +kernel
theorem dX4_pass_19 : decode cX4_pass 19 = .ok (.istore_n 2, 1) := by decide +kernel
theorem dX4_pass_20 : decode cX4_pass 20 = .ok (.iload_n 2, 1) := by decide +kernel
theorem dX4_pass_21 : decode cX4_pass 21 = .ok (.aload_n 0, 1) := by decide +kernel
theorem dX4_pass_22 : decode cX4_pass 22 = .ok (.getfield 28, 3) := by decide +kernel
theorem dX4_pass_25 : decode cX4_pass 25 = .ok (.iload_n 1, 1) := by decide +kernel
theorem dX4_pass_26 : decode cX4_pass 26 = .ok (.iaload, 1) := by decide +kernel
theorem dX4_pass_27 : decode cX4_pass 27 = .ok (.if_icmp .ge 57, 3) := by decide +kernel
theorem dX4_pass_30 : decode cX4_pass 30 = .ok (.iload_n 1, 1) := by decide +kernel
theorem dX4_pass_31 : decode cX4_pass 31 = .ok (.iload_n 2, 1) := by decide +kernel
theorem dX4_pass_32 : decode cX4_pass 32 = .ok (.invokestatic 79, 3) := by decide +kernel
theorem dX4_pass_35 : decode cX4_pass 35 = .ok (.iconst 1, 1) := by decide +kernel
theorem dX4_pass_36 : decode cX4_pass 36 = .ok (.iadd, 1) := by decide +kernel
theorem dX4_pass_37 : decode cX4_pass 37 = .ok (.istore_n 3, 1) := by decide +kernel
theorem dX4_pass_38 : decode cX4_pass 38 = .ok (.aload_n 0, 1) := by decide +kernel
theorem dX4_pass_39 : decode cX4_pass 39 = .ok (.getfield 31, 3) := by decide +kernel
theorem dX4_pass_42 : decode cX4_pass 42 = .ok (.iload_n 3, 1) := by decide +kernel
theorem dX4_pass_43 : decode cX4_pass 43 = .ok (.aload_n 0, 1) := by decide +kernel
theorem dX4_pass_44 : decode cX4_pass 44 = .ok (.getfield 31, 3) := by decide +kernel
theorem dX4_pass_47 : decode cX4_pass 47 = .ok (.iload_n 3, 1) := by decide +kernel
theorem dX4_pass_48 : decode cX4_pass 48 = .ok (.iaload, 1) := by decide +kernel
theorem dX4_pass_49 : decode cX4_pass 49 = .ok (.aload_n 0, 1) := by decide +kernel
theorem dX4_pass_50 : decode cX4_pass 50 = .ok (.getfield 63, 3) := by decide +kernel
theorem dX4_pass_53 : decode cX4_pass 53 = .ok (.iadd, 1) := by decide +kernel
theorem dX4_pass_54 : decode cX4_pass 54 = .ok (.sipush 9999, 3) := by decide +kernel
theorem dX4_pass_57 : decode cX4_pass 57 = .ok (.if_icmp .le 9, 3) := by decide +kernel
theorem dX4_pass_60 : decode cX4_pass 60 = .ok (.sipush 9999, 3) := by decide +kernel
theorem dX4_pass_63 : decode cX4_pass 63 = .ok (.goto 14, 3) := by decide +kernel
theorem dX4_pass_66 : decode cX4_pass 66 = .ok (.aload_n 0, 1) := by decide +kernel
theorem dX4_pass_67 : decode cX4_pass 67 = .ok (.getfield 31, 3) := by decide +kernel
theorem dX4_pass_70 : decode cX4_pass 70 = .ok (.iload_n 3, 1) := by decide +kernel
theorem dX4_pass_71 : decode cX4_pass 71 = .ok (.iaload, 1) := by decide +kernel
theorem dX4_pass_72 : decode cX4_pass 72 = .ok (.aload_n 0, 1) := by decide +kernel
theorem dX4_pass_73 : decode cX4_pass 73 = .ok (.getfield 63, 3) := by decide +kernel
theorem dX4_pass_76 : decode cX4_pass 76 = .ok (.iadd, 1) := by decide +kernel
theorem dX4_pass_77 : decode cX4_pass 77 = .ok (.iastore, 1) := by decide +kernel
theorem dX4_pass_78 : decode cX4_pass 78 = .ok (.iinc 2 1, 3) := by decide +kernel
theorem dX4_pass_81 : decode cX4_pass 81 = .ok (.goto (-61), 3) := by decide +kernel
theorem dX4_pass_84 : decode cX4_pass 84 = .ok (.iinc 1 1, 3) := by decide +kernel
theorem dX4_pass_87 : decode cX4_pass 87 = .ok (.goto (-75), 3) := by decide +kernel
theorem dX4_pass_90 : decode cX4_pass 90 = .ok (.return_, 1) := by decide +kernel
set_option maxRecDepth 20000 in
theorem ggX4_goText_X4_asNow : GoodIn wsX4_goText wsX4_asNow := goodIn_r _ [13, 14, 8, 5, 15, 6, 16, 7, 17, 54, 55, 56, 57, 58, 59, 60, 61, 62, 63, 64, 65, 66, 67, 68, 69, 70, 71, 72, 73, 74] (by decide +kernel) (by decide +kernel)
set_option maxRecDepth 20000 in
theorem gX4_goText_X4_asNow : GoodIn wsX4_goText (wsV RX4 94 RX4 yX4_asNow wsX4_asNow) := goodIn_app (goodIn_of _ (by decide +kernel)) ggX4_goText_X4_asNow
set_option maxRecDepth 20000 in
theorem ggX4_goText_X4_opens : GoodIn wsX4_goText wsX4_opens := goodIn_r _ [21, 3, 4, 54, 55, 56, 57, 58, 59, 60, 61, 62, 63, 64, 65, 66, 67, 68, 69, 70, 71, 72, 73, 74] (by decide +kernel) (by decide +kernel)
set_option maxRecDepth 20000 in
theorem gX4_goText_X4_opens : GoodIn wsX4_goText (wsV RX4 103 RX4 yX4_opens wsX4_opens) := goodIn_app (goodIn_of _ (by decide +kernel)) ggX4_goText_X4_opens
set_option maxRecDepth 20000 in
theorem ggX4_goText_X4_pass : GoodIn wsX4_goText wsX4_pass := goodIn_r _ [25, 8, 6, 7, 26, 27, 28, 12, 29, 54, 55, 56, 57, 58, 59, 60, 61, 62, 63, 64, 65, 66, 67, 68, 69, 70, 71, 72, 73, 74] (by decide +kernel) (by decide +kernel)
set_option maxRecDepth 20000 in
theorem gX4_goText_X4_pass : GoodIn wsX4_goText (wsV RX4 106 RX4 yX4_pass wsX4_pass) := goodIn_app (goodIn_of _ (by decide +kernel)) ggX4_goText_X4_pass
set_option maxRecDepth 20000 in
theorem ggX4_goText_X4_dueNow : GoodIn wsX4_goText wsX4_dueNow := goodIn_r _ [33, 6, 34, 7, 27, 28, 12, 29, 54, 55, 56, 57, 58, 59, 60, 61, 62, 63, 64, 65, 66, 67, 68, 69, 70, 71, 72, 73, 74] (by decide +kernel) (by decide +kernel)
set_option maxRecDepth 20000 in
theorem gX4_goText_X4_dueNow : GoodIn wsX4_goText (wsV RX4 83 RX4 yX4_dueNow wsX4_dueNow) := goodIn_app (goodIn_of _ (by decide +kernel)) ggX4_goText_X4_dueNow
set_option maxRecDepth 20000 in
theorem ggX4_goText_X4_canPay : GoodIn wsX4_goText wsX4_canPay := goodIn_r _ [38, 5, 39, 40, 41, 12, 42, 7, 30, 31, 32, 33, 6, 34, 27, 28, 29, 54, 55, 56, 57, 58, 59, 60, 61, 62, 63, 64, 65, 66, 67, 68, 69, 70, 71, 72, 73, 74] (by decide +kernel) (by decide +kernel)
set_option maxRecDepth 20000 in
theorem gX4_goText_X4_canPay : GoodIn wsX4_goText (wsV RX4 109 RX4 yX4_canPay wsX4_canPay) := goodIn_app (goodIn_of _ (by decide +kernel)) ggX4_goText_X4_canPay
set_option maxRecDepth 20000 in
theorem ggX4_goText_X4_pay : GoodIn wsX4_goText wsX4_pay := goodIn_r _ [46, 5, 7, 30, 31, 32, 12, 33, 6, 34, 27, 28, 29, 47, 48, 49, 50, 54, 55, 56, 57, 58, 59, 60, 61, 62, 63, 64, 65, 66, 67, 68, 69, 70, 71, 72, 73, 74] (by decide +kernel) (by decide +kernel)
set_option maxRecDepth 20000 in
theorem gX4_goText_X4_pay : GoodIn wsX4_goText (wsV RX4 112 RX4 yX4_pay wsX4_pay) := goodIn_app (goodIn_of _ (by decide +kernel)) ggX4_goText_X4_pay
set_option maxRecDepth 20000 in
theorem ggX4_goText_X4_in : GoodIn wsX4_goText wsX4_in := goodIn_r _ [53] (by decide +kernel) (by decide +kernel)
set_option maxRecDepth 20000 in
theorem gX4_goText_X4_in : GoodIn wsX4_goText (va_wsS RX4 51 yX4_in wsX4_in) := goodIn_app (goodIn_of _ (by decide +kernel)) ggX4_goText_X4_in
set_option maxRecDepth 20000 in
theorem ggX4_goText_X4_at : GoodIn wsX4_goText wsX4_at := goodIn_r _ [29] (by decide +kernel) (by decide +kernel)
set_option maxRecDepth 20000 in
theorem gX4_goText_X4_at : GoodIn wsX4_goText (va_wsS RX4 79 yX4_at wsX4_at) := goodIn_app (goodIn_of _ (by decide +kernel)) ggX4_goText_X4_at
theorem dX4_goText_0 : decode cX4_goText 0 = .ok (.aload_n 0, 1) := by decide +kernel
theorem dX4_goText_1 : decode cX4_goText 1 = .ok (.invokevirtual 94, 3) := by decide +kernel
theorem dX4_goText_4 : decode cX4_goText 4 = .ok (.aload_n 0, 1) := by decide +kernel
theorem dX4_goText_5 : decode cX4_goText 5 = .ok (.iconst 0, 1) := by decide +kernel
theorem dX4_goText_6 : decode cX4_goText 6 = .ok (.putfield 97, 3) := by decide +kernel
theorem dX4_goText_9 : decode cX4_goText 9 = .ok (.aload_n 0, 1) := by decide +kernel
theorem dX4_goText_10 : decode cX4_goText 10 = .ok (.iconst 0, 1) := by decide +kernel
theorem dX4_goText_11 : decode cX4_goText 11 = .ok (.putfield 100, 3) := by decide +kernel
theorem dX4_goText_14 : decode cX4_goText 14 = .ok (.iconst 1, 1) := by decide +kernel
theorem dX4_goText_15 : decode cX4_goText 15 = .ok (.istore_n 2, 1) := by decide +kernel
theorem dX4_goText_16 : decode cX4_goText 16 = .ok (.iconst 1, 1) := by decide +kernel
theorem dX4_goText_17 : decode cX4_goText 17 = .ok (.istore_n 3, 1) := by decide +kernel
theorem dX4_goText_18 : decode cX4_goText 18 = .ok (.iload_n 3, 1) := by decide +kernel
theorem dX4_goText_19 : decode cX4_goText 19 = .ok (.aload_n 0, 1) := by decide +kernel
theorem dX4_goText_20 : decode cX4_goText 20 = .ok (.invokevirtual 103, 3) := by decide +kernel
theorem dX4_goText_23 : decode cX4_goText 23 = .ok (.if_icmp .ge 14, 3) := by decide +kernel
theorem dX4_goText_26 : decode cX4_goText 26 = .ok (.iload_n 2, 1) := by decide +kernel
theorem dX4_goText_27 : decode cX4_goText 27 = .ok (.bipush 6, 2) := by decide +kernel
theorem dX4_goText_29 : decode cX4_goText 29 = .ok (.imul, 1) := by decide +kernel
theorem dX4_goText_30 : decode cX4_goText 30 = .ok (.istore_n 2, 1) := by decide +kernel
theorem dX4_goText_31 : decode cX4_goText 31 = .ok (.iinc 3 1, 3) := by decide +kernel
theorem dX4_goText_34 : decode cX4_goText 34 = .ok (.goto (-16), 3) := by decide +kernel
theorem dX4_goText_37 : decode cX4_goText 37 = .ok (.iconst 0, 1) := by decide +kernel
theorem dX4_goText_38 : decode cX4_goText 38 = .ok (.istore_n 3, 1) := by decide +kernel
theorem dX4_goText_39 : decode cX4_goText 39 = .ok (.iload_n 3, 1) := by decide +kernel
theorem dX4_goText_40 : decode cX4_goText 40 = .ok (.aload_n 0, 1) := by decide +kernel
theorem dX4_goText_41 : decode cX4_goText 41 = .ok (.getfield 66, 3) := by decide +kernel
theorem dX4_goText_44 : decode cX4_goText 44 = .ok (.if_icmp .ge 389, 3) := by decide +kernel
theorem dX4_goText_47 : decode cX4_goText 47 = .ok (.aload_n 0, 1) := by decide +kernel
theorem dX4_goText_48 : decode cX4_goText 48 = .ok (.getfield 22, 3) := by decide +kernel
theorem dX4_goText_51 : decode cX4_goText 51 = .ok (.iload_n 3, 1) := by decide +kernel
theorem dX4_goText_52 : decode cX4_goText 52 = .ok (.iaload, 1) := by decide +kernel
theorem dX4_goText_53 : decode cX4_goText 53 = .ok (.bipush 46, 2) := by decide +kernel
theorem dX4_goText_55 : decode cX4_goText 55 = .ok (.if_icmp .ne 13, 3) := by decide +kernel
theorem dX4_goText_58 : decode cX4_goText 58 = .ok (.aload_n 0, 1) := by decide +kernel
theorem dX4_goText_59 : decode cX4_goText 59 = .ok (.invokevirtual 106, 3) := by decide +kernel
theorem dX4_goText_62 : decode cX4_goText 62 = .ok (.iinc 3 1, 3) := by decide +kernel
theorem dX4_goText_65 : decode cX4_goText 65 = .ok (.goto 343, 3) := by decide +kernel
theorem dX4_goText_68 : decode cX4_goText 68 = .ok (.aload_n 0, 1) := by decide +kernel
theorem dX4_goText_69 : decode cX4_goText 69 = .ok (.getfield 22, 3) := by decide +kernel
theorem dX4_goText_72 : decode cX4_goText 72 = .ok (.iload_n 3, 1) := by decide +kernel
theorem dX4_goText_73 : decode cX4_goText 73 = .ok (.iconst 1, 1) := by decide +kernel
theorem dX4_goText_74 : decode cX4_goText 74 = .ok (.iadd, 1) := by decide +kernel
theorem dX4_goText_75 : decode cX4_goText 75 = .ok (.iaload, 1) := by decide +kernel
theorem dX4_goText_76 : decode cX4_goText 76 = .ok (.bipush 33, 2) := by decide +kernel
theorem dX4_goText_78 : decode cX4_goText 78 = .ok (.if_icmp .ne 64, 3) := by decide +kernel
theorem dX4_goText_81 : decode cX4_goText 81 = .ok (.aload_n 0, 1) := by decide +kernel
theorem dX4_goText_82 : decode cX4_goText 82 = .ok (.getfield 22, 3) := by decide +kernel
theorem dX4_goText_85 : decode cX4_goText 85 = .ok (.iload_n 3, 1) := by decide +kernel
theorem dX4_goText_86 : decode cX4_goText 86 = .ok (.iaload, 1) := by decide +kernel
theorem dX4_goText_87 : decode cX4_goText 87 = .ok (.bipush 65, 2) := by decide +kernel
theorem dX4_goText_89 : decode cX4_goText 89 = .ok (.isub, 1) := by decide +kernel
theorem dX4_goText_90 : decode cX4_goText 90 = .ok (.istore 4, 2) := by decide +kernel
theorem dX4_goText_92 : decode cX4_goText 92 = .ok (.aload_n 0, 1) := by decide +kernel
theorem dX4_goText_93 : decode cX4_goText 93 = .ok (.aload_n 0, 1) := by decide +kernel
theorem dX4_goText_94 : decode cX4_goText 94 = .ok (.iload 4, 2) := by decide +kernel
theorem dX4_goText_96 : decode cX4_goText 96 = .ok (.invokevirtual 83, 3) := by decide +kernel
theorem dX4_goText_99 : decode cX4_goText 99 = .ok (.ifCond .ge 7, 3) := by decide +kernel
theorem dX4_goText_102 : decode cX4_goText 102 = .ok (.iconst 3, 1) := by decide +kernel
theorem dX4_goText_103 : decode cX4_goText 103 = .ok (.goto 17, 3) := by decide +kernel
theorem dX4_goText_106 : decode cX4_goText 106 = .ok (.aload_n 0, 1) := by decide +kernel
theorem dX4_goText_107 : decode cX4_goText 107 = .ok (.iload 4, 2) := by decide +kernel
theorem dX4_goText_109 : decode cX4_goText 109 = .ok (.invokevirtual 109, 3) := by decide +kernel
theorem dX4_goText_112 : decode cX4_goText 112 = .ok (.ifCond .eq 7, 3) := by decide +kernel
theorem dX4_goText_115 : decode cX4_goText 115 = .ok (.iconst 0, 1) := by decide +kernel
theorem dX4_goText_116 : decode cX4_goText 116 = .ok (.goto 4, 3) := by decide +kernel
theorem dX4_goText_119 : decode cX4_goText 119 = .ok (.iconst 4, 1) := by decide +kernel
theorem dX4_goText_120 : decode cX4_goText 120 = .ok (.putfield 100, 3) := by decide +kernel
theorem dX4_goText_123 : decode cX4_goText 123 = .ok (.aload_n 0, 1) := by decide +kernel
theorem dX4_goText_124 : decode cX4_goText 124 = .ok (.getfield 100, 3) := by decide +kernel
theorem dX4_goText_127 : decode cX4_goText 127 = .ok (.ifCond .ne 9, 3) := by decide +kernel
theorem dX4_goText_130 : decode cX4_goText 130 = .ok (.aload_n 0, 1) := by decide +kernel
theorem dX4_goText_131 : decode cX4_goText 131 = .ok (.iload 4, 2) := by decide +kernel
theorem dX4_goText_133 : decode cX4_goText 133 = .ok (.invokevirtual 112, 3) := by decide +kernel
theorem dX4_goText_136 : decode cX4_goText 136 = .ok (.iinc 3 2, 3) := by decide +kernel
theorem dX4_goText_139 : decode cX4_goText 139 = .ok (.goto 269, 3) := by decide +kernel
theorem dX4_goText_142 : decode cX4_goText 142 = .ok (.aload_n 0, 1) := by decide +kernel
theorem dX4_goText_143 : decode cX4_goText 143 = .ok (.getfield 22, 3) := by decide +kernel
theorem dX4_goText_146 : decode cX4_goText 146 = .ok (.iload_n 3, 1) := by decide +kernel
theorem dX4_goText_147 : decode cX4_goText 147 = .ok (.iaload, 1) := by decide +kernel
theorem dX4_goText_148 : decode cX4_goText 148 = .ok (.bipush 63, 2) := by decide +kernel
theorem dX4_goText_150 : decode cX4_goText 150 = .ok (.if_icmp .ne 12, 3) := by decide +kernel
theorem dX4_goText_153 : decode cX4_goText 153 = .ok (.iload_n 1, 1) := by decide +kernel
theorem dX4_goText_154 : decode cX4_goText 154 = .ok (.iload_n 2, 1) := by decide +kernel
theorem dX4_goText_155 : decode cX4_goText 155 = .ok (.idiv, 1) := by decide +kernel
theorem dX4_goText_156 : decode cX4_goText 156 = .ok (.bipush 6, 2) := by decide +kernel
theorem dX4_goText_158 : decode cX4_goText 158 = .ok (.irem, 1) := by decide +kernel
theorem dX4_goText_159 : decode cX4_goText 159 = .ok (.goto 12, 3) := by decide +kernel
theorem dX4_goText_162 : decode cX4_goText 162 = .ok (.aload_n 0, 1) := by decide +kernel
theorem dX4_goText_163 : decode cX4_goText 163 = .ok (.getfield 22, 3) := by decide +kernel
theorem dX4_goText_166 : decode cX4_goText 166 = .ok (.iload_n 3, 1) := by decide +kernel
theorem dX4_goText_167 : decode cX4_goText 167 = .ok (.iaload, 1) := by decide +kernel
theorem dX4_goText_168 : decode cX4_goText 168 = .ok (.bipush 65, 2) := by decide +kernel
theorem dX4_goText_170 : decode cX4_goText 170 = .ok (.isub, 1) := by decide +kernel
theorem dX4_goText_171 : decode cX4_goText 171 = .ok (.istore 4, 2) := by decide +kernel
theorem dX4_goText_173 : decode cX4_goText 173 = .ok (.aload_n 0, 1) := by decide +kernel
theorem dX4_goText_174 : decode cX4_goText 174 = .ok (.getfield 22, 3) := by decide +kernel
theorem dX4_goText_177 : decode cX4_goText 177 = .ok (.iload_n 3, 1) := by decide +kernel
theorem dX4_goText_178 : decode cX4_goText 178 = .ok (.iaload, 1) := by decide +kernel
theorem dX4_goText_179 : decode cX4_goText 179 = .ok (.bipush 63, 2) := by decide +kernel
theorem dX4_goText_181 : decode cX4_goText 181 = .ok (.if_icmp .ne 15, 3) := by decide +kernel
theorem dX4_goText_184 : decode cX4_goText 184 = .ok (.iload_n 2, 1) := by decide +kernel
theorem dX4_goText_185 : decode cX4_goText 185 = .ok (.iconst 1, 1) := by decide +kernel
theorem dX4_goText_186 : decode cX4_goText 186 = .ok (.if_icmp .le 10, 3) := by decide +kernel
theorem dX4_goText_189 : decode cX4_goText 189 = .ok (.iload_n 2, 1) := by decide +kernel
theorem dX4_goText_190 : decode cX4_goText 190 = .ok (.bipush 6, 2) := by decide +kernel
theorem dX4_goText_192 : decode cX4_goText 192 = .ok (.idiv, 1) := by decide +kernel
theorem dX4_goText_193 : decode cX4_goText 193 = .ok (.goto 4, 3) := by decide +kernel
theorem dX4_goText_196 : decode cX4_goText 196 = .ok (.iload_n 2, 1) := by decide +kernel
theorem dX4_goText_197 : decode cX4_goText 197 = .ok (.istore_n 2, 1) := by decide +kernel
theorem dX4_goText_198 : decode cX4_goText 198 = .ok (.aload_n 0, 1) := by decide +kernel
theorem dX4_goText_199 : decode cX4_goText 199 = .ok (.getfield 22, 3) := by decide +kernel
theorem dX4_goText_202 : decode cX4_goText 202 = .ok (.iload_n 3, 1) := by decide +kernel
theorem dX4_goText_203 : decode cX4_goText 203 = .ok (.iconst 2, 1) := by decide +kernel
theorem dX4_goText_204 : decode cX4_goText 204 = .ok (.iadd, 1) := by decide +kernel
theorem dX4_goText_205 : decode cX4_goText 205 = .ok (.iaload, 1) := by decide +kernel
theorem dX4_goText_206 : decode cX4_goText 206 = .ok (.bipush 65, 2) := by decide +kernel
theorem dX4_goText_208 : decode cX4_goText 208 = .ok (.isub, 1) := by decide +kernel
theorem dX4_goText_209 : decode cX4_goText 209 = .ok (.istore 5, 2) := by decide +kernel
theorem dX4_goText_211 : decode cX4_goText 211 = .ok (.aload_n 0, 1) := by decide +kernel
theorem dX4_goText_212 : decode cX4_goText 212 = .ok (.getfield 22, 3) := by decide +kernel
theorem dX4_goText_215 : decode cX4_goText 215 = .ok (.iload_n 3, 1) := by decide +kernel
theorem dX4_goText_216 : decode cX4_goText 216 = .ok (.iconst 3, 1) := by decide +kernel
theorem dX4_goText_217 : decode cX4_goText 217 = .ok (.iadd, 1) := by decide +kernel
theorem dX4_goText_218 : decode cX4_goText 218 = .ok (.iaload, 1) := by decide +kernel
theorem dX4_goText_219 : decode cX4_goText 219 = .ok (.bipush 48, 2) := by decide +kernel
theorem dX4_goText_221 : decode cX4_goText 221 = .ok (.isub, 1) := by decide +kernel
theorem dX4_goText_222 : decode cX4_goText 222 = .ok (.istore 6, 2) := by decide +kernel
theorem dX4_goText_224 : decode cX4_goText 224 = .ok (.iinc 3 4, 3) := by decide +kernel
theorem dX4_goText_227 : decode cX4_goText 227 = .ok (.iload_n 3, 1) := by decide +kernel
theorem dX4_goText_228 : decode cX4_goText 228 = .ok (.aload_n 0, 1) := by decide +kernel
theorem dX4_goText_229 : decode cX4_goText 229 = .ok (.getfield 66, 3) := by decide +kernel
theorem dX4_goText_232 : decode cX4_goText 232 = .ok (.if_icmp .ge 39, 3) := by decide +kernel
theorem dX4_goText_235 : decode cX4_goText 235 = .ok (.aload_n 0, 1) := by decide +kernel
theorem dX4_goText_236 : decode cX4_goText 236 = .ok (.getfield 22, 3) := by decide +kernel
theorem dX4_goText_239 : decode cX4_goText 239 = .ok (.iload_n 3, 1) := by decide +kernel
theorem dX4_goText_240 : decode cX4_goText 240 = .ok (.iaload, 1) := by decide +kernel
theorem dX4_goText_241 : decode cX4_goText 241 = .ok (.bipush 48, 2) := by decide +kernel
theorem dX4_goText_243 : decode cX4_goText 243 = .ok (.bipush 57, 2) := by decide +kernel
theorem dX4_goText_245 : decode cX4_goText 245 = .ok (.invokestatic 51, 3) := by decide +kernel
theorem dX4_goText_248 : decode cX4_goText 248 = .ok (.ifCond .eq 23, 3) := by decide +kernel
theorem dX4_goText_251 : decode cX4_goText 251 = .ok (.bipush 10, 2) := by decide +kernel
theorem dX4_goText_253 : decode cX4_goText 253 = .ok (.iload 6, 2) := by decide +kernel
theorem dX4_goText_255 : decode cX4_goText 255 = .ok (.imul, 1) := by decide +kernel
theorem dX4_goText_256 : decode cX4_goText 256 = .ok (.aload_n 0, 1) := by decide +kernel
theorem dX4_goText_257 : decode cX4_goText 257 = .ok (.getfield 22, 3) := by decide +kernel
theorem dX4_goText_260 : decode cX4_goText 260 = .ok (.iload_n 3, 1) := by decide +kernel
theorem dX4_goText_261 : decode cX4_goText 261 = .ok (.iaload, 1) := by decide +kernel
theorem dX4_goText_262 : decode cX4_goText 262 = .ok (.iadd, 1) := by decide +kernel
theorem dX4_goText_263 : decode cX4_goText 263 = .ok (.bipush 48, 2) := by decide +kernel
theorem dX4_goText_265 : decode cX4_goText 265 = .ok (.isub, 1) := by decide +kernel
theorem dX4_goText_266 : decode cX4_goText 266 = .ok (.istore 6, 2) := by decide +kernel
theorem dX4_goText_268 : decode cX4_goText 268 = .ok (.iinc 3 1, 3) := by decide +kernel
theorem dX4_goText_271 : decode cX4_goText 271 = .ok (.aload_n 0, 1) := by decide +kernel
theorem dX4_goText_272 : decode cX4_goText 272 = .ok (.iload 4, 2) := by decide +kernel
theorem dX4_goText_274 : decode cX4_goText 274 = .ok (.iload 5, 2) := by decide +kernel
theorem dX4_goText_276 : decode cX4_goText 276 = .ok (.if_icmp .ne 8, 3) := by decide +kernel
theorem dX4_goText_279 : decode cX4_goText 279 = .ok (.bipush 9, 2) := by decide +kernel
theorem dX4_goText_281 : decode cX4_goText 281 = .ok (.goto 35, 3) := by decide +kernel
theorem dX4_goText_284 : decode cX4_goText 284 = .ok (.aload_n 0, 1) := by decide +kernel
theorem dX4_goText_285 : decode cX4_goText 285 = .ok (.getfield 25, 3) := by decide +kernel
theorem dX4_goText_288 : decode cX4_goText 288 = .ok (.iload 4, 2) := by decide +kernel
theorem dX4_goText_290 : decode cX4_goText 290 = .ok (.iaload, 1) := by decide +kernel
theorem dX4_goText_291 : decode cX4_goText 291 = .ok (.iload 6, 2) := by decide +kernel
theorem dX4_goText_293 : decode cX4_goText 293 = .ok (.if_icmp .ge 7, 3) := by decide +kernel
theorem dX4_goText_296 : decode cX4_goText 296 = .ok (.iconst 1, 1) := by decide +kernel
theorem dX4_goText_297 : decode cX4_goText 297 = .ok (.goto 19, 3) := by decide +kernel
theorem dX4_goText_300 : decode cX4_goText 300 = .ok (.aload_n 0, 1) := by decide +kernel
theorem dX4_goText_301 : decode cX4_goText 301 = .ok (.getfield 28, 3) := by decide +kernel
theorem dX4_goText_304 : decode cX4_goText 304 = .ok (.iload 5, 2) := by decide +kernel
theorem dX4_goText_306 : decode cX4_goText 306 = .ok (.iaload, 1) := by decide +kernel
theorem dX4_goText_307 : decode cX4_goText 307 = .ok (.iconst 5, 1) := by decide +kernel
theorem dX4_goText_308 : decode cX4_goText 308 = .ok (.if_icmp .ne 7, 3) := by decide +kernel
theorem dX4_goText_311 : decode cX4_goText 311 = .ok (.iconst 2, 1) := by decide +kernel
theorem dX4_goText_312 : decode cX4_goText 312 = .ok (.goto 4, 3) := by decide +kernel
theorem dX4_goText_315 : decode cX4_goText 315 = .ok (.iconst 0, 1) := by decide +kernel
theorem dX4_goText_316 : decode cX4_goText 316 = .ok (.putfield 100, 3) := by decide +kernel
theorem dX4_goText_319 : decode cX4_goText 319 = .ok (.aload_n 0, 1) := by decide +kernel
theorem dX4_goText_320 : decode cX4_goText 320 = .ok (.getfield 100, 3) := by decide +kernel
theorem dX4_goText_323 : decode cX4_goText 323 = .ok (.ifCond .ne 85, 3) := by decide +kernel
theorem dX4_goText_326 : decode cX4_goText 326 = .ok (.iload 5, 2) := by decide +kernel
theorem dX4_goText_328 : decode cX4_goText 328 = .ok (.aload_n 0, 1) := by decide +kernel
theorem dX4_goText_329 : decode cX4_goText 329 = .ok (.getfield 28, 3) := by decide +kernel
theorem dX4_goText_332 : decode cX4_goText 332 = .ok (.iload 5, 2) := by decide +kernel
theorem dX4_goText_334 : decode cX4_goText 334 = .ok (.iaload, 1) := by decide +kernel
theorem dX4_goText_335 : decode cX4_goText 335 = .ok (.invokestatic 79, 3) := by decide +kernel
theorem dX4_goText_338 : decode cX4_goText 338 = .ok (.istore 7, 2) := by decide +kernel
theorem dX4_goText_340 : decode cX4_goText 340 = .ok (.aload_n 0, 1) := by decide +kernel
theorem dX4_goText_341 : decode cX4_goText 341 = .ok (.getfield 31, 3) := by decide +kernel
theorem dX4_goText_344 : decode cX4_goText 344 = .ok (.iload 7, 2) := by decide +kernel
theorem dX4_goText_346 : decode cX4_goText 346 = .ok (.iload 4, 2) := by decide +kernel
theorem dX4_goText_348 : decode cX4_goText 348 = .ok (.iastore, 1) := by decide +kernel
theorem dX4_goText_349 : decode cX4_goText 349 = .ok (.aload_n 0, 1) := by decide +kernel
theorem dX4_goText_350 : decode cX4_goText 350 = .ok (.getfield 31, 3) := by decide +kernel
theorem dX4_goText_353 : decode cX4_goText 353 = .ok (.iload 7, 2) := by decide +kernel
theorem dX4_goText_355 : decode cX4_goText 355 = .ok (.iconst 1, 1) := by decide +kernel
theorem dX4_goText_356 : decode cX4_goText 356 = .ok (.iadd, 1) := by decide +kernel
theorem dX4_goText_357 : decode cX4_goText 357 = .ok (.iload 6, 2) := by decide +kernel
theorem dX4_goText_359 : decode cX4_goText 359 = .ok (.iastore, 1) := by decide +kernel
theorem dX4_goText_360 : decode cX4_goText 360 = .ok (.aload_n 0, 1) := by decide +kernel
theorem dX4_goText_361 : decode cX4_goText 361 = .ok (.getfield 31, 3) := by decide +kernel
theorem dX4_goText_364 : decode cX4_goText 364 = .ok (.iload 7, 2) := by decide +kernel
theorem dX4_goText_366 : decode cX4_goText 366 = .ok (.iconst 2, 1) := by decide +kernel
theorem dX4_goText_367 : decode cX4_goText 367 = .ok (.iadd, 1) := by decide +kernel
theorem dX4_goText_368 : decode cX4_goText 368 = .ok (.aload_n 0, 1) := by decide +kernel
theorem dX4_goText_369 : decode cX4_goText 369 = .ok (.getfield 76, 3) := by decide +kernel
theorem dX4_goText_372 : decode cX4_goText 372 = .ok (.iastore, 1) := by decide +kernel
theorem dX4_goText_373 : decode cX4_goText 373 = .ok (.aload_n 0, 1) := by decide +kernel
theorem dX4_goText_374 : decode cX4_goText 374 = .ok (.getfield 28, 3) := by decide +kernel
theorem dX4_goText_377 : decode cX4_goText 377 = .ok (.iload 5, 2) := by decide +kernel
theorem dX4_goText_379 : decode cX4_goText 379 = .ok (.dup2, 1) := by decide +kernel
theorem dX4_goText_380 : decode cX4_goText 380 = .ok (.iaload, 1) := by decide +kernel
theorem dX4_goText_381 : decode cX4_goText 381 = .ok (.iconst 1, 1) := by decide +kernel
theorem dX4_goText_382 : decode cX4_goText 382 = .ok (.iadd, 1) := by decide +kernel
theorem dX4_goText_383 : decode cX4_goText 383 = .ok (.iastore, 1) := by decide +kernel
theorem dX4_goText_384 : decode cX4_goText 384 = .ok (.aload_n 0, 1) := by decide +kernel
theorem dX4_goText_385 : decode cX4_goText 385 = .ok (.getfield 25, 3) := by decide +kernel
theorem dX4_goText_388 : decode cX4_goText 388 = .ok (.iload 4, 2) := by decide +kernel
theorem dX4_goText_390 : decode cX4_goText 390 = .ok (.dup2, 1) := by decide +kernel
theorem dX4_goText_391 : decode cX4_goText 391 = .ok (.iaload, 1) := by decide +kernel
theorem dX4_goText_392 : decode cX4_goText 392 = .ok (.iload 6, 2) := by decide +kernel
theorem dX4_goText_394 : decode cX4_goText 394 = .ok (.isub, 1) := by decide +kernel
theorem dX4_goText_395 : decode cX4_goText 395 = .ok (.iastore, 1) := by decide +kernel
theorem dX4_goText_396 : decode cX4_goText 396 = .ok (.aload_n 0, 1) := by decide +kernel
theorem dX4_goText_397 : decode cX4_goText 397 = .ok (.getfield 25, 3) := by decide +kernel
theorem dX4_goText_400 : decode cX4_goText 400 = .ok (.iload 5, 2) := by decide +kernel
theorem dX4_goText_402 : decode cX4_goText 402 = .ok (.dup2, 1) := by decide +kernel
theorem dX4_goText_403 : decode cX4_goText 403 = .ok (.iaload, 1) := by decide +kernel
theorem dX4_goText_404 : decode cX4_goText 404 = .ok (.iload 6, 2) := by decide +kernel
theorem dX4_goText_406 : decode cX4_goText 406 = .ok (.iadd, 1) := by decide +kernel
theorem dX4_goText_407 : decode cX4_goText 407 = .ok (.iastore, 1) := by decide +kernel
theorem dX4_goText_408 : decode cX4_goText 408 = .ok (.aload_n 0, 1) := by decide +kernel
theorem dX4_goText_409 : decode cX4_goText 409 = .ok (.getfield 100, 3) := by decide +kernel
theorem dX4_goText_412 : decode cX4_goText 412 = .ok (.ifCond .le 8, 3) := by decide +kernel
theorem dX4_goText_415 : decode cX4_goText 415 = .ok (.aload_n 0, 1) := by decide +kernel
theorem dX4_goText_416 : decode cX4_goText 416 = .ok (.getfield 97, 3) := by decide +kernel
theorem dX4_goText_419 : decode cX4_goText 419 = .ok (.ireturn, 1) := by decide +kernel
theorem dX4_goText_420 : decode cX4_goText 420 = .ok (.aload_n 0, 1) := by decide +kernel
theorem dX4_goText_421 : decode cX4_goText 421 = .ok (.dup, 1) := by decide +kernel
theorem dX4_goText_422 : decode cX4_goText 422 = .ok (.getfield 97, 3) := by decide +kernel
theorem dX4_goText_425 : decode cX4_goText 425 = .ok (.iconst 1, 1) := by decide +kernel
theorem dX4_goText_426 : decode cX4_goText 426 = .ok (.iadd, 1) := by decide +kernel
theorem dX4_goText_427 : decode cX4_goText 427 = .ok (.putfield 97, 3) := by decide +kernel
theorem dX4_goText_430 : decode cX4_goText 430 = .ok (.goto (-391), 3) := by decide +kernel
theorem dX4_goText_433 : decode cX4_goText 433 = .ok (.bipush (-6), 2) := by decide +kernel
theorem dX4_goText_435 : decode cX4_goText 435 = .ok (.ireturn, 1) := by decide +kernel
set_option maxRecDepth 20000 in
theorem ggX4_judge_X4_in : GoodIn wsX4_judge wsX4_in := goodIn_r _ [5] (by decide +kernel) (by decide +kernel)
set_option maxRecDepth 20000 in
theorem gX4_judge_X4_in : GoodIn wsX4_judge (va_wsS RX4 51 yX4_in wsX4_in) := goodIn_app (goodIn_of _ (by decide +kernel)) ggX4_judge_X4_in
set_option maxRecDepth 20000 in
theorem ggX4_judge_X4_faultOf : GoodIn wsX4_judge wsX4_faultOf := goodIn_r _ [9, 10, 11, 2, 3, 4, 5, 62, 63, 64, 65, 66, 67, 68, 69, 70, 71, 72, 73, 74, 75, 76, 77, 78, 79, 80, 81, 82] (by decide +kernel) (by decide +kernel)
set_option maxRecDepth 20000 in
theorem gX4_judge_X4_faultOf : GoodIn wsX4_judge (wsV RX4 69 RX4 yX4_faultOf wsX4_faultOf) := goodIn_app (goodIn_of _ (by decide +kernel)) ggX4_judge_X4_faultOf
set_option maxRecDepth 20000 in
theorem ggX4_judge_X4_opens : GoodIn wsX4_judge wsX4_opens := goodIn_r _ [15, 10, 11, 62, 63, 64, 65, 66, 67, 68, 69, 70, 71, 72, 73, 74, 75, 76, 77, 78, 79, 80, 81, 82] (by decide +kernel) (by decide +kernel)
set_option maxRecDepth 20000 in
theorem gX4_judge_X4_opens : GoodIn wsX4_judge (wsV RX4 103 RX4 yX4_opens wsX4_opens) := goodIn_app (goodIn_of _ (by decide +kernel)) ggX4_judge_X4_opens
set_option maxRecDepth 20000 in
theorem ggX4_judge_X4_goText : GoodIn wsX4_judge wsX4_goText := goodIn_r _ [19, 20, 1, 10, 11, 21, 22, 23, 24, 25, 26, 27, 4, 28, 29, 30, 31, 32, 12, 13, 14, 15, 33, 34, 35, 36, 37, 38, 39, 40, 41, 42, 43, 44, 45, 46, 47, 48, 49, 50, 51, 52, 53, 54, 55, 56, 57, 58, 59, 60, 61, 2, 3, 5, 62, 63, 64, 65, 66, 67, 68, 69, 70, 71, 72, 73, 74, 75, 76, 77, 78, 79, 80, 81, 82] (by decide +kernel) (by decide +kernel)
set_option maxRecDepth 20000 in
theorem gX4_judge_X4_goText : GoodIn wsX4_judge (wsV RX4 116 RX4 yX4_goText wsX4_goText) := goodIn_app (goodIn_of _ (by decide +kernel)) ggX4_judge_X4_goText
theorem dX4_judge_0 : decode cX4_judge 0 = .ok (.iload_n 1, 1) := by decide +kernel
theorem dX4_judge_1 : decode cX4_judge 1 = .ok (.iconst 0, 1) := by decide +kernel
theorem dX4_judge_2 : decode cX4_judge 2 = .ok (.iconst 1, 1) := by decide +kernel
theorem dX4_judge_3 : decode cX4_judge 3 = .ok (.invokestatic 51, 3) := by decide +kernel
theorem dX4_judge_6 : decode cX4_judge 6 = .ok (.ifCond .ne 6, 3) := by decide +kernel
theorem dX4_judge_9 : decode cX4_judge 9 = .ok (.bipush (-2), 2) := by decide +kernel
theorem dX4_judge_11 : decode cX4_judge 11 = .ok (.ireturn, 1) := by decide +kernel
theorem dX4_judge_12 : decode cX4_judge 12 = .ok (.aload_n 0, 1) := by decide +kernel
theorem dX4_judge_13 : decode cX4_judge 13 = .ok (.invokevirtual 69, 3) := by decide +kernel
theorem dX4_judge_16 : decode cX4_judge 16 = .ok (.ifCond .lt 6, 3) := by decide +kernel
theorem dX4_judge_19 : decode cX4_judge 19 = .ok (.bipush (-5), 2) := by decide +kernel
theorem dX4_judge_21 : decode cX4_judge 21 = .ok (.ireturn, 1) := by decide +kernel
theorem dX4_judge_22 : decode cX4_judge 22 = .ok (.aload_n 0, 1) := by decide +kernel
theorem dX4_judge_23 : decode cX4_judge 23 = .ok (.invokevirtual 103, 3) := by decide +kernel
theorem dX4_judge_26 : decode cX4_judge 26 = .ok (.ifCond .le 6, 3) := by decide +kernel
theorem dX4_judge_29 : decode cX4_judge 29 = .ok (.bipush (-3), 2) := by decide +kernel
theorem dX4_judge_31 : decode cX4_judge 31 = .ok (.ireturn, 1) := by decide +kernel
theorem dX4_judge_32 : decode cX4_judge 32 = .ok (.aload_n 0, 1) := by decide +kernel
theorem dX4_judge_33 : decode cX4_judge 33 = .ok (.iconst 0, 1) := by decide +kernel
theorem dX4_judge_34 : decode cX4_judge 34 = .ok (.invokevirtual 116, 3) := by decide +kernel
theorem dX4_judge_37 : decode cX4_judge 37 = .ok (.istore_n 2, 1) := by decide +kernel
theorem dX4_judge_38 : decode cX4_judge 38 = .ok (.iload_n 2, 1) := by decide +kernel
theorem dX4_judge_39 : decode cX4_judge 39 = .ok (.ifCond .lt 7, 3) := by decide +kernel
theorem dX4_judge_42 : decode cX4_judge 42 = .ok (.iload_n 1, 1) := by decide +kernel
theorem dX4_judge_43 : decode cX4_judge 43 = .ok (.ifCond .ne 7, 3) := by decide +kernel
theorem dX4_judge_46 : decode cX4_judge 46 = .ok (.iload_n 2, 1) := by decide +kernel
theorem dX4_judge_47 : decode cX4_judge 47 = .ok (.goto 7, 3) := by decide +kernel
theorem dX4_judge_50 : decode cX4_judge 50 = .ok (.aload_n 0, 1) := by decide +kernel
theorem dX4_judge_51 : decode cX4_judge 51 = .ok (.getfield 100, 3) := by decide +kernel
theorem dX4_judge_54 : decode cX4_judge 54 = .ok (.ireturn, 1) := by decide +kernel
set_option maxRecDepth 20000 in
theorem ggX4_done_X4_faultOf : GoodIn wsX4_done wsX4_faultOf := goodIn_r _ [7, 1, 8, 9, 10, 6, 11, 66, 67, 68, 69, 70, 71, 72, 73, 74, 75, 76, 77, 78, 79, 80, 81, 82, 83, 84, 85, 86] (by decide +kernel) (by decide +kernel)
set_option maxRecDepth 20000 in
theorem gX4_done_X4_faultOf : GoodIn wsX4_done (wsV RX4 69 RX4 yX4_faultOf wsX4_faultOf) := goodIn_app (goodIn_of _ (by decide +kernel)) ggX4_done_X4_faultOf
set_option maxRecDepth 20000 in
theorem ggX4_done_X4_opens : GoodIn wsX4_done wsX4_opens := goodIn_r _ [15, 1, 8, 66, 67, 68, 69, 70, 71, 72, 73, 74, 75, 76, 77, 78, 79, 80, 81, 82, 83, 84, 85, 86] (by decide +kernel) (by decide +kernel)
set_option maxRecDepth 20000 in
theorem gX4_done_X4_opens : GoodIn wsX4_done (wsV RX4 103 RX4 yX4_opens wsX4_opens) := goodIn_app (goodIn_of _ (by decide +kernel)) ggX4_done_X4_opens
set_option maxRecDepth 20000 in
theorem ggX4_done_X4_goText : GoodIn wsX4_done wsX4_goText := goodIn_r _ [19, 2, 20, 1, 8, 21, 22, 23, 24, 25, 26, 27, 6, 28, 29, 30, 31, 32, 12, 13, 14, 15, 33, 34, 35, 36, 37, 38, 39, 40, 41, 42, 43, 44, 45, 46, 47, 48, 49, 50, 51, 52, 53, 54, 55, 56, 57, 58, 59, 60, 61, 9, 10, 11, 66, 67, 68, 69, 70, 71, 72, 73, 74, 75, 76, 77, 78, 79, 80, 81, 82, 83, 84, 85, 86] (by decide +kernel) (by decide +kernel)
set_option maxRecDepth 20000 in
theorem gX4_done_X4_goText : GoodIn wsX4_done (wsV RX4 116 RX4 yX4_goText wsX4_goText) := goodIn_app (goodIn_of _ (by decide +kernel)) ggX4_done_X4_goText
set_option maxRecDepth 20000 in
theorem ggX4_done_X4_keepNow : GoodIn wsX4_done wsX4_keepNow := goodIn_r _ [65, 24, 29, 30, 21, 31, 22, 32, 23, 66, 67, 68, 69, 70, 71, 72, 73, 74, 75, 76, 77, 78, 79, 80, 81, 82, 83, 84, 85, 86] (by decide +kernel) (by decide +kernel)
set_option maxRecDepth 20000 in
theorem gX4_done_X4_keepNow : GoodIn wsX4_done (wsV RX4 119 RX4 yX4_keepNow wsX4_keepNow) := goodIn_app (goodIn_of _ (by decide +kernel)) ggX4_done_X4_keepNow
theorem dX4_done_0 : decode cX4_done 0 = .ok (.aload_n 0, 1) := by decide +kernel
theorem dX4_done_1 : decode cX4_done 1 = .ok (.invokevirtual 69, 3) := by decide +kernel
theorem dX4_done_4 : decode cX4_done 4 = .ok (.ifCond .lt 6, 3) := by decide +kernel
theorem dX4_done_7 : decode cX4_done 7 = .ok (.bipush (-5), 2) := by decide +kernel
theorem dX4_done_9 : decode cX4_done 9 = .ok (.ireturn, 1) := by decide +kernel
theorem dX4_done_10 : decode cX4_done 10 = .ok (.aload_n 0, 1) := by decide +kernel
theorem dX4_done_11 : decode cX4_done 11 = .ok (.invokevirtual 103, 3) := by decide +kernel
theorem dX4_done_14 : decode cX4_done 14 = .ok (.ifCond .le 6, 3) := by decide +kernel
theorem dX4_done_17 : decode cX4_done 17 = .ok (.bipush (-3), 2) := by decide +kernel
theorem dX4_done_19 : decode cX4_done 19 = .ok (.ireturn, 1) := by decide +kernel
theorem dX4_done_20 : decode cX4_done 20 = .ok (.aload_n 0, 1) := by decide +kernel
theorem dX4_done_21 : decode cX4_done 21 = .ok (.iconst 0, 1) := by decide +kernel
theorem dX4_done_22 : decode cX4_done 22 = .ok (.invokevirtual 116, 3) := by decide +kernel
theorem dX4_done_25 : decode cX4_done 25 = .ok (.ifCond .lt 6, 3) := by decide +kernel
theorem dX4_done_28 : decode cX4_done 28 = .ok (.bipush (-5), 2) := by decide +kernel
theorem dX4_done_30 : decode cX4_done 30 = .ok (.ireturn, 1) := by decide +kernel
theorem dX4_done_31 : decode cX4_done 31 = .ok (.aload_n 0, 1) := by decide +kernel
theorem dX4_done_32 : decode cX4_done 32 = .ok (.invokevirtual 119, 3) := by decide +kernel
theorem dX4_done_35 : decode cX4_done 35 = .ok (.aload_n 0, 1) := by decide +kernel
theorem dX4_done_36 : decode cX4_done 36 = .ok (.iconst 0, 1) := by decide +kernel
theorem dX4_done_37 : decode cX4_done 37 = .ok (.putfield 66, 3) := by decide +kernel
theorem dX4_done_40 : decode cX4_done 40 = .ok (.aload_n 0, 1) := by decide +kernel
theorem dX4_done_41 : decode cX4_done 41 = .ok (.getfield 97, 3) := by decide +kernel
theorem dX4_done_44 : decode cX4_done 44 = .ok (.ireturn, 1) := by decide +kernel
set_option maxRecDepth 20000 in
theorem ggX4_debt_X4_isDebt : GoodIn wsX4_debt wsX4_isDebt := goodIn_r _ [6, 7, 8, 9, 5, 10, 11, 12, 13, 17, 18, 19, 20, 21, 22, 23, 24, 25, 26, 27, 28, 29, 30, 31, 32, 33, 34, 35, 36, 37] (by decide +kernel) (by decide +kernel)
set_option maxRecDepth 20000 in
theorem gX4_debt_X4_isDebt : GoodIn wsX4_debt (wsV RX4 122 RX4 yX4_isDebt wsX4_isDebt) := goodIn_app (goodIn_of _ (by decide +kernel)) ggX4_debt_X4_isDebt
set_option maxRecDepth 20000 in
theorem ggX4_debt_X4_in : GoodIn wsX4_debt wsX4_in := goodIn_r _ [13] (by decide +kernel) (by decide +kernel)
set_option maxRecDepth 20000 in
theorem gX4_debt_X4_in : GoodIn wsX4_debt (va_wsS RX4 51 yX4_in wsX4_in) := goodIn_app (goodIn_of _ (by decide +kernel)) ggX4_debt_X4_in
set_option maxRecDepth 20000 in
theorem ggX4_debt_X4_at : GoodIn wsX4_debt wsX4_at := goodIn_r _ [16] (by decide +kernel) (by decide +kernel)
set_option maxRecDepth 20000 in
theorem gX4_debt_X4_at : GoodIn wsX4_debt (va_wsS RX4 79 yX4_at wsX4_at) := goodIn_app (goodIn_of _ (by decide +kernel)) ggX4_debt_X4_at
theorem dX4_debt_0 : decode cX4_debt 0 = .ok (.aload_n 0, 1) := by decide +kernel
theorem dX4_debt_1 : decode cX4_debt 1 = .ok (.iload_n 1, 1) := by decide +kernel
theorem dX4_debt_2 : decode cX4_debt 2 = .ok (.iload_n 2, 1) := by decide +kernel
theorem dX4_debt_3 : decode cX4_debt 3 = .ok (.invokevirtual 122, 3) := by decide +kernel
theorem dX4_debt_6 : decode cX4_debt 6 = .ok (.ifCond .ne 5, 3) := by decide +kernel
theorem dX4_debt_9 : decode cX4_debt 9 = .ok (.iconst (-1), 1) := by decide +kernel
theorem dX4_debt_10 : decode cX4_debt 10 = .ok (.ireturn, 1) := by decide +kernel
theorem dX4_debt_11 : decode cX4_debt 11 = .ok (.iload_n 3, 1) := by decide +kernel
theorem dX4_debt_12 : decode cX4_debt 12 = .ok (.iconst 0, 1) := by decide +kernel
theorem dX4_debt_13 : decode cX4_debt 13 = .ok (.iconst 2, 1) := by decide +kernel
theorem dX4_debt_14 : decode cX4_debt 14 = .ok (.invokestatic 51, 3) := by decide +kernel
theorem dX4_debt_17 : decode cX4_debt 17 = .ok (.ifCond .eq 18, 3) := by decide +kernel
theorem dX4_debt_20 : decode cX4_debt 20 = .ok (.aload_n 0, 1) := by decide +kernel
theorem dX4_debt_21 : decode cX4_debt 21 = .ok (.getfield 16, 3) := by decide +kernel
theorem dX4_debt_24 : decode cX4_debt 24 = .ok (.iload_n 1, 1) := by decide +kernel
theorem dX4_debt_25 : decode cX4_debt 25 = .ok (.iload_n 2, 1) := by decide +kernel
theorem dX4_debt_26 : decode cX4_debt 26 = .ok (.invokestatic 79, 3) := by decide +kernel
theorem dX4_debt_29 : decode cX4_debt 29 = .ok (.iload_n 3, 1) := by decide +kernel
theorem dX4_debt_30 : decode cX4_debt 30 = .ok (.iadd, 1) := by decide +kernel
theorem dX4_debt_31 : decode cX4_debt 31 = .ok (.iaload, 1) := by decide +kernel
theorem dX4_debt_32 : decode cX4_debt 32 = .ok (.goto 5, 3) := by decide +kernel
theorem dX4_debt_35 : decode cX4_debt 35 = .ok (.bipush (-2), 2) := by decide +kernel
theorem dX4_debt_37 : decode cX4_debt 37 = .ok (.ireturn, 1) := by decide +kernel
set_option maxRecDepth 20000 in
theorem ggX4_due_X4_isMan : GoodIn wsX4_due wsX4_isMan := goodIn_r _ [4, 5, 6, 3, 7] (by decide +kernel) (by decide +kernel)
set_option maxRecDepth 20000 in
theorem gX4_due_X4_isMan : GoodIn wsX4_due (va_wsS RX4 55 yX4_isMan wsX4_isMan) := goodIn_app (goodIn_of _ (by decide +kernel)) ggX4_due_X4_isMan
set_option maxRecDepth 20000 in
theorem ggX4_due_X4_asNow : GoodIn wsX4_due wsX4_asNow := goodIn_r _ [11, 12, 13, 14, 15, 16, 17, 18, 19, 28, 29, 30, 31, 32, 33, 34, 35, 36, 37, 38, 39, 40, 41, 42, 43, 44, 45, 46, 47, 48] (by decide +kernel) (by decide +kernel)
set_option maxRecDepth 20000 in
theorem gX4_due_X4_asNow : GoodIn wsX4_due (wsV RX4 94 RX4 yX4_asNow wsX4_asNow) := goodIn_app (goodIn_of _ (by decide +kernel)) ggX4_due_X4_asNow
set_option maxRecDepth 20000 in
theorem ggX4_due_X4_dueNow : GoodIn wsX4_due wsX4_dueNow := goodIn_r _ [23, 16, 24, 18, 25, 26, 3, 27, 28, 29, 30, 31, 32, 33, 34, 35, 36, 37, 38, 39, 40, 41, 42, 43, 44, 45, 46, 47, 48] (by decide +kernel) (by decide +kernel)
set_option maxRecDepth 20000 in
theorem gX4_due_X4_dueNow : GoodIn wsX4_due (wsV RX4 83 RX4 yX4_dueNow wsX4_dueNow) := goodIn_app (goodIn_of _ (by decide +kernel)) ggX4_due_X4_dueNow
theorem dX4_due_0 : decode cX4_due 0 = .ok (.iload_n 1, 1) := by decide +kernel
theorem dX4_due_1 : decode cX4_due 1 = .ok (.invokestatic 55, 3) := by decide +kernel
theorem dX4_due_4 : decode cX4_due 4 = .ok (.ifCond .ne 5, 3) := by decide +kernel
theorem dX4_due_7 : decode cX4_due 7 = .ok (.iconst (-1), 1) := by decide +kernel
theorem dX4_due_8 : decode cX4_due 8 = .ok (.ireturn, 1) := by decide +kernel
theorem dX4_due_9 : decode cX4_due 9 = .ok (.aload_n 0, 1) := by decide +kernel
theorem dX4_due_10 : decode cX4_due 10 = .ok (.invokevirtual 94, 3) := by decide +kernel
theorem dX4_due_13 : decode cX4_due 13 = .ok (.aload_n 0, 1) := by decide +kernel
theorem dX4_due_14 : decode cX4_due 14 = .ok (.iload_n 1, 1) := by decide +kernel
theorem dX4_due_15 : decode cX4_due 15 = .ok (.invokevirtual 83, 3) := by decide +kernel
theorem dX4_due_18 : decode cX4_due 18 = .ok (.ireturn, 1) := by decide +kernel
set_option maxRecDepth 20000 in
theorem ggX4_owes_X4_isMan : GoodIn wsX4_owes wsX4_isMan := goodIn_r _ [6, 7, 8, 5, 9] (by decide +kernel) (by decide +kernel)
set_option maxRecDepth 20000 in
theorem gX4_owes_X4_isMan : GoodIn wsX4_owes (va_wsS RX4 55 yX4_isMan wsX4_isMan) := goodIn_app (goodIn_of _ (by decide +kernel)) ggX4_owes_X4_isMan
set_option maxRecDepth 20000 in
theorem ggX4_owes_X4_at : GoodIn wsX4_owes wsX4_at := goodIn_r _ [12] (by decide +kernel) (by decide +kernel)
set_option maxRecDepth 20000 in
theorem gX4_owes_X4_at : GoodIn wsX4_owes (va_wsS RX4 79 yX4_at wsX4_at) := goodIn_app (goodIn_of _ (by decide +kernel)) ggX4_owes_X4_at
theorem dX4_owes_0 : decode cX4_owes 0 = .ok (.iload_n 1, 1) := by decide +kernel
theorem dX4_owes_1 : decode cX4_owes 1 = .ok (.invokestatic 55, 3) := by decide +kernel
theorem dX4_owes_4 : decode cX4_owes 4 = .ok (.ifCond .eq 10, 3) := by decide +kernel
theorem dX4_owes_7 : decode cX4_owes 7 = .ok (.iload_n 2, 1) := by decide +kernel
theorem dX4_owes_8 : decode cX4_owes 8 = .ok (.invokestatic 55, 3) := by decide +kernel
theorem dX4_owes_11 : decode cX4_owes 11 = .ok (.ifCond .ne 5, 3) := by decide +kernel
theorem dX4_owes_14 : decode cX4_owes 14 = .ok (.iconst (-1), 1) := by decide +kernel
theorem dX4_owes_15 : decode cX4_owes 15 = .ok (.ireturn, 1) := by decide +kernel
theorem dX4_owes_16 : decode cX4_owes 16 = .ok (.iconst 0, 1) := by decide +kernel
theorem dX4_owes_17 : decode cX4_owes 17 = .ok (.istore_n 3, 1) := by decide +kernel
theorem dX4_owes_18 : decode cX4_owes 18 = .ok (.iconst 0, 1) := by decide +kernel
theorem dX4_owes_19 : decode cX4_owes 19 = .ok (.istore 4, 2) := by decide +kernel
theorem dX4_owes_21 : decode cX4_owes 21 = .ok (.iload 4, 2) := by decide +kernel
theorem dX4_owes_23 : decode cX4_owes 23 = .ok (.aload_n 0, 1) := by decide +kernel
theorem dX4_owes_24 : decode cX4_owes 24 = .ok (.getfield 13, 3) := by decide +kernel
theorem dX4_owes_27 : decode cX4_owes 27 = .ok (.iload_n 1, 1) := by decide +kernel
theorem dX4_owes_28 : decode cX4_owes 28 = .ok (.iaload, 1) := by decide +kernel
theorem dX4_owes_29 : decode cX4_owes 29 = .ok (.if_icmp .ge 44, 3) := by decide +kernel
theorem dX4_owes_32 : decode cX4_owes 32 = .ok (.iload_n 3, 1) := by decide +kernel
theorem dX4_owes_33 : decode cX4_owes 33 = .ok (.aload_n 0, 1) := by decide +kernel
theorem dX4_owes_34 : decode cX4_owes 34 = .ok (.getfield 16, 3) := by decide +kernel
theorem dX4_owes_37 : decode cX4_owes 37 = .ok (.iload_n 1, 1) := by decide +kernel
theorem dX4_owes_38 : decode cX4_owes 38 = .ok (.iload 4, 2) := by decide +kernel
theorem dX4_owes_40 : decode cX4_owes 40 = .ok (.invokestatic 79, 3) := by decide +kernel
theorem dX4_owes_43 : decode cX4_owes 43 = .ok (.iaload, 1) := by decide +kernel
theorem dX4_owes_44 : decode cX4_owes 44 = .ok (.iload_n 2, 1) := by decide +kernel
theorem dX4_owes_45 : decode cX4_owes 45 = .ok (.if_icmp .ne 19, 3) := by decide +kernel
theorem dX4_owes_48 : decode cX4_owes 48 = .ok (.aload_n 0, 1) := by decide +kernel
theorem dX4_owes_49 : decode cX4_owes 49 = .ok (.getfield 16, 3) := by decide +kernel
theorem dX4_owes_52 : decode cX4_owes 52 = .ok (.iload_n 1, 1) := by decide +kernel
theorem dX4_owes_53 : decode cX4_owes 53 = .ok (.iload 4, 2) := by decide +kernel
theorem dX4_owes_55 : decode cX4_owes 55 = .ok (.invokestatic 79, 3) := by decide +kernel
theorem dX4_owes_58 : decode cX4_owes 58 = .ok (.iconst 1, 1) := by decide +kernel
theorem dX4_owes_59 : decode cX4_owes 59 = .ok (.iadd, 1) := by decide +kernel
theorem dX4_owes_60 : decode cX4_owes 60 = .ok (.iaload, 1) := by decide +kernel
theorem dX4_owes_61 : decode cX4_owes 61 = .ok (.goto 4, 3) := by decide +kernel
theorem dX4_owes_64 : decode cX4_owes 64 = .ok (.iconst 0, 1) := by decide +kernel
theorem dX4_owes_65 : decode cX4_owes 65 = .ok (.iadd, 1) := by decide +kernel
theorem dX4_owes_66 : decode cX4_owes 66 = .ok (.istore_n 3, 1) := by decide +kernel
theorem dX4_owes_67 : decode cX4_owes 67 = .ok (.iinc 4 1, 3) := by decide +kernel
theorem dX4_owes_70 : decode cX4_owes 70 = .ok (.goto (-49), 3) := by decide +kernel
theorem dX4_owes_73 : decode cX4_owes 73 = .ok (.iload_n 3, 1) := by decide +kernel
theorem dX4_owes_74 : decode cX4_owes 74 = .ok (.ireturn, 1) := by decide +kernel
set_option maxRecDepth 20000 in
theorem ggX4_seen_X4_isMan : GoodIn wsX4_seen wsX4_isMan := goodIn_r _ [6, 7, 8, 5, 9] (by decide +kernel) (by decide +kernel)
set_option maxRecDepth 20000 in
theorem gX4_seen_X4_isMan : GoodIn wsX4_seen (va_wsS RX4 55 yX4_isMan wsX4_isMan) := goodIn_app (goodIn_of _ (by decide +kernel)) ggX4_seen_X4_isMan
set_option maxRecDepth 20000 in
theorem ggX4_seen_X4_in : GoodIn wsX4_seen wsX4_in := goodIn_r _ [9] (by decide +kernel) (by decide +kernel)
set_option maxRecDepth 20000 in
theorem gX4_seen_X4_in : GoodIn wsX4_seen (va_wsS RX4 51 yX4_in wsX4_in) := goodIn_app (goodIn_of _ (by decide +kernel)) ggX4_seen_X4_in
theorem dX4_seen_0 : decode cX4_seen 0 = .ok (.iload_n 1, 1) := by decide +kernel
theorem dX4_seen_1 : decode cX4_seen 1 = .ok (.invokestatic 55, 3) := by decide +kernel
theorem dX4_seen_4 : decode cX4_seen 4 = .ok (.ifCond .ne 5, 3) := by decide +kernel
theorem dX4_seen_7 : decode cX4_seen 7 = .ok (.iconst (-1), 1) := by decide +kernel
theorem dX4_seen_8 : decode cX4_seen 8 = .ok (.ireturn, 1) := by decide +kernel
theorem dX4_seen_9 : decode cX4_seen 9 = .ok (.iload_n 2, 1) := by decide +kernel
theorem dX4_seen_10 : decode cX4_seen 10 = .ok (.iconst 0, 1) := by decide +kernel
theorem dX4_seen_11 : decode cX4_seen 11 = .ok (.sipush 9999, 3) := by decide +kernel
theorem dX4_seen_14 : decode cX4_seen 14 = .ok (.invokestatic 51, 3) := by decide +kernel
theorem dX4_seen_17 : decode cX4_seen 17 = .ok (.ifCond .ne 6, 3) := by decide +kernel
theorem dX4_seen_20 : decode cX4_seen 20 = .ok (.bipush (-2), 2) := by decide +kernel
theorem dX4_seen_22 : decode cX4_seen 22 = .ok (.ireturn, 1) := by decide +kernel
theorem dX4_seen_23 : decode cX4_seen 23 = .ok (.aload_n 0, 1) := by decide +kernel
theorem dX4_seen_24 : decode cX4_seen 24 = .ok (.getfield 126, 3) := by decide +kernel
theorem dX4_seen_27 : decode cX4_seen 27 = .ok (.bipush 6, 2) := by decide +kernel
theorem dX4_seen_29 : decode cX4_seen 29 = .ok (.if_icmp .ne 6, 3) := by decide +kernel
theorem dX4_seen_32 : decode cX4_seen 32 = .ok (.bipush (-4), 2) := by decide +kernel
theorem dX4_seen_34 : decode cX4_seen 34 = .ok (.ireturn, 1) := by decide +kernel
theorem dX4_seen_35 : decode cX4_seen 35 = .ok (.aload_n 0, 1) := by decide +kernel
theorem dX4_seen_36 : decode cX4_seen 36 = .ok (.getfield 19, 3) := by decide +kernel
theorem dX4_seen_39 : decode cX4_seen 39 = .ok (.iconst 2, 1) := by decide +kernel
theorem dX4_seen_40 : decode cX4_seen 40 = .ok (.aload_n 0, 1) := by decide +kernel
theorem dX4_seen_41 : decode cX4_seen 41 = .ok (.getfield 126, 3) := by decide +kernel
theorem dX4_seen_44 : decode cX4_seen 44 = .ok (.imul, 1) := by decide +kernel
theorem dX4_seen_45 : decode cX4_seen 45 = .ok (.iload_n 1, 1) := by decide +kernel
theorem dX4_seen_46 : decode cX4_seen 46 = .ok (.iastore, 1) := by decide +kernel
theorem dX4_seen_47 : decode cX4_seen 47 = .ok (.aload_n 0, 1) := by decide +kernel
theorem dX4_seen_48 : decode cX4_seen 48 = .ok (.getfield 19, 3) := by decide +kernel
theorem dX4_seen_51 : decode cX4_seen 51 = .ok (.iconst 2, 1) := by decide +kernel
theorem dX4_seen_52 : decode cX4_seen 52 = .ok (.aload_n 0, 1) := by decide +kernel
theorem dX4_seen_53 : decode cX4_seen 53 = .ok (.getfield 126, 3) := by decide +kernel
theorem dX4_seen_56 : decode cX4_seen 56 = .ok (.imul, 1) := by decide +kernel
theorem dX4_seen_57 : decode cX4_seen 57 = .ok (.iconst 1, 1) := by decide +kernel
theorem dX4_seen_58 : decode cX4_seen 58 = .ok (.iadd, 1) := by decide +kernel
theorem dX4_seen_59 : decode cX4_seen 59 = .ok (.iload_n 2, 1) := by decide +kernel
theorem dX4_seen_60 : decode cX4_seen 60 = .ok (.iastore, 1) := by decide +kernel
theorem dX4_seen_61 : decode cX4_seen 61 = .ok (.aload_n 0, 1) := by decide +kernel
theorem dX4_seen_62 : decode cX4_seen 62 = .ok (.dup, 1) := by decide +kernel
theorem dX4_seen_63 : decode cX4_seen 63 = .ok (.getfield 126, 3) := by decide +kernel
theorem dX4_seen_66 : decode cX4_seen 66 = .ok (.iconst 1, 1) := by decide +kernel
theorem dX4_seen_67 : decode cX4_seen 67 = .ok (.iadd, 1) := by decide +kernel
theorem dX4_seen_68 : decode cX4_seen 68 = .ok (.putfield 126, 3) := by decide +kernel
theorem dX4_seen_71 : decode cX4_seen 71 = .ok (.aload_n 0, 1) := by decide +kernel
theorem dX4_seen_72 : decode cX4_seen 72 = .ok (.getfield 126, 3) := by decide +kernel
theorem dX4_seen_75 : decode cX4_seen 75 = .ok (.ireturn, 1) := by decide +kernel
theorem dX4_forget_0 : decode cX4_forget 0 = .ok (.aload_n 0, 1) := by decide +kernel
theorem dX4_forget_1 : decode cX4_forget 1 = .ok (.getfield 126, 3) := by decide +kernel
theorem dX4_forget_4 : decode cX4_forget 4 = .ok (.istore_n 1, 1) := by decide +kernel
theorem dX4_forget_5 : decode cX4_forget 5 = .ok (.aload_n 0, 1) := by decide +kernel
theorem dX4_forget_6 : decode cX4_forget 6 = .ok (.iconst 0, 1) := by decide +kernel
theorem dX4_forget_7 : decode cX4_forget 7 = .ok (.putfield 126, 3) := by decide +kernel
theorem dX4_forget_10 : decode cX4_forget 10 = .ok (.iload_n 1, 1) := by decide +kernel
theorem dX4_forget_11 : decode cX4_forget 11 = .ok (.ireturn, 1) := by decide +kernel
set_option maxRecDepth 20000 in
theorem ggX4_isFit_X4_goText : GoodIn wsX4_isFit wsX4_goText := goodIn_r _ [8, 9, 10, 11, 12, 2, 13, 14, 15, 16, 17, 18, 7, 19, 20, 21, 22, 23, 24, 25, 26, 27, 28, 29, 30, 31, 32, 33, 34, 35, 36, 37, 38, 39, 40, 41, 42, 43, 44, 45, 46, 47, 48, 49, 50, 51, 52, 53, 54, 55, 56, 57, 58, 59, 60, 61, 62, 63, 64, 65, 66, 67, 68, 69, 70, 71, 72, 73, 74, 75, 76, 77, 78, 79, 80] (by decide +kernel) (by decide +kernel)
set_option maxRecDepth 20000 in
theorem gX4_isFit_X4_goText : GoodIn wsX4_isFit (wsV RX4 116 RX4 yX4_goText wsX4_goText) := goodIn_app (goodIn_of _ (by decide +kernel)) ggX4_isFit_X4_goText
theorem dX4_isFit_0 : decode cX4_isFit 0 = .ok (.aload_n 0, 1) := by decide +kernel
theorem dX4_isFit_1 : decode cX4_isFit 1 = .ok (.iload_n 1, 1) := by decide +kernel
theorem dX4_isFit_2 : decode cX4_isFit 2 = .ok (.invokevirtual 116, 3) := by decide +kernel
theorem dX4_isFit_5 : decode cX4_isFit 5 = .ok (.ifCond .ge 7, 3) := by decide +kernel
theorem dX4_isFit_8 : decode cX4_isFit 8 = .ok (.iconst 1, 1) := by decide +kernel
theorem dX4_isFit_9 : decode cX4_isFit 9 = .ok (.goto 4, 3) := by decide +kernel
theorem dX4_isFit_12 : decode cX4_isFit 12 = .ok (.iconst 0, 1) := by decide +kernel
theorem dX4_isFit_13 : decode cX4_isFit 13 = .ok (.istore_n 2, 1) := by decide +kernel
theorem dX4_isFit_14 : decode cX4_isFit 14 = .ok (.iconst 0, 1) := by decide +kernel
theorem dX4_isFit_15 : decode cX4_isFit 15 = .ok (.istore_n 3, 1) := by decide +kernel
theorem dX4_isFit_16 : decode cX4_isFit 16 = .ok (.iload_n 3, 1) := by decide +kernel
theorem dX4_isFit_17 : decode cX4_isFit 17 = .ok (.aload_n 0, 1) := by decide +kernel
theorem dX4_isFit_18 : decode cX4_isFit 18 = .ok (.getfield 126, 3) := by decide +kernel
theorem dX4_isFit_21 : decode cX4_isFit 21 = .ok (.if_icmp .ge 45, 3) := by decide +kernel
theorem dX4_isFit_24 : decode cX4_isFit 24 = .ok (.iload_n 2, 1) := by decide +kernel
theorem dX4_isFit_25 : decode cX4_isFit 25 = .ok (.ifCond .eq 41, 3) := by decide +kernel
theorem dX4_isFit_28 : decode cX4_isFit 28 = .ok (.aload_n 0, 1) := by decide +kernel
theorem dX4_isFit_29 : decode cX4_isFit 29 = .ok (.getfield 25, 3) := by decide +kernel
theorem dX4_isFit_32 : decode cX4_isFit 32 = .ok (.aload_n 0, 1) := by decide +kernel
theorem dX4_isFit_33 : decode cX4_isFit 33 = .ok (.getfield 19, 3) := by decide +kernel
theorem dX4_isFit_36 : decode cX4_isFit 36 = .ok (.iconst 2, 1) := by decide +kernel
theorem dX4_isFit_37 : decode cX4_isFit 37 = .ok (.iload_n 3, 1) := by decide +kernel
theorem dX4_isFit_38 : decode cX4_isFit 38 = .ok (.imul, 1) := by decide +kernel
theorem dX4_isFit_39 : decode cX4_isFit 39 = .ok (.iaload, 1) := by decide +kernel
theorem dX4_isFit_40 : decode cX4_isFit 40 = .ok (.iaload, 1) := by decide +kernel
theorem dX4_isFit_41 : decode cX4_isFit 41 = .ok (.aload_n 0, 1) := by decide +kernel
theorem dX4_isFit_42 : decode cX4_isFit 42 = .ok (.getfield 19, 3) := by decide +kernel
theorem dX4_isFit_45 : decode cX4_isFit 45 = .ok (.iconst 2, 1) := by decide +kernel
theorem dX4_isFit_46 : decode cX4_isFit 46 = .ok (.iload_n 3, 1) := by decide +kernel
theorem dX4_isFit_47 : decode cX4_isFit 47 = .ok (.imul, 1) := by decide +kernel
theorem dX4_isFit_48 : decode cX4_isFit 48 = .ok (.iconst 1, 1) := by decide +kernel
theorem dX4_isFit_49 : decode cX4_isFit 49 = .ok (.iadd, 1) := by decide +kernel
theorem dX4_isFit_50 : decode cX4_isFit 50 = .ok (.iaload, 1) := by decide +kernel
theorem dX4_isFit_51 : decode cX4_isFit 51 = .ok (.if_icmp .ne 7, 3) := by decide +kernel
theorem dX4_isFit_54 : decode cX4_isFit 54 = .ok (.iconst 1, 1) := by decide +kernel
theorem dX4_isFit_55 : decode cX4_isFit 55 = .ok (.goto 4, 3) := by decide +kernel
theorem dX4_isFit_58 : decode cX4_isFit 58 = .ok (.iconst 0, 1) := by decide +kernel
theorem dX4_isFit_59 : decode cX4_isFit 59 = .ok (.istore_n 2, 1) := by decide +kernel
theorem dX4_isFit_60 : decode cX4_isFit 60 = .ok (.iinc 3 1, 3) := by decide +kernel
theorem dX4_isFit_63 : decode cX4_isFit 63 = .ok (.goto (-47), 3) := by decide +kernel
theorem dX4_isFit_66 : decode cX4_isFit 66 = .ok (.iload_n 2, 1) := by decide +kernel
theorem dX4_isFit_67 : decode cX4_isFit 67 = .ok (.ireturn, 1) := by decide +kernel
set_option maxRecDepth 20000 in
theorem ggX4_filled_X4_faultOf : GoodIn wsX4_filled wsX4_faultOf := goodIn_r _ [5, 6, 7, 8, 9, 4, 10, 68, 69, 70, 71, 72, 73, 74, 75, 76, 77, 78, 79, 80, 81, 82, 83, 84, 85, 86, 87, 88] (by decide +kernel) (by decide +kernel)
set_option maxRecDepth 20000 in
theorem gX4_filled_X4_faultOf : GoodIn wsX4_filled (wsV RX4 69 RX4 yX4_faultOf wsX4_faultOf) := goodIn_app (goodIn_of _ (by decide +kernel)) ggX4_filled_X4_faultOf
set_option maxRecDepth 20000 in
theorem ggX4_filled_X4_opens : GoodIn wsX4_filled wsX4_opens := goodIn_r _ [14, 6, 7, 68, 69, 70, 71, 72, 73, 74, 75, 76, 77, 78, 79, 80, 81, 82, 83, 84, 85, 86, 87, 88] (by decide +kernel) (by decide +kernel)
set_option maxRecDepth 20000 in
theorem gX4_filled_X4_opens : GoodIn wsX4_filled (wsV RX4 103 RX4 yX4_opens wsX4_opens) := goodIn_app (goodIn_of _ (by decide +kernel)) ggX4_filled_X4_opens
set_option maxRecDepth 20000 in
theorem ggX4_filled_X4_isFit : GoodIn wsX4_filled wsX4_isFit := goodIn_r _ [18, 19, 20, 21, 22, 23, 24, 4, 25, 26, 27, 6, 7, 28, 29, 30, 31, 32, 33, 34, 35, 36, 37, 38, 11, 12, 13, 14, 39, 40, 41, 42, 43, 44, 45, 46, 47, 48, 49, 50, 51, 52, 53, 54, 55, 56, 57, 58, 59, 60, 61, 62, 63, 64, 65, 66, 67, 8, 9, 10, 68, 69, 70, 71, 72, 73, 74, 75, 76, 77, 78, 79, 80, 81, 82, 83, 84, 85, 86, 87, 88] (by decide +kernel) (by decide +kernel)
set_option maxRecDepth 20000 in
theorem gX4_filled_X4_isFit : GoodIn wsX4_filled (wsV RX4 129 RX4 yX4_isFit wsX4_isFit) := goodIn_app (goodIn_of _ (by decide +kernel)) ggX4_filled_X4_isFit
set_option maxRecDepth 20000 in
theorem ggX4_filled_X4_in : GoodIn wsX4_filled wsX4_in := goodIn_r _ [10] (by decide +kernel) (by decide +kernel)
set_option maxRecDepth 20000 in
theorem gX4_filled_X4_in : GoodIn wsX4_filled (va_wsS RX4 51 yX4_in wsX4_in) := goodIn_app (goodIn_of _ (by decide +kernel)) ggX4_filled_X4_in
theorem dX4_filled_0 : decode cX4_filled 0 = .ok (.aload_n 0, 1) := by decide +kernel
theorem dX4_filled_1 : decode cX4_filled 1 = .ok (.invokevirtual 69, 3) := by decide +kernel
theorem dX4_filled_4 : decode cX4_filled 4 = .ok (.ifCond .lt 6, 3) := by decide +kernel
theorem dX4_filled_7 : decode cX4_filled 7 = .ok (.bipush (-5), 2) := by decide +kernel
theorem dX4_filled_9 : decode cX4_filled 9 = .ok (.ireturn, 1) := by decide +kernel
theorem dX4_filled_10 : decode cX4_filled 10 = .ok (.iconst 1, 1) := by decide +kernel
theorem dX4_filled_11 : decode cX4_filled 11 = .ok (.istore_n 2, 1) := by decide +kernel
theorem dX4_filled_12 : decode cX4_filled 12 = .ok (.iconst 0, 1) := by decide +kernel
theorem dX4_filled_13 : decode cX4_filled 13 = .ok (.istore_n 3, 1) := by decide +kernel
theorem dX4_filled_14 : decode cX4_filled 14 = .ok (.iload_n 3, 1) := by decide +kernel
theorem dX4_filled_15 : decode cX4_filled 15 = .ok (.aload_n 0, 1) := by decide +kernel
theorem dX4_filled_16 : decode cX4_filled 16 = .ok (.invokevirtual 103, 3) := by decide +kernel
theorem dX4_filled_19 : decode cX4_filled 19 = .ok (.if_icmp .ge 14, 3) := by decide +kernel
theorem dX4_filled_22 : decode cX4_filled 22 = .ok (.iload_n 2, 1) := by decide +kernel
theorem dX4_filled_23 : decode cX4_filled 23 = .ok (.bipush 6, 2) := by decide +kernel
theorem dX4_filled_25 : decode cX4_filled 25 = .ok (.imul, 1) := by decide +kernel
theorem dX4_filled_26 : decode cX4_filled 26 = .ok (.istore_n 2, 1) := by decide +kernel
theorem dX4_filled_27 : decode cX4_filled 27 = .ok (.iinc 3 1, 3) := by decide +kernel
theorem dX4_filled_30 : decode cX4_filled 30 = .ok (.goto (-16), 3) := by decide +kernel
theorem dX4_filled_33 : decode cX4_filled 33 = .ok (.iconst 0, 1) := by decide +kernel
theorem dX4_filled_34 : decode cX4_filled 34 = .ok (.istore_n 3, 1) := by decide +kernel
theorem dX4_filled_35 : decode cX4_filled 35 = .ok (.bipush (-6), 2) := by decide +kernel
theorem dX4_filled_37 : decode cX4_filled 37 = .ok (.istore 4, 2) := by decide +kernel
theorem dX4_filled_39 : decode cX4_filled 39 = .ok (.iconst 0, 1) := by decide +kernel
theorem dX4_filled_40 : decode cX4_filled 40 = .ok (.istore 5, 2) := by decide +kernel
theorem dX4_filled_42 : decode cX4_filled 42 = .ok (.iload 5, 2) := by decide +kernel
theorem dX4_filled_44 : decode cX4_filled 44 = .ok (.iload_n 2, 1) := by decide +kernel
theorem dX4_filled_45 : decode cX4_filled 45 = .ok (.if_icmp .ge 35, 3) := by decide +kernel
theorem dX4_filled_48 : decode cX4_filled 48 = .ok (.aload_n 0, 1) := by decide +kernel
theorem dX4_filled_49 : decode cX4_filled 49 = .ok (.iload 5, 2) := by decide +kernel
theorem dX4_filled_51 : decode cX4_filled 51 = .ok (.invokevirtual 129, 3) := by decide +kernel
theorem dX4_filled_54 : decode cX4_filled 54 = .ok (.ifCond .eq 20, 3) := by decide +kernel
theorem dX4_filled_57 : decode cX4_filled 57 = .ok (.iload 4, 2) := by decide +kernel
theorem dX4_filled_59 : decode cX4_filled 59 = .ok (.ifCond .ge 8, 3) := by decide +kernel
theorem dX4_filled_62 : decode cX4_filled 62 = .ok (.iload 5, 2) := by decide +kernel
theorem dX4_filled_64 : decode cX4_filled 64 = .ok (.goto 5, 3) := by decide +kernel
theorem dX4_filled_67 : decode cX4_filled 67 = .ok (.iload 4, 2) := by decide +kernel
theorem dX4_filled_69 : decode cX4_filled 69 = .ok (.istore 4, 2) := by decide +kernel
theorem dX4_filled_71 : decode cX4_filled 71 = .ok (.iinc 3 1, 3) := by decide +kernel
theorem dX4_filled_74 : decode cX4_filled 74 = .ok (.iinc 5 1, 3) := by decide +kernel
theorem dX4_filled_77 : decode cX4_filled 77 = .ok (.goto (-35), 3) := by decide +kernel
theorem dX4_filled_80 : decode cX4_filled 80 = .ok (.iload_n 1, 1) := by decide +kernel
theorem dX4_filled_81 : decode cX4_filled 81 = .ok (.iconst (-1), 1) := by decide +kernel
theorem dX4_filled_82 : decode cX4_filled 82 = .ok (.if_icmp .ne 5, 3) := by decide +kernel
theorem dX4_filled_85 : decode cX4_filled 85 = .ok (.iload_n 3, 1) := by decide +kernel
theorem dX4_filled_86 : decode cX4_filled 86 = .ok (.ireturn, 1) := by decide +kernel
theorem dX4_filled_87 : decode cX4_filled 87 = .ok (.iload 4, 2) := by decide +kernel
theorem dX4_filled_89 : decode cX4_filled 89 = .ok (.ifCond .lt 17, 3) := by decide +kernel
theorem dX4_filled_92 : decode cX4_filled 92 = .ok (.iload_n 1, 1) := by decide +kernel
theorem dX4_filled_93 : decode cX4_filled 93 = .ok (.iconst 0, 1) := by decide +kernel
theorem dX4_filled_94 : decode cX4_filled 94 = .ok (.aload_n 0, 1) := by decide +kernel
theorem dX4_filled_95 : decode cX4_filled 95 = .ok (.invokevirtual 103, 3) := by decide +kernel
theorem dX4_filled_98 : decode cX4_filled 98 = .ok (.iconst 1, 1) := by decide +kernel
theorem dX4_filled_99 : decode cX4_filled 99 = .ok (.isub, 1) := by decide +kernel
theorem dX4_filled_100 : decode cX4_filled 100 = .ok (.invokestatic 51, 3) := by decide +kernel
theorem dX4_filled_103 : decode cX4_filled 103 = .ok (.ifCond .ne 6, 3) := by decide +kernel
theorem dX4_filled_106 : decode cX4_filled 106 = .ok (.bipush (-6), 2) := by decide +kernel
theorem dX4_filled_108 : decode cX4_filled 108 = .ok (.ireturn, 1) := by decide +kernel
theorem dX4_filled_109 : decode cX4_filled 109 = .ok (.iload 4, 2) := by decide +kernel
theorem dX4_filled_111 : decode cX4_filled 111 = .ok (.istore 5, 2) := by decide +kernel
theorem dX4_filled_113 : decode cX4_filled 113 = .ok (.aload_n 0, 1) := by decide +kernel
theorem dX4_filled_114 : decode cX4_filled 114 = .ok (.invokevirtual 103, 3) := by decide +kernel
theorem dX4_filled_117 : decode cX4_filled 117 = .ok (.iconst 1, 1) := by decide +kernel
theorem dX4_filled_118 : decode cX4_filled 118 = .ok (.isub, 1) := by decide +kernel
theorem dX4_filled_119 : decode cX4_filled 119 = .ok (.istore 6, 2) := by decide +kernel
theorem dX4_filled_121 : decode cX4_filled 121 = .ok (.iload 6, 2) := by decide +kernel
theorem dX4_filled_123 : decode cX4_filled 123 = .ok (.iload_n 1, 1) := by decide +kernel
theorem dX4_filled_124 : decode cX4_filled 124 = .ok (.if_icmp .le 16, 3) := by decide +kernel
theorem dX4_filled_127 : decode cX4_filled 127 = .ok (.iload 5, 2) := by decide +kernel
theorem dX4_filled_129 : decode cX4_filled 129 = .ok (.bipush 6, 2) := by decide +kernel
theorem dX4_filled_131 : decode cX4_filled 131 = .ok (.idiv, 1) := by decide +kernel
theorem dX4_filled_132 : decode cX4_filled 132 = .ok (.istore 5, 2) := by decide +kernel
theorem dX4_filled_134 : decode cX4_filled 134 = .ok (.iinc 6 (-1), 3) := by decide +kernel
theorem dX4_filled_137 : decode cX4_filled 137 = .ok (.goto (-16), 3) := by decide +kernel
theorem dX4_filled_140 : decode cX4_filled 140 = .ok (.iload 5, 2) := by decide +kernel
theorem dX4_filled_142 : decode cX4_filled 142 = .ok (.bipush 6, 2) := by decide +kernel
theorem dX4_filled_144 : decode cX4_filled 144 = .ok (.irem, 1) := by decide +kernel
theorem dX4_filled_145 : decode cX4_filled 145 = .ok (.ireturn, 1) := by decide +kernel
set_option maxRecDepth 20000 in
theorem ggX4_layTurns_X4_at : GoodIn wsX4_layTurns wsX4_at := goodIn_r _ [8] (by decide +kernel) (by decide +kernel)
set_option maxRecDepth 20000 in
theorem gX4_layTurns_X4_at : GoodIn wsX4_layTurns (va_wsS RX4 79 yX4_at wsX4_at) := goodIn_app (goodIn_of _ (by decide +kernel)) ggX4_layTurns_X4_at
set_option maxRecDepth 20000 in
theorem ggX4_layTurns_X4_has : GoodIn wsX4_layTurns wsX4_has := goodIn_r _ [11] (by decide +kernel) (by decide +kernel)
set_option maxRecDepth 20000 in
theorem gX4_layTurns_X4_has : GoodIn wsX4_layTurns (va_wsS RX4 132 yX4_has wsX4_has) := goodIn_app (goodIn_of _ (by decide +kernel)) ggX4_layTurns_X4_has
theorem dX4_layTurns_0 : decode cX4_layTurns 0 = .ok (.iconst 0, 1) := by decide +kernel
theorem dX4_layTurns_1 : decode cX4_layTurns 1 = .ok (.istore_n 1, 1) := by decide +kernel
theorem dX4_layTurns_2 : decode cX4_layTurns 2 = .ok (.iload_n 1, 1) := by decide +kernel
theorem dX4_layTurns_3 : decode cX4_layTurns 3 = .ok (.bipush 6, 2) := by decide +kernel
theorem dX4_layTurns_5 : decode cX4_layTurns 5 = .ok (.if_icmp .ge 153, 3) := by decide +kernel
theorem dX4_layTurns_8 : decode cX4_layTurns 8 = .ok (.iconst 0, 1) := by decide +kernel
theorem dX4_layTurns_9 : decode cX4_layTurns 9 = .ok (.istore_n 2, 1) := by decide +kernel
theorem dX4_layTurns_10 : decode cX4_layTurns 10 = .ok (.iconst 0, 1) := by decide +kernel
theorem dX4_layTurns_11 : decode cX4_layTurns 11 = .ok (.istore_n 3, 1) := by decide +kernel
theorem dX4_layTurns_12 : decode cX4_layTurns 12 = .ok (.iload_n 3, 1) := by decide +kernel
theorem dX4_layTurns_13 : decode cX4_layTurns 13 = .ok (.aload_n 0, 1) := by decide +kernel
theorem dX4_layTurns_14 : decode cX4_layTurns 14 = .ok (.getfield 13, 3) := by decide +kernel
theorem dX4_layTurns_17 : decode cX4_layTurns 17 = .ok (.iload_n 1, 1) := by decide +kernel
theorem dX4_layTurns_18 : decode cX4_layTurns 18 = .ok (.iaload, 1) := by decide +kernel
theorem dX4_layTurns_19 : decode cX4_layTurns 19 = .ok (.if_icmp .ge 133, 3) := by decide +kernel
theorem dX4_layTurns_22 : decode cX4_layTurns 22 = .ok (.bipush (-6), 2) := by decide +kernel
theorem dX4_layTurns_24 : decode cX4_layTurns 24 = .ok (.istore 4, 2) := by decide +kernel
theorem dX4_layTurns_26 : decode cX4_layTurns 26 = .ok (.aload_n 0, 1) := by decide +kernel
theorem dX4_layTurns_27 : decode cX4_layTurns 27 = .ok (.getfield 13, 3) := by decide +kernel
theorem dX4_layTurns_30 : decode cX4_layTurns 30 = .ok (.iload_n 1, 1) := by decide +kernel
theorem dX4_layTurns_31 : decode cX4_layTurns 31 = .ok (.iaload, 1) := by decide +kernel
theorem dX4_layTurns_32 : decode cX4_layTurns 32 = .ok (.iconst 1, 1) := by decide +kernel
theorem dX4_layTurns_33 : decode cX4_layTurns 33 = .ok (.isub, 1) := by decide +kernel
theorem dX4_layTurns_34 : decode cX4_layTurns 34 = .ok (.istore 5, 2) := by decide +kernel
theorem dX4_layTurns_36 : decode cX4_layTurns 36 = .ok (.iload 5, 2) := by decide +kernel
theorem dX4_layTurns_38 : decode cX4_layTurns 38 = .ok (.ifCond .lt 89, 3) := by decide +kernel
theorem dX4_layTurns_41 : decode cX4_layTurns 41 = .ok (.iload 4, 2) := by decide +kernel
theorem dX4_layTurns_43 : decode cX4_layTurns 43 = .ok (.ifCond .lt 48, 3) := by decide +kernel
theorem dX4_layTurns_46 : decode cX4_layTurns 46 = .ok (.aload_n 0, 1) := by decide +kernel
theorem dX4_layTurns_47 : decode cX4_layTurns 47 = .ok (.getfield 59, 3) := by decide +kernel
theorem dX4_layTurns_50 : decode cX4_layTurns 50 = .ok (.iconst 1, 1) := by decide +kernel
theorem dX4_layTurns_51 : decode cX4_layTurns 51 = .ok (.if_icmp .eq 40, 3) := by decide +kernel
theorem dX4_layTurns_54 : decode cX4_layTurns 54 = .ok (.aload_n 0, 1) := by decide +kernel
theorem dX4_layTurns_55 : decode cX4_layTurns 55 = .ok (.getfield 59, 3) := by decide +kernel
theorem dX4_layTurns_58 : decode cX4_layTurns 58 = .ok (.iconst 2, 1) := by decide +kernel
theorem dX4_layTurns_59 : decode cX4_layTurns 59 = .ok (.if_icmp .ne 36, 3) := by decide +kernel
theorem dX4_layTurns_62 : decode cX4_layTurns 62 = .ok (.aload_n 0, 1) := by decide +kernel
theorem dX4_layTurns_63 : decode cX4_layTurns 63 = .ok (.getfield 16, 3) := by decide +kernel
theorem dX4_layTurns_66 : decode cX4_layTurns 66 = .ok (.iload_n 1, 1) := by decide +kernel
theorem dX4_layTurns_67 : decode cX4_layTurns 67 = .ok (.iload 5, 2) := by decide +kernel
theorem dX4_layTurns_69 : decode cX4_layTurns 69 = .ok (.invokestatic 79, 3) := by decide +kernel
theorem dX4_layTurns_72 : decode cX4_layTurns 72 = .ok (.iconst 1, 1) := by decide +kernel
theorem dX4_layTurns_73 : decode cX4_layTurns 73 = .ok (.iadd, 1) := by decide +kernel
theorem dX4_layTurns_74 : decode cX4_layTurns 74 = .ok (.iaload, 1) := by decide +kernel
theorem dX4_layTurns_75 : decode cX4_layTurns 75 = .ok (.aload_n 0, 1) := by decide +kernel
theorem dX4_layTurns_76 : decode cX4_layTurns 76 = .ok (.getfield 16, 3) := by decide +kernel
theorem dX4_layTurns_79 : decode cX4_layTurns 79 = .ok (.iload_n 1, 1) := by decide +kernel
theorem dX4_layTurns_80 : decode cX4_layTurns 80 = .ok (.iload 4, 2) := by decide +kernel
theorem dX4_layTurns_82 : decode cX4_layTurns 82 = .ok (.invokestatic 79, 3) := by decide +kernel
theorem dX4_layTurns_85 : decode cX4_layTurns 85 = .ok (.iconst 1, 1) := by decide +kernel
theorem dX4_layTurns_86 : decode cX4_layTurns 86 = .ok (.iadd, 1) := by decide +kernel
theorem dX4_layTurns_87 : decode cX4_layTurns 87 = .ok (.iaload, 1) := by decide +kernel
theorem dX4_layTurns_88 : decode cX4_layTurns 88 = .ok (.if_icmp .le 7, 3) := by decide +kernel
theorem dX4_layTurns_91 : decode cX4_layTurns 91 = .ok (.iconst 1, 1) := by decide +kernel
end
section
theorem dX4_layTurns_92 : decode cX4_layTurns 92 = .ok (.goto 4, 3) := by decide +kernel
theorem dX4_layTurns_95 : decode cX4_layTurns 95 = .ok (.iconst 0, 1) := by decide +kernel
theorem dX4_layTurns_96 : decode cX4_layTurns 96 = .ok (.istore 6, 2) := by decide +kernel
theorem dX4_layTurns_98 : decode cX4_layTurns 98 = .ok (.iload_n 2, 1) := by decide +kernel
theorem dX4_layTurns_99 : decode cX4_layTurns 99 = .ok (.iload 5, 2) := by decide +kernel
theorem dX4_layTurns_101 : decode cX4_layTurns 101 = .ok (.invokestatic 132, 3) := by decide +kernel
theorem dX4_layTurns_104 : decode cX4_layTurns 104 = .ok (.ifCond .ne 13, 3) := by decide +kernel
theorem dX4_layTurns_107 : decode cX4_layTurns 107 = .ok (.iload 6, 2) := by decide +kernel
theorem dX4_layTurns_109 : decode cX4_layTurns 109 = .ok (.ifCond .eq 8, 3) := by decide +kernel
theorem dX4_layTurns_112 : decode cX4_layTurns 112 = .ok (.iload 5, 2) := by decide +kernel
theorem dX4_layTurns_114 : decode cX4_layTurns 114 = .ok (.goto 5, 3) := by decide +kernel
theorem dX4_layTurns_117 : decode cX4_layTurns 117 = .ok (.iload 4, 2) := by decide +kernel
theorem dX4_layTurns_119 : decode cX4_layTurns 119 = .ok (.istore 4, 2) := by decide +kernel
theorem dX4_layTurns_121 : decode cX4_layTurns 121 = .ok (.iinc 5 (-1), 3) := by decide +kernel
theorem dX4_layTurns_124 : decode cX4_layTurns 124 = .ok (.goto (-88), 3) := by decide +kernel
theorem dX4_layTurns_127 : decode cX4_layTurns 127 = .ok (.iload_n 2, 1) := by decide +kernel
theorem dX4_layTurns_128 : decode cX4_layTurns 128 = .ok (.iconst 1, 1) := by decide +kernel
theorem dX4_layTurns_129 : decode cX4_layTurns 129 = .ok (.iload 4, 2) := by decide +kernel
theorem dX4_layTurns_131 : decode cX4_layTurns 131 = .ok (.ishl, 1) := by decide +kernel
theorem dX4_layTurns_132 : decode cX4_layTurns 132 = .ok (.ior, 1) := by decide +kernel
theorem dX4_layTurns_133 : decode cX4_layTurns 133 = .ok (.istore_n 2, 1) := by decide +kernel
theorem dX4_layTurns_134 : decode cX4_layTurns 134 = .ok (.aload_n 0, 1) := by decide +kernel
theorem dX4_layTurns_135 : decode cX4_layTurns 135 = .ok (.getfield 34, 3) := by decide +kernel
theorem dX4_layTurns_138 : decode cX4_layTurns 138 = .ok (.iconst 5, 1) := by decide +kernel
theorem dX4_layTurns_139 : decode cX4_layTurns 139 = .ok (.iload_n 1, 1) := by decide +kernel
theorem dX4_layTurns_140 : decode cX4_layTurns 140 = .ok (.imul, 1) := by decide +kernel
theorem dX4_layTurns_141 : decode cX4_layTurns 141 = .ok (.iload_n 3, 1) := by decide +kernel
theorem dX4_layTurns_142 : decode cX4_layTurns 142 = .ok (.iadd, 1) := by decide +kernel
theorem dX4_layTurns_143 : decode cX4_layTurns 143 = .ok (.iload 4, 2) := by decide +kernel
theorem dX4_layTurns_145 : decode cX4_layTurns 145 = .ok (.iastore, 1) := by decide +kernel
theorem dX4_layTurns_146 : decode cX4_layTurns 146 = .ok (.iinc 3 1, 3) := by decide +kernel
theorem dX4_layTurns_149 : decode cX4_layTurns 149 = .ok (.goto (-137), 3) := by decide +kernel
theorem dX4_layTurns_152 : decode cX4_layTurns 152 = .ok (.iinc 1 1, 3) := by decide +kernel
theorem dX4_layTurns_155 : decode cX4_layTurns 155 = .ok (.goto (-153), 3) := by decide +kernel
theorem dX4_layTurns_158 : decode cX4_layTurns 158 = .ok (.return_, 1) := by decide +kernel
theorem dX4_paidOf_0 : decode cX4_paidOf 0 = .ok (.iload_n 1, 1) := by decide +kernel
theorem dX4_paidOf_1 : decode cX4_paidOf 1 = .ok (.aload_n 0, 1) := by decide +kernel
theorem dX4_paidOf_2 : decode cX4_paidOf 2 = .ok (.getfield 37, 3) := by decide +kernel
theorem dX4_paidOf_5 : decode cX4_paidOf 5 = .ok (.iload_n 2, 1) := by decide +kernel
theorem dX4_paidOf_6 : decode cX4_paidOf 6 = .ok (.iaload, 1) := by decide +kernel
theorem dX4_paidOf_7 : decode cX4_paidOf 7 = .ok (.idiv, 1) := by decide +kernel
theorem dX4_paidOf_8 : decode cX4_paidOf 8 = .ok (.bipush 6, 2) := by decide +kernel
theorem dX4_paidOf_10 : decode cX4_paidOf 10 = .ok (.irem, 1) := by decide +kernel
theorem dX4_paidOf_11 : decode cX4_paidOf 11 = .ok (.ireturn, 1) := by decide +kernel
set_option maxRecDepth 20000 in
theorem ggX4_moneyBy_X4_paidOf : GoodIn wsX4_moneyBy wsX4_paidOf := goodIn_r _ [8, 9, 13, 14, 15, 16, 17, 18, 19, 20, 21, 22, 23, 24, 25, 26, 27, 28, 29, 30, 31, 32, 33] (by decide +kernel) (by decide +kernel)
set_option maxRecDepth 20000 in
theorem gX4_moneyBy_X4_paidOf : GoodIn wsX4_moneyBy (wsV RX4 135 RX4 yX4_paidOf wsX4_paidOf) := goodIn_app (goodIn_of _ (by decide +kernel)) ggX4_moneyBy_X4_paidOf
set_option maxRecDepth 20000 in
theorem ggX4_moneyBy_X4_at : GoodIn wsX4_moneyBy wsX4_at := goodIn_r _ [12] (by decide +kernel) (by decide +kernel)
set_option maxRecDepth 20000 in
theorem gX4_moneyBy_X4_at : GoodIn wsX4_moneyBy (va_wsS RX4 79 yX4_at wsX4_at) := goodIn_app (goodIn_of _ (by decide +kernel)) ggX4_moneyBy_X4_at
theorem dX4_moneyBy_0 : decode cX4_moneyBy 0 = .ok (.aload_n 0, 1) := by decide +kernel
theorem dX4_moneyBy_1 : decode cX4_moneyBy 1 = .ok (.getfield 7, 3) := by decide +kernel
theorem dX4_moneyBy_4 : decode cX4_moneyBy 4 = .ok (.iload_n 2, 1) := by decide +kernel
theorem dX4_moneyBy_5 : decode cX4_moneyBy 5 = .ok (.iaload, 1) := by decide +kernel
theorem dX4_moneyBy_6 : decode cX4_moneyBy 6 = .ok (.istore_n 3, 1) := by decide +kernel
theorem dX4_moneyBy_7 : decode cX4_moneyBy 7 = .ok (.iconst 0, 1) := by decide +kernel
theorem dX4_moneyBy_8 : decode cX4_moneyBy 8 = .ok (.istore 4, 2) := by decide +kernel
theorem dX4_moneyBy_10 : decode cX4_moneyBy 10 = .ok (.iload 4, 2) := by decide +kernel
theorem dX4_moneyBy_12 : decode cX4_moneyBy 12 = .ok (.bipush 6, 2) := by decide +kernel
theorem dX4_moneyBy_14 : decode cX4_moneyBy 14 = .ok (.if_icmp .ge 98, 3) := by decide +kernel
theorem dX4_moneyBy_17 : decode cX4_moneyBy 17 = .ok (.iconst 0, 1) := by decide +kernel
theorem dX4_moneyBy_18 : decode cX4_moneyBy 18 = .ok (.istore 5, 2) := by decide +kernel
theorem dX4_moneyBy_20 : decode cX4_moneyBy 20 = .ok (.iload 5, 2) := by decide +kernel
theorem dX4_moneyBy_22 : decode cX4_moneyBy 22 = .ok (.aload_n 0, 1) := by decide +kernel
theorem dX4_moneyBy_23 : decode cX4_moneyBy 23 = .ok (.iload_n 1, 1) := by decide +kernel
theorem dX4_moneyBy_24 : decode cX4_moneyBy 24 = .ok (.iload 4, 2) := by decide +kernel
theorem dX4_moneyBy_26 : decode cX4_moneyBy 26 = .ok (.invokevirtual 135, 3) := by decide +kernel
theorem dX4_moneyBy_29 : decode cX4_moneyBy 29 = .ok (.if_icmp .ge 77, 3) := by decide +kernel
theorem dX4_moneyBy_32 : decode cX4_moneyBy 32 = .ok (.iload 4, 2) := by decide +kernel
theorem dX4_moneyBy_34 : decode cX4_moneyBy 34 = .ok (.aload_n 0, 1) := by decide +kernel
theorem dX4_moneyBy_35 : decode cX4_moneyBy 35 = .ok (.getfield 34, 3) := by decide +kernel
theorem dX4_moneyBy_38 : decode cX4_moneyBy 38 = .ok (.iconst 5, 1) := by decide +kernel
theorem dX4_moneyBy_39 : decode cX4_moneyBy 39 = .ok (.iload 4, 2) := by decide +kernel
theorem dX4_moneyBy_41 : decode cX4_moneyBy 41 = .ok (.imul, 1) := by decide +kernel
theorem dX4_moneyBy_42 : decode cX4_moneyBy 42 = .ok (.iload 5, 2) := by decide +kernel
theorem dX4_moneyBy_44 : decode cX4_moneyBy 44 = .ok (.iadd, 1) := by decide +kernel
theorem dX4_moneyBy_45 : decode cX4_moneyBy 45 = .ok (.iaload, 1) := by decide +kernel
theorem dX4_moneyBy_46 : decode cX4_moneyBy 46 = .ok (.invokestatic 79, 3) := by decide +kernel
theorem dX4_moneyBy_49 : decode cX4_moneyBy 49 = .ok (.istore 6, 2) := by decide +kernel
theorem dX4_moneyBy_51 : decode cX4_moneyBy 51 = .ok (.iload_n 3, 1) := by decide +kernel
theorem dX4_moneyBy_52 : decode cX4_moneyBy 52 = .ok (.aload_n 0, 1) := by decide +kernel
theorem dX4_moneyBy_53 : decode cX4_moneyBy 53 = .ok (.getfield 16, 3) := by decide +kernel
theorem dX4_moneyBy_56 : decode cX4_moneyBy 56 = .ok (.iload 6, 2) := by decide +kernel
theorem dX4_moneyBy_58 : decode cX4_moneyBy 58 = .ok (.iaload, 1) := by decide +kernel
theorem dX4_moneyBy_59 : decode cX4_moneyBy 59 = .ok (.iload_n 2, 1) := by decide +kernel
theorem dX4_moneyBy_60 : decode cX4_moneyBy 60 = .ok (.if_icmp .ne 15, 3) := by decide +kernel
theorem dX4_moneyBy_63 : decode cX4_moneyBy 63 = .ok (.aload_n 0, 1) := by decide +kernel
theorem dX4_moneyBy_64 : decode cX4_moneyBy 64 = .ok (.getfield 16, 3) := by decide +kernel
theorem dX4_moneyBy_67 : decode cX4_moneyBy 67 = .ok (.iload 6, 2) := by decide +kernel
theorem dX4_moneyBy_69 : decode cX4_moneyBy 69 = .ok (.iconst 1, 1) := by decide +kernel
theorem dX4_moneyBy_70 : decode cX4_moneyBy 70 = .ok (.iadd, 1) := by decide +kernel
theorem dX4_moneyBy_71 : decode cX4_moneyBy 71 = .ok (.iaload, 1) := by decide +kernel
theorem dX4_moneyBy_72 : decode cX4_moneyBy 72 = .ok (.goto 4, 3) := by decide +kernel
theorem dX4_moneyBy_75 : decode cX4_moneyBy 75 = .ok (.iconst 0, 1) := by decide +kernel
theorem dX4_moneyBy_76 : decode cX4_moneyBy 76 = .ok (.iadd, 1) := by decide +kernel
theorem dX4_moneyBy_77 : decode cX4_moneyBy 77 = .ok (.istore_n 3, 1) := by decide +kernel
theorem dX4_moneyBy_78 : decode cX4_moneyBy 78 = .ok (.iload_n 3, 1) := by decide +kernel
theorem dX4_moneyBy_79 : decode cX4_moneyBy 79 = .ok (.iload 4, 2) := by decide +kernel
theorem dX4_moneyBy_81 : decode cX4_moneyBy 81 = .ok (.iload_n 2, 1) := by decide +kernel
theorem dX4_moneyBy_82 : decode cX4_moneyBy 82 = .ok (.if_icmp .ne 15, 3) := by decide +kernel
theorem dX4_moneyBy_85 : decode cX4_moneyBy 85 = .ok (.aload_n 0, 1) := by decide +kernel
theorem dX4_moneyBy_86 : decode cX4_moneyBy 86 = .ok (.getfield 16, 3) := by decide +kernel
theorem dX4_moneyBy_89 : decode cX4_moneyBy 89 = .ok (.iload 6, 2) := by decide +kernel
theorem dX4_moneyBy_91 : decode cX4_moneyBy 91 = .ok (.iconst 1, 1) := by decide +kernel
theorem dX4_moneyBy_92 : decode cX4_moneyBy 92 = .ok (.iadd, 1) := by decide +kernel
theorem dX4_moneyBy_93 : decode cX4_moneyBy 93 = .ok (.iaload, 1) := by decide +kernel
theorem dX4_moneyBy_94 : decode cX4_moneyBy 94 = .ok (.goto 4, 3) := by decide +kernel
theorem dX4_moneyBy_97 : decode cX4_moneyBy 97 = .ok (.iconst 0, 1) := by decide +kernel
theorem dX4_moneyBy_98 : decode cX4_moneyBy 98 = .ok (.isub, 1) := by decide +kernel
theorem dX4_moneyBy_99 : decode cX4_moneyBy 99 = .ok (.istore_n 3, 1) := by decide +kernel
theorem dX4_moneyBy_100 : decode cX4_moneyBy 100 = .ok (.iinc 5 1, 3) := by decide +kernel
theorem dX4_moneyBy_103 : decode cX4_moneyBy 103 = .ok (.goto (-83), 3) := by decide +kernel
theorem dX4_moneyBy_106 : decode cX4_moneyBy 106 = .ok (.iinc 4 1, 3) := by decide +kernel
theorem dX4_moneyBy_109 : decode cX4_moneyBy 109 = .ok (.goto (-99), 3) := by decide +kernel
theorem dX4_moneyBy_112 : decode cX4_moneyBy 112 = .ok (.iload_n 3, 1) := by decide +kernel
theorem dX4_moneyBy_113 : decode cX4_moneyBy 113 = .ok (.ireturn, 1) := by decide +kernel
set_option maxRecDepth 20000 in
theorem ggX4_soon_X4_isDebt : GoodIn wsX4_soon wsX4_isDebt := goodIn_r _ [12, 2, 13, 14, 11, 15, 16, 17, 18, 39, 40, 41, 42, 43, 44, 45, 46, 47, 48, 49, 50, 51, 52, 53, 54, 55, 56, 57, 58, 59] (by decide +kernel) (by decide +kernel)
set_option maxRecDepth 20000 in
theorem gX4_soon_X4_isDebt : GoodIn wsX4_soon (wsV RX4 122 RX4 yX4_isDebt wsX4_isDebt) := goodIn_app (goodIn_of _ (by decide +kernel)) ggX4_soon_X4_isDebt
set_option maxRecDepth 20000 in
theorem ggX4_soon_X4_layTurns : GoodIn wsX4_soon wsX4_layTurns := goodIn_r _ [22, 2, 23, 7, 3, 24, 25, 11, 26, 27, 28, 29, 39, 40, 41, 42, 43, 44, 45, 46, 47, 48, 49, 50, 51, 52, 53, 54, 55, 56, 57, 58, 59] (by decide +kernel) (by decide +kernel)
set_option maxRecDepth 20000 in
theorem gX4_soon_X4_layTurns : GoodIn wsX4_soon (wsV RX4 138 RX4 yX4_layTurns wsX4_layTurns) := goodIn_app (goodIn_of _ (by decide +kernel)) ggX4_soon_X4_layTurns
set_option maxRecDepth 20000 in
theorem ggX4_soon_X4_paidOf : GoodIn wsX4_soon wsX4_paidOf := goodIn_r _ [33, 1, 39, 40, 41, 42, 43, 44, 45, 46, 47, 48, 49, 50, 51, 52, 53, 54, 55, 56, 57, 58, 59] (by decide +kernel) (by decide +kernel)
set_option maxRecDepth 20000 in
theorem gX4_soon_X4_paidOf : GoodIn wsX4_soon (wsV RX4 135 RX4 yX4_paidOf wsX4_paidOf) := goodIn_app (goodIn_of _ (by decide +kernel)) ggX4_soon_X4_paidOf
set_option maxRecDepth 20000 in
theorem ggX4_soon_X4_moneyBy : GoodIn wsX4_soon wsX4_moneyBy := goodIn_r _ [37, 38, 3, 7, 30, 31, 32, 11, 33, 1, 24, 25, 26, 39, 40, 41, 42, 43, 44, 45, 46, 47, 48, 49, 50, 51, 52, 53, 54, 55, 56, 57, 58, 59] (by decide +kernel) (by decide +kernel)
set_option maxRecDepth 20000 in
theorem gX4_soon_X4_moneyBy : GoodIn wsX4_soon (wsV RX4 142 RX4 yX4_moneyBy wsX4_moneyBy) := goodIn_app (goodIn_of _ (by decide +kernel)) ggX4_soon_X4_moneyBy
set_option maxRecDepth 20000 in
theorem ggX4_soon_X4_at : GoodIn wsX4_soon wsX4_at := goodIn_r _ [26] (by decide +kernel) (by decide +kernel)
set_option maxRecDepth 20000 in
theorem gX4_soon_X4_at : GoodIn wsX4_soon (va_wsS RX4 79 yX4_at wsX4_at) := goodIn_app (goodIn_of _ (by decide +kernel)) ggX4_soon_X4_at
theorem dX4_soon_0 : decode cX4_soon 0 = .ok (.aload_n 0, 1) := by decide +kernel
theorem dX4_soon_1 : decode cX4_soon 1 = .ok (.iload_n 1, 1) := by decide +kernel
theorem dX4_soon_2 : decode cX4_soon 2 = .ok (.iload_n 2, 1) := by decide +kernel
theorem dX4_soon_3 : decode cX4_soon 3 = .ok (.invokevirtual 122, 3) := by decide +kernel
theorem dX4_soon_6 : decode cX4_soon 6 = .ok (.ifCond .ne 5, 3) := by decide +kernel
theorem dX4_soon_9 : decode cX4_soon 9 = .ok (.iconst (-1), 1) := by decide +kernel
theorem dX4_soon_10 : decode cX4_soon 10 = .ok (.ireturn, 1) := by decide +kernel
theorem dX4_soon_11 : decode cX4_soon 11 = .ok (.aload_n 0, 1) := by decide +kernel
theorem dX4_soon_12 : decode cX4_soon 12 = .ok (.invokevirtual 138, 3) := by decide +kernel
theorem dX4_soon_15 : decode cX4_soon 15 = .ok (.aload_n 0, 1) := by decide +kernel
theorem dX4_soon_16 : decode cX4_soon 16 = .ok (.getfield 37, 3) := by decide +kernel
theorem dX4_soon_19 : decode cX4_soon 19 = .ok (.iconst 0, 1) := by decide +kernel
theorem dX4_soon_20 : decode cX4_soon 20 = .ok (.iconst 1, 1) := by decide +kernel
theorem dX4_soon_21 : decode cX4_soon 21 = .ok (.iastore, 1) := by decide +kernel
theorem dX4_soon_22 : decode cX4_soon 22 = .ok (.iconst 0, 1) := by decide +kernel
theorem dX4_soon_23 : decode cX4_soon 23 = .ok (.istore_n 3, 1) := by decide +kernel
theorem dX4_soon_24 : decode cX4_soon 24 = .ok (.iload_n 3, 1) := by decide +kernel
theorem dX4_soon_25 : decode cX4_soon 25 = .ok (.bipush 6, 2) := by decide +kernel
theorem dX4_soon_27 : decode cX4_soon 27 = .ok (.if_icmp .ge 26, 3) := by decide +kernel
theorem dX4_soon_30 : decode cX4_soon 30 = .ok (.aload_n 0, 1) := by decide +kernel
theorem dX4_soon_31 : decode cX4_soon 31 = .ok (.getfield 37, 3) := by decide +kernel
theorem dX4_soon_34 : decode cX4_soon 34 = .ok (.iload_n 3, 1) := by decide +kernel
theorem dX4_soon_35 : decode cX4_soon 35 = .ok (.iconst 1, 1) := by decide +kernel
theorem dX4_soon_36 : decode cX4_soon 36 = .ok (.iadd, 1) := by decide +kernel
theorem dX4_soon_37 : decode cX4_soon 37 = .ok (.bipush 6, 2) := by decide +kernel
theorem dX4_soon_39 : decode cX4_soon 39 = .ok (.aload_n 0, 1) := by decide +kernel
theorem dX4_soon_40 : decode cX4_soon 40 = .ok (.getfield 37, 3) := by decide +kernel
theorem dX4_soon_43 : decode cX4_soon 43 = .ok (.iload_n 3, 1) := by decide +kernel
theorem dX4_soon_44 : decode cX4_soon 44 = .ok (.iaload, 1) := by decide +kernel
theorem dX4_soon_45 : decode cX4_soon 45 = .ok (.imul, 1) := by decide +kernel
theorem dX4_soon_46 : decode cX4_soon 46 = .ok (.iastore, 1) := by decide +kernel
theorem dX4_soon_47 : decode cX4_soon 47 = .ok (.iinc 3 1, 3) := by decide +kernel
theorem dX4_soon_50 : decode cX4_soon 50 = .ok (.goto (-26), 3) := by decide +kernel
theorem dX4_soon_53 : decode cX4_soon 53 = .ok (.iconst 0, 1) := by decide +kernel
theorem dX4_soon_54 : decode cX4_soon 54 = .ok (.istore_n 3, 1) := by decide +kernel
theorem dX4_soon_55 : decode cX4_soon 55 = .ok (.iconst 0, 1) := by decide +kernel
theorem dX4_soon_56 : decode cX4_soon 56 = .ok (.istore 4, 2) := by decide +kernel
theorem dX4_soon_58 : decode cX4_soon 58 = .ok (.iload 4, 2) := by decide +kernel
theorem dX4_soon_60 : decode cX4_soon 60 = .ok (.aload_n 0, 1) := by decide +kernel
theorem dX4_soon_61 : decode cX4_soon 61 = .ok (.getfield 13, 3) := by decide +kernel
theorem dX4_soon_64 : decode cX4_soon 64 = .ok (.iload_n 1, 1) := by decide +kernel
theorem dX4_soon_65 : decode cX4_soon 65 = .ok (.iaload, 1) := by decide +kernel
theorem dX4_soon_66 : decode cX4_soon 66 = .ok (.if_icmp .ge 33, 3) := by decide +kernel
theorem dX4_soon_69 : decode cX4_soon 69 = .ok (.aload_n 0, 1) := by decide +kernel
theorem dX4_soon_70 : decode cX4_soon 70 = .ok (.getfield 34, 3) := by decide +kernel
theorem dX4_soon_73 : decode cX4_soon 73 = .ok (.iconst 5, 1) := by decide +kernel
theorem dX4_soon_74 : decode cX4_soon 74 = .ok (.iload_n 1, 1) := by decide +kernel
theorem dX4_soon_75 : decode cX4_soon 75 = .ok (.imul, 1) := by decide +kernel
theorem dX4_soon_76 : decode cX4_soon 76 = .ok (.iload 4, 2) := by decide +kernel
theorem dX4_soon_78 : decode cX4_soon 78 = .ok (.iadd, 1) := by decide +kernel
theorem dX4_soon_79 : decode cX4_soon 79 = .ok (.iaload, 1) := by decide +kernel
theorem dX4_soon_80 : decode cX4_soon 80 = .ok (.iload_n 2, 1) := by decide +kernel
theorem dX4_soon_81 : decode cX4_soon 81 = .ok (.if_icmp .ne 10, 3) := by decide +kernel
theorem dX4_soon_84 : decode cX4_soon 84 = .ok (.iload 4, 2) := by decide +kernel
theorem dX4_soon_86 : decode cX4_soon 86 = .ok (.iconst 1, 1) := by decide +kernel
theorem dX4_soon_87 : decode cX4_soon 87 = .ok (.iadd, 1) := by decide +kernel
theorem dX4_soon_88 : decode cX4_soon 88 = .ok (.goto 4, 3) := by decide +kernel
theorem dX4_soon_91 : decode cX4_soon 91 = .ok (.iload_n 3, 1) := by decide +kernel
theorem dX4_soon_92 : decode cX4_soon 92 = .ok (.istore_n 3, 1) := by decide +kernel
theorem dX4_soon_93 : decode cX4_soon 93 = .ok (.iinc 4 1, 3) := by decide +kernel
theorem dX4_soon_96 : decode cX4_soon 96 = .ok (.goto (-38), 3) := by decide +kernel
theorem dX4_soon_99 : decode cX4_soon 99 = .ok (.iconst 0, 1) := by decide +kernel
theorem dX4_soon_100 : decode cX4_soon 100 = .ok (.istore 4, 2) := by decide +kernel
theorem dX4_soon_102 : decode cX4_soon 102 = .ok (.iload 4, 2) := by decide +kernel
theorem dX4_soon_104 : decode cX4_soon 104 = .ok (.ldc 40, 2) := by decide +kernel
theorem dX4_soon_106 : decode cX4_soon 106 = .ok (.if_icmp .ge 26, 3) := by decide +kernel
theorem dX4_soon_109 : decode cX4_soon 109 = .ok (.aload_n 0, 1) := by decide +kernel
theorem dX4_soon_110 : decode cX4_soon 110 = .ok (.getfield 41, 3) := by decide +kernel
theorem dX4_soon_113 : decode cX4_soon 113 = .ok (.iload 4, 2) := by decide +kernel
theorem dX4_soon_115 : decode cX4_soon 115 = .ok (.iload 4, 2) := by decide +kernel
theorem dX4_soon_117 : decode cX4_soon 117 = .ok (.ifCond .ne 7, 3) := by decide +kernel
theorem dX4_soon_120 : decode cX4_soon 120 = .ok (.iconst 1, 1) := by decide +kernel
theorem dX4_soon_121 : decode cX4_soon 121 = .ok (.goto 4, 3) := by decide +kernel
theorem dX4_soon_124 : decode cX4_soon 124 = .ok (.iconst 0, 1) := by decide +kernel
theorem dX4_soon_125 : decode cX4_soon 125 = .ok (.bastore, 1) := by decide +kernel
theorem dX4_soon_126 : decode cX4_soon 126 = .ok (.iinc 4 1, 3) := by decide +kernel
theorem dX4_soon_129 : decode cX4_soon 129 = .ok (.goto (-27), 3) := by decide +kernel
theorem dX4_soon_132 : decode cX4_soon 132 = .ok (.ldc 141, 2) := by decide +kernel
theorem dX4_soon_134 : decode cX4_soon 134 = .ok (.istore 4, 2) := by decide +kernel
theorem dX4_soon_136 : decode cX4_soon 136 = .ok (.iconst 0, 1) := by decide +kernel
theorem dX4_soon_137 : decode cX4_soon 137 = .ok (.istore 5, 2) := by decide +kernel
theorem dX4_soon_139 : decode cX4_soon 139 = .ok (.iload 5, 2) := by decide +kernel
theorem dX4_soon_141 : decode cX4_soon 141 = .ok (.ldc 40, 2) := by decide +kernel
theorem dX4_soon_143 : decode cX4_soon 143 = .ok (.if_icmp .ge 145, 3) := by decide +kernel
theorem dX4_soon_146 : decode cX4_soon 146 = .ok (.aload_n 0, 1) := by decide +kernel
theorem dX4_soon_147 : decode cX4_soon 147 = .ok (.getfield 41, 3) := by decide +kernel
theorem dX4_soon_150 : decode cX4_soon 150 = .ok (.iload 5, 2) := by decide +kernel
theorem dX4_soon_152 : decode cX4_soon 152 = .ok (.baload, 1) := by decide +kernel
theorem dX4_soon_153 : decode cX4_soon 153 = .ok (.ifCond .eq 129, 3) := by decide +kernel
theorem dX4_soon_156 : decode cX4_soon 156 = .ok (.iconst 0, 1) := by decide +kernel
theorem dX4_soon_157 : decode cX4_soon 157 = .ok (.istore 6, 2) := by decide +kernel
theorem dX4_soon_159 : decode cX4_soon 159 = .ok (.iconst 0, 1) := by decide +kernel
theorem dX4_soon_160 : decode cX4_soon 160 = .ok (.istore 7, 2) := by decide +kernel
theorem dX4_soon_162 : decode cX4_soon 162 = .ok (.iload 7, 2) := by decide +kernel
theorem dX4_soon_164 : decode cX4_soon 164 = .ok (.bipush 6, 2) := by decide +kernel
theorem dX4_soon_166 : decode cX4_soon 166 = .ok (.if_icmp .ge 89, 3) := by decide +kernel
theorem dX4_soon_169 : decode cX4_soon 169 = .ok (.aload_n 0, 1) := by decide +kernel
theorem dX4_soon_170 : decode cX4_soon 170 = .ok (.iload 5, 2) := by decide +kernel
theorem dX4_soon_172 : decode cX4_soon 172 = .ok (.iload 7, 2) := by decide +kernel
theorem dX4_soon_174 : decode cX4_soon 174 = .ok (.invokevirtual 135, 3) := by decide +kernel
theorem dX4_soon_177 : decode cX4_soon 177 = .ok (.istore 8, 2) := by decide +kernel
theorem dX4_soon_179 : decode cX4_soon 179 = .ok (.iload 6, 2) := by decide +kernel
theorem dX4_soon_181 : decode cX4_soon 181 = .ok (.iload 8, 2) := by decide +kernel
theorem dX4_soon_183 : decode cX4_soon 183 = .ok (.iadd, 1) := by decide +kernel
theorem dX4_soon_184 : decode cX4_soon 184 = .ok (.istore 6, 2) := by decide +kernel
theorem dX4_soon_186 : decode cX4_soon 186 = .ok (.iload 8, 2) := by decide +kernel
theorem dX4_soon_188 : decode cX4_soon 188 = .ok (.aload_n 0, 1) := by decide +kernel
theorem dX4_soon_189 : decode cX4_soon 189 = .ok (.getfield 13, 3) := by decide +kernel
theorem dX4_soon_192 : decode cX4_soon 192 = .ok (.iload 7, 2) := by decide +kernel
theorem dX4_soon_194 : decode cX4_soon 194 = .ok (.iaload, 1) := by decide +kernel
theorem dX4_soon_195 : decode cX4_soon 195 = .ok (.if_icmp .ge 54, 3) := by decide +kernel
theorem dX4_soon_198 : decode cX4_soon 198 = .ok (.aload_n 0, 1) := by decide +kernel
theorem dX4_soon_199 : decode cX4_soon 199 = .ok (.iload 5, 2) := by decide +kernel
theorem dX4_soon_201 : decode cX4_soon 201 = .ok (.iload 7, 2) := by decide +kernel
theorem dX4_soon_203 : decode cX4_soon 203 = .ok (.invokevirtual 142, 3) := by decide +kernel
theorem dX4_soon_206 : decode cX4_soon 206 = .ok (.aload_n 0, 1) := by decide +kernel
theorem dX4_soon_207 : decode cX4_soon 207 = .ok (.getfield 16, 3) := by decide +kernel
theorem dX4_soon_210 : decode cX4_soon 210 = .ok (.iload 7, 2) := by decide +kernel
theorem dX4_soon_212 : decode cX4_soon 212 = .ok (.aload_n 0, 1) := by decide +kernel
theorem dX4_soon_213 : decode cX4_soon 213 = .ok (.getfield 34, 3) := by decide +kernel
theorem dX4_soon_216 : decode cX4_soon 216 = .ok (.iconst 5, 1) := by decide +kernel
theorem dX4_soon_217 : decode cX4_soon 217 = .ok (.iload 7, 2) := by decide +kernel
theorem dX4_soon_219 : decode cX4_soon 219 = .ok (.imul, 1) := by decide +kernel
theorem dX4_soon_220 : decode cX4_soon 220 = .ok (.iload 8, 2) := by decide +kernel
theorem dX4_soon_222 : decode cX4_soon 222 = .ok (.iadd, 1) := by decide +kernel
theorem dX4_soon_223 : decode cX4_soon 223 = .ok (.iaload, 1) := by decide +kernel
theorem dX4_soon_224 : decode cX4_soon 224 = .ok (.invokestatic 79, 3) := by decide +kernel
theorem dX4_soon_227 : decode cX4_soon 227 = .ok (.iconst 1, 1) := by decide +kernel
theorem dX4_soon_228 : decode cX4_soon 228 = .ok (.iadd, 1) := by decide +kernel
theorem dX4_soon_229 : decode cX4_soon 229 = .ok (.iaload, 1) := by decide +kernel
theorem dX4_soon_230 : decode cX4_soon 230 = .ok (.if_icmp .lt 19, 3) := by decide +kernel
theorem dX4_soon_233 : decode cX4_soon 233 = .ok (.aload_n 0, 1) := by decide +kernel
theorem dX4_soon_234 : decode cX4_soon 234 = .ok (.getfield 41, 3) := by decide +kernel
theorem dX4_soon_237 : decode cX4_soon 237 = .ok (.iload 5, 2) := by decide +kernel
theorem dX4_soon_239 : decode cX4_soon 239 = .ok (.aload_n 0, 1) := by decide +kernel
theorem dX4_soon_240 : decode cX4_soon 240 = .ok (.getfield 37, 3) := by decide +kernel
theorem dX4_soon_243 : decode cX4_soon 243 = .ok (.iload 7, 2) := by decide +kernel
theorem dX4_soon_245 : decode cX4_soon 245 = .ok (.iaload, 1) := by decide +kernel
theorem dX4_soon_246 : decode cX4_soon 246 = .ok (.iadd, 1) := by decide +kernel
theorem dX4_soon_247 : decode cX4_soon 247 = .ok (.iconst 1, 1) := by decide +kernel
theorem dX4_soon_248 : decode cX4_soon 248 = .ok (.bastore, 1) := by decide +kernel
theorem dX4_soon_249 : decode cX4_soon 249 = .ok (.iinc 7 1, 3) := by decide +kernel
theorem dX4_soon_252 : decode cX4_soon 252 = .ok (.goto (-90), 3) := by decide +kernel
theorem dX4_soon_255 : decode cX4_soon 255 = .ok (.aload_n 0, 1) := by decide +kernel
theorem dX4_soon_256 : decode cX4_soon 256 = .ok (.iload 5, 2) := by decide +kernel
theorem dX4_soon_258 : decode cX4_soon 258 = .ok (.iload_n 1, 1) := by decide +kernel
theorem dX4_soon_259 : decode cX4_soon 259 = .ok (.invokevirtual 135, 3) := by decide +kernel
theorem dX4_soon_262 : decode cX4_soon 262 = .ok (.iload_n 3, 1) := by decide +kernel
theorem dX4_soon_263 : decode cX4_soon 263 = .ok (.if_icmp .lt 15, 3) := by decide +kernel
theorem dX4_soon_266 : decode cX4_soon 266 = .ok (.iload 6, 2) := by decide +kernel
theorem dX4_soon_268 : decode cX4_soon 268 = .ok (.iload 4, 2) := by decide +kernel
theorem dX4_soon_270 : decode cX4_soon 270 = .ok (.if_icmp .ge 8, 3) := by decide +kernel
theorem dX4_soon_273 : decode cX4_soon 273 = .ok (.iload 6, 2) := by decide +kernel
theorem dX4_soon_275 : decode cX4_soon 275 = .ok (.goto 5, 3) := by decide +kernel
theorem dX4_soon_278 : decode cX4_soon 278 = .ok (.iload 4, 2) := by decide +kernel
theorem dX4_soon_280 : decode cX4_soon 280 = .ok (.istore 4, 2) := by decide +kernel
theorem dX4_soon_282 : decode cX4_soon 282 = .ok (.iinc 5 1, 3) := by decide +kernel
theorem dX4_soon_285 : decode cX4_soon 285 = .ok (.goto (-146), 3) := by decide +kernel
theorem dX4_soon_288 : decode cX4_soon 288 = .ok (.iload 4, 2) := by decide +kernel
theorem dX4_soon_290 : decode cX4_soon 290 = .ok (.ldc 141, 2) := by decide +kernel
theorem dX4_soon_292 : decode cX4_soon 292 = .ok (.if_icmp .ne 8, 3) := by decide +kernel
theorem dX4_soon_295 : decode cX4_soon 295 = .ok (.bipush (-6), 2) := by decide +kernel
theorem dX4_soon_297 : decode cX4_soon 297 = .ok (.goto 5, 3) := by decide +kernel
theorem dX4_soon_300 : decode cX4_soon 300 = .ok (.iload 4, 2) := by decide +kernel
theorem dX4_soon_302 : decode cX4_soon 302 = .ok (.ireturn, 1) := by decide +kernel
set_option maxRecDepth 20000 in
theorem ggX4_payAll_X4_canPay : GoodIn wsX4_payAll wsX4_canPay := goodIn_r _ [5, 6, 7, 8, 9, 4, 10, 11, 12, 13, 14, 15, 16, 17, 18, 19, 20, 29, 30, 31, 32, 33, 34, 35, 36, 37, 38, 39, 40, 41, 42, 43, 44, 45, 46, 47, 48, 49] (by decide +kernel) (by decide +kernel)
set_option maxRecDepth 20000 in
theorem gX4_payAll_X4_canPay : GoodIn wsX4_payAll (wsV RX4 109 RX4 yX4_canPay wsX4_canPay) := goodIn_app (goodIn_of _ (by decide +kernel)) ggX4_payAll_X4_canPay
set_option maxRecDepth 20000 in
theorem ggX4_payAll_X4_pay : GoodIn wsX4_payAll wsX4_pay := goodIn_r _ [24, 6, 11, 12, 13, 14, 4, 15, 16, 17, 18, 19, 20, 25, 26, 27, 28, 29, 30, 31, 32, 33, 34, 35, 36, 37, 38, 39, 40, 41, 42, 43, 44, 45, 46, 47, 48, 49] (by decide +kernel) (by decide +kernel)
set_option maxRecDepth 20000 in
theorem gX4_payAll_X4_pay : GoodIn wsX4_payAll (wsV RX4 112 RX4 yX4_pay wsX4_pay) := goodIn_app (goodIn_of _ (by decide +kernel)) ggX4_payAll_X4_pay
theorem dX4_payAll_0 : decode cX4_payAll 0 = .ok (.iconst 1, 1) := by decide +kernel
theorem dX4_payAll_1 : decode cX4_payAll 1 = .ok (.istore_n 1, 1) := by decide +kernel
theorem dX4_payAll_2 : decode cX4_payAll 2 = .ok (.iload_n 1, 1) := by decide +kernel
theorem dX4_payAll_3 : decode cX4_payAll 3 = .ok (.ifCond .eq 40, 3) := by decide +kernel
theorem dX4_payAll_6 : decode cX4_payAll 6 = .ok (.iconst 0, 1) := by decide +kernel
theorem dX4_payAll_7 : decode cX4_payAll 7 = .ok (.istore_n 1, 1) := by decide +kernel
theorem dX4_payAll_8 : decode cX4_payAll 8 = .ok (.iconst 0, 1) := by decide +kernel
theorem dX4_payAll_9 : decode cX4_payAll 9 = .ok (.istore_n 2, 1) := by decide +kernel
theorem dX4_payAll_10 : decode cX4_payAll 10 = .ok (.iload_n 2, 1) := by decide +kernel
theorem dX4_payAll_11 : decode cX4_payAll 11 = .ok (.bipush 6, 2) := by decide +kernel
theorem dX4_payAll_13 : decode cX4_payAll 13 = .ok (.if_icmp .ge 27, 3) := by decide +kernel
theorem dX4_payAll_16 : decode cX4_payAll 16 = .ok (.aload_n 0, 1) := by decide +kernel
theorem dX4_payAll_17 : decode cX4_payAll 17 = .ok (.iload_n 2, 1) := by decide +kernel
theorem dX4_payAll_18 : decode cX4_payAll 18 = .ok (.invokevirtual 109, 3) := by decide +kernel
theorem dX4_payAll_21 : decode cX4_payAll 21 = .ok (.ifCond .eq 13, 3) := by decide +kernel
theorem dX4_payAll_24 : decode cX4_payAll 24 = .ok (.aload_n 0, 1) := by decide +kernel
theorem dX4_payAll_25 : decode cX4_payAll 25 = .ok (.iload_n 2, 1) := by decide +kernel
theorem dX4_payAll_26 : decode cX4_payAll 26 = .ok (.invokevirtual 112, 3) := by decide +kernel
theorem dX4_payAll_29 : decode cX4_payAll 29 = .ok (.iconst 1, 1) := by decide +kernel
theorem dX4_payAll_30 : decode cX4_payAll 30 = .ok (.istore_n 1, 1) := by decide +kernel
theorem dX4_payAll_31 : decode cX4_payAll 31 = .ok (.goto (-15), 3) := by decide +kernel
theorem dX4_payAll_34 : decode cX4_payAll 34 = .ok (.iinc 2 1, 3) := by decide +kernel
theorem dX4_payAll_37 : decode cX4_payAll 37 = .ok (.goto (-27), 3) := by decide +kernel
theorem dX4_payAll_40 : decode cX4_payAll 40 = .ok (.goto (-38), 3) := by decide +kernel
theorem dX4_payAll_43 : decode cX4_payAll 43 = .ok (.return_, 1) := by decide +kernel
theorem dX4_leftNow_0 : decode cX4_leftNow 0 = .ok (.iconst 0, 1) := by decide +kernel
theorem dX4_leftNow_1 : decode cX4_leftNow 1 = .ok (.istore_n 1, 1) := by decide +kernel
theorem dX4_leftNow_2 : decode cX4_leftNow 2 = .ok (.iconst 0, 1) := by decide +kernel
theorem dX4_leftNow_3 : decode cX4_leftNow 3 = .ok (.istore_n 2, 1) := by decide +kernel
theorem dX4_leftNow_4 : decode cX4_leftNow 4 = .ok (.iload_n 2, 1) := by decide +kernel
theorem dX4_leftNow_5 : decode cX4_leftNow 5 = .ok (.bipush 6, 2) := by decide +kernel
theorem dX4_leftNow_7 : decode cX4_leftNow 7 = .ok (.if_icmp .ge 28, 3) := by decide +kernel
theorem dX4_leftNow_10 : decode cX4_leftNow 10 = .ok (.iload_n 1, 1) := by decide +kernel
theorem dX4_leftNow_11 : decode cX4_leftNow 11 = .ok (.aload_n 0, 1) := by decide +kernel
theorem dX4_leftNow_12 : decode cX4_leftNow 12 = .ok (.getfield 28, 3) := by decide +kernel
theorem dX4_leftNow_15 : decode cX4_leftNow 15 = .ok (.iload_n 2, 1) := by decide +kernel
theorem dX4_leftNow_16 : decode cX4_leftNow 16 = .ok (.iaload, 1) := by decide +kernel
theorem dX4_leftNow_17 : decode cX4_leftNow 17 = .ok (.ifCond .le 9, 3) := by decide +kernel
theorem dX4_leftNow_20 : decode cX4_leftNow 20 = .ok (.iconst 1, 1) := by decide +kernel
theorem dX4_leftNow_21 : decode cX4_leftNow 21 = .ok (.iload_n 2, 1) := by decide +kernel
theorem dX4_leftNow_22 : decode cX4_leftNow 22 = .ok (.ishl, 1) := by decide +kernel
theorem dX4_leftNow_23 : decode cX4_leftNow 23 = .ok (.goto 4, 3) := by decide +kernel
theorem dX4_leftNow_26 : decode cX4_leftNow 26 = .ok (.iconst 0, 1) := by decide +kernel
theorem dX4_leftNow_27 : decode cX4_leftNow 27 = .ok (.ior, 1) := by decide +kernel
theorem dX4_leftNow_28 : decode cX4_leftNow 28 = .ok (.istore_n 1, 1) := by decide +kernel
theorem dX4_leftNow_29 : decode cX4_leftNow 29 = .ok (.iinc 2 1, 3) := by decide +kernel
theorem dX4_leftNow_32 : decode cX4_leftNow 32 = .ok (.goto (-28), 3) := by decide +kernel
theorem dX4_leftNow_35 : decode cX4_leftNow 35 = .ok (.iload_n 1, 1) := by decide +kernel
theorem dX4_leftNow_36 : decode cX4_leftNow 36 = .ok (.ireturn, 1) := by decide +kernel
set_option maxRecDepth 20000 in
theorem ggX4_barred_X4_asNow : GoodIn wsX4_barred wsX4_asNow := goodIn_r _ [5, 6, 7, 8, 9, 10, 11, 12, 13, 46, 47, 48, 49, 50, 51, 52, 53, 54, 55, 56, 57, 58, 59, 60, 61, 62, 63, 64, 65, 66] (by decide +kernel) (by decide +kernel)
set_option maxRecDepth 20000 in
theorem gX4_barred_X4_asNow : GoodIn wsX4_barred (wsV RX4 94 RX4 yX4_asNow wsX4_asNow) := goodIn_app (goodIn_of _ (by decide +kernel)) ggX4_barred_X4_asNow
set_option maxRecDepth 20000 in
theorem ggX4_barred_X4_payAll : GoodIn wsX4_barred wsX4_payAll := goodIn_r _ [17, 18, 19, 20, 4, 21, 8, 22, 23, 24, 25, 12, 26, 27, 28, 29, 10, 30, 31, 32, 33, 34, 35, 36, 37, 38, 39, 40, 41, 46, 47, 48, 49, 50, 51, 52, 53, 54, 55, 56, 57, 58, 59, 60, 61, 62, 63, 64, 65, 66] (by decide +kernel) (by decide +kernel)
set_option maxRecDepth 20000 in
theorem gX4_barred_X4_payAll : GoodIn wsX4_barred (wsV RX4 145 RX4 yX4_payAll wsX4_payAll) := goodIn_app (goodIn_of _ (by decide +kernel)) ggX4_barred_X4_payAll
set_option maxRecDepth 20000 in
theorem ggX4_barred_X4_leftNow : GoodIn wsX4_barred wsX4_leftNow := goodIn_r _ [45, 10, 46, 47, 48, 49, 50, 51, 52, 53, 54, 55, 56, 57, 58, 59, 60, 61, 62, 63, 64, 65, 66] (by decide +kernel) (by decide +kernel)
set_option maxRecDepth 20000 in
theorem gX4_barred_X4_leftNow : GoodIn wsX4_barred (wsV RX4 148 RX4 yX4_leftNow wsX4_leftNow) := goodIn_app (goodIn_of _ (by decide +kernel)) ggX4_barred_X4_leftNow
theorem dX4_barred_0 : decode cX4_barred 0 = .ok (.aload_n 0, 1) := by decide +kernel
theorem dX4_barred_1 : decode cX4_barred 1 = .ok (.invokevirtual 94, 3) := by decide +kernel
theorem dX4_barred_4 : decode cX4_barred 4 = .ok (.aload_n 0, 1) := by decide +kernel
theorem dX4_barred_5 : decode cX4_barred 5 = .ok (.invokevirtual 145, 3) := by decide +kernel
theorem dX4_barred_8 : decode cX4_barred 8 = .ok (.aload_n 0, 1) := by decide +kernel
theorem dX4_barred_9 : decode cX4_barred 9 = .ok (.invokevirtual 148, 3) := by decide +kernel
theorem dX4_barred_12 : decode cX4_barred 12 = .ok (.ireturn, 1) := by decide +kernel
set_option maxRecDepth 20000 in
theorem ggX4_isEnough_X4_asNow : GoodIn wsX4_isEnough wsX4_asNow := goodIn_r _ [6, 7, 8, 1, 9, 10, 11, 12, 13, 46, 47, 48, 49, 50, 51, 52, 53, 54, 55, 56, 57, 58, 59, 60, 61, 62, 63, 64, 65, 66] (by decide +kernel) (by decide +kernel)
set_option maxRecDepth 20000 in
theorem gX4_isEnough_X4_asNow : GoodIn wsX4_isEnough (wsV RX4 94 RX4 yX4_asNow wsX4_asNow) := goodIn_app (goodIn_of _ (by decide +kernel)) ggX4_isEnough_X4_asNow
set_option maxRecDepth 20000 in
theorem ggX4_isEnough_X4_payAll : GoodIn wsX4_isEnough wsX4_payAll := goodIn_r _ [17, 18, 19, 20, 5, 21, 1, 22, 23, 24, 25, 12, 26, 27, 28, 29, 10, 30, 31, 32, 33, 34, 35, 36, 37, 38, 39, 40, 41, 46, 47, 48, 49, 50, 51, 52, 53, 54, 55, 56, 57, 58, 59, 60, 61, 62, 63, 64, 65, 66] (by decide +kernel) (by decide +kernel)
set_option maxRecDepth 20000 in
theorem gX4_isEnough_X4_payAll : GoodIn wsX4_isEnough (wsV RX4 145 RX4 yX4_payAll wsX4_payAll) := goodIn_app (goodIn_of _ (by decide +kernel)) ggX4_isEnough_X4_payAll
set_option maxRecDepth 20000 in
theorem ggX4_isEnough_X4_leftNow : GoodIn wsX4_isEnough wsX4_leftNow := goodIn_r _ [45, 10, 46, 47, 48, 49, 50, 51, 52, 53, 54, 55, 56, 57, 58, 59, 60, 61, 62, 63, 64, 65, 66] (by decide +kernel) (by decide +kernel)
set_option maxRecDepth 20000 in
theorem gX4_isEnough_X4_leftNow : GoodIn wsX4_isEnough (wsV RX4 148 RX4 yX4_leftNow wsX4_leftNow) := goodIn_app (goodIn_of _ (by decide +kernel)) ggX4_isEnough_X4_leftNow
theorem dX4_isEnough_0 : decode cX4_isEnough 0 = .ok (.aload_n 0, 1) := by decide +kernel
theorem dX4_isEnough_1 : decode cX4_isEnough 1 = .ok (.invokevirtual 94, 3) := by decide +kernel
theorem dX4_isEnough_4 : decode cX4_isEnough 4 = .ok (.aload_n 0, 1) := by decide +kernel
theorem dX4_isEnough_5 : decode cX4_isEnough 5 = .ok (.getfield 25, 3) := by decide +kernel
theorem dX4_isEnough_8 : decode cX4_isEnough 8 = .ok (.iload_n 1, 1) := by decide +kernel
theorem dX4_isEnough_9 : decode cX4_isEnough 9 = .ok (.dup2, 1) := by decide +kernel
theorem dX4_isEnough_10 : decode cX4_isEnough 10 = .ok (.iaload, 1) := by decide +kernel
theorem dX4_isEnough_11 : decode cX4_isEnough 11 = .ok (.iload_n 2, 1) := by decide +kernel
theorem dX4_isEnough_12 : decode cX4_isEnough 12 = .ok (.iadd, 1) := by decide +kernel
theorem dX4_isEnough_13 : decode cX4_isEnough 13 = .ok (.iastore, 1) := by decide +kernel
theorem dX4_isEnough_14 : decode cX4_isEnough 14 = .ok (.aload_n 0, 1) := by decide +kernel
theorem dX4_isEnough_15 : decode cX4_isEnough 15 = .ok (.invokevirtual 145, 3) := by decide +kernel
theorem dX4_isEnough_18 : decode cX4_isEnough 18 = .ok (.aload_n 0, 1) := by decide +kernel
theorem dX4_isEnough_19 : decode cX4_isEnough 19 = .ok (.invokevirtual 148, 3) := by decide +kernel
theorem dX4_isEnough_22 : decode cX4_isEnough 22 = .ok (.ifCond .ne 7, 3) := by decide +kernel
theorem dX4_isEnough_25 : decode cX4_isEnough 25 = .ok (.iconst 1, 1) := by decide +kernel
theorem dX4_isEnough_26 : decode cX4_isEnough 26 = .ok (.goto 4, 3) := by decide +kernel
theorem dX4_isEnough_29 : decode cX4_isEnough 29 = .ok (.iconst 0, 1) := by decide +kernel
theorem dX4_isEnough_30 : decode cX4_isEnough 30 = .ok (.ireturn, 1) := by decide +kernel
set_option maxRecDepth 20000 in
theorem ggX4_helpOf_X4_isEnough : GoodIn wsX4_helpOf wsX4_isEnough := goodIn_r _ [6, 7, 8, 9, 10, 5, 11, 12, 13, 14, 15, 16, 17, 18, 19, 20, 21, 22, 23, 24, 25, 26, 27, 28, 29, 30, 31, 32, 33, 34, 35, 36, 37, 38, 39, 40, 41, 42, 43, 44, 45, 46, 47, 48, 49, 50, 51, 52, 53, 54, 55, 56, 57, 58, 59, 60, 61, 62, 63, 64, 65, 66, 67, 68, 69, 70, 71] (by decide +kernel) (by decide +kernel)
set_option maxRecDepth 20000 in
theorem gX4_helpOf_X4_isEnough : GoodIn wsX4_helpOf (wsV RX4 151 RX4 yX4_isEnough wsX4_isEnough) := goodIn_app (goodIn_of _ (by decide +kernel)) ggX4_helpOf_X4_isEnough
theorem dX4_helpOf_0 : decode cX4_helpOf 0 = .ok (.ldc 141, 2) := by decide +kernel
theorem dX4_helpOf_2 : decode cX4_helpOf 2 = .ok (.istore_n 2, 1) := by decide +kernel
theorem dX4_helpOf_3 : decode cX4_helpOf 3 = .ok (.aload_n 0, 1) := by decide +kernel
theorem dX4_helpOf_4 : decode cX4_helpOf 4 = .ok (.iload_n 1, 1) := by decide +kernel
theorem dX4_helpOf_5 : decode cX4_helpOf 5 = .ok (.iload_n 2, 1) := by decide +kernel
theorem dX4_helpOf_6 : decode cX4_helpOf 6 = .ok (.invokevirtual 151, 3) := by decide +kernel
theorem dX4_helpOf_9 : decode cX4_helpOf 9 = .ok (.ifCond .ne 6, 3) := by decide +kernel
theorem dX4_helpOf_12 : decode cX4_helpOf 12 = .ok (.bipush (-6), 2) := by decide +kernel
theorem dX4_helpOf_14 : decode cX4_helpOf 14 = .ok (.ireturn, 1) := by decide +kernel
theorem dX4_helpOf_15 : decode cX4_helpOf 15 = .ok (.iconst (-1), 1) := by decide +kernel
theorem dX4_helpOf_16 : decode cX4_helpOf 16 = .ok (.istore_n 3, 1) := by decide +kernel
theorem dX4_helpOf_17 : decode cX4_helpOf 17 = .ok (.iload_n 3, 1) := by decide +kernel
theorem dX4_helpOf_18 : decode cX4_helpOf 18 = .ok (.iconst 1, 1) := by decide +kernel
theorem dX4_helpOf_19 : decode cX4_helpOf 19 = .ok (.iadd, 1) := by decide +kernel
theorem dX4_helpOf_20 : decode cX4_helpOf 20 = .ok (.iload_n 2, 1) := by decide +kernel
theorem dX4_helpOf_21 : decode cX4_helpOf 21 = .ok (.if_icmp .ge 32, 3) := by decide +kernel
theorem dX4_helpOf_24 : decode cX4_helpOf 24 = .ok (.iload_n 3, 1) := by decide +kernel
theorem dX4_helpOf_25 : decode cX4_helpOf 25 = .ok (.iload_n 2, 1) := by decide +kernel
theorem dX4_helpOf_26 : decode cX4_helpOf 26 = .ok (.iadd, 1) := by decide +kernel
theorem dX4_helpOf_27 : decode cX4_helpOf 27 = .ok (.iconst 2, 1) := by decide +kernel
theorem dX4_helpOf_28 : decode cX4_helpOf 28 = .ok (.idiv, 1) := by decide +kernel
theorem dX4_helpOf_29 : decode cX4_helpOf 29 = .ok (.istore 4, 2) := by decide +kernel
theorem dX4_helpOf_31 : decode cX4_helpOf 31 = .ok (.aload_n 0, 1) := by decide +kernel
theorem dX4_helpOf_32 : decode cX4_helpOf 32 = .ok (.iload_n 1, 1) := by decide +kernel
theorem dX4_helpOf_33 : decode cX4_helpOf 33 = .ok (.iload 4, 2) := by decide +kernel
theorem dX4_helpOf_35 : decode cX4_helpOf 35 = .ok (.invokevirtual 151, 3) := by decide +kernel
theorem dX4_helpOf_38 : decode cX4_helpOf 38 = .ok (.ifCond .eq 9, 3) := by decide +kernel
theorem dX4_helpOf_41 : decode cX4_helpOf 41 = .ok (.iload 4, 2) := by decide +kernel
theorem dX4_helpOf_43 : decode cX4_helpOf 43 = .ok (.istore_n 2, 1) := by decide +kernel
theorem dX4_helpOf_44 : decode cX4_helpOf 44 = .ok (.goto 6, 3) := by decide +kernel
theorem dX4_helpOf_47 : decode cX4_helpOf 47 = .ok (.iload 4, 2) := by decide +kernel
theorem dX4_helpOf_49 : decode cX4_helpOf 49 = .ok (.istore_n 3, 1) := by decide +kernel
theorem dX4_helpOf_50 : decode cX4_helpOf 50 = .ok (.goto (-33), 3) := by decide +kernel
theorem dX4_helpOf_53 : decode cX4_helpOf 53 = .ok (.iload_n 2, 1) := by decide +kernel
theorem dX4_helpOf_54 : decode cX4_helpOf 54 = .ok (.ireturn, 1) := by decide +kernel
set_option maxRecDepth 20000 in
theorem ggX4_help_X4_isMan : GoodIn wsX4_help wsX4_isMan := goodIn_r _ [4, 5, 6, 3, 7] (by decide +kernel) (by decide +kernel)
set_option maxRecDepth 20000 in
theorem gX4_help_X4_isMan : GoodIn wsX4_help (va_wsS RX4 55 yX4_isMan wsX4_isMan) := goodIn_app (goodIn_of _ (by decide +kernel)) ggX4_help_X4_isMan
set_option maxRecDepth 20000 in
theorem ggX4_help_X4_helpOf : GoodIn wsX4_help wsX4_helpOf := goodIn_r _ [11, 12, 13, 14, 15, 3, 16, 17, 18, 19, 20, 21, 22, 23, 24, 25, 26, 27, 28, 29, 30, 31, 32, 33, 34, 35, 36, 37, 38, 39, 40, 41, 42, 43, 44, 45, 46, 47, 48, 49, 50, 51, 52, 53, 54, 55, 56, 57, 58, 59, 60, 61, 62, 63, 64, 65, 66, 67, 68, 69, 70, 71, 72, 73, 74, 75, 76, 77, 78, 79, 80, 81] (by decide +kernel) (by decide +kernel)
set_option maxRecDepth 20000 in
theorem gX4_help_X4_helpOf : GoodIn wsX4_help (wsV RX4 154 RX4 yX4_helpOf wsX4_helpOf) := goodIn_app (goodIn_of _ (by decide +kernel)) ggX4_help_X4_helpOf
theorem dX4_help_0 : decode cX4_help 0 = .ok (.iload_n 1, 1) := by decide +kernel
theorem dX4_help_1 : decode cX4_help 1 = .ok (.invokestatic 55, 3) := by decide +kernel
theorem dX4_help_4 : decode cX4_help 4 = .ok (.ifCond .eq 11, 3) := by decide +kernel
theorem dX4_help_7 : decode cX4_help 7 = .ok (.aload_n 0, 1) := by decide +kernel
theorem dX4_help_8 : decode cX4_help 8 = .ok (.iload_n 1, 1) := by decide +kernel
theorem dX4_help_9 : decode cX4_help 9 = .ok (.invokevirtual 154, 3) := by decide +kernel
theorem dX4_help_12 : decode cX4_help 12 = .ok (.goto 4, 3) := by decide +kernel
theorem dX4_help_15 : decode cX4_help 15 = .ok (.iconst (-1), 1) := by decide +kernel
theorem dX4_help_16 : decode cX4_help 16 = .ok (.ireturn, 1) := by decide +kernel
set_option maxRecDepth 20000 in
theorem ggX4_whom_X4_helpOf : GoodIn wsX4_whom wsX4_helpOf := goodIn_r _ [6, 1, 7, 8, 9, 5, 10, 11, 12, 13, 14, 15, 16, 17, 18, 19, 20, 21, 22, 23, 24, 25, 26, 27, 28, 29, 30, 31, 32, 33, 34, 35, 36, 37, 38, 39, 40, 41, 42, 43, 44, 45, 46, 47, 48, 49, 50, 51, 52, 53, 54, 55, 56, 57, 58, 59, 60, 61, 62, 63, 64, 65, 66, 67, 68, 69, 70, 71, 72, 73, 74, 75] (by decide +kernel) (by decide +kernel)
set_option maxRecDepth 20000 in
theorem gX4_whom_X4_helpOf : GoodIn wsX4_whom (wsV RX4 154 RX4 yX4_helpOf wsX4_helpOf) := goodIn_app (goodIn_of _ (by decide +kernel)) ggX4_whom_X4_helpOf
theorem dX4_whom_0 : decode cX4_whom 0 = .ok (.bipush (-6), 2) := by decide +kernel
theorem dX4_whom_2 : decode cX4_whom 2 = .ok (.istore_n 1, 1) := by decide +kernel
theorem dX4_whom_3 : decode cX4_whom 3 = .ok (.ldc 141, 2) := by decide +kernel
theorem dX4_whom_5 : decode cX4_whom 5 = .ok (.istore_n 2, 1) := by decide +kernel
theorem dX4_whom_6 : decode cX4_whom 6 = .ok (.iconst 0, 1) := by decide +kernel
theorem dX4_whom_7 : decode cX4_whom 7 = .ok (.istore_n 3, 1) := by decide +kernel
theorem dX4_whom_8 : decode cX4_whom 8 = .ok (.iload_n 3, 1) := by decide +kernel
theorem dX4_whom_9 : decode cX4_whom 9 = .ok (.bipush 6, 2) := by decide +kernel
theorem dX4_whom_11 : decode cX4_whom 11 = .ok (.if_icmp .ge 32, 3) := by decide +kernel
theorem dX4_whom_14 : decode cX4_whom 14 = .ok (.aload_n 0, 1) := by decide +kernel
theorem dX4_whom_15 : decode cX4_whom 15 = .ok (.iload_n 3, 1) := by decide +kernel
theorem dX4_whom_16 : decode cX4_whom 16 = .ok (.invokevirtual 154, 3) := by decide +kernel
theorem dX4_whom_19 : decode cX4_whom 19 = .ok (.istore 4, 2) := by decide +kernel
theorem dX4_whom_21 : decode cX4_whom 21 = .ok (.iload 4, 2) := by decide +kernel
theorem dX4_whom_23 : decode cX4_whom 23 = .ok (.ifCond .lt 14, 3) := by decide +kernel
theorem dX4_whom_26 : decode cX4_whom 26 = .ok (.iload 4, 2) := by decide +kernel
theorem dX4_whom_28 : decode cX4_whom 28 = .ok (.iload_n 2, 1) := by decide +kernel
theorem dX4_whom_29 : decode cX4_whom 29 = .ok (.if_icmp .ge 8, 3) := by decide +kernel
theorem dX4_whom_32 : decode cX4_whom 32 = .ok (.iload 4, 2) := by decide +kernel
theorem dX4_whom_34 : decode cX4_whom 34 = .ok (.istore_n 2, 1) := by decide +kernel
theorem dX4_whom_35 : decode cX4_whom 35 = .ok (.iload_n 3, 1) := by decide +kernel
theorem dX4_whom_36 : decode cX4_whom 36 = .ok (.istore_n 1, 1) := by decide +kernel
theorem dX4_whom_37 : decode cX4_whom 37 = .ok (.iinc 3 1, 3) := by decide +kernel
theorem dX4_whom_40 : decode cX4_whom 40 = .ok (.goto (-32), 3) := by decide +kernel
theorem dX4_whom_43 : decode cX4_whom 43 = .ok (.iload_n 1, 1) := by decide +kernel
theorem dX4_whom_44 : decode cX4_whom 44 = .ok (.ireturn, 1) := by decide +kernel
set_option maxRecDepth 20000 in
theorem ggX4_ringOf_X4_asNow : GoodIn wsX4_ringOf wsX4_asNow := goodIn_r _ [6, 7, 8, 9, 10, 11, 12, 1, 13, 22, 23, 24, 25, 26, 27, 28, 29, 30, 31, 32, 33, 34, 35, 36, 37, 38, 39, 40, 41, 42] (by decide +kernel) (by decide +kernel)
set_option maxRecDepth 20000 in
theorem gX4_ringOf_X4_asNow : GoodIn wsX4_ringOf (wsV RX4 94 RX4 yX4_asNow wsX4_asNow) := goodIn_app (goodIn_of _ (by decide +kernel)) ggX4_ringOf_X4_asNow
set_option maxRecDepth 20000 in
theorem ggX4_ringOf_X4_dueNow : GoodIn wsX4_ringOf wsX4_dueNow := goodIn_r _ [17, 11, 18, 1, 19, 20, 5, 21, 22, 23, 24, 25, 26, 27, 28, 29, 30, 31, 32, 33, 34, 35, 36, 37, 38, 39, 40, 41, 42] (by decide +kernel) (by decide +kernel)
set_option maxRecDepth 20000 in
theorem gX4_ringOf_X4_dueNow : GoodIn wsX4_ringOf (wsV RX4 83 RX4 yX4_dueNow wsX4_dueNow) := goodIn_app (goodIn_of _ (by decide +kernel)) ggX4_ringOf_X4_dueNow
set_option maxRecDepth 20000 in
theorem ggX4_ringOf_X4_at : GoodIn wsX4_ringOf wsX4_at := goodIn_r _ [21] (by decide +kernel) (by decide +kernel)
set_option maxRecDepth 20000 in
theorem gX4_ringOf_X4_at : GoodIn wsX4_ringOf (va_wsS RX4 79 yX4_at wsX4_at) := goodIn_app (goodIn_of _ (by decide +kernel)) ggX4_ringOf_X4_at
theorem dX4_ringOf_0 : decode cX4_ringOf 0 = .ok (.aload_n 0, 1) := by decide +kernel
theorem dX4_ringOf_1 : decode cX4_ringOf 1 = .ok (.invokevirtual 94, 3) := by decide +kernel
theorem dX4_ringOf_4 : decode cX4_ringOf 4 = .ok (.iconst 0, 1) := by decide +kernel
theorem dX4_ringOf_5 : decode cX4_ringOf 5 = .ok (.istore_n 2, 1) := by decide +kernel
theorem dX4_ringOf_6 : decode cX4_ringOf 6 = .ok (.iload_n 1, 1) := by decide +kernel
theorem dX4_ringOf_7 : decode cX4_ringOf 7 = .ok (.istore_n 3, 1) := by decide +kernel
theorem dX4_ringOf_8 : decode cX4_ringOf 8 = .ok (.iconst 0, 1) := by decide +kernel
theorem dX4_ringOf_9 : decode cX4_ringOf 9 = .ok (.istore 4, 2) := by decide +kernel
theorem dX4_ringOf_11 : decode cX4_ringOf 11 = .ok (.iload 4, 2) := by decide +kernel
theorem dX4_ringOf_13 : decode cX4_ringOf 13 = .ok (.bipush 6, 2) := by decide +kernel
theorem dX4_ringOf_15 : decode cX4_ringOf 15 = .ok (.if_icmp .ge 49, 3) := by decide +kernel
theorem dX4_ringOf_18 : decode cX4_ringOf 18 = .ok (.aload_n 0, 1) := by decide +kernel
theorem dX4_ringOf_19 : decode cX4_ringOf 19 = .ok (.iload_n 3, 1) := by decide +kernel
theorem dX4_ringOf_20 : decode cX4_ringOf 20 = .ok (.invokevirtual 83, 3) := by decide +kernel
theorem dX4_ringOf_23 : decode cX4_ringOf 23 = .ok (.istore 5, 2) := by decide +kernel
theorem dX4_ringOf_25 : decode cX4_ringOf 25 = .ok (.iload 5, 2) := by decide +kernel
theorem dX4_ringOf_27 : decode cX4_ringOf 27 = .ok (.ifCond .ge 6, 3) := by decide +kernel
theorem dX4_ringOf_30 : decode cX4_ringOf 30 = .ok (.bipush (-6), 2) := by decide +kernel
theorem dX4_ringOf_32 : decode cX4_ringOf 32 = .ok (.ireturn, 1) := by decide +kernel
theorem dX4_ringOf_33 : decode cX4_ringOf 33 = .ok (.iload_n 2, 1) := by decide +kernel
theorem dX4_ringOf_34 : decode cX4_ringOf 34 = .ok (.iconst 1, 1) := by decide +kernel
theorem dX4_ringOf_35 : decode cX4_ringOf 35 = .ok (.iload_n 3, 1) := by decide +kernel
theorem dX4_ringOf_36 : decode cX4_ringOf 36 = .ok (.ishl, 1) := by decide +kernel
theorem dX4_ringOf_37 : decode cX4_ringOf 37 = .ok (.ior, 1) := by decide +kernel
theorem dX4_ringOf_38 : decode cX4_ringOf 38 = .ok (.istore_n 2, 1) := by decide +kernel
theorem dX4_ringOf_39 : decode cX4_ringOf 39 = .ok (.aload_n 0, 1) := by decide +kernel
theorem dX4_ringOf_40 : decode cX4_ringOf 40 = .ok (.getfield 31, 3) := by decide +kernel
theorem dX4_ringOf_43 : decode cX4_ringOf 43 = .ok (.iload_n 3, 1) := by decide +kernel
theorem dX4_ringOf_44 : decode cX4_ringOf 44 = .ok (.iload 5, 2) := by decide +kernel
theorem dX4_ringOf_46 : decode cX4_ringOf 46 = .ok (.invokestatic 79, 3) := by decide +kernel
theorem dX4_ringOf_49 : decode cX4_ringOf 49 = .ok (.iaload, 1) := by decide +kernel
theorem dX4_ringOf_50 : decode cX4_ringOf 50 = .ok (.istore_n 3, 1) := by decide +kernel
theorem dX4_ringOf_51 : decode cX4_ringOf 51 = .ok (.iload_n 3, 1) := by decide +kernel
theorem dX4_ringOf_52 : decode cX4_ringOf 52 = .ok (.iload_n 1, 1) := by decide +kernel
theorem dX4_ringOf_53 : decode cX4_ringOf 53 = .ok (.if_icmp .ne 5, 3) := by decide +kernel
theorem dX4_ringOf_56 : decode cX4_ringOf 56 = .ok (.iload_n 2, 1) := by decide +kernel
theorem dX4_ringOf_57 : decode cX4_ringOf 57 = .ok (.ireturn, 1) := by decide +kernel
theorem dX4_ringOf_58 : decode cX4_ringOf 58 = .ok (.iinc 4 1, 3) := by decide +kernel
theorem dX4_ringOf_61 : decode cX4_ringOf 61 = .ok (.goto (-50), 3) := by decide +kernel
theorem dX4_ringOf_64 : decode cX4_ringOf 64 = .ok (.bipush (-6), 2) := by decide +kernel
theorem dX4_ringOf_66 : decode cX4_ringOf 66 = .ok (.ireturn, 1) := by decide +kernel
set_option maxRecDepth 20000 in
theorem ggX4_ring_X4_isMan : GoodIn wsX4_ring wsX4_isMan := goodIn_r _ [4, 5, 6, 3, 7] (by decide +kernel) (by decide +kernel)
set_option maxRecDepth 20000 in
theorem gX4_ring_X4_isMan : GoodIn wsX4_ring (va_wsS RX4 55 yX4_isMan wsX4_isMan) := goodIn_app (goodIn_of _ (by decide +kernel)) ggX4_ring_X4_isMan
set_option maxRecDepth 20000 in
theorem ggX4_ring_X4_ringOf : GoodIn wsX4_ring wsX4_ringOf := goodIn_r _ [11, 12, 13, 14, 15, 3, 16, 17, 18, 19, 20, 21, 22, 23, 24, 25, 26, 27, 28, 29, 30, 31, 32, 33, 34, 35, 36, 37, 38, 39, 40, 41, 42, 43, 44, 45, 46, 47, 48, 49, 50, 51, 52] (by decide +kernel) (by decide +kernel)
set_option maxRecDepth 20000 in
theorem gX4_ring_X4_ringOf : GoodIn wsX4_ring (wsV RX4 157 RX4 yX4_ringOf wsX4_ringOf) := goodIn_app (goodIn_of _ (by decide +kernel)) ggX4_ring_X4_ringOf
theorem dX4_ring_0 : decode cX4_ring 0 = .ok (.iload_n 1, 1) := by decide +kernel
theorem dX4_ring_1 : decode cX4_ring 1 = .ok (.invokestatic 55, 3) := by decide +kernel
theorem dX4_ring_4 : decode cX4_ring 4 = .ok (.ifCond .eq 11, 3) := by decide +kernel
theorem dX4_ring_7 : decode cX4_ring 7 = .ok (.aload_n 0, 1) := by decide +kernel
theorem dX4_ring_8 : decode cX4_ring 8 = .ok (.iload_n 1, 1) := by decide +kernel
theorem dX4_ring_9 : decode cX4_ring 9 = .ok (.invokevirtual 157, 3) := by decide +kernel
theorem dX4_ring_12 : decode cX4_ring 12 = .ok (.goto 4, 3) := by decide +kernel
theorem dX4_ring_15 : decode cX4_ring 15 = .ok (.iconst (-1), 1) := by decide +kernel
theorem dX4_ring_16 : decode cX4_ring 16 = .ok (.ireturn, 1) := by decide +kernel
set_option maxRecDepth 20000 in
theorem ggX4_setOff_X4_isMan : GoodIn wsX4_setOff wsX4_isMan := goodIn_r _ [6, 7, 8, 5, 9] (by decide +kernel) (by decide +kernel)
set_option maxRecDepth 20000 in
theorem gX4_setOff_X4_isMan : GoodIn wsX4_setOff (va_wsS RX4 55 yX4_isMan wsX4_isMan) := goodIn_app (goodIn_of _ (by decide +kernel)) ggX4_setOff_X4_isMan
set_option maxRecDepth 20000 in
theorem ggX4_setOff_X4_ringOf : GoodIn wsX4_setOff wsX4_ringOf := goodIn_r _ [13, 2, 14, 15, 16, 5, 17, 18, 19, 20, 21, 22, 23, 24, 25, 26, 27, 28, 29, 30, 31, 32, 48, 49, 50, 51, 52, 53, 54, 55, 56, 57, 58, 59, 60, 61, 62, 63, 64, 65, 66, 67, 68] (by decide +kernel) (by decide +kernel)
set_option maxRecDepth 20000 in
theorem gX4_setOff_X4_ringOf : GoodIn wsX4_setOff (wsV RX4 157 RX4 yX4_ringOf wsX4_ringOf) := goodIn_app (goodIn_of _ (by decide +kernel)) ggX4_setOff_X4_ringOf
set_option maxRecDepth 20000 in
theorem ggX4_setOff_X4_has : GoodIn wsX4_setOff wsX4_has := goodIn_r _ [35] (by decide +kernel) (by decide +kernel)
set_option maxRecDepth 20000 in
theorem gX4_setOff_X4_has : GoodIn wsX4_setOff (va_wsS RX4 132 yX4_has wsX4_has) := goodIn_app (goodIn_of _ (by decide +kernel)) ggX4_setOff_X4_has
set_option maxRecDepth 20000 in
theorem ggX4_setOff_X4_penceDue : GoodIn wsX4_setOff wsX4_penceDue := goodIn_r _ [39, 2, 25, 26, 27, 5, 28, 22, 29, 30, 31, 32, 48, 49, 50, 51, 52, 53, 54, 55, 56, 57, 58, 59, 60, 61, 62, 63, 64, 65, 66, 67, 68] (by decide +kernel) (by decide +kernel)
set_option maxRecDepth 20000 in
theorem gX4_setOff_X4_penceDue : GoodIn wsX4_setOff (wsV RX4 87 RX4 yX4_penceDue wsX4_penceDue) := goodIn_app (goodIn_of _ (by decide +kernel)) ggX4_setOff_X4_penceDue
set_option maxRecDepth 20000 in
theorem ggX4_setOff_X4_dueNow : GoodIn wsX4_setOff wsX4_dueNow := goodIn_r _ [28, 22, 29, 2, 30, 31, 5, 32, 48, 49, 50, 51, 52, 53, 54, 55, 56, 57, 58, 59, 60, 61, 62, 63, 64, 65, 66, 67, 68] (by decide +kernel) (by decide +kernel)
set_option maxRecDepth 20000 in
theorem gX4_setOff_X4_dueNow : GoodIn wsX4_setOff (wsV RX4 83 RX4 yX4_dueNow wsX4_dueNow) := goodIn_app (goodIn_of _ (by decide +kernel)) ggX4_setOff_X4_dueNow
set_option maxRecDepth 20000 in
theorem ggX4_setOff_X4_at : GoodIn wsX4_setOff wsX4_at := goodIn_r _ [32] (by decide +kernel) (by decide +kernel)
set_option maxRecDepth 20000 in
theorem gX4_setOff_X4_at : GoodIn wsX4_setOff (va_wsS RX4 79 yX4_at wsX4_at) := goodIn_app (goodIn_of _ (by decide +kernel)) ggX4_setOff_X4_at
set_option maxRecDepth 20000 in
theorem ggX4_setOff_X4_takeOut : GoodIn wsX4_setOff wsX4_takeOut := goodIn_r _ [43, 22, 2, 30, 31, 5, 32, 48, 49, 50, 51, 52, 53, 54, 55, 56, 57, 58, 59, 60, 61, 62, 63, 64, 65, 66, 67, 68] (by decide +kernel) (by decide +kernel)
set_option maxRecDepth 20000 in
theorem gX4_setOff_X4_takeOut : GoodIn wsX4_setOff (wsV RX4 90 RX4 yX4_takeOut wsX4_takeOut) := goodIn_app (goodIn_of _ (by decide +kernel)) ggX4_setOff_X4_takeOut
set_option maxRecDepth 20000 in
theorem ggX4_setOff_X4_keepNow : GoodIn wsX4_setOff wsX4_keepNow := goodIn_r _ [47, 19, 18, 21, 20, 23, 22, 24, 2, 48, 49, 50, 51, 52, 53, 54, 55, 56, 57, 58, 59, 60, 61, 62, 63, 64, 65, 66, 67, 68] (by decide +kernel) (by decide +kernel)
set_option maxRecDepth 20000 in
theorem gX4_setOff_X4_keepNow : GoodIn wsX4_setOff (wsV RX4 119 RX4 yX4_keepNow wsX4_keepNow) := goodIn_app (goodIn_of _ (by decide +kernel)) ggX4_setOff_X4_keepNow
theorem dX4_setOff_0 : decode cX4_setOff 0 = .ok (.iload_n 1, 1) := by decide +kernel
theorem dX4_setOff_1 : decode cX4_setOff 1 = .ok (.invokestatic 55, 3) := by decide +kernel
theorem dX4_setOff_4 : decode cX4_setOff 4 = .ok (.ifCond .ne 5, 3) := by decide +kernel
theorem dX4_setOff_7 : decode cX4_setOff 7 = .ok (.iconst (-1), 1) := by decide +kernel
theorem dX4_setOff_8 : decode cX4_setOff 8 = .ok (.ireturn, 1) := by decide +kernel
theorem dX4_setOff_9 : decode cX4_setOff 9 = .ok (.aload_n 0, 1) := by decide +kernel
theorem dX4_setOff_10 : decode cX4_setOff 10 = .ok (.iload_n 1, 1) := by decide +kernel
theorem dX4_setOff_11 : decode cX4_setOff 11 = .ok (.invokevirtual 157, 3) := by decide +kernel
theorem dX4_setOff_14 : decode cX4_setOff 14 = .ok (.istore_n 2, 1) := by decide +kernel
theorem dX4_setOff_15 : decode cX4_setOff 15 = .ok (.iload_n 2, 1) := by decide +kernel
theorem dX4_setOff_16 : decode cX4_setOff 16 = .ok (.ifCond .ge 6, 3) := by decide +kernel
theorem dX4_setOff_19 : decode cX4_setOff 19 = .ok (.bipush (-3), 2) := by decide +kernel
theorem dX4_setOff_21 : decode cX4_setOff 21 = .ok (.ireturn, 1) := by decide +kernel
theorem dX4_setOff_22 : decode cX4_setOff 22 = .ok (.ldc 141, 2) := by decide +kernel
theorem dX4_setOff_24 : decode cX4_setOff 24 = .ok (.istore_n 3, 1) := by decide +kernel
theorem dX4_setOff_25 : decode cX4_setOff 25 = .ok (.iconst 0, 1) := by decide +kernel
theorem dX4_setOff_26 : decode cX4_setOff 26 = .ok (.istore 4, 2) := by decide +kernel
theorem dX4_setOff_28 : decode cX4_setOff 28 = .ok (.iload 4, 2) := by decide +kernel
theorem dX4_setOff_30 : decode cX4_setOff 30 = .ok (.bipush 6, 2) := by decide +kernel
theorem dX4_setOff_32 : decode cX4_setOff 32 = .ok (.if_icmp .ge 39, 3) := by decide +kernel
theorem dX4_setOff_35 : decode cX4_setOff 35 = .ok (.iload_n 2, 1) := by decide +kernel
theorem dX4_setOff_36 : decode cX4_setOff 36 = .ok (.iload 4, 2) := by decide +kernel
theorem dX4_setOff_38 : decode cX4_setOff 38 = .ok (.invokestatic 132, 3) := by decide +kernel
theorem dX4_setOff_41 : decode cX4_setOff 41 = .ok (.ifCond .eq 22, 3) := by decide +kernel
theorem dX4_setOff_44 : decode cX4_setOff 44 = .ok (.aload_n 0, 1) := by decide +kernel
theorem dX4_setOff_45 : decode cX4_setOff 45 = .ok (.iload 4, 2) := by decide +kernel
theorem dX4_setOff_47 : decode cX4_setOff 47 = .ok (.invokevirtual 87, 3) := by decide +kernel
theorem dX4_setOff_50 : decode cX4_setOff 50 = .ok (.iload_n 3, 1) := by decide +kernel
theorem dX4_setOff_51 : decode cX4_setOff 51 = .ok (.if_icmp .ge 12, 3) := by decide +kernel
theorem dX4_setOff_54 : decode cX4_setOff 54 = .ok (.aload_n 0, 1) := by decide +kernel
theorem dX4_setOff_55 : decode cX4_setOff 55 = .ok (.iload 4, 2) := by decide +kernel
theorem dX4_setOff_57 : decode cX4_setOff 57 = .ok (.invokevirtual 87, 3) := by decide +kernel
theorem dX4_setOff_60 : decode cX4_setOff 60 = .ok (.goto 4, 3) := by decide +kernel
theorem dX4_setOff_63 : decode cX4_setOff 63 = .ok (.iload_n 3, 1) := by decide +kernel
theorem dX4_setOff_64 : decode cX4_setOff 64 = .ok (.istore_n 3, 1) := by decide +kernel
theorem dX4_setOff_65 : decode cX4_setOff 65 = .ok (.iinc 4 1, 3) := by decide +kernel
theorem dX4_setOff_68 : decode cX4_setOff 68 = .ok (.goto (-40), 3) := by decide +kernel
theorem dX4_setOff_71 : decode cX4_setOff 71 = .ok (.iconst 0, 1) := by decide +kernel
theorem dX4_setOff_72 : decode cX4_setOff 72 = .ok (.istore 4, 2) := by decide +kernel
theorem dX4_setOff_74 : decode cX4_setOff 74 = .ok (.iload 4, 2) := by decide +kernel
theorem dX4_setOff_76 : decode cX4_setOff 76 = .ok (.bipush 6, 2) := by decide +kernel
theorem dX4_setOff_78 : decode cX4_setOff 78 = .ok (.if_icmp .ge 69, 3) := by decide +kernel
theorem dX4_setOff_81 : decode cX4_setOff 81 = .ok (.iload_n 2, 1) := by decide +kernel
theorem dX4_setOff_82 : decode cX4_setOff 82 = .ok (.iload 4, 2) := by decide +kernel
theorem dX4_setOff_84 : decode cX4_setOff 84 = .ok (.invokestatic 132, 3) := by decide +kernel
theorem dX4_setOff_87 : decode cX4_setOff 87 = .ok (.ifCond .eq 54, 3) := by decide +kernel
theorem dX4_setOff_90 : decode cX4_setOff 90 = .ok (.aload_n 0, 1) := by decide +kernel
theorem dX4_setOff_91 : decode cX4_setOff 91 = .ok (.iload 4, 2) := by decide +kernel
theorem dX4_setOff_93 : decode cX4_setOff 93 = .ok (.invokevirtual 83, 3) := by decide +kernel
theorem dX4_setOff_96 : decode cX4_setOff 96 = .ok (.istore 5, 2) := by decide +kernel
theorem dX4_setOff_98 : decode cX4_setOff 98 = .ok (.aload_n 0, 1) := by decide +kernel
theorem dX4_setOff_99 : decode cX4_setOff 99 = .ok (.getfield 31, 3) := by decide +kernel
theorem dX4_setOff_102 : decode cX4_setOff 102 = .ok (.iload 4, 2) := by decide +kernel
theorem dX4_setOff_104 : decode cX4_setOff 104 = .ok (.iload 5, 2) := by decide +kernel
theorem dX4_setOff_106 : decode cX4_setOff 106 = .ok (.invokestatic 79, 3) := by decide +kernel
theorem dX4_setOff_109 : decode cX4_setOff 109 = .ok (.iconst 1, 1) := by decide +kernel
theorem dX4_setOff_110 : decode cX4_setOff 110 = .ok (.iadd, 1) := by decide +kernel
theorem dX4_setOff_111 : decode cX4_setOff 111 = .ok (.dup2, 1) := by decide +kernel
theorem dX4_setOff_112 : decode cX4_setOff 112 = .ok (.iaload, 1) := by decide +kernel
theorem dX4_setOff_113 : decode cX4_setOff 113 = .ok (.iload_n 3, 1) := by decide +kernel
theorem dX4_setOff_114 : decode cX4_setOff 114 = .ok (.isub, 1) := by decide +kernel
theorem dX4_setOff_115 : decode cX4_setOff 115 = .ok (.iastore, 1) := by decide +kernel
theorem dX4_setOff_116 : decode cX4_setOff 116 = .ok (.aload_n 0, 1) := by decide +kernel
theorem dX4_setOff_117 : decode cX4_setOff 117 = .ok (.getfield 31, 3) := by decide +kernel
theorem dX4_setOff_120 : decode cX4_setOff 120 = .ok (.iload 4, 2) := by decide +kernel
theorem dX4_setOff_122 : decode cX4_setOff 122 = .ok (.iload 5, 2) := by decide +kernel
theorem dX4_setOff_124 : decode cX4_setOff 124 = .ok (.invokestatic 79, 3) := by decide +kernel
theorem dX4_setOff_127 : decode cX4_setOff 127 = .ok (.iconst 1, 1) := by decide +kernel
theorem dX4_setOff_128 : decode cX4_setOff 128 = .ok (.iadd, 1) := by decide +kernel
theorem dX4_setOff_129 : decode cX4_setOff 129 = .ok (.iaload, 1) := by decide +kernel
theorem dX4_setOff_130 : decode cX4_setOff 130 = .ok (.ifCond .ne 11, 3) := by decide +kernel
theorem dX4_setOff_133 : decode cX4_setOff 133 = .ok (.aload_n 0, 1) := by decide +kernel
theorem dX4_setOff_134 : decode cX4_setOff 134 = .ok (.iload 4, 2) := by decide +kernel
theorem dX4_setOff_136 : decode cX4_setOff 136 = .ok (.iload 5, 2) := by decide +kernel
theorem dX4_setOff_138 : decode cX4_setOff 138 = .ok (.invokevirtual 90, 3) := by decide +kernel
theorem dX4_setOff_141 : decode cX4_setOff 141 = .ok (.iinc 4 1, 3) := by decide +kernel
theorem dX4_setOff_144 : decode cX4_setOff 144 = .ok (.goto (-70), 3) := by decide +kernel
theorem dX4_setOff_147 : decode cX4_setOff 147 = .ok (.aload_n 0, 1) := by decide +kernel
theorem dX4_setOff_148 : decode cX4_setOff 148 = .ok (.invokevirtual 119, 3) := by decide +kernel
theorem dX4_setOff_151 : decode cX4_setOff 151 = .ok (.iload_n 3, 1) := by decide +kernel
theorem dX4_setOff_152 : decode cX4_setOff 152 = .ok (.ireturn, 1) := by decide +kernel
set_option maxRecDepth 20000 in
theorem ggX4_give_X4_isDebt : GoodIn wsX4_give wsX4_isDebt := goodIn_r _ [6, 7, 8, 9, 5, 10, 11, 12, 13, 17, 18, 19, 20, 21, 22, 23, 24, 25, 26, 27, 28, 29, 30, 31, 32, 33, 34, 35, 36, 37] (by decide +kernel) (by decide +kernel)
set_option maxRecDepth 20000 in
theorem gX4_give_X4_isDebt : GoodIn wsX4_give (wsV RX4 122 RX4 yX4_isDebt wsX4_isDebt) := goodIn_app (goodIn_of _ (by decide +kernel)) ggX4_give_X4_isDebt
set_option maxRecDepth 20000 in
theorem ggX4_give_X4_isMan : GoodIn wsX4_give wsX4_isMan := goodIn_r _ [10, 11, 12, 5, 13] (by decide +kernel) (by decide +kernel)
set_option maxRecDepth 20000 in
theorem gX4_give_X4_isMan : GoodIn wsX4_give (va_wsS RX4 55 yX4_isMan wsX4_isMan) := goodIn_app (goodIn_of _ (by decide +kernel)) ggX4_give_X4_isMan
set_option maxRecDepth 20000 in
theorem ggX4_give_X4_at : GoodIn wsX4_give wsX4_at := goodIn_r _ [16] (by decide +kernel) (by decide +kernel)
set_option maxRecDepth 20000 in
theorem gX4_give_X4_at : GoodIn wsX4_give (va_wsS RX4 79 yX4_at wsX4_at) := goodIn_app (goodIn_of _ (by decide +kernel)) ggX4_give_X4_at
theorem dX4_give_0 : decode cX4_give 0 = .ok (.aload_n 0, 1) := by decide +kernel
theorem dX4_give_1 : decode cX4_give 1 = .ok (.iload_n 1, 1) := by decide +kernel
theorem dX4_give_2 : decode cX4_give 2 = .ok (.iload_n 2, 1) := by decide +kernel
theorem dX4_give_3 : decode cX4_give 3 = .ok (.invokevirtual 122, 3) := by decide +kernel
theorem dX4_give_6 : decode cX4_give 6 = .ok (.ifCond .eq 15, 3) := by decide +kernel
theorem dX4_give_9 : decode cX4_give 9 = .ok (.iload_n 3, 1) := by decide +kernel
theorem dX4_give_10 : decode cX4_give 10 = .ok (.invokestatic 55, 3) := by decide +kernel
theorem dX4_give_13 : decode cX4_give 13 = .ok (.ifCond .eq 8, 3) := by decide +kernel
theorem dX4_give_16 : decode cX4_give 16 = .ok (.iload_n 3, 1) := by decide +kernel
theorem dX4_give_17 : decode cX4_give 17 = .ok (.iload_n 1, 1) := by decide +kernel
theorem dX4_give_18 : decode cX4_give 18 = .ok (.if_icmp .ne 5, 3) := by decide +kernel
theorem dX4_give_21 : decode cX4_give 21 = .ok (.iconst (-1), 1) := by decide +kernel
theorem dX4_give_22 : decode cX4_give 22 = .ok (.ireturn, 1) := by decide +kernel
theorem dX4_give_23 : decode cX4_give 23 = .ok (.aload_n 0, 1) := by decide +kernel
theorem dX4_give_24 : decode cX4_give 24 = .ok (.getfield 16, 3) := by decide +kernel
theorem dX4_give_27 : decode cX4_give 27 = .ok (.iload_n 1, 1) := by decide +kernel
theorem dX4_give_28 : decode cX4_give 28 = .ok (.iload_n 2, 1) := by decide +kernel
theorem dX4_give_29 : decode cX4_give 29 = .ok (.invokestatic 79, 3) := by decide +kernel
theorem dX4_give_32 : decode cX4_give 32 = .ok (.iaload, 1) := by decide +kernel
theorem dX4_give_33 : decode cX4_give 33 = .ok (.istore 4, 2) := by decide +kernel
theorem dX4_give_35 : decode cX4_give 35 = .ok (.aload_n 0, 1) := by decide +kernel
theorem dX4_give_36 : decode cX4_give 36 = .ok (.getfield 16, 3) := by decide +kernel
theorem dX4_give_39 : decode cX4_give 39 = .ok (.iload_n 1, 1) := by decide +kernel
theorem dX4_give_40 : decode cX4_give 40 = .ok (.iload_n 2, 1) := by decide +kernel
theorem dX4_give_41 : decode cX4_give 41 = .ok (.invokestatic 79, 3) := by decide +kernel
theorem dX4_give_44 : decode cX4_give 44 = .ok (.iload_n 3, 1) := by decide +kernel
theorem dX4_give_45 : decode cX4_give 45 = .ok (.iastore, 1) := by decide +kernel
theorem dX4_give_46 : decode cX4_give 46 = .ok (.iload 4, 2) := by decide +kernel
theorem dX4_give_48 : decode cX4_give 48 = .ok (.ireturn, 1) := by decide +kernel
set_option maxRecDepth 20000 in
theorem ggX4_pawn_X4_isDebt : GoodIn wsX4_pawn wsX4_isDebt := goodIn_r _ [8, 1, 9, 10, 7, 11, 12, 13, 14, 26, 27, 28, 29, 30, 31, 32, 33, 34, 35, 36, 37, 38, 39, 40, 41, 42, 43, 44, 45, 46] (by decide +kernel) (by decide +kernel)
set_option maxRecDepth 20000 in
theorem gX4_pawn_X4_isDebt : GoodIn wsX4_pawn (wsV RX4 122 RX4 yX4_isDebt wsX4_isDebt) := goodIn_app (goodIn_of _ (by decide +kernel)) ggX4_pawn_X4_isDebt
set_option maxRecDepth 20000 in
theorem ggX4_pawn_X4_layTurns : GoodIn wsX4_pawn wsX4_layTurns := goodIn_r _ [18, 1, 19, 3, 2, 20, 21, 7, 22, 23, 24, 25, 26, 27, 28, 29, 30, 31, 32, 33, 34, 35, 36, 37, 38, 39, 40, 41, 42, 43, 44, 45, 46] (by decide +kernel) (by decide +kernel)
set_option maxRecDepth 20000 in
theorem gX4_pawn_X4_layTurns : GoodIn wsX4_pawn (wsV RX4 138 RX4 yX4_layTurns wsX4_layTurns) := goodIn_app (goodIn_of _ (by decide +kernel)) ggX4_pawn_X4_layTurns
set_option maxRecDepth 20000 in
theorem ggX4_pawn_X4_at : GoodIn wsX4_pawn wsX4_at := goodIn_r _ [22] (by decide +kernel) (by decide +kernel)
set_option maxRecDepth 20000 in
theorem gX4_pawn_X4_at : GoodIn wsX4_pawn (va_wsS RX4 79 yX4_at wsX4_at) := goodIn_app (goodIn_of _ (by decide +kernel)) ggX4_pawn_X4_at
theorem dX4_pawn_0 : decode cX4_pawn 0 = .ok (.aload_n 0, 1) := by decide +kernel
theorem dX4_pawn_1 : decode cX4_pawn 1 = .ok (.iload_n 1, 1) := by decide +kernel
theorem dX4_pawn_2 : decode cX4_pawn 2 = .ok (.iload_n 2, 1) := by decide +kernel
theorem dX4_pawn_3 : decode cX4_pawn 3 = .ok (.invokevirtual 122, 3) := by decide +kernel
theorem dX4_pawn_6 : decode cX4_pawn 6 = .ok (.ifCond .ne 5, 3) := by decide +kernel
theorem dX4_pawn_9 : decode cX4_pawn 9 = .ok (.iconst (-1), 1) := by decide +kernel
theorem dX4_pawn_10 : decode cX4_pawn 10 = .ok (.ireturn, 1) := by decide +kernel
theorem dX4_pawn_11 : decode cX4_pawn 11 = .ok (.aload_n 0, 1) := by decide +kernel
theorem dX4_pawn_12 : decode cX4_pawn 12 = .ok (.invokevirtual 138, 3) := by decide +kernel
theorem dX4_pawn_15 : decode cX4_pawn 15 = .ok (.iconst 0, 1) := by decide +kernel
theorem dX4_pawn_16 : decode cX4_pawn 16 = .ok (.istore_n 3, 1) := by decide +kernel
theorem dX4_pawn_17 : decode cX4_pawn 17 = .ok (.iconst 0, 1) := by decide +kernel
theorem dX4_pawn_18 : decode cX4_pawn 18 = .ok (.istore 4, 2) := by decide +kernel
theorem dX4_pawn_20 : decode cX4_pawn 20 = .ok (.iconst 0, 1) := by decide +kernel
theorem dX4_pawn_21 : decode cX4_pawn 21 = .ok (.istore 5, 2) := by decide +kernel
theorem dX4_pawn_23 : decode cX4_pawn 23 = .ok (.iload 5, 2) := by decide +kernel
theorem dX4_pawn_25 : decode cX4_pawn 25 = .ok (.aload_n 0, 1) := by decide +kernel
theorem dX4_pawn_26 : decode cX4_pawn 26 = .ok (.getfield 13, 3) := by decide +kernel
theorem dX4_pawn_29 : decode cX4_pawn 29 = .ok (.iload_n 1, 1) := by decide +kernel
theorem dX4_pawn_30 : decode cX4_pawn 30 = .ok (.iaload, 1) := by decide +kernel
theorem dX4_pawn_31 : decode cX4_pawn 31 = .ok (.if_icmp .ge 56, 3) := by decide +kernel
theorem dX4_pawn_34 : decode cX4_pawn 34 = .ok (.iload 4, 2) := by decide +kernel
theorem dX4_pawn_36 : decode cX4_pawn 36 = .ok (.ifCond .ne 51, 3) := by decide +kernel
theorem dX4_pawn_39 : decode cX4_pawn 39 = .ok (.aload_n 0, 1) := by decide +kernel
theorem dX4_pawn_40 : decode cX4_pawn 40 = .ok (.getfield 34, 3) := by decide +kernel
theorem dX4_pawn_43 : decode cX4_pawn 43 = .ok (.iconst 5, 1) := by decide +kernel
theorem dX4_pawn_44 : decode cX4_pawn 44 = .ok (.iload_n 1, 1) := by decide +kernel
theorem dX4_pawn_45 : decode cX4_pawn 45 = .ok (.imul, 1) := by decide +kernel
theorem dX4_pawn_46 : decode cX4_pawn 46 = .ok (.iload 5, 2) := by decide +kernel
theorem dX4_pawn_48 : decode cX4_pawn 48 = .ok (.iadd, 1) := by decide +kernel
theorem dX4_pawn_49 : decode cX4_pawn 49 = .ok (.iaload, 1) := by decide +kernel
theorem dX4_pawn_50 : decode cX4_pawn 50 = .ok (.istore 6, 2) := by decide +kernel
theorem dX4_pawn_52 : decode cX4_pawn 52 = .ok (.iload_n 3, 1) := by decide +kernel
theorem dX4_pawn_53 : decode cX4_pawn 53 = .ok (.aload_n 0, 1) := by decide +kernel
theorem dX4_pawn_54 : decode cX4_pawn 54 = .ok (.getfield 16, 3) := by decide +kernel
theorem dX4_pawn_57 : decode cX4_pawn 57 = .ok (.iload_n 1, 1) := by decide +kernel
theorem dX4_pawn_58 : decode cX4_pawn 58 = .ok (.iload 6, 2) := by decide +kernel
theorem dX4_pawn_60 : decode cX4_pawn 60 = .ok (.invokestatic 79, 3) := by decide +kernel
theorem dX4_pawn_63 : decode cX4_pawn 63 = .ok (.iconst 1, 1) := by decide +kernel
theorem dX4_pawn_64 : decode cX4_pawn 64 = .ok (.iadd, 1) := by decide +kernel
theorem dX4_pawn_65 : decode cX4_pawn 65 = .ok (.iaload, 1) := by decide +kernel
theorem dX4_pawn_66 : decode cX4_pawn 66 = .ok (.iadd, 1) := by decide +kernel
theorem dX4_pawn_67 : decode cX4_pawn 67 = .ok (.istore_n 3, 1) := by decide +kernel
theorem dX4_pawn_68 : decode cX4_pawn 68 = .ok (.iload 6, 2) := by decide +kernel
theorem dX4_pawn_70 : decode cX4_pawn 70 = .ok (.iload_n 2, 1) := by decide +kernel
theorem dX4_pawn_71 : decode cX4_pawn 71 = .ok (.if_icmp .ne 7, 3) := by decide +kernel
theorem dX4_pawn_74 : decode cX4_pawn 74 = .ok (.iconst 1, 1) := by decide +kernel
theorem dX4_pawn_75 : decode cX4_pawn 75 = .ok (.goto 4, 3) := by decide +kernel
theorem dX4_pawn_78 : decode cX4_pawn 78 = .ok (.iconst 0, 1) := by decide +kernel
theorem dX4_pawn_79 : decode cX4_pawn 79 = .ok (.istore 4, 2) := by decide +kernel
theorem dX4_pawn_81 : decode cX4_pawn 81 = .ok (.iinc 5 1, 3) := by decide +kernel
theorem dX4_pawn_84 : decode cX4_pawn 84 = .ok (.goto (-61), 3) := by decide +kernel
theorem dX4_pawn_87 : decode cX4_pawn 87 = .ok (.iload_n 3, 1) := by decide +kernel
theorem dX4_pawn_88 : decode cX4_pawn 88 = .ok (.ireturn, 1) := by decide +kernel
theorem dX4_choose_0 : decode cX4_choose 0 = .ok (.lconst 1, 1) := by decide +kernel
theorem dX4_choose_1 : decode cX4_choose 1 = .ok (.lstore_n 2, 1) := by decide +kernel
theorem dX4_choose_2 : decode cX4_choose 2 = .ok (.iconst 0, 1) := by decide +kernel
theorem dX4_choose_3 : decode cX4_choose 3 = .ok (.istore 4, 2) := by decide +kernel
theorem dX4_choose_5 : decode cX4_choose 5 = .ok (.iload 4, 2) := by decide +kernel
theorem dX4_choose_7 : decode cX4_choose 7 = .ok (.iload_n 1, 1) := by decide +kernel
theorem dX4_choose_8 : decode cX4_choose 8 = .ok (.if_icmp .ge 23, 3) := by decide +kernel
theorem dX4_choose_11 : decode cX4_choose 11 = .ok (.lload_n 2, 1) := by decide +kernel
theorem dX4_choose_12 : decode cX4_choose 12 = .ok (.iload_n 0, 1) := by decide +kernel
theorem dX4_choose_13 : decode cX4_choose 13 = .ok (.iload 4, 2) := by decide +kernel
theorem dX4_choose_15 : decode cX4_choose 15 = .ok (.isub, 1) := by decide +kernel
theorem dX4_choose_16 : decode cX4_choose 16 = .ok (.i2l, 1) := by decide +kernel
theorem dX4_choose_17 : decode cX4_choose 17 = .ok (.lmul, 1) := by decide +kernel
theorem dX4_choose_18 : decode cX4_choose 18 = .ok (.iload 4, 2) := by decide +kernel
theorem dX4_choose_20 : decode cX4_choose 20 = .ok (.iconst 1, 1) := by decide +kernel
theorem dX4_choose_21 : decode cX4_choose 21 = .ok (.iadd, 1) := by decide +kernel
theorem dX4_choose_22 : decode cX4_choose 22 = .ok (.i2l, 1) := by decide +kernel
theorem dX4_choose_23 : decode cX4_choose 23 = .ok (.ldiv, 1) := by decide +kernel
theorem dX4_choose_24 : decode cX4_choose 24 = .ok (.lstore_n 2, 1) := by decide +kernel
theorem dX4_choose_25 : decode cX4_choose 25 = .ok (.iinc 4 1, 3) := by decide +kernel
theorem dX4_choose_28 : decode cX4_choose 28 = .ok (.goto (-23), 3) := by decide +kernel
theorem dX4_choose_31 : decode cX4_choose 31 = .ok (.lload_n 2, 1) := by decide +kernel
theorem dX4_choose_32 : decode cX4_choose 32 = .ok (.lreturn, 1) := by decide +kernel
theorem dX4_times_0 : decode cX4_times 0 = .ok (.lconst 1, 1) := by decide +kernel
theorem dX4_times_1 : decode cX4_times 1 = .ok (.lstore_n 3, 1) := by decide +kernel
theorem dX4_times_2 : decode cX4_times 2 = .ok (.iconst 0, 1) := by decide +kernel
theorem dX4_times_3 : decode cX4_times 3 = .ok (.istore 5, 2) := by decide +kernel
theorem dX4_times_5 : decode cX4_times 5 = .ok (.iload 5, 2) := by decide +kernel
theorem dX4_times_7 : decode cX4_times 7 = .ok (.iload_n 2, 1) := by decide +kernel
theorem dX4_times_8 : decode cX4_times 8 = .ok (.if_icmp .ge 13, 3) := by decide +kernel
theorem dX4_times_11 : decode cX4_times 11 = .ok (.lload_n 3, 1) := by decide +kernel
theorem dX4_times_12 : decode cX4_times 12 = .ok (.lload_n 0, 1) := by decide +kernel
theorem dX4_times_13 : decode cX4_times 13 = .ok (.lmul, 1) := by decide +kernel
theorem dX4_times_14 : decode cX4_times 14 = .ok (.lstore_n 3, 1) := by decide +kernel
theorem dX4_times_15 : decode cX4_times 15 = .ok (.iinc 5 1, 3) := by decide +kernel
theorem dX4_times_18 : decode cX4_times 18 = .ok (.goto (-13), 3) := by decide +kernel
theorem dX4_times_21 : decode cX4_times 21 = .ok (.lload_n 3, 1) := by decide +kernel
theorem dX4_times_22 : decode cX4_times 22 = .ok (.lreturn, 1) := by decide +kernel
set_option maxRecDepth 20000 in
theorem ggX4_odds_X4_isMan : GoodIn wsX4_odds wsX4_isMan := goodIn_r _ [10, 11, 12, 9, 13] (by decide +kernel) (by decide +kernel)
set_option maxRecDepth 20000 in
theorem gX4_odds_X4_isMan : GoodIn wsX4_odds (va_wsS RX4 55 yX4_isMan wsX4_isMan) := goodIn_app (goodIn_of _ (by decide +kernel)) ggX4_odds_X4_isMan
set_option maxRecDepth 20000 in
theorem ggX4_odds_X4_in : GoodIn wsX4_odds wsX4_in := goodIn_r _ [13] (by decide +kernel) (by decide +kernel)
set_option maxRecDepth 20000 in
theorem gX4_odds_X4_in : GoodIn wsX4_odds (va_wsS RX4 51 yX4_in wsX4_in) := goodIn_app (goodIn_of _ (by decide +kernel)) ggX4_odds_X4_in
set_option maxRecDepth 20000 in
theorem ggX4_odds_X4_asNow : GoodIn wsX4_odds wsX4_asNow := goodIn_r _ [17, 18, 19, 20, 5, 21, 3, 22, 23, 47, 48, 49, 50, 51, 52, 53, 54, 55, 56, 57, 58, 59, 60, 61, 62, 63, 64, 65, 66, 67] (by decide +kernel) (by decide +kernel)
set_option maxRecDepth 20000 in
theorem gX4_odds_X4_asNow : GoodIn wsX4_odds (wsV RX4 94 RX4 yX4_asNow wsX4_asNow) := goodIn_app (goodIn_of _ (by decide +kernel)) ggX4_odds_X4_asNow
set_option maxRecDepth 20000 in
theorem ggX4_odds_X4_pass : GoodIn wsX4_odds wsX4_pass := goodIn_r _ [27, 19, 21, 22, 28, 29, 30, 9, 31, 47, 48, 49, 50, 51, 52, 53, 54, 55, 56, 57, 58, 59, 60, 61, 62, 63, 64, 65, 66, 67] (by decide +kernel) (by decide +kernel)
set_option maxRecDepth 20000 in
theorem gX4_odds_X4_pass : GoodIn wsX4_odds (wsV RX4 106 RX4 yX4_pass wsX4_pass) := goodIn_app (goodIn_of _ (by decide +kernel)) ggX4_odds_X4_pass
set_option maxRecDepth 20000 in
theorem ggX4_odds_X4_penceDue : GoodIn wsX4_odds wsX4_penceDue := goodIn_r _ [35, 22, 36, 37, 38, 9, 39, 21, 40, 29, 30, 31, 47, 48, 49, 50, 51, 52, 53, 54, 55, 56, 57, 58, 59, 60, 61, 62, 63, 64, 65, 66, 67] (by decide +kernel) (by decide +kernel)
set_option maxRecDepth 20000 in
theorem gX4_odds_X4_penceDue : GoodIn wsX4_odds (wsV RX4 87 RX4 yX4_penceDue wsX4_penceDue) := goodIn_app (goodIn_of _ (by decide +kernel)) ggX4_odds_X4_penceDue
set_option maxRecDepth 20000 in
theorem ggX4_odds_X4_choose : GoodIn wsX4_odds wsX4_choose := goodIn_r _ [43] (by decide +kernel) (by decide +kernel)
set_option maxRecDepth 20000 in
theorem gX4_odds_X4_choose : GoodIn wsX4_odds (va_wsS RX4 166 yX4_choose wsX4_choose) := goodIn_app (goodIn_of _ (by decide +kernel)) ggX4_odds_X4_choose
set_option maxRecDepth 20000 in
theorem ggX4_odds_X4_times : GoodIn wsX4_odds wsX4_times := goodIn_r _ [46] (by decide +kernel) (by decide +kernel)
set_option maxRecDepth 20000 in
theorem gX4_odds_X4_times : GoodIn wsX4_odds (va_wsS RX4 170 yX4_times wsX4_times) := goodIn_app (goodIn_of _ (by decide +kernel)) ggX4_odds_X4_times
theorem dX4_odds_0 : decode cX4_odds 0 = .ok (.iload_n 1, 1) := by decide +kernel
theorem dX4_odds_1 : decode cX4_odds 1 = .ok (.invokestatic 55, 3) := by decide +kernel
theorem dX4_odds_4 : decode cX4_odds 4 = .ok (.ifCond .ne 7, 3) := by decide +kernel
theorem dX4_odds_7 : decode cX4_odds 7 = .ok (.ldc2_w 160, 3) := by decide +kernel
theorem dX4_odds_10 : decode cX4_odds 10 = .ok (.lreturn, 1) := by decide +kernel
theorem dX4_odds_11 : decode cX4_odds 11 = .ok (.iload_n 2, 1) := by decide +kernel
theorem dX4_odds_12 : decode cX4_odds 12 = .ok (.iconst 1, 1) := by decide +kernel
theorem dX4_odds_13 : decode cX4_odds 13 = .ok (.bipush 99, 2) := by decide +kernel
theorem dX4_odds_15 : decode cX4_odds 15 = .ok (.invokestatic 51, 3) := by decide +kernel
theorem dX4_odds_18 : decode cX4_odds 18 = .ok (.ifCond .eq 34, 3) := by decide +kernel
theorem dX4_odds_21 : decode cX4_odds 21 = .ok (.iload_n 3, 1) := by decide +kernel
theorem dX4_odds_22 : decode cX4_odds 22 = .ok (.iconst 0, 1) := by decide +kernel
theorem dX4_odds_23 : decode cX4_odds 23 = .ok (.bipush 12, 2) := by decide +kernel
theorem dX4_odds_25 : decode cX4_odds 25 = .ok (.invokestatic 51, 3) := by decide +kernel
theorem dX4_odds_28 : decode cX4_odds 28 = .ok (.ifCond .eq 24, 3) := by decide +kernel
theorem dX4_odds_31 : decode cX4_odds 31 = .ok (.iload 4, 2) := by decide +kernel
theorem dX4_odds_33 : decode cX4_odds 33 = .ok (.iconst 0, 1) := by decide +kernel
theorem dX4_odds_34 : decode cX4_odds 34 = .ok (.bipush 10, 2) := by decide +kernel
theorem dX4_odds_36 : decode cX4_odds 36 = .ok (.invokestatic 51, 3) := by decide +kernel
theorem dX4_odds_39 : decode cX4_odds 39 = .ok (.ifCond .eq 13, 3) := by decide +kernel
theorem dX4_odds_42 : decode cX4_odds 42 = .ok (.iload 5, 2) := by decide +kernel
theorem dX4_odds_44 : decode cX4_odds 44 = .ok (.iconst 0, 1) := by decide +kernel
theorem dX4_odds_45 : decode cX4_odds 45 = .ok (.iconst 1, 1) := by decide +kernel
theorem dX4_odds_46 : decode cX4_odds 46 = .ok (.invokestatic 51, 3) := by decide +kernel
theorem dX4_odds_49 : decode cX4_odds 49 = .ok (.ifCond .ne 7, 3) := by decide +kernel
theorem dX4_odds_52 : decode cX4_odds 52 = .ok (.ldc2_w 162, 3) := by decide +kernel
theorem dX4_odds_55 : decode cX4_odds 55 = .ok (.lreturn, 1) := by decide +kernel
theorem dX4_odds_56 : decode cX4_odds 56 = .ok (.aload_n 0, 1) := by decide +kernel
theorem dX4_odds_57 : decode cX4_odds 57 = .ok (.getfield 13, 3) := by decide +kernel
theorem dX4_odds_60 : decode cX4_odds 60 = .ok (.iload_n 1, 1) := by decide +kernel
theorem dX4_odds_61 : decode cX4_odds 61 = .ok (.iaload, 1) := by decide +kernel
theorem dX4_odds_62 : decode cX4_odds 62 = .ok (.ifCond .ne 7, 3) := by decide +kernel
theorem dX4_odds_65 : decode cX4_odds 65 = .ok (.ldc2_w 164, 3) := by decide +kernel
theorem dX4_odds_68 : decode cX4_odds 68 = .ok (.lreturn, 1) := by decide +kernel
theorem dX4_odds_69 : decode cX4_odds 69 = .ok (.aload_n 0, 1) := by decide +kernel
theorem dX4_odds_70 : decode cX4_odds 70 = .ok (.invokevirtual 94, 3) := by decide +kernel
theorem dX4_odds_73 : decode cX4_odds 73 = .ok (.iconst 0, 1) := by decide +kernel
theorem dX4_odds_74 : decode cX4_odds 74 = .ok (.istore 6, 2) := by decide +kernel
theorem dX4_odds_76 : decode cX4_odds 76 = .ok (.iload 6, 2) := by decide +kernel
theorem dX4_odds_78 : decode cX4_odds 78 = .ok (.iload_n 3, 1) := by decide +kernel
theorem dX4_odds_79 : decode cX4_odds 79 = .ok (.if_icmp .ge 13, 3) := by decide +kernel
theorem dX4_odds_82 : decode cX4_odds 82 = .ok (.aload_n 0, 1) := by decide +kernel
theorem dX4_odds_83 : decode cX4_odds 83 = .ok (.invokevirtual 106, 3) := by decide +kernel
theorem dX4_odds_86 : decode cX4_odds 86 = .ok (.iinc 6 1, 3) := by decide +kernel
theorem dX4_odds_89 : decode cX4_odds 89 = .ok (.goto (-13), 3) := by decide +kernel
theorem dX4_odds_92 : decode cX4_odds 92 = .ok (.aload_n 0, 1) := by decide +kernel
theorem dX4_odds_93 : decode cX4_odds 93 = .ok (.iload_n 1, 1) := by decide +kernel
theorem dX4_odds_94 : decode cX4_odds 94 = .ok (.invokevirtual 87, 3) := by decide +kernel
theorem dX4_odds_97 : decode cX4_odds 97 = .ok (.istore 6, 2) := by decide +kernel
theorem dX4_odds_99 : decode cX4_odds 99 = .ok (.lconst 0, 1) := by decide +kernel
theorem dX4_odds_100 : decode cX4_odds 100 = .ok (.lstore 7, 2) := by decide +kernel
theorem dX4_odds_102 : decode cX4_odds 102 = .ok (.iconst 0, 1) := by decide +kernel
theorem dX4_odds_103 : decode cX4_odds 103 = .ok (.istore 9, 2) := by decide +kernel
theorem dX4_odds_105 : decode cX4_odds 105 = .ok (.iload 9, 2) := by decide +kernel
theorem dX4_odds_107 : decode cX4_odds 107 = .ok (.iload_n 3, 1) := by decide +kernel
theorem dX4_odds_108 : decode cX4_odds 108 = .ok (.if_icmp .gt 63, 3) := by decide +kernel
theorem dX4_odds_111 : decode cX4_odds 111 = .ok (.lload 7, 2) := by decide +kernel
theorem dX4_odds_113 : decode cX4_odds 113 = .ok (.aload_n 0, 1) := by decide +kernel
theorem dX4_odds_114 : decode cX4_odds 114 = .ok (.getfield 7, 3) := by decide +kernel
theorem dX4_odds_117 : decode cX4_odds 117 = .ok (.iload_n 1, 1) := by decide +kernel
theorem dX4_odds_118 : decode cX4_odds 118 = .ok (.iaload, 1) := by decide +kernel
theorem dX4_odds_119 : decode cX4_odds 119 = .ok (.iload_n 2, 1) := by decide +kernel
theorem dX4_odds_120 : decode cX4_odds 120 = .ok (.iload 9, 2) := by decide +kernel
theorem dX4_odds_122 : decode cX4_odds 122 = .ok (.imul, 1) := by decide +kernel
theorem dX4_odds_123 : decode cX4_odds 123 = .ok (.iadd, 1) := by decide +kernel
theorem dX4_odds_124 : decode cX4_odds 124 = .ok (.iload 6, 2) := by decide +kernel
theorem dX4_odds_126 : decode cX4_odds 126 = .ok (.if_icmp .lt 35, 3) := by decide +kernel
theorem dX4_odds_129 : decode cX4_odds 129 = .ok (.iload_n 3, 1) := by decide +kernel
theorem dX4_odds_130 : decode cX4_odds 130 = .ok (.iload 9, 2) := by decide +kernel
theorem dX4_odds_132 : decode cX4_odds 132 = .ok (.invokestatic 166, 3) := by decide +kernel
theorem dX4_odds_135 : decode cX4_odds 135 = .ok (.iload 4, 2) := by decide +kernel
theorem dX4_odds_137 : decode cX4_odds 137 = .ok (.i2l, 1) := by decide +kernel
theorem dX4_odds_138 : decode cX4_odds 138 = .ok (.iload 9, 2) := by decide +kernel
theorem dX4_odds_140 : decode cX4_odds 140 = .ok (.invokestatic 170, 3) := by decide +kernel
theorem dX4_odds_143 : decode cX4_odds 143 = .ok (.lmul, 1) := by decide +kernel
theorem dX4_odds_144 : decode cX4_odds 144 = .ok (.bipush 10, 2) := by decide +kernel
theorem dX4_odds_146 : decode cX4_odds 146 = .ok (.iload 4, 2) := by decide +kernel
theorem dX4_odds_148 : decode cX4_odds 148 = .ok (.isub, 1) := by decide +kernel
theorem dX4_odds_149 : decode cX4_odds 149 = .ok (.i2l, 1) := by decide +kernel
theorem dX4_odds_150 : decode cX4_odds 150 = .ok (.iload_n 3, 1) := by decide +kernel
theorem dX4_odds_151 : decode cX4_odds 151 = .ok (.iload 9, 2) := by decide +kernel
theorem dX4_odds_153 : decode cX4_odds 153 = .ok (.isub, 1) := by decide +kernel
theorem dX4_odds_154 : decode cX4_odds 154 = .ok (.invokestatic 170, 3) := by decide +kernel
theorem dX4_odds_157 : decode cX4_odds 157 = .ok (.lmul, 1) := by decide +kernel
theorem dX4_odds_158 : decode cX4_odds 158 = .ok (.goto 4, 3) := by decide +kernel
theorem dX4_odds_161 : decode cX4_odds 161 = .ok (.lconst 0, 1) := by decide +kernel
theorem dX4_odds_162 : decode cX4_odds 162 = .ok (.ladd, 1) := by decide +kernel
theorem dX4_odds_163 : decode cX4_odds 163 = .ok (.lstore 7, 2) := by decide +kernel
theorem dX4_odds_165 : decode cX4_odds 165 = .ok (.iinc 9 1, 3) := by decide +kernel
theorem dX4_odds_168 : decode cX4_odds 168 = .ok (.goto (-63), 3) := by decide +kernel
theorem dX4_odds_171 : decode cX4_odds 171 = .ok (.lload 7, 2) := by decide +kernel
theorem dX4_odds_173 : decode cX4_odds 173 = .ok (.lstore 9, 2) := by decide +kernel
theorem dX4_odds_175 : decode cX4_odds 175 = .ok (.ldc2_w 174, 3) := by decide +kernel
theorem dX4_odds_178 : decode cX4_odds 178 = .ok (.iload_n 3, 1) := by decide +kernel
theorem dX4_odds_179 : decode cX4_odds 179 = .ok (.invokestatic 170, 3) := by decide +kernel
theorem dX4_odds_182 : decode cX4_odds 182 = .ok (.lstore 11, 2) := by decide +kernel
theorem dX4_odds_184 : decode cX4_odds 184 = .ok (.lload 11, 2) := by decide +kernel
theorem dX4_odds_186 : decode cX4_odds 186 = .ok (.lconst 0, 1) := by decide +kernel
theorem dX4_odds_187 : decode cX4_odds 187 = .ok (.lcmp, 1) := by decide +kernel
theorem dX4_odds_188 : decode cX4_odds 188 = .ok (.ifCond .eq 21, 3) := by decide +kernel
theorem dX4_odds_191 : decode cX4_odds 191 = .ok (.lload 9, 2) := by decide +kernel
theorem dX4_odds_193 : decode cX4_odds 193 = .ok (.lload 11, 2) := by decide +kernel
theorem dX4_odds_195 : decode cX4_odds 195 = .ok (.lrem, 1) := by decide +kernel
theorem dX4_odds_196 : decode cX4_odds 196 = .ok (.lstore 13, 2) := by decide +kernel
theorem dX4_odds_198 : decode cX4_odds 198 = .ok (.lload 11, 2) := by decide +kernel
theorem dX4_odds_200 : decode cX4_odds 200 = .ok (.lstore 9, 2) := by decide +kernel
theorem dX4_odds_202 : decode cX4_odds 202 = .ok (.lload 13, 2) := by decide +kernel
theorem dX4_odds_204 : decode cX4_odds 204 = .ok (.lstore 11, 2) := by decide +kernel
theorem dX4_odds_206 : decode cX4_odds 206 = .ok (.goto (-22), 3) := by decide +kernel
theorem dX4_odds_209 : decode cX4_odds 209 = .ok (.iload 5, 2) := by decide +kernel
theorem dX4_odds_211 : decode cX4_odds 211 = .ok (.ifCond .ne 11, 3) := by decide +kernel
theorem dX4_odds_214 : decode cX4_odds 214 = .ok (.lload 7, 2) := by decide +kernel
theorem dX4_odds_216 : decode cX4_odds 216 = .ok (.lload 9, 2) := by decide +kernel
theorem dX4_odds_218 : decode cX4_odds 218 = .ok (.ldiv, 1) := by decide +kernel
theorem dX4_odds_219 : decode cX4_odds 219 = .ok (.goto 13, 3) := by decide +kernel
theorem dX4_odds_222 : decode cX4_odds 222 = .ok (.ldc2_w 174, 3) := by decide +kernel
theorem dX4_odds_225 : decode cX4_odds 225 = .ok (.iload_n 3, 1) := by decide +kernel
theorem dX4_odds_226 : decode cX4_odds 226 = .ok (.invokestatic 170, 3) := by decide +kernel
theorem dX4_odds_229 : decode cX4_odds 229 = .ok (.lload 9, 2) := by decide +kernel
theorem dX4_odds_231 : decode cX4_odds 231 = .ok (.ldiv, 1) := by decide +kernel
theorem dX4_odds_232 : decode cX4_odds 232 = .ok (.lreturn, 1) := by decide +kernel
set_option maxRecDepth 20000 in
theorem ggX4_year_X4_in : GoodIn wsX4_year wsX4_in := goodIn_r _ [8] (by decide +kernel) (by decide +kernel)
set_option maxRecDepth 20000 in
theorem gX4_year_X4_in : GoodIn wsX4_year (va_wsS RX4 51 yX4_in wsX4_in) := goodIn_app (goodIn_of _ (by decide +kernel)) ggX4_year_X4_in
set_option maxRecDepth 20000 in
theorem ggX4_year_X4_asNow : GoodIn wsX4_year wsX4_asNow := goodIn_r _ [12, 13, 14, 2, 15, 3, 16, 4, 17, 47, 48, 49, 50, 51, 52, 53, 54, 55, 56, 57, 58, 59, 60, 61, 62, 63, 64, 65, 66, 67] (by decide +kernel) (by decide +kernel)
set_option maxRecDepth 20000 in
theorem gX4_year_X4_asNow : GoodIn wsX4_year (wsV RX4 94 RX4 yX4_asNow wsX4_asNow) := goodIn_app (goodIn_of _ (by decide +kernel)) ggX4_year_X4_asNow
set_option maxRecDepth 20000 in
theorem ggX4_year_X4_canPay : GoodIn wsX4_year wsX4_canPay := goodIn_r _ [21, 2, 22, 23, 24, 7, 25, 4, 26, 27, 28, 29, 3, 30, 31, 32, 33, 47, 48, 49, 50, 51, 52, 53, 54, 55, 56, 57, 58, 59, 60, 61, 62, 63, 64, 65, 66, 67] (by decide +kernel) (by decide +kernel)
set_option maxRecDepth 20000 in
theorem gX4_year_X4_canPay : GoodIn wsX4_year (wsV RX4 109 RX4 yX4_canPay wsX4_canPay) := goodIn_app (goodIn_of _ (by decide +kernel)) ggX4_year_X4_canPay
set_option maxRecDepth 20000 in
theorem ggX4_year_X4_pay : GoodIn wsX4_year wsX4_pay := goodIn_r _ [37, 2, 4, 26, 27, 28, 7, 29, 3, 30, 31, 32, 33, 38, 39, 40, 41, 47, 48, 49, 50, 51, 52, 53, 54, 55, 56, 57, 58, 59, 60, 61, 62, 63, 64, 65, 66, 67] (by decide +kernel) (by decide +kernel)
set_option maxRecDepth 20000 in
theorem gX4_year_X4_pay : GoodIn wsX4_year (wsV RX4 112 RX4 yX4_pay wsX4_pay) := goodIn_app (goodIn_of _ (by decide +kernel)) ggX4_year_X4_pay
set_option maxRecDepth 20000 in
theorem ggX4_year_X4_pass : GoodIn wsX4_year wsX4_pass := goodIn_r _ [45, 14, 3, 4, 46, 31, 32, 7, 33, 47, 48, 49, 50, 51, 52, 53, 54, 55, 56, 57, 58, 59, 60, 61, 62, 63, 64, 65, 66, 67] (by decide +kernel) (by decide +kernel)
set_option maxRecDepth 20000 in
theorem gX4_year_X4_pass : GoodIn wsX4_year (wsV RX4 106 RX4 yX4_pass wsX4_pass) := goodIn_app (goodIn_of _ (by decide +kernel)) ggX4_year_X4_pass
set_option maxRecDepth 20000 in
theorem ggX4_year_X4_at : GoodIn wsX4_year wsX4_at := goodIn_r _ [33] (by decide +kernel) (by decide +kernel)
set_option maxRecDepth 20000 in
theorem gX4_year_X4_at : GoodIn wsX4_year (va_wsS RX4 79 yX4_at wsX4_at) := goodIn_app (goodIn_of _ (by decide +kernel)) ggX4_year_X4_at
theorem dX4_year_0 : decode cX4_year 0 = .ok (.iload_n 1, 1) := by decide +kernel
theorem dX4_year_1 : decode cX4_year 1 = .ok (.iconst 0, 1) := by decide +kernel
theorem dX4_year_2 : decode cX4_year 2 = .ok (.sipush 9999, 3) := by decide +kernel
theorem dX4_year_5 : decode cX4_year 5 = .ok (.invokestatic 51, 3) := by decide +kernel
theorem dX4_year_8 : decode cX4_year 8 = .ok (.ifCond .eq 22, 3) := by decide +kernel
theorem dX4_year_11 : decode cX4_year 11 = .ok (.iload_n 2, 1) := by decide +kernel
theorem dX4_year_12 : decode cX4_year 12 = .ok (.iconst 1, 1) := by decide +kernel
theorem dX4_year_13 : decode cX4_year 13 = .ok (.bipush 99, 2) := by decide +kernel
theorem dX4_year_15 : decode cX4_year 15 = .ok (.invokestatic 51, 3) := by decide +kernel
theorem dX4_year_18 : decode cX4_year 18 = .ok (.ifCond .eq 12, 3) := by decide +kernel
theorem dX4_year_21 : decode cX4_year 21 = .ok (.iload_n 3, 1) := by decide +kernel
theorem dX4_year_22 : decode cX4_year 22 = .ok (.iconst 0, 1) := by decide +kernel
theorem dX4_year_23 : decode cX4_year 23 = .ok (.iconst 2, 1) := by decide +kernel
theorem dX4_year_24 : decode cX4_year 24 = .ok (.invokestatic 51, 3) := by decide +kernel
theorem dX4_year_27 : decode cX4_year 27 = .ok (.ifCond .ne 6, 3) := by decide +kernel
theorem dX4_year_30 : decode cX4_year 30 = .ok (.bipush (-2), 2) := by decide +kernel
theorem dX4_year_32 : decode cX4_year 32 = .ok (.ireturn, 1) := by decide +kernel
theorem dX4_year_33 : decode cX4_year 33 = .ok (.aload_n 0, 1) := by decide +kernel
theorem dX4_year_34 : decode cX4_year 34 = .ok (.invokevirtual 94, 3) := by decide +kernel
theorem dX4_year_37 : decode cX4_year 37 = .ok (.iload_n 1, 1) := by decide +kernel
theorem dX4_year_38 : decode cX4_year 38 = .ok (.istore 4, 2) := by decide +kernel
theorem dX4_year_40 : decode cX4_year 40 = .ok (.iconst 0, 1) := by decide +kernel
theorem dX4_year_41 : decode cX4_year 41 = .ok (.istore 5, 2) := by decide +kernel
theorem dX4_year_43 : decode cX4_year 43 = .ok (.iconst 0, 1) := by decide +kernel
theorem dX4_year_44 : decode cX4_year 44 = .ok (.istore 6, 2) := by decide +kernel
theorem dX4_year_46 : decode cX4_year 46 = .ok (.iload 6, 2) := by decide +kernel
theorem dX4_year_48 : decode cX4_year 48 = .ok (.iload_n 2, 1) := by decide +kernel
theorem dX4_year_49 : decode cX4_year 49 = .ok (.if_icmp .ge 74, 3) := by decide +kernel
theorem dX4_year_52 : decode cX4_year 52 = .ok (.bipush 75, 2) := by decide +kernel
theorem dX4_year_54 : decode cX4_year 54 = .ok (.iload 4, 2) := by decide +kernel
theorem dX4_year_56 : decode cX4_year 56 = .ok (.imul, 1) := by decide +kernel
theorem dX4_year_57 : decode cX4_year 57 = .ok (.bipush 74, 2) := by decide +kernel
theorem dX4_year_59 : decode cX4_year 59 = .ok (.iadd, 1) := by decide +kernel
theorem dX4_year_60 : decode cX4_year 60 = .ok (.ldc 176, 2) := by decide +kernel
theorem dX4_year_62 : decode cX4_year 62 = .ok (.irem, 1) := by decide +kernel
theorem dX4_year_63 : decode cX4_year 63 = .ok (.istore 4, 2) := by decide +kernel
theorem dX4_year_65 : decode cX4_year 65 = .ok (.iload 4, 2) := by decide +kernel
theorem dX4_year_67 : decode cX4_year 67 = .ok (.bipush 6, 2) := by decide +kernel
theorem dX4_year_69 : decode cX4_year 69 = .ok (.irem, 1) := by decide +kernel
theorem dX4_year_70 : decode cX4_year 70 = .ok (.istore 7, 2) := by decide +kernel
theorem dX4_year_72 : decode cX4_year 72 = .ok (.aload_n 0, 1) := by decide +kernel
theorem dX4_year_73 : decode cX4_year 73 = .ok (.getfield 25, 3) := by decide +kernel
theorem dX4_year_76 : decode cX4_year 76 = .ok (.iload 7, 2) := by decide +kernel
theorem dX4_year_78 : decode cX4_year 78 = .ok (.dup2, 1) := by decide +kernel
theorem dX4_year_79 : decode cX4_year 79 = .ok (.iaload, 1) := by decide +kernel
theorem dX4_year_80 : decode cX4_year 80 = .ok (.iconst 1, 1) := by decide +kernel
theorem dX4_year_81 : decode cX4_year 81 = .ok (.iload 4, 2) := by decide +kernel
theorem dX4_year_83 : decode cX4_year 83 = .ok (.bipush 6, 2) := by decide +kernel
theorem dX4_year_85 : decode cX4_year 85 = .ok (.idiv, 1) := by decide +kernel
theorem dX4_year_86 : decode cX4_year 86 = .ok (.bipush 9, 2) := by decide +kernel
theorem dX4_year_88 : decode cX4_year 88 = .ok (.irem, 1) := by decide +kernel
theorem dX4_year_89 : decode cX4_year 89 = .ok (.iadd, 1) := by decide +kernel
theorem dX4_year_90 : decode cX4_year 90 = .ok (.iadd, 1) := by decide +kernel
theorem dX4_year_91 : decode cX4_year 91 = .ok (.iastore, 1) := by decide +kernel
theorem dX4_year_92 : decode cX4_year 92 = .ok (.aload_n 0, 1) := by decide +kernel
theorem dX4_year_93 : decode cX4_year 93 = .ok (.iload 7, 2) := by decide +kernel
theorem dX4_year_95 : decode cX4_year 95 = .ok (.invokevirtual 109, 3) := by decide +kernel
theorem dX4_year_98 : decode cX4_year 98 = .ok (.ifCond .eq 15, 3) := by decide +kernel
theorem dX4_year_101 : decode cX4_year 101 = .ok (.aload_n 0, 1) := by decide +kernel
theorem dX4_year_102 : decode cX4_year 102 = .ok (.iload 7, 2) := by decide +kernel
theorem dX4_year_104 : decode cX4_year 104 = .ok (.invokevirtual 112, 3) := by decide +kernel
theorem dX4_year_107 : decode cX4_year 107 = .ok (.iinc 5 1, 3) := by decide +kernel
theorem dX4_year_110 : decode cX4_year 110 = .ok (.goto (-18), 3) := by decide +kernel
theorem dX4_year_113 : decode cX4_year 113 = .ok (.aload_n 0, 1) := by decide +kernel
theorem dX4_year_114 : decode cX4_year 114 = .ok (.invokevirtual 106, 3) := by decide +kernel
theorem dX4_year_117 : decode cX4_year 117 = .ok (.iinc 6 1, 3) := by decide +kernel
theorem dX4_year_120 : decode cX4_year 120 = .ok (.goto (-74), 3) := by decide +kernel
theorem dX4_year_123 : decode cX4_year 123 = .ok (.iconst 0, 1) := by decide +kernel
theorem dX4_year_124 : decode cX4_year 124 = .ok (.istore 6, 2) := by decide +kernel
theorem dX4_year_126 : decode cX4_year 126 = .ok (.iconst 0, 1) := by decide +kernel
theorem dX4_year_127 : decode cX4_year 127 = .ok (.istore 7, 2) := by decide +kernel
theorem dX4_year_129 : decode cX4_year 129 = .ok (.iconst 0, 1) := by decide +kernel
theorem dX4_year_130 : decode cX4_year 130 = .ok (.istore 8, 2) := by decide +kernel
theorem dX4_year_132 : decode cX4_year 132 = .ok (.iload 8, 2) := by decide +kernel
theorem dX4_year_134 : decode cX4_year 134 = .ok (.bipush 6, 2) := by decide +kernel
theorem dX4_year_136 : decode cX4_year 136 = .ok (.if_icmp .ge 61, 3) := by decide +kernel
theorem dX4_year_139 : decode cX4_year 139 = .ok (.iload 6, 2) := by decide +kernel
theorem dX4_year_141 : decode cX4_year 141 = .ok (.aload_n 0, 1) := by decide +kernel
theorem dX4_year_142 : decode cX4_year 142 = .ok (.getfield 28, 3) := by decide +kernel
theorem dX4_year_145 : decode cX4_year 145 = .ok (.iload 8, 2) := by decide +kernel
theorem dX4_year_147 : decode cX4_year 147 = .ok (.iaload, 1) := by decide +kernel
theorem dX4_year_148 : decode cX4_year 148 = .ok (.iadd, 1) := by decide +kernel
theorem dX4_year_149 : decode cX4_year 149 = .ok (.istore 6, 2) := by decide +kernel
theorem dX4_year_151 : decode cX4_year 151 = .ok (.iconst 0, 1) := by decide +kernel
theorem dX4_year_152 : decode cX4_year 152 = .ok (.istore 9, 2) := by decide +kernel
theorem dX4_year_154 : decode cX4_year 154 = .ok (.iload 9, 2) := by decide +kernel
theorem dX4_year_156 : decode cX4_year 156 = .ok (.aload_n 0, 1) := by decide +kernel
theorem dX4_year_157 : decode cX4_year 157 = .ok (.getfield 28, 3) := by decide +kernel
theorem dX4_year_160 : decode cX4_year 160 = .ok (.iload 8, 2) := by decide +kernel
theorem dX4_year_162 : decode cX4_year 162 = .ok (.iaload, 1) := by decide +kernel
theorem dX4_year_163 : decode cX4_year 163 = .ok (.if_icmp .ge 28, 3) := by decide +kernel
theorem dX4_year_166 : decode cX4_year 166 = .ok (.iload 7, 2) := by decide +kernel
theorem dX4_year_168 : decode cX4_year 168 = .ok (.aload_n 0, 1) := by decide +kernel
theorem dX4_year_169 : decode cX4_year 169 = .ok (.getfield 31, 3) := by decide +kernel
theorem dX4_year_172 : decode cX4_year 172 = .ok (.iload 8, 2) := by decide +kernel
theorem dX4_year_174 : decode cX4_year 174 = .ok (.iload 9, 2) := by decide +kernel
theorem dX4_year_176 : decode cX4_year 176 = .ok (.invokestatic 79, 3) := by decide +kernel
theorem dX4_year_179 : decode cX4_year 179 = .ok (.iconst 1, 1) := by decide +kernel
theorem dX4_year_180 : decode cX4_year 180 = .ok (.iadd, 1) := by decide +kernel
theorem dX4_year_181 : decode cX4_year 181 = .ok (.iaload, 1) := by decide +kernel
theorem dX4_year_182 : decode cX4_year 182 = .ok (.iadd, 1) := by decide +kernel
theorem dX4_year_183 : decode cX4_year 183 = .ok (.istore 7, 2) := by decide +kernel
theorem dX4_year_185 : decode cX4_year 185 = .ok (.iinc 9 1, 3) := by decide +kernel
theorem dX4_year_188 : decode cX4_year 188 = .ok (.goto (-34), 3) := by decide +kernel
theorem dX4_year_191 : decode cX4_year 191 = .ok (.iinc 8 1, 3) := by decide +kernel
theorem dX4_year_194 : decode cX4_year 194 = .ok (.goto (-62), 3) := by decide +kernel
theorem dX4_year_197 : decode cX4_year 197 = .ok (.iload_n 3, 1) := by decide +kernel
theorem dX4_year_198 : decode cX4_year 198 = .ok (.ifCond .ne 8, 3) := by decide +kernel
theorem dX4_year_201 : decode cX4_year 201 = .ok (.iload 5, 2) := by decide +kernel
theorem dX4_year_203 : decode cX4_year 203 = .ok (.goto 15, 3) := by decide +kernel
theorem dX4_year_206 : decode cX4_year 206 = .ok (.iload_n 3, 1) := by decide +kernel
theorem dX4_year_207 : decode cX4_year 207 = .ok (.iconst 1, 1) := by decide +kernel
theorem dX4_year_208 : decode cX4_year 208 = .ok (.if_icmp .ne 8, 3) := by decide +kernel
theorem dX4_year_211 : decode cX4_year 211 = .ok (.iload 6, 2) := by decide +kernel
theorem dX4_year_213 : decode cX4_year 213 = .ok (.goto 5, 3) := by decide +kernel
theorem dX4_year_216 : decode cX4_year 216 = .ok (.iload 7, 2) := by decide +kernel
theorem dX4_year_218 : decode cX4_year 218 = .ok (.ireturn, 1) := by decide +kernel
set_option maxRecDepth 20000 in
theorem ggX4_image_X4_in : GoodIn wsX4_image wsX4_in := goodIn_r _ [14] (by decide +kernel) (by decide +kernel)
set_option maxRecDepth 20000 in
theorem gX4_image_X4_in : GoodIn wsX4_image (va_wsS RX4 51 yX4_in wsX4_in) := goodIn_app (goodIn_of _ (by decide +kernel)) ggX4_image_X4_in
theorem dX4_image_0 : decode cX4_image 0 = .ok (.iload_n 1, 1) := by decide +kernel
theorem dX4_image_1 : decode cX4_image 1 = .ok (.iconst 0, 1) := by decide +kernel
theorem dX4_image_2 : decode cX4_image 2 = .ok (.iconst 1, 1) := by decide +kernel
theorem dX4_image_3 : decode cX4_image 3 = .ok (.invokestatic 51, 3) := by decide +kernel
theorem dX4_image_6 : decode cX4_image 6 = .ok (.ifCond .ne 6, 3) := by decide +kernel
theorem dX4_image_9 : decode cX4_image 9 = .ok (.bipush (-2), 2) := by decide +kernel
theorem dX4_image_11 : decode cX4_image 11 = .ok (.ireturn, 1) := by decide +kernel
theorem dX4_image_12 : decode cX4_image 12 = .ok (.bipush 118, 2) := by decide +kernel
theorem dX4_image_14 : decode cX4_image 14 = .ok (.iload_n 1, 1) := by decide +kernel
theorem dX4_image_15 : decode cX4_image 15 = .ok (.imul, 1) := by decide +kernel
theorem dX4_image_16 : decode cX4_image 16 = .ok (.istore_n 2, 1) := by decide +kernel
theorem dX4_image_17 : decode cX4_image 17 = .ok (.iconst 0, 1) := by decide +kernel
theorem dX4_image_18 : decode cX4_image 18 = .ok (.istore_n 3, 1) := by decide +kernel
theorem dX4_image_19 : decode cX4_image 19 = .ok (.iload_n 3, 1) := by decide +kernel
theorem dX4_image_20 : decode cX4_image 20 = .ok (.bipush 90, 2) := by decide +kernel
theorem dX4_image_22 : decode cX4_image 22 = .ok (.if_icmp .ge 23, 3) := by decide +kernel
theorem dX4_image_25 : decode cX4_image 25 = .ok (.aload_n 0, 1) := by decide +kernel
theorem dX4_image_26 : decode cX4_image 26 = .ok (.getfield 45, 3) := by decide +kernel
theorem dX4_image_29 : decode cX4_image 29 = .ok (.iload_n 2, 1) := by decide +kernel
theorem dX4_image_30 : decode cX4_image 30 = .ok (.iload_n 3, 1) := by decide +kernel
theorem dX4_image_31 : decode cX4_image 31 = .ok (.iadd, 1) := by decide +kernel
theorem dX4_image_32 : decode cX4_image 32 = .ok (.aload_n 0, 1) := by decide +kernel
theorem dX4_image_33 : decode cX4_image 33 = .ok (.getfield 16, 3) := by decide +kernel
theorem dX4_image_36 : decode cX4_image 36 = .ok (.iload_n 3, 1) := by decide +kernel
theorem dX4_image_37 : decode cX4_image 37 = .ok (.iaload, 1) := by decide +kernel
theorem dX4_image_38 : decode cX4_image 38 = .ok (.iastore, 1) := by decide +kernel
theorem dX4_image_39 : decode cX4_image 39 = .ok (.iinc 3 1, 3) := by decide +kernel
theorem dX4_image_42 : decode cX4_image 42 = .ok (.goto (-23), 3) := by decide +kernel
theorem dX4_image_45 : decode cX4_image 45 = .ok (.iconst 0, 1) := by decide +kernel
theorem dX4_image_46 : decode cX4_image 46 = .ok (.istore_n 3, 1) := by decide +kernel
theorem dX4_image_47 : decode cX4_image 47 = .ok (.iload_n 3, 1) := by decide +kernel
theorem dX4_image_48 : decode cX4_image 48 = .ok (.bipush 6, 2) := by decide +kernel
theorem dX4_image_50 : decode cX4_image 50 = .ok (.if_icmp .ge 43, 3) := by decide +kernel
theorem dX4_image_53 : decode cX4_image 53 = .ok (.aload_n 0, 1) := by decide +kernel
theorem dX4_image_54 : decode cX4_image 54 = .ok (.getfield 45, 3) := by decide +kernel
theorem dX4_image_57 : decode cX4_image 57 = .ok (.iload_n 2, 1) := by decide +kernel
theorem dX4_image_58 : decode cX4_image 58 = .ok (.bipush 90, 2) := by decide +kernel
theorem dX4_image_60 : decode cX4_image 60 = .ok (.iadd, 1) := by decide +kernel
theorem dX4_image_61 : decode cX4_image 61 = .ok (.iload_n 3, 1) := by decide +kernel
theorem dX4_image_62 : decode cX4_image 62 = .ok (.iadd, 1) := by decide +kernel
theorem dX4_image_63 : decode cX4_image 63 = .ok (.aload_n 0, 1) := by decide +kernel
theorem dX4_image_64 : decode cX4_image 64 = .ok (.getfield 7, 3) := by decide +kernel
theorem dX4_image_67 : decode cX4_image 67 = .ok (.iload_n 3, 1) := by decide +kernel
theorem dX4_image_68 : decode cX4_image 68 = .ok (.iaload, 1) := by decide +kernel
theorem dX4_image_69 : decode cX4_image 69 = .ok (.iastore, 1) := by decide +kernel
theorem dX4_image_70 : decode cX4_image 70 = .ok (.aload_n 0, 1) := by decide +kernel
theorem dX4_image_71 : decode cX4_image 71 = .ok (.getfield 45, 3) := by decide +kernel
theorem dX4_image_74 : decode cX4_image 74 = .ok (.iload_n 2, 1) := by decide +kernel
theorem dX4_image_75 : decode cX4_image 75 = .ok (.bipush 96, 2) := by decide +kernel
theorem dX4_image_77 : decode cX4_image 77 = .ok (.iadd, 1) := by decide +kernel
theorem dX4_image_78 : decode cX4_image 78 = .ok (.iload_n 3, 1) := by decide +kernel
theorem dX4_image_79 : decode cX4_image 79 = .ok (.iadd, 1) := by decide +kernel
theorem dX4_image_80 : decode cX4_image 80 = .ok (.aload_n 0, 1) := by decide +kernel
theorem dX4_image_81 : decode cX4_image 81 = .ok (.getfield 13, 3) := by decide +kernel
theorem dX4_image_84 : decode cX4_image 84 = .ok (.iload_n 3, 1) := by decide +kernel
theorem dX4_image_85 : decode cX4_image 85 = .ok (.iaload, 1) := by decide +kernel
theorem dX4_image_86 : decode cX4_image 86 = .ok (.iastore, 1) := by decide +kernel
theorem dX4_image_87 : decode cX4_image 87 = .ok (.iinc 3 1, 3) := by decide +kernel
theorem dX4_image_90 : decode cX4_image 90 = .ok (.goto (-43), 3) := by decide +kernel
theorem dX4_image_93 : decode cX4_image 93 = .ok (.iconst 0, 1) := by decide +kernel
theorem dX4_image_94 : decode cX4_image 94 = .ok (.istore_n 3, 1) := by decide +kernel
theorem dX4_image_95 : decode cX4_image 95 = .ok (.iload_n 3, 1) := by decide +kernel
theorem dX4_image_96 : decode cX4_image 96 = .ok (.bipush 12, 2) := by decide +kernel
theorem dX4_image_98 : decode cX4_image 98 = .ok (.if_icmp .ge 26, 3) := by decide +kernel
theorem dX4_image_101 : decode cX4_image 101 = .ok (.aload_n 0, 1) := by decide +kernel
theorem dX4_image_102 : decode cX4_image 102 = .ok (.getfield 45, 3) := by decide +kernel
theorem dX4_image_105 : decode cX4_image 105 = .ok (.iload_n 2, 1) := by decide +kernel
theorem dX4_image_106 : decode cX4_image 106 = .ok (.bipush 102, 2) := by decide +kernel
theorem dX4_image_108 : decode cX4_image 108 = .ok (.iadd, 1) := by decide +kernel
theorem dX4_image_109 : decode cX4_image 109 = .ok (.iload_n 3, 1) := by decide +kernel
theorem dX4_image_110 : decode cX4_image 110 = .ok (.iadd, 1) := by decide +kernel
theorem dX4_image_111 : decode cX4_image 111 = .ok (.aload_n 0, 1) := by decide +kernel
theorem dX4_image_112 : decode cX4_image 112 = .ok (.getfield 19, 3) := by decide +kernel
theorem dX4_image_115 : decode cX4_image 115 = .ok (.iload_n 3, 1) := by decide +kernel
theorem dX4_image_116 : decode cX4_image 116 = .ok (.iaload, 1) := by decide +kernel
theorem dX4_image_117 : decode cX4_image 117 = .ok (.iastore, 1) := by decide +kernel
theorem dX4_image_118 : decode cX4_image 118 = .ok (.iinc 3 1, 3) := by decide +kernel
theorem dX4_image_121 : decode cX4_image 121 = .ok (.goto (-26), 3) := by decide +kernel
theorem dX4_image_124 : decode cX4_image 124 = .ok (.aload_n 0, 1) := by decide +kernel
theorem dX4_image_125 : decode cX4_image 125 = .ok (.getfield 45, 3) := by decide +kernel
theorem dX4_image_128 : decode cX4_image 128 = .ok (.iload_n 2, 1) := by decide +kernel
theorem dX4_image_129 : decode cX4_image 129 = .ok (.bipush 114, 2) := by decide +kernel
theorem dX4_image_131 : decode cX4_image 131 = .ok (.iadd, 1) := by decide +kernel
theorem dX4_image_132 : decode cX4_image 132 = .ok (.aload_n 0, 1) := by decide +kernel
theorem dX4_image_133 : decode cX4_image 133 = .ok (.getfield 59, 3) := by decide +kernel
theorem dX4_image_136 : decode cX4_image 136 = .ok (.iastore, 1) := by decide +kernel
theorem dX4_image_137 : decode cX4_image 137 = .ok (.aload_n 0, 1) := by decide +kernel
theorem dX4_image_138 : decode cX4_image 138 = .ok (.getfield 45, 3) := by decide +kernel
theorem dX4_image_141 : decode cX4_image 141 = .ok (.iload_n 2, 1) := by decide +kernel
theorem dX4_image_142 : decode cX4_image 142 = .ok (.bipush 115, 2) := by decide +kernel
theorem dX4_image_144 : decode cX4_image 144 = .ok (.iadd, 1) := by decide +kernel
theorem dX4_image_145 : decode cX4_image 145 = .ok (.aload_n 0, 1) := by decide +kernel
theorem dX4_image_146 : decode cX4_image 146 = .ok (.getfield 63, 3) := by decide +kernel
theorem dX4_image_149 : decode cX4_image 149 = .ok (.iastore, 1) := by decide +kernel
theorem dX4_image_150 : decode cX4_image 150 = .ok (.aload_n 0, 1) := by decide +kernel
theorem dX4_image_151 : decode cX4_image 151 = .ok (.getfield 45, 3) := by decide +kernel
theorem dX4_image_154 : decode cX4_image 154 = .ok (.iload_n 2, 1) := by decide +kernel
theorem dX4_image_155 : decode cX4_image 155 = .ok (.bipush 116, 2) := by decide +kernel
theorem dX4_image_157 : decode cX4_image 157 = .ok (.iadd, 1) := by decide +kernel
theorem dX4_image_158 : decode cX4_image 158 = .ok (.aload_n 0, 1) := by decide +kernel
theorem dX4_image_159 : decode cX4_image 159 = .ok (.getfield 73, 3) := by decide +kernel
theorem dX4_image_162 : decode cX4_image 162 = .ok (.iastore, 1) := by decide +kernel
theorem dX4_image_163 : decode cX4_image 163 = .ok (.aload_n 0, 1) := by decide +kernel
theorem dX4_image_164 : decode cX4_image 164 = .ok (.getfield 45, 3) := by decide +kernel
theorem dX4_image_167 : decode cX4_image 167 = .ok (.iload_n 2, 1) := by decide +kernel
theorem dX4_image_168 : decode cX4_image 168 = .ok (.bipush 117, 2) := by decide +kernel
theorem dX4_image_170 : decode cX4_image 170 = .ok (.iadd, 1) := by decide +kernel
theorem dX4_image_171 : decode cX4_image 171 = .ok (.aload_n 0, 1) := by decide +kernel
theorem dX4_image_172 : decode cX4_image 172 = .ok (.getfield 126, 3) := by decide +kernel
theorem dX4_image_175 : decode cX4_image 175 = .ok (.iastore, 1) := by decide +kernel
theorem dX4_image_176 : decode cX4_image 176 = .ok (.aload_n 0, 1) := by decide +kernel
theorem dX4_image_177 : decode cX4_image 177 = .ok (.getfield 48, 3) := by decide +kernel
theorem dX4_image_180 : decode cX4_image 180 = .ok (.iload_n 1, 1) := by decide +kernel
theorem dX4_image_181 : decode cX4_image 181 = .ok (.iconst 1, 1) := by decide +kernel
theorem dX4_image_182 : decode cX4_image 182 = .ok (.bastore, 1) := by decide +kernel
theorem dX4_image_183 : decode cX4_image 183 = .ok (.iconst 1, 1) := by decide +kernel
theorem dX4_image_184 : decode cX4_image 184 = .ok (.ireturn, 1) := by decide +kernel
set_option maxRecDepth 20000 in
theorem ggX4_restore_X4_in : GoodIn wsX4_restore wsX4_in := goodIn_r _ [14] (by decide +kernel) (by decide +kernel)
set_option maxRecDepth 20000 in
theorem gX4_restore_X4_in : GoodIn wsX4_restore (va_wsS RX4 51 yX4_in wsX4_in) := goodIn_app (goodIn_of _ (by decide +kernel)) ggX4_restore_X4_in
theorem dX4_restore_0 : decode cX4_restore 0 = .ok (.iload_n 1, 1) := by decide +kernel
theorem dX4_restore_1 : decode cX4_restore 1 = .ok (.iconst 0, 1) := by decide +kernel
theorem dX4_restore_2 : decode cX4_restore 2 = .ok (.iconst 1, 1) := by decide +kernel
theorem dX4_restore_3 : decode cX4_restore 3 = .ok (.invokestatic 51, 3) := by decide +kernel
theorem dX4_restore_6 : decode cX4_restore 6 = .ok (.ifCond .ne 6, 3) := by decide +kernel
theorem dX4_restore_9 : decode cX4_restore 9 = .ok (.bipush (-2), 2) := by decide +kernel
theorem dX4_restore_11 : decode cX4_restore 11 = .ok (.ireturn, 1) := by decide +kernel
theorem dX4_restore_12 : decode cX4_restore 12 = .ok (.aload_n 0, 1) := by decide +kernel
theorem dX4_restore_13 : decode cX4_restore 13 = .ok (.getfield 48, 3) := by decide +kernel
theorem dX4_restore_16 : decode cX4_restore 16 = .ok (.iload_n 1, 1) := by decide +kernel
theorem dX4_restore_17 : decode cX4_restore 17 = .ok (.baload, 1) := by decide +kernel
theorem dX4_restore_18 : decode cX4_restore 18 = .ok (.ifCond .ne 6, 3) := by decide +kernel
theorem dX4_restore_21 : decode cX4_restore 21 = .ok (.bipush (-3), 2) := by decide +kernel
theorem dX4_restore_23 : decode cX4_restore 23 = .ok (.ireturn, 1) := by decide +kernel
theorem dX4_restore_24 : decode cX4_restore 24 = .ok (.bipush 118, 2) := by decide +kernel
theorem dX4_restore_26 : decode cX4_restore 26 = .ok (.iload_n 1, 1) := by decide +kernel
theorem dX4_restore_27 : decode cX4_restore 27 = .ok (.imul, 1) := by decide +kernel
theorem dX4_restore_28 : decode cX4_restore 28 = .ok (.istore_n 2, 1) := by decide +kernel
theorem dX4_restore_29 : decode cX4_restore 29 = .ok (.iconst 0, 1) := by decide +kernel
theorem dX4_restore_30 : decode cX4_restore 30 = .ok (.istore_n 3, 1) := by decide +kernel
theorem dX4_restore_31 : decode cX4_restore 31 = .ok (.iload_n 3, 1) := by decide +kernel
theorem dX4_restore_32 : decode cX4_restore 32 = .ok (.bipush 90, 2) := by decide +kernel
theorem dX4_restore_34 : decode cX4_restore 34 = .ok (.if_icmp .ge 23, 3) := by decide +kernel
theorem dX4_restore_37 : decode cX4_restore 37 = .ok (.aload_n 0, 1) := by decide +kernel
theorem dX4_restore_38 : decode cX4_restore 38 = .ok (.getfield 16, 3) := by decide +kernel
theorem dX4_restore_41 : decode cX4_restore 41 = .ok (.iload_n 3, 1) := by decide +kernel
theorem dX4_restore_42 : decode cX4_restore 42 = .ok (.aload_n 0, 1) := by decide +kernel
theorem dX4_restore_43 : decode cX4_restore 43 = .ok (.getfield 45, 3) := by decide +kernel
theorem dX4_restore_46 : decode cX4_restore 46 = .ok (.iload_n 2, 1) := by decide +kernel
theorem dX4_restore_47 : decode cX4_restore 47 = .ok (.iload_n 3, 1) := by decide +kernel
theorem dX4_restore_48 : decode cX4_restore 48 = .ok (.iadd, 1) := by decide +kernel
theorem dX4_restore_49 : decode cX4_restore 49 = .ok (.iaload, 1) := by decide +kernel
theorem dX4_restore_50 : decode cX4_restore 50 = .ok (.iastore, 1) := by decide +kernel
theorem dX4_restore_51 : decode cX4_restore 51 = .ok (.iinc 3 1, 3) := by decide +kernel
theorem dX4_restore_54 : decode cX4_restore 54 = .ok (.goto (-23), 3) := by decide +kernel
theorem dX4_restore_57 : decode cX4_restore 57 = .ok (.iconst 0, 1) := by decide +kernel
theorem dX4_restore_58 : decode cX4_restore 58 = .ok (.istore_n 3, 1) := by decide +kernel
theorem dX4_restore_59 : decode cX4_restore 59 = .ok (.iload_n 3, 1) := by decide +kernel
theorem dX4_restore_60 : decode cX4_restore 60 = .ok (.bipush 6, 2) := by decide +kernel
theorem dX4_restore_62 : decode cX4_restore 62 = .ok (.if_icmp .ge 43, 3) := by decide +kernel
theorem dX4_restore_65 : decode cX4_restore 65 = .ok (.aload_n 0, 1) := by decide +kernel
theorem dX4_restore_66 : decode cX4_restore 66 = .ok (.getfield 7, 3) := by decide +kernel
theorem dX4_restore_69 : decode cX4_restore 69 = .ok (.iload_n 3, 1) := by decide +kernel
theorem dX4_restore_70 : decode cX4_restore 70 = .ok (.aload_n 0, 1) := by decide +kernel
theorem dX4_restore_71 : decode cX4_restore 71 = .ok (.getfield 45, 3) := by decide +kernel
theorem dX4_restore_74 : decode cX4_restore 74 = .ok (.iload_n 2, 1) := by decide +kernel
theorem dX4_restore_75 : decode cX4_restore 75 = .ok (.bipush 90, 2) := by decide +kernel
theorem dX4_restore_77 : decode cX4_restore 77 = .ok (.iadd, 1) := by decide +kernel
theorem dX4_restore_78 : decode cX4_restore 78 = .ok (.iload_n 3, 1) := by decide +kernel
theorem dX4_restore_79 : decode cX4_restore 79 = .ok (.iadd, 1) := by decide +kernel
theorem dX4_restore_80 : decode cX4_restore 80 = .ok (.iaload, 1) := by decide +kernel
theorem dX4_restore_81 : decode cX4_restore 81 = .ok (.iastore, 1) := by decide +kernel
theorem dX4_restore_82 : decode cX4_restore 82 = .ok (.aload_n 0, 1) := by decide +kernel
theorem dX4_restore_83 : decode cX4_restore 83 = .ok (.getfield 13, 3) := by decide +kernel
theorem dX4_restore_86 : decode cX4_restore 86 = .ok (.iload_n 3, 1) := by decide +kernel
theorem dX4_restore_87 : decode cX4_restore 87 = .ok (.aload_n 0, 1) := by decide +kernel
theorem dX4_restore_88 : decode cX4_restore 88 = .ok (.getfield 45, 3) := by decide +kernel
theorem dX4_restore_91 : decode cX4_restore 91 = .ok (.iload_n 2, 1) := by decide +kernel
theorem dX4_restore_92 : decode cX4_restore 92 = .ok (.bipush 96, 2) := by decide +kernel
theorem dX4_restore_94 : decode cX4_restore 94 = .ok (.iadd, 1) := by decide +kernel
theorem dX4_restore_95 : decode cX4_restore 95 = .ok (.iload_n 3, 1) := by decide +kernel
theorem dX4_restore_96 : decode cX4_restore 96 = .ok (.iadd, 1) := by decide +kernel
theorem dX4_restore_97 : decode cX4_restore 97 = .ok (.iaload, 1) := by decide +kernel
theorem dX4_restore_98 : decode cX4_restore 98 = .ok (.iastore, 1) := by decide +kernel
theorem dX4_restore_99 : decode cX4_restore 99 = .ok (.iinc 3 1, 3) := by decide +kernel
theorem dX4_restore_102 : decode cX4_restore 102 = .ok (.goto (-43), 3) := by decide +kernel
theorem dX4_restore_105 : decode cX4_restore 105 = .ok (.iconst 0, 1) := by decide +kernel
theorem dX4_restore_106 : decode cX4_restore 106 = .ok (.istore_n 3, 1) := by decide +kernel
theorem dX4_restore_107 : decode cX4_restore 107 = .ok (.iload_n 3, 1) := by decide +kernel
theorem dX4_restore_108 : decode cX4_restore 108 = .ok (.bipush 12, 2) := by decide +kernel
theorem dX4_restore_110 : decode cX4_restore 110 = .ok (.if_icmp .ge 26, 3) := by decide +kernel
theorem dX4_restore_113 : decode cX4_restore 113 = .ok (.aload_n 0, 1) := by decide +kernel
theorem dX4_restore_114 : decode cX4_restore 114 = .ok (.getfield 19, 3) := by decide +kernel
theorem dX4_restore_117 : decode cX4_restore 117 = .ok (.iload_n 3, 1) := by decide +kernel
theorem dX4_restore_118 : decode cX4_restore 118 = .ok (.aload_n 0, 1) := by decide +kernel
theorem dX4_restore_119 : decode cX4_restore 119 = .ok (.getfield 45, 3) := by decide +kernel
theorem dX4_restore_122 : decode cX4_restore 122 = .ok (.iload_n 2, 1) := by decide +kernel
theorem dX4_restore_123 : decode cX4_restore 123 = .ok (.bipush 102, 2) := by decide +kernel
theorem dX4_restore_125 : decode cX4_restore 125 = .ok (.iadd, 1) := by decide +kernel
theorem dX4_restore_126 : decode cX4_restore 126 = .ok (.iload_n 3, 1) := by decide +kernel
theorem dX4_restore_127 : decode cX4_restore 127 = .ok (.iadd, 1) := by decide +kernel
theorem dX4_restore_128 : decode cX4_restore 128 = .ok (.iaload, 1) := by decide +kernel
theorem dX4_restore_129 : decode cX4_restore 129 = .ok (.iastore, 1) := by decide +kernel
theorem dX4_restore_130 : decode cX4_restore 130 = .ok (.iinc 3 1, 3) := by decide +kernel
theorem dX4_restore_133 : decode cX4_restore 133 = .ok (.goto (-26), 3) := by decide +kernel
theorem dX4_restore_136 : decode cX4_restore 136 = .ok (.aload_n 0, 1) := by decide +kernel
theorem dX4_restore_137 : decode cX4_restore 137 = .ok (.aload_n 0, 1) := by decide +kernel
theorem dX4_restore_138 : decode cX4_restore 138 = .ok (.getfield 45, 3) := by decide +kernel
theorem dX4_restore_141 : decode cX4_restore 141 = .ok (.iload_n 2, 1) := by decide +kernel
theorem dX4_restore_142 : decode cX4_restore 142 = .ok (.bipush 114, 2) := by decide +kernel
theorem dX4_restore_144 : decode cX4_restore 144 = .ok (.iadd, 1) := by decide +kernel
theorem dX4_restore_145 : decode cX4_restore 145 = .ok (.iaload, 1) := by decide +kernel
theorem dX4_restore_146 : decode cX4_restore 146 = .ok (.putfield 59, 3) := by decide +kernel
theorem dX4_restore_149 : decode cX4_restore 149 = .ok (.aload_n 0, 1) := by decide +kernel
theorem dX4_restore_150 : decode cX4_restore 150 = .ok (.aload_n 0, 1) := by decide +kernel
theorem dX4_restore_151 : decode cX4_restore 151 = .ok (.getfield 45, 3) := by decide +kernel
theorem dX4_restore_154 : decode cX4_restore 154 = .ok (.iload_n 2, 1) := by decide +kernel
theorem dX4_restore_155 : decode cX4_restore 155 = .ok (.bipush 115, 2) := by decide +kernel
theorem dX4_restore_157 : decode cX4_restore 157 = .ok (.iadd, 1) := by decide +kernel
theorem dX4_restore_158 : decode cX4_restore 158 = .ok (.iaload, 1) := by decide +kernel
theorem dX4_restore_159 : decode cX4_restore 159 = .ok (.putfield 63, 3) := by decide +kernel
theorem dX4_restore_162 : decode cX4_restore 162 = .ok (.aload_n 0, 1) := by decide +kernel
theorem dX4_restore_163 : decode cX4_restore 163 = .ok (.aload_n 0, 1) := by decide +kernel
theorem dX4_restore_164 : decode cX4_restore 164 = .ok (.getfield 45, 3) := by decide +kernel
theorem dX4_restore_167 : decode cX4_restore 167 = .ok (.iload_n 2, 1) := by decide +kernel
theorem dX4_restore_168 : decode cX4_restore 168 = .ok (.bipush 116, 2) := by decide +kernel
theorem dX4_restore_170 : decode cX4_restore 170 = .ok (.iadd, 1) := by decide +kernel
theorem dX4_restore_171 : decode cX4_restore 171 = .ok (.iaload, 1) := by decide +kernel
theorem dX4_restore_172 : decode cX4_restore 172 = .ok (.putfield 73, 3) := by decide +kernel
theorem dX4_restore_175 : decode cX4_restore 175 = .ok (.aload_n 0, 1) := by decide +kernel
theorem dX4_restore_176 : decode cX4_restore 176 = .ok (.aload_n 0, 1) := by decide +kernel
theorem dX4_restore_177 : decode cX4_restore 177 = .ok (.getfield 45, 3) := by decide +kernel
theorem dX4_restore_180 : decode cX4_restore 180 = .ok (.iload_n 2, 1) := by decide +kernel
theorem dX4_restore_181 : decode cX4_restore 181 = .ok (.bipush 117, 2) := by decide +kernel
theorem dX4_restore_183 : decode cX4_restore 183 = .ok (.iadd, 1) := by decide +kernel
theorem dX4_restore_184 : decode cX4_restore 184 = .ok (.iaload, 1) := by decide +kernel
theorem dX4_restore_185 : decode cX4_restore 185 = .ok (.putfield 126, 3) := by decide +kernel
theorem dX4_restore_188 : decode cX4_restore 188 = .ok (.iconst 1, 1) := by decide +kernel
theorem dX4_restore_189 : decode cX4_restore 189 = .ok (.ireturn, 1) := by decide +kernel
set_option maxRecDepth 20000 in
theorem ggX4_told_X4_in : GoodIn wsX4_told wsX4_in := goodIn_r _ [11] (by decide +kernel) (by decide +kernel)
set_option maxRecDepth 20000 in
theorem gX4_told_X4_in : GoodIn wsX4_told (va_wsS RX4 51 yX4_in wsX4_in) := goodIn_app (goodIn_of _ (by decide +kernel)) ggX4_told_X4_in
theorem dX4_told_0 : decode cX4_told 0 = .ok (.iload_n 1, 1) := by decide +kernel
theorem dX4_told_1 : decode cX4_told 1 = .ok (.bipush 10, 2) := by decide +kernel
theorem dX4_told_3 : decode cX4_told 3 = .ok (.bipush 15, 2) := by decide +kernel
theorem dX4_told_5 : decode cX4_told 5 = .ok (.invokestatic 51, 3) := by decide +kernel
theorem dX4_told_8 : decode cX4_told 8 = .ok (.ifCond .eq 13, 3) := by decide +kernel
theorem dX4_told_11 : decode cX4_told 11 = .ok (.aload_n 0, 1) := by decide +kernel
theorem dX4_told_12 : decode cX4_told 12 = .ok (.getfield 7, 3) := by decide +kernel
theorem dX4_told_15 : decode cX4_told 15 = .ok (.iload_n 1, 1) := by decide +kernel
theorem dX4_told_16 : decode cX4_told 16 = .ok (.bipush 10, 2) := by decide +kernel
theorem dX4_told_18 : decode cX4_told 18 = .ok (.isub, 1) := by decide +kernel
theorem dX4_told_19 : decode cX4_told 19 = .ok (.iaload, 1) := by decide +kernel
theorem dX4_told_20 : decode cX4_told 20 = .ok (.ireturn, 1) := by decide +kernel
theorem dX4_told_21 : decode cX4_told 21 = .ok (.iload_n 1, 1) := by decide +kernel
theorem dX4_told_22 : decode cX4_told 22 = .ok (.bipush 20, 2) := by decide +kernel
theorem dX4_told_24 : decode cX4_told 24 = .ok (.bipush 25, 2) := by decide +kernel
theorem dX4_told_26 : decode cX4_told 26 = .ok (.invokestatic 51, 3) := by decide +kernel
theorem dX4_told_29 : decode cX4_told 29 = .ok (.ifCond .eq 13, 3) := by decide +kernel
theorem dX4_told_32 : decode cX4_told 32 = .ok (.aload_n 0, 1) := by decide +kernel
theorem dX4_told_33 : decode cX4_told 33 = .ok (.getfield 13, 3) := by decide +kernel
theorem dX4_told_36 : decode cX4_told 36 = .ok (.iload_n 1, 1) := by decide +kernel
theorem dX4_told_37 : decode cX4_told 37 = .ok (.bipush 20, 2) := by decide +kernel
theorem dX4_told_39 : decode cX4_told 39 = .ok (.isub, 1) := by decide +kernel
theorem dX4_told_40 : decode cX4_told 40 = .ok (.iaload, 1) := by decide +kernel
theorem dX4_told_41 : decode cX4_told 41 = .ok (.ireturn, 1) := by decide +kernel
theorem dX4_told_42 : decode cX4_told 42 = .ok (.iload_n 1, 1) := by decide +kernel
theorem dX4_told_43 : decode cX4_told 43 = .ok (.tableswitch 49 0 3 #[29, 34, 39, 44], 29) := by decide +kernel
theorem dX4_told_72 : decode cX4_told 72 = .ok (.aload_n 0, 1) := by decide +kernel
theorem dX4_told_73 : decode cX4_told 73 = .ok (.getfield 66, 3) := by decide +kernel
theorem dX4_told_76 : decode cX4_told 76 = .ok (.ireturn, 1) := by decide +kernel
theorem dX4_told_77 : decode cX4_told 77 = .ok (.aload_n 0, 1) := by decide +kernel
theorem dX4_told_78 : decode cX4_told 78 = .ok (.getfield 73, 3) := by decide +kernel
theorem dX4_told_81 : decode cX4_told 81 = .ok (.ireturn, 1) := by decide +kernel
theorem dX4_told_82 : decode cX4_told 82 = .ok (.aload_n 0, 1) := by decide +kernel
theorem dX4_told_83 : decode cX4_told 83 = .ok (.getfield 59, 3) := by decide +kernel
theorem dX4_told_86 : decode cX4_told 86 = .ok (.ireturn, 1) := by decide +kernel
theorem dX4_told_87 : decode cX4_told 87 = .ok (.aload_n 0, 1) := by decide +kernel
theorem dX4_told_88 : decode cX4_told 88 = .ok (.getfield 63, 3) := by decide +kernel
theorem dX4_told_91 : decode cX4_told 91 = .ok (.ireturn, 1) := by decide +kernel
theorem dX4_told_92 : decode cX4_told 92 = .ok (.iload_n 1, 1) := by decide +kernel
theorem dX4_told_93 : decode cX4_told 93 = .ok (.iconst 4, 1) := by decide +kernel
theorem dX4_told_94 : decode cX4_told 94 = .ok (.if_icmp .ne 10, 3) := by decide +kernel
theorem dX4_told_97 : decode cX4_told 97 = .ok (.aload_n 0, 1) := by decide +kernel
theorem dX4_told_98 : decode cX4_told 98 = .ok (.getfield 126, 3) := by decide +kernel
theorem dX4_told_101 : decode cX4_told 101 = .ok (.goto 5, 3) := by decide +kernel
theorem dX4_told_104 : decode cX4_told 104 = .ok (.bipush (-2), 2) := by decide +kernel
theorem dX4_told_106 : decode cX4_told 106 = .ok (.ireturn, 1) := by decide +kernel
end
section
theorem dJ6_numberOfTrailingZeros_0f7a4_0 : decode cJ6_numberOfTrailingZeros_0f7a4 0 = .ok (.iload_n 0, 1) := by decide +kernel
theorem dJ6_numberOfTrailingZeros_0f7a4_1 : decode cJ6_numberOfTrailingZeros_0f7a4 1 = .ok (.iconst (-1), 1) := by decide +kernel
theorem dJ6_numberOfTrailingZeros_0f7a4_2 : decode cJ6_numberOfTrailingZeros_0f7a4 2 = .ok (.ixor, 1) := by decide +kernel
theorem dJ6_numberOfTrailingZeros_0f7a4_3 : decode cJ6_numberOfTrailingZeros_0f7a4 3 = .ok (.iload_n 0, 1) := by decide +kernel
theorem dJ6_numberOfTrailingZeros_0f7a4_4 : decode cJ6_numberOfTrailingZeros_0f7a4 4 = .ok (.iconst 1, 1) := by decide +kernel
theorem dJ6_numberOfTrailingZeros_0f7a4_5 : decode cJ6_numberOfTrailingZeros_0f7a4 5 = .ok (.isub, 1) := by decide +kernel
theorem dJ6_numberOfTrailingZeros_0f7a4_6 : decode cJ6_numberOfTrailingZeros_0f7a4 6 = .ok (.iand, 1) := by decide +kernel
theorem dJ6_numberOfTrailingZeros_0f7a4_7 : decode cJ6_numberOfTrailingZeros_0f7a4 7 = .ok (.istore_n 0, 1) := by decide +kernel
theorem dJ6_numberOfTrailingZeros_0f7a4_8 : decode cJ6_numberOfTrailingZeros_0f7a4 8 = .ok (.iload_n 0, 1) := by decide +kernel
theorem dJ6_numberOfTrailingZeros_0f7a4_9 : decode cJ6_numberOfTrailingZeros_0f7a4 9 = .ok (.ifCond .gt 8, 3) := by decide +kernel
theorem dJ6_numberOfTrailingZeros_0f7a4_12 : decode cJ6_numberOfTrailingZeros_0f7a4 12 = .ok (.iload_n 0, 1) := by decide +kernel
theorem dJ6_numberOfTrailingZeros_0f7a4_13 : decode cJ6_numberOfTrailingZeros_0f7a4 13 = .ok (.bipush 32, 2) := by decide +kernel
theorem dJ6_numberOfTrailingZeros_0f7a4_15 : decode cJ6_numberOfTrailingZeros_0f7a4 15 = .ok (.iand, 1) := by decide +kernel
theorem dJ6_numberOfTrailingZeros_0f7a4_16 : decode cJ6_numberOfTrailingZeros_0f7a4 16 = .ok (.ireturn, 1) := by decide +kernel
theorem dJ6_numberOfTrailingZeros_0f7a4_17 : decode cJ6_numberOfTrailingZeros_0f7a4 17 = .ok (.iconst 1, 1) := by decide +kernel
theorem dJ6_numberOfTrailingZeros_0f7a4_18 : decode cJ6_numberOfTrailingZeros_0f7a4 18 = .ok (.istore_n 1, 1) := by decide +kernel
theorem dJ6_numberOfTrailingZeros_0f7a4_19 : decode cJ6_numberOfTrailingZeros_0f7a4 19 = .ok (.iload_n 0, 1) := by decide +kernel
theorem dJ6_numberOfTrailingZeros_0f7a4_20 : decode cJ6_numberOfTrailingZeros_0f7a4 20 = .ok (.ldc_w 264, 3) := by decide +kernel
theorem dJ6_numberOfTrailingZeros_0f7a4_23 : decode cJ6_numberOfTrailingZeros_0f7a4 23 = .ok (.if_icmp .le 11, 3) := by decide +kernel
theorem dJ6_numberOfTrailingZeros_0f7a4_26 : decode cJ6_numberOfTrailingZeros_0f7a4 26 = .ok (.iinc 1 16, 3) := by decide +kernel
theorem dJ6_numberOfTrailingZeros_0f7a4_29 : decode cJ6_numberOfTrailingZeros_0f7a4 29 = .ok (.iload_n 0, 1) := by decide +kernel
theorem dJ6_numberOfTrailingZeros_0f7a4_30 : decode cJ6_numberOfTrailingZeros_0f7a4 30 = .ok (.bipush 16, 2) := by decide +kernel
theorem dJ6_numberOfTrailingZeros_0f7a4_32 : decode cJ6_numberOfTrailingZeros_0f7a4 32 = .ok (.iushr, 1) := by decide +kernel
theorem dJ6_numberOfTrailingZeros_0f7a4_33 : decode cJ6_numberOfTrailingZeros_0f7a4 33 = .ok (.istore_n 0, 1) := by decide +kernel
theorem dJ6_numberOfTrailingZeros_0f7a4_34 : decode cJ6_numberOfTrailingZeros_0f7a4 34 = .ok (.iload_n 0, 1) := by decide +kernel
theorem dJ6_numberOfTrailingZeros_0f7a4_35 : decode cJ6_numberOfTrailingZeros_0f7a4 35 = .ok (.sipush 256, 3) := by decide +kernel
theorem dJ6_numberOfTrailingZeros_0f7a4_38 : decode cJ6_numberOfTrailingZeros_0f7a4 38 = .ok (.if_icmp .le 11, 3) := by decide +kernel
theorem dJ6_numberOfTrailingZeros_0f7a4_41 : decode cJ6_numberOfTrailingZeros_0f7a4 41 = .ok (.iinc 1 8, 3) := by decide +kernel
theorem dJ6_numberOfTrailingZeros_0f7a4_44 : decode cJ6_numberOfTrailingZeros_0f7a4 44 = .ok (.iload_n 0, 1) := by decide +kernel
theorem dJ6_numberOfTrailingZeros_0f7a4_45 : decode cJ6_numberOfTrailingZeros_0f7a4 45 = .ok (.bipush 8, 2) := by decide +kernel
theorem dJ6_numberOfTrailingZeros_0f7a4_47 : decode cJ6_numberOfTrailingZeros_0f7a4 47 = .ok (.iushr, 1) := by decide +kernel
theorem dJ6_numberOfTrailingZeros_0f7a4_48 : decode cJ6_numberOfTrailingZeros_0f7a4 48 = .ok (.istore_n 0, 1) := by decide +kernel
theorem dJ6_numberOfTrailingZeros_0f7a4_49 : decode cJ6_numberOfTrailingZeros_0f7a4 49 = .ok (.iload_n 0, 1) := by decide +kernel
theorem dJ6_numberOfTrailingZeros_0f7a4_50 : decode cJ6_numberOfTrailingZeros_0f7a4 50 = .ok (.bipush 16, 2) := by decide +kernel
theorem dJ6_numberOfTrailingZeros_0f7a4_52 : decode cJ6_numberOfTrailingZeros_0f7a4 52 = .ok (.if_icmp .le 10, 3) := by decide +kernel
theorem dJ6_numberOfTrailingZeros_0f7a4_55 : decode cJ6_numberOfTrailingZeros_0f7a4 55 = .ok (.iinc 1 4, 3) := by decide +kernel
theorem dJ6_numberOfTrailingZeros_0f7a4_58 : decode cJ6_numberOfTrailingZeros_0f7a4 58 = .ok (.iload_n 0, 1) := by decide +kernel
theorem dJ6_numberOfTrailingZeros_0f7a4_59 : decode cJ6_numberOfTrailingZeros_0f7a4 59 = .ok (.iconst 4, 1) := by decide +kernel
theorem dJ6_numberOfTrailingZeros_0f7a4_60 : decode cJ6_numberOfTrailingZeros_0f7a4 60 = .ok (.iushr, 1) := by decide +kernel
theorem dJ6_numberOfTrailingZeros_0f7a4_61 : decode cJ6_numberOfTrailingZeros_0f7a4 61 = .ok (.istore_n 0, 1) := by decide +kernel
theorem dJ6_numberOfTrailingZeros_0f7a4_62 : decode cJ6_numberOfTrailingZeros_0f7a4 62 = .ok (.iload_n 0, 1) := by decide +kernel
theorem dJ6_numberOfTrailingZeros_0f7a4_63 : decode cJ6_numberOfTrailingZeros_0f7a4 63 = .ok (.iconst 4, 1) := by decide +kernel
theorem dJ6_numberOfTrailingZeros_0f7a4_64 : decode cJ6_numberOfTrailingZeros_0f7a4 64 = .ok (.if_icmp .le 10, 3) := by decide +kernel
theorem dJ6_numberOfTrailingZeros_0f7a4_67 : decode cJ6_numberOfTrailingZeros_0f7a4 67 = .ok (.iinc 1 2, 3) := by decide +kernel
theorem dJ6_numberOfTrailingZeros_0f7a4_70 : decode cJ6_numberOfTrailingZeros_0f7a4 70 = .ok (.iload_n 0, 1) := by decide +kernel
theorem dJ6_numberOfTrailingZeros_0f7a4_71 : decode cJ6_numberOfTrailingZeros_0f7a4 71 = .ok (.iconst 2, 1) := by decide +kernel
theorem dJ6_numberOfTrailingZeros_0f7a4_72 : decode cJ6_numberOfTrailingZeros_0f7a4 72 = .ok (.iushr, 1) := by decide +kernel
theorem dJ6_numberOfTrailingZeros_0f7a4_73 : decode cJ6_numberOfTrailingZeros_0f7a4 73 = .ok (.istore_n 0, 1) := by decide +kernel
theorem dJ6_numberOfTrailingZeros_0f7a4_74 : decode cJ6_numberOfTrailingZeros_0f7a4 74 = .ok (.iload_n 1, 1) := by decide +kernel
theorem dJ6_numberOfTrailingZeros_0f7a4_75 : decode cJ6_numberOfTrailingZeros_0f7a4 75 = .ok (.iload_n 0, 1) := by decide +kernel
theorem dJ6_numberOfTrailingZeros_0f7a4_76 : decode cJ6_numberOfTrailingZeros_0f7a4 76 = .ok (.iconst 1, 1) := by decide +kernel
theorem dJ6_numberOfTrailingZeros_0f7a4_77 : decode cJ6_numberOfTrailingZeros_0f7a4 77 = .ok (.iushr, 1) := by decide +kernel
theorem dJ6_numberOfTrailingZeros_0f7a4_78 : decode cJ6_numberOfTrailingZeros_0f7a4 78 = .ok (.iadd, 1) := by decide +kernel
theorem dJ6_numberOfTrailingZeros_0f7a4_79 : decode cJ6_numberOfTrailingZeros_0f7a4 79 = .ok (.ireturn, 1) := by decide +kernel
set_option maxRecDepth 20000 in
theorem ggJ13_numberOfTrailingZeros_95d88_J6_numberOfTrailingZeros_0f7a4 : GoodIn wsJ13_numberOfTrailingZeros_95d88 wsJ6_numberOfTrailingZeros_0f7a4 := goodIn_r _ [4, 5] (by decide +kernel) (by decide +kernel)
set_option maxRecDepth 20000 in
theorem gJ13_numberOfTrailingZeros_95d88_J6_numberOfTrailingZeros_0f7a4 : GoodIn wsJ13_numberOfTrailingZeros_95d88 (va_wsS RJ13 311 yJ6_numberOfTrailingZeros_0f7a4 wsJ6_numberOfTrailingZeros_0f7a4) := goodIn_app (goodIn_of _ (by decide +kernel)) ggJ13_numberOfTrailingZeros_95d88_J6_numberOfTrailingZeros_0f7a4
theorem dJ13_numberOfTrailingZeros_95d88_0 : decode cJ13_numberOfTrailingZeros_95d88 0 = .ok (.lload_n 0, 1) := by decide +kernel
theorem dJ13_numberOfTrailingZeros_95d88_1 : decode cJ13_numberOfTrailingZeros_95d88 1 = .ok (.l2i, 1) := by decide +kernel
theorem dJ13_numberOfTrailingZeros_95d88_2 : decode cJ13_numberOfTrailingZeros_95d88 2 = .ok (.istore_n 2, 1) := by decide +kernel
theorem dJ13_numberOfTrailingZeros_95d88_3 : decode cJ13_numberOfTrailingZeros_95d88 3 = .ok (.iload_n 2, 1) := by decide +kernel
theorem dJ13_numberOfTrailingZeros_95d88_4 : decode cJ13_numberOfTrailingZeros_95d88 4 = .ok (.ifCond .ne 17, 3) := by decide +kernel
theorem dJ13_numberOfTrailingZeros_95d88_7 : decode cJ13_numberOfTrailingZeros_95d88 7 = .ok (.bipush 32, 2) := by decide +kernel
theorem dJ13_numberOfTrailingZeros_95d88_9 : decode cJ13_numberOfTrailingZeros_95d88 9 = .ok (.lload_n 0, 1) := by decide +kernel
theorem dJ13_numberOfTrailingZeros_95d88_10 : decode cJ13_numberOfTrailingZeros_95d88 10 = .ok (.bipush 32, 2) := by decide +kernel
theorem dJ13_numberOfTrailingZeros_95d88_12 : decode cJ13_numberOfTrailingZeros_95d88 12 = .ok (.lushr, 1) := by decide +kernel
theorem dJ13_numberOfTrailingZeros_95d88_13 : decode cJ13_numberOfTrailingZeros_95d88 13 = .ok (.l2i, 1) := by decide +kernel
theorem dJ13_numberOfTrailingZeros_95d88_14 : decode cJ13_numberOfTrailingZeros_95d88 14 = .ok (.invokestatic 311, 3) := by decide +kernel
theorem dJ13_numberOfTrailingZeros_95d88_17 : decode cJ13_numberOfTrailingZeros_95d88 17 = .ok (.iadd, 1) := by decide +kernel
theorem dJ13_numberOfTrailingZeros_95d88_18 : decode cJ13_numberOfTrailingZeros_95d88 18 = .ok (.goto 7, 3) := by decide +kernel
theorem dJ13_numberOfTrailingZeros_95d88_21 : decode cJ13_numberOfTrailingZeros_95d88 21 = .ok (.iload_n 2, 1) := by decide +kernel
theorem dJ13_numberOfTrailingZeros_95d88_22 : decode cJ13_numberOfTrailingZeros_95d88 22 = .ok (.invokestatic 311, 3) := by decide +kernel
theorem dJ13_numberOfTrailingZeros_95d88_25 : decode cJ13_numberOfTrailingZeros_95d88 25 = .ok (.ireturn, 1) := by decide +kernel
theorem dJ9_min_7cf53_0 : decode cJ9_min_7cf53 0 = .ok (.iload_n 0, 1) := by decide +kernel
theorem dJ9_min_7cf53_1 : decode cJ9_min_7cf53 1 = .ok (.iload_n 1, 1) := by decide +kernel
theorem dJ9_min_7cf53_2 : decode cJ9_min_7cf53 2 = .ok (.if_icmp .gt 7, 3) := by decide +kernel
theorem dJ9_min_7cf53_5 : decode cJ9_min_7cf53 5 = .ok (.iload_n 0, 1) := by decide +kernel
theorem dJ9_min_7cf53_6 : decode cJ9_min_7cf53 6 = .ok (.goto 4, 3) := by decide +kernel
theorem dJ9_min_7cf53_9 : decode cJ9_min_7cf53 9 = .ok (.iload_n 1, 1) := by decide +kernel
theorem dJ9_min_7cf53_10 : decode cJ9_min_7cf53 10 = .ok (.ireturn, 1) := by decide +kernel
theorem dJ7_fill_d0a16_0 : decode cJ7_fill_d0a16 0 = .ok (.iconst 0, 1) := by decide +kernel
theorem dJ7_fill_d0a16_1 : decode cJ7_fill_d0a16 1 = .ok (.istore_n 3, 1) := by decide +kernel
theorem dJ7_fill_d0a16_2 : decode cJ7_fill_d0a16 2 = .ok (.aload_n 0, 1) := by decide +kernel
theorem dJ7_fill_d0a16_3 : decode cJ7_fill_d0a16 3 = .ok (.arraylength, 1) := by decide +kernel
theorem dJ7_fill_d0a16_4 : decode cJ7_fill_d0a16 4 = .ok (.istore 4, 2) := by decide +kernel
theorem dJ7_fill_d0a16_6 : decode cJ7_fill_d0a16 6 = .ok (.iload_n 3, 1) := by decide +kernel
theorem dJ7_fill_d0a16_7 : decode cJ7_fill_d0a16 7 = .ok (.iload 4, 2) := by decide +kernel
theorem dJ7_fill_d0a16_9 : decode cJ7_fill_d0a16 9 = .ok (.if_icmp .ge 13, 3) := by decide +kernel
theorem dJ7_fill_d0a16_12 : decode cJ7_fill_d0a16 12 = .ok (.aload_n 0, 1) := by decide +kernel
theorem dJ7_fill_d0a16_13 : decode cJ7_fill_d0a16 13 = .ok (.iload_n 3, 1) := by decide +kernel
theorem dJ7_fill_d0a16_14 : decode cJ7_fill_d0a16 14 = .ok (.lload_n 1, 1) := by decide +kernel
theorem dJ7_fill_d0a16_15 : decode cJ7_fill_d0a16 15 = .ok (.lastore, 1) := by decide +kernel
theorem dJ7_fill_d0a16_16 : decode cJ7_fill_d0a16 16 = .ok (.iinc 3 1, 3) := by decide +kernel
theorem dJ7_fill_d0a16_19 : decode cJ7_fill_d0a16 19 = .ok (.goto (-13), 3) := by decide +kernel
theorem dJ7_fill_d0a16_22 : decode cJ7_fill_d0a16 22 = .ok (.return_, 1) := by decide +kernel
theorem dJ7_fill_53178_0 : decode cJ7_fill_53178 0 = .ok (.iconst 0, 1) := by decide +kernel
theorem dJ7_fill_53178_1 : decode cJ7_fill_53178 1 = .ok (.istore_n 2, 1) := by decide +kernel
theorem dJ7_fill_53178_2 : decode cJ7_fill_53178 2 = .ok (.aload_n 0, 1) := by decide +kernel
theorem dJ7_fill_53178_3 : decode cJ7_fill_53178 3 = .ok (.arraylength, 1) := by decide +kernel
theorem dJ7_fill_53178_4 : decode cJ7_fill_53178 4 = .ok (.istore_n 3, 1) := by decide +kernel
theorem dJ7_fill_53178_5 : decode cJ7_fill_53178 5 = .ok (.iload_n 2, 1) := by decide +kernel
theorem dJ7_fill_53178_6 : decode cJ7_fill_53178 6 = .ok (.iload_n 3, 1) := by decide +kernel
theorem dJ7_fill_53178_7 : decode cJ7_fill_53178 7 = .ok (.if_icmp .ge 13, 3) := by decide +kernel
theorem dJ7_fill_53178_10 : decode cJ7_fill_53178 10 = .ok (.aload_n 0, 1) := by decide +kernel
theorem dJ7_fill_53178_11 : decode cJ7_fill_53178 11 = .ok (.iload_n 2, 1) := by decide +kernel
theorem dJ7_fill_53178_12 : decode cJ7_fill_53178 12 = .ok (.iload_n 1, 1) := by decide +kernel
theorem dJ7_fill_53178_13 : decode cJ7_fill_53178 13 = .ok (.iastore, 1) := by decide +kernel
theorem dJ7_fill_53178_14 : decode cJ7_fill_53178 14 = .ok (.iinc 2 1, 3) := by decide +kernel
theorem dJ7_fill_53178_17 : decode cJ7_fill_53178 17 = .ok (.goto (-12), 3) := by decide +kernel
theorem dJ7_fill_53178_20 : decode cJ7_fill_53178 20 = .ok (.return_, 1) := by decide +kernel
end
section
theorem dL_law_0 : decode cL_law 0 = .ok (.new 7, 3) := by decide +kernel
theorem dL_law_3 : decode cL_law 3 = .ok (.dup, 1) := by decide +kernel
theorem dL_law_4 : decode cL_law 4 = .ok (.invokespecial 9, 3) := by decide +kernel
theorem dL_law_7 : decode cL_law 7 = .ok (.astore_n 1, 1) := by decide +kernel
theorem dL_law_8 : decode cL_law 8 = .ok (.new 10, 3) := by decide +kernel
theorem dL_law_11 : decode cL_law 11 = .ok (.dup, 1) := by decide +kernel
theorem dL_law_12 : decode cL_law 12 = .ok (.invokespecial 12, 3) := by decide +kernel
theorem dL_law_15 : decode cL_law 15 = .ok (.astore_n 2, 1) := by decide +kernel
theorem dL_law_16 : decode cL_law 16 = .ok (.iconst 0, 1) := by decide +kernel
theorem dL_law_17 : decode cL_law 17 = .ok (.istore_n 3, 1) := by decide +kernel
theorem dL_law_18 : decode cL_law 18 = .ok (.iload_n 3, 1) := by decide +kernel
theorem dL_law_19 : decode cL_law 19 = .ok (.aload_n 0, 1) := by decide +kernel
theorem dL_law_20 : decode cL_law 20 = .ok (.arraylength, 1) := by decide +kernel
theorem dL_law_21 : decode cL_law 21 = .ok (.bipush 6, 2) := by decide +kernel
theorem dL_law_23 : decode cL_law 23 = .ok (.isub, 1) := by decide +kernel
theorem dL_law_24 : decode cL_law 24 = .ok (.if_icmp .gt 833, 3) := by decide +kernel
theorem dL_law_27 : decode cL_law 27 = .ok (.aload_n 0, 1) := by decide +kernel
theorem dL_law_28 : decode cL_law 28 = .ok (.iload_n 3, 1) := by decide +kernel
theorem dL_law_29 : decode cL_law 29 = .ok (.iaload, 1) := by decide +kernel
theorem dL_law_30 : decode cL_law 30 = .ok (.bipush 31, 2) := by decide +kernel
theorem dL_law_32 : decode cL_law 32 = .ok (.iand, 1) := by decide +kernel
theorem dL_law_33 : decode cL_law 33 = .ok (.tableswitch 818 0 25 #[119, 152, 185, 208, 221, 234, 257, 270, 313, 336, 369, 402, 415, 438, 471, 484, 507, 520, 543, 566, 609, 642, 706, 749, 772, 795], 119) := by decide +kernel
theorem dL_law_152 : decode cL_law 152 = .ok (.aload_n 1, 1) := by decide +kernel
theorem dL_law_153 : decode cL_law 153 = .ok (.aload_n 0, 1) := by decide +kernel
theorem dL_law_154 : decode cL_law 154 = .ok (.iload_n 3, 1) := by decide +kernel
theorem dL_law_155 : decode cL_law 155 = .ok (.iconst 1, 1) := by decide +kernel
theorem dL_law_156 : decode cL_law 156 = .ok (.iadd, 1) := by decide +kernel
theorem dL_law_157 : decode cL_law 157 = .ok (.iaload, 1) := by decide +kernel
theorem dL_law_158 : decode cL_law 158 = .ok (.aload_n 0, 1) := by decide +kernel
theorem dL_law_159 : decode cL_law 159 = .ok (.iload_n 3, 1) := by decide +kernel
theorem dL_law_160 : decode cL_law 160 = .ok (.iconst 2, 1) := by decide +kernel
theorem dL_law_161 : decode cL_law 161 = .ok (.iadd, 1) := by decide +kernel
theorem dL_law_162 : decode cL_law 162 = .ok (.iaload, 1) := by decide +kernel
theorem dL_law_163 : decode cL_law 163 = .ok (.invokevirtual 13, 3) := by decide +kernel
theorem dL_law_166 : decode cL_law 166 = .ok (.aload_n 2, 1) := by decide +kernel
theorem dL_law_167 : decode cL_law 167 = .ok (.aload_n 0, 1) := by decide +kernel
theorem dL_law_168 : decode cL_law 168 = .ok (.iload_n 3, 1) := by decide +kernel
theorem dL_law_169 : decode cL_law 169 = .ok (.iconst 1, 1) := by decide +kernel
theorem dL_law_170 : decode cL_law 170 = .ok (.iadd, 1) := by decide +kernel
theorem dL_law_171 : decode cL_law 171 = .ok (.iaload, 1) := by decide +kernel
theorem dL_law_172 : decode cL_law 172 = .ok (.aload_n 0, 1) := by decide +kernel
theorem dL_law_173 : decode cL_law 173 = .ok (.iload_n 3, 1) := by decide +kernel
theorem dL_law_174 : decode cL_law 174 = .ok (.iconst 2, 1) := by decide +kernel
theorem dL_law_175 : decode cL_law 175 = .ok (.iadd, 1) := by decide +kernel
theorem dL_law_176 : decode cL_law 176 = .ok (.iaload, 1) := by decide +kernel
theorem dL_law_177 : decode cL_law 177 = .ok (.invokevirtual 17, 3) := by decide +kernel
theorem dL_law_180 : decode cL_law 180 = .ok (.if_icmp .eq 671, 3) := by decide +kernel
theorem dL_law_183 : decode cL_law 183 = .ok (.iconst 0, 1) := by decide +kernel
theorem dL_law_184 : decode cL_law 184 = .ok (.ireturn, 1) := by decide +kernel
theorem dL_law_185 : decode cL_law 185 = .ok (.aload_n 1, 1) := by decide +kernel
theorem dL_law_186 : decode cL_law 186 = .ok (.aload_n 0, 1) := by decide +kernel
theorem dL_law_187 : decode cL_law 187 = .ok (.iload_n 3, 1) := by decide +kernel
theorem dL_law_188 : decode cL_law 188 = .ok (.iconst 1, 1) := by decide +kernel
theorem dL_law_189 : decode cL_law 189 = .ok (.iadd, 1) := by decide +kernel
theorem dL_law_190 : decode cL_law 190 = .ok (.iaload, 1) := by decide +kernel
theorem dL_law_191 : decode cL_law 191 = .ok (.aload_n 0, 1) := by decide +kernel
theorem dL_law_192 : decode cL_law 192 = .ok (.iload_n 3, 1) := by decide +kernel
theorem dL_law_193 : decode cL_law 193 = .ok (.iconst 2, 1) := by decide +kernel
theorem dL_law_194 : decode cL_law 194 = .ok (.iadd, 1) := by decide +kernel
theorem dL_law_195 : decode cL_law 195 = .ok (.iaload, 1) := by decide +kernel
theorem dL_law_196 : decode cL_law 196 = .ok (.invokevirtual 18, 3) := by decide +kernel
theorem dL_law_199 : decode cL_law 199 = .ok (.aload_n 2, 1) := by decide +kernel
theorem dL_law_200 : decode cL_law 200 = .ok (.aload_n 0, 1) := by decide +kernel
theorem dL_law_201 : decode cL_law 201 = .ok (.iload_n 3, 1) := by decide +kernel
theorem dL_law_202 : decode cL_law 202 = .ok (.iconst 1, 1) := by decide +kernel
theorem dL_law_203 : decode cL_law 203 = .ok (.iadd, 1) := by decide +kernel
theorem dL_law_204 : decode cL_law 204 = .ok (.iaload, 1) := by decide +kernel
theorem dL_law_205 : decode cL_law 205 = .ok (.aload_n 0, 1) := by decide +kernel
theorem dL_law_206 : decode cL_law 206 = .ok (.iload_n 3, 1) := by decide +kernel
theorem dL_law_207 : decode cL_law 207 = .ok (.iconst 2, 1) := by decide +kernel
theorem dL_law_208 : decode cL_law 208 = .ok (.iadd, 1) := by decide +kernel
theorem dL_law_209 : decode cL_law 209 = .ok (.iaload, 1) := by decide +kernel
theorem dL_law_210 : decode cL_law 210 = .ok (.invokevirtual 21, 3) := by decide +kernel
theorem dL_law_213 : decode cL_law 213 = .ok (.if_icmp .eq 638, 3) := by decide +kernel
theorem dL_law_216 : decode cL_law 216 = .ok (.iconst 0, 1) := by decide +kernel
theorem dL_law_217 : decode cL_law 217 = .ok (.ireturn, 1) := by decide +kernel
theorem dL_law_218 : decode cL_law 218 = .ok (.aload_n 1, 1) := by decide +kernel
theorem dL_law_219 : decode cL_law 219 = .ok (.aload_n 0, 1) := by decide +kernel
theorem dL_law_220 : decode cL_law 220 = .ok (.iload_n 3, 1) := by decide +kernel
theorem dL_law_221 : decode cL_law 221 = .ok (.iconst 1, 1) := by decide +kernel
theorem dL_law_222 : decode cL_law 222 = .ok (.iadd, 1) := by decide +kernel
theorem dL_law_223 : decode cL_law 223 = .ok (.iaload, 1) := by decide +kernel
theorem dL_law_224 : decode cL_law 224 = .ok (.invokevirtual 22, 3) := by decide +kernel
theorem dL_law_227 : decode cL_law 227 = .ok (.aload_n 2, 1) := by decide +kernel
theorem dL_law_228 : decode cL_law 228 = .ok (.aload_n 0, 1) := by decide +kernel
theorem dL_law_229 : decode cL_law 229 = .ok (.iload_n 3, 1) := by decide +kernel
theorem dL_law_230 : decode cL_law 230 = .ok (.iconst 1, 1) := by decide +kernel
theorem dL_law_231 : decode cL_law 231 = .ok (.iadd, 1) := by decide +kernel
theorem dL_law_232 : decode cL_law 232 = .ok (.iaload, 1) := by decide +kernel
theorem dL_law_233 : decode cL_law 233 = .ok (.invokevirtual 26, 3) := by decide +kernel
theorem dL_law_236 : decode cL_law 236 = .ok (.if_icmp .eq 615, 3) := by decide +kernel
theorem dL_law_239 : decode cL_law 239 = .ok (.iconst 0, 1) := by decide +kernel
theorem dL_law_240 : decode cL_law 240 = .ok (.ireturn, 1) := by decide +kernel
theorem dL_law_241 : decode cL_law 241 = .ok (.aload_n 1, 1) := by decide +kernel
theorem dL_law_242 : decode cL_law 242 = .ok (.invokevirtual 27, 3) := by decide +kernel
theorem dL_law_245 : decode cL_law 245 = .ok (.aload_n 2, 1) := by decide +kernel
theorem dL_law_246 : decode cL_law 246 = .ok (.invokevirtual 31, 3) := by decide +kernel
theorem dL_law_249 : decode cL_law 249 = .ok (.if_icmp .eq 602, 3) := by decide +kernel
theorem dL_law_252 : decode cL_law 252 = .ok (.iconst 0, 1) := by decide +kernel
theorem dL_law_253 : decode cL_law 253 = .ok (.ireturn, 1) := by decide +kernel
theorem dL_law_254 : decode cL_law 254 = .ok (.aload_n 1, 1) := by decide +kernel
theorem dL_law_255 : decode cL_law 255 = .ok (.invokevirtual 32, 3) := by decide +kernel
theorem dL_law_258 : decode cL_law 258 = .ok (.aload_n 2, 1) := by decide +kernel
theorem dL_law_259 : decode cL_law 259 = .ok (.invokevirtual 35, 3) := by decide +kernel
theorem dL_law_262 : decode cL_law 262 = .ok (.if_icmp .eq 589, 3) := by decide +kernel
theorem dL_law_265 : decode cL_law 265 = .ok (.iconst 0, 1) := by decide +kernel
theorem dL_law_266 : decode cL_law 266 = .ok (.ireturn, 1) := by decide +kernel
theorem dL_law_267 : decode cL_law 267 = .ok (.aload_n 1, 1) := by decide +kernel
theorem dL_law_268 : decode cL_law 268 = .ok (.aload_n 0, 1) := by decide +kernel
theorem dL_law_269 : decode cL_law 269 = .ok (.iload_n 3, 1) := by decide +kernel
theorem dL_law_270 : decode cL_law 270 = .ok (.iconst 1, 1) := by decide +kernel
theorem dL_law_271 : decode cL_law 271 = .ok (.iadd, 1) := by decide +kernel
theorem dL_law_272 : decode cL_law 272 = .ok (.iaload, 1) := by decide +kernel
theorem dL_law_273 : decode cL_law 273 = .ok (.invokevirtual 36, 3) := by decide +kernel
theorem dL_law_276 : decode cL_law 276 = .ok (.aload_n 2, 1) := by decide +kernel
theorem dL_law_277 : decode cL_law 277 = .ok (.aload_n 0, 1) := by decide +kernel
theorem dL_law_278 : decode cL_law 278 = .ok (.iload_n 3, 1) := by decide +kernel
theorem dL_law_279 : decode cL_law 279 = .ok (.iconst 1, 1) := by decide +kernel
theorem dL_law_280 : decode cL_law 280 = .ok (.iadd, 1) := by decide +kernel
theorem dL_law_281 : decode cL_law 281 = .ok (.iaload, 1) := by decide +kernel
theorem dL_law_282 : decode cL_law 282 = .ok (.invokevirtual 39, 3) := by decide +kernel
theorem dL_law_285 : decode cL_law 285 = .ok (.if_icmp .eq 566, 3) := by decide +kernel
theorem dL_law_288 : decode cL_law 288 = .ok (.iconst 0, 1) := by decide +kernel
theorem dL_law_289 : decode cL_law 289 = .ok (.ireturn, 1) := by decide +kernel
theorem dL_law_290 : decode cL_law 290 = .ok (.aload_n 1, 1) := by decide +kernel
theorem dL_law_291 : decode cL_law 291 = .ok (.invokevirtual 40, 3) := by decide +kernel
theorem dL_law_294 : decode cL_law 294 = .ok (.aload_n 2, 1) := by decide +kernel
theorem dL_law_295 : decode cL_law 295 = .ok (.invokevirtual 43, 3) := by decide +kernel
theorem dL_law_298 : decode cL_law 298 = .ok (.if_icmp .eq 553, 3) := by decide +kernel
theorem dL_law_301 : decode cL_law 301 = .ok (.iconst 0, 1) := by decide +kernel
theorem dL_law_302 : decode cL_law 302 = .ok (.ireturn, 1) := by decide +kernel
theorem dL_law_303 : decode cL_law 303 = .ok (.aload_n 1, 1) := by decide +kernel
theorem dL_law_304 : decode cL_law 304 = .ok (.aload_n 0, 1) := by decide +kernel
theorem dL_law_305 : decode cL_law 305 = .ok (.iload_n 3, 1) := by decide +kernel
theorem dL_law_306 : decode cL_law 306 = .ok (.iconst 1, 1) := by decide +kernel
theorem dL_law_307 : decode cL_law 307 = .ok (.iadd, 1) := by decide +kernel
theorem dL_law_308 : decode cL_law 308 = .ok (.iaload, 1) := by decide +kernel
theorem dL_law_309 : decode cL_law 309 = .ok (.aload_n 0, 1) := by decide +kernel
theorem dL_law_310 : decode cL_law 310 = .ok (.iload_n 3, 1) := by decide +kernel
theorem dL_law_311 : decode cL_law 311 = .ok (.iconst 2, 1) := by decide +kernel
theorem dL_law_312 : decode cL_law 312 = .ok (.iadd, 1) := by decide +kernel
theorem dL_law_313 : decode cL_law 313 = .ok (.iaload, 1) := by decide +kernel
theorem dL_law_314 : decode cL_law 314 = .ok (.aload_n 0, 1) := by decide +kernel
theorem dL_law_315 : decode cL_law 315 = .ok (.iload_n 3, 1) := by decide +kernel
theorem dL_law_316 : decode cL_law 316 = .ok (.iconst 3, 1) := by decide +kernel
theorem dL_law_317 : decode cL_law 317 = .ok (.iadd, 1) := by decide +kernel
theorem dL_law_318 : decode cL_law 318 = .ok (.iaload, 1) := by decide +kernel
theorem dL_law_319 : decode cL_law 319 = .ok (.invokevirtual 44, 3) := by decide +kernel
theorem dL_law_322 : decode cL_law 322 = .ok (.aload_n 2, 1) := by decide +kernel
theorem dL_law_323 : decode cL_law 323 = .ok (.aload_n 0, 1) := by decide +kernel
theorem dL_law_324 : decode cL_law 324 = .ok (.iload_n 3, 1) := by decide +kernel
theorem dL_law_325 : decode cL_law 325 = .ok (.iconst 1, 1) := by decide +kernel
theorem dL_law_326 : decode cL_law 326 = .ok (.iadd, 1) := by decide +kernel
theorem dL_law_327 : decode cL_law 327 = .ok (.iaload, 1) := by decide +kernel
theorem dL_law_328 : decode cL_law 328 = .ok (.aload_n 0, 1) := by decide +kernel
theorem dL_law_329 : decode cL_law 329 = .ok (.iload_n 3, 1) := by decide +kernel
theorem dL_law_330 : decode cL_law 330 = .ok (.iconst 2, 1) := by decide +kernel
theorem dL_law_331 : decode cL_law 331 = .ok (.iadd, 1) := by decide +kernel
theorem dL_law_332 : decode cL_law 332 = .ok (.iaload, 1) := by decide +kernel
theorem dL_law_333 : decode cL_law 333 = .ok (.aload_n 0, 1) := by decide +kernel
theorem dL_law_334 : decode cL_law 334 = .ok (.iload_n 3, 1) := by decide +kernel
theorem dL_law_335 : decode cL_law 335 = .ok (.iconst 3, 1) := by decide +kernel
theorem dL_law_336 : decode cL_law 336 = .ok (.iadd, 1) := by decide +kernel
theorem dL_law_337 : decode cL_law 337 = .ok (.iaload, 1) := by decide +kernel
theorem dL_law_338 : decode cL_law 338 = .ok (.invokevirtual 48, 3) := by decide +kernel
theorem dL_law_341 : decode cL_law 341 = .ok (.if_icmp .eq 510, 3) := by decide +kernel
theorem dL_law_344 : decode cL_law 344 = .ok (.iconst 0, 1) := by decide +kernel
theorem dL_law_345 : decode cL_law 345 = .ok (.ireturn, 1) := by decide +kernel
theorem dL_law_346 : decode cL_law 346 = .ok (.aload_n 1, 1) := by decide +kernel
theorem dL_law_347 : decode cL_law 347 = .ok (.aload_n 0, 1) := by decide +kernel
theorem dL_law_348 : decode cL_law 348 = .ok (.iload_n 3, 1) := by decide +kernel
theorem dL_law_349 : decode cL_law 349 = .ok (.iconst 1, 1) := by decide +kernel
theorem dL_law_350 : decode cL_law 350 = .ok (.iadd, 1) := by decide +kernel
theorem dL_law_351 : decode cL_law 351 = .ok (.iaload, 1) := by decide +kernel
theorem dL_law_352 : decode cL_law 352 = .ok (.invokevirtual 49, 3) := by decide +kernel
theorem dL_law_355 : decode cL_law 355 = .ok (.aload_n 2, 1) := by decide +kernel
theorem dL_law_356 : decode cL_law 356 = .ok (.aload_n 0, 1) := by decide +kernel
theorem dL_law_357 : decode cL_law 357 = .ok (.iload_n 3, 1) := by decide +kernel
theorem dL_law_358 : decode cL_law 358 = .ok (.iconst 1, 1) := by decide +kernel
theorem dL_law_359 : decode cL_law 359 = .ok (.iadd, 1) := by decide +kernel
theorem dL_law_360 : decode cL_law 360 = .ok (.iaload, 1) := by decide +kernel
theorem dL_law_361 : decode cL_law 361 = .ok (.invokevirtual 52, 3) := by decide +kernel
theorem dL_law_364 : decode cL_law 364 = .ok (.if_icmp .eq 487, 3) := by decide +kernel
theorem dL_law_367 : decode cL_law 367 = .ok (.iconst 0, 1) := by decide +kernel
theorem dL_law_368 : decode cL_law 368 = .ok (.ireturn, 1) := by decide +kernel
theorem dL_law_369 : decode cL_law 369 = .ok (.aload_n 1, 1) := by decide +kernel
theorem dL_law_370 : decode cL_law 370 = .ok (.aload_n 0, 1) := by decide +kernel
theorem dL_law_371 : decode cL_law 371 = .ok (.iload_n 3, 1) := by decide +kernel
theorem dL_law_372 : decode cL_law 372 = .ok (.iconst 1, 1) := by decide +kernel
theorem dL_law_373 : decode cL_law 373 = .ok (.iadd, 1) := by decide +kernel
theorem dL_law_374 : decode cL_law 374 = .ok (.iaload, 1) := by decide +kernel
theorem dL_law_375 : decode cL_law 375 = .ok (.aload_n 0, 1) := by decide +kernel
theorem dL_law_376 : decode cL_law 376 = .ok (.iload_n 3, 1) := by decide +kernel
theorem dL_law_377 : decode cL_law 377 = .ok (.iconst 2, 1) := by decide +kernel
theorem dL_law_378 : decode cL_law 378 = .ok (.iadd, 1) := by decide +kernel
theorem dL_law_379 : decode cL_law 379 = .ok (.iaload, 1) := by decide +kernel
theorem dL_law_380 : decode cL_law 380 = .ok (.invokevirtual 53, 3) := by decide +kernel
theorem dL_law_383 : decode cL_law 383 = .ok (.aload_n 2, 1) := by decide +kernel
theorem dL_law_384 : decode cL_law 384 = .ok (.aload_n 0, 1) := by decide +kernel
theorem dL_law_385 : decode cL_law 385 = .ok (.iload_n 3, 1) := by decide +kernel
theorem dL_law_386 : decode cL_law 386 = .ok (.iconst 1, 1) := by decide +kernel
theorem dL_law_387 : decode cL_law 387 = .ok (.iadd, 1) := by decide +kernel
theorem dL_law_388 : decode cL_law 388 = .ok (.iaload, 1) := by decide +kernel
theorem dL_law_389 : decode cL_law 389 = .ok (.aload_n 0, 1) := by decide +kernel
theorem dL_law_390 : decode cL_law 390 = .ok (.iload_n 3, 1) := by decide +kernel
theorem dL_law_391 : decode cL_law 391 = .ok (.iconst 2, 1) := by decide +kernel
theorem dL_law_392 : decode cL_law 392 = .ok (.iadd, 1) := by decide +kernel
theorem dL_law_393 : decode cL_law 393 = .ok (.iaload, 1) := by decide +kernel
theorem dL_law_394 : decode cL_law 394 = .ok (.invokevirtual 56, 3) := by decide +kernel
theorem dL_law_397 : decode cL_law 397 = .ok (.if_icmp .eq 454, 3) := by decide +kernel
theorem dL_law_400 : decode cL_law 400 = .ok (.iconst 0, 1) := by decide +kernel
theorem dL_law_401 : decode cL_law 401 = .ok (.ireturn, 1) := by decide +kernel
theorem dL_law_402 : decode cL_law 402 = .ok (.aload_n 1, 1) := by decide +kernel
theorem dL_law_403 : decode cL_law 403 = .ok (.aload_n 0, 1) := by decide +kernel
theorem dL_law_404 : decode cL_law 404 = .ok (.iload_n 3, 1) := by decide +kernel
theorem dL_law_405 : decode cL_law 405 = .ok (.iconst 1, 1) := by decide +kernel
theorem dL_law_406 : decode cL_law 406 = .ok (.iadd, 1) := by decide +kernel
theorem dL_law_407 : decode cL_law 407 = .ok (.iaload, 1) := by decide +kernel
theorem dL_law_408 : decode cL_law 408 = .ok (.aload_n 0, 1) := by decide +kernel
theorem dL_law_409 : decode cL_law 409 = .ok (.iload_n 3, 1) := by decide +kernel
theorem dL_law_410 : decode cL_law 410 = .ok (.iconst 2, 1) := by decide +kernel
theorem dL_law_411 : decode cL_law 411 = .ok (.iadd, 1) := by decide +kernel
theorem dL_law_412 : decode cL_law 412 = .ok (.iaload, 1) := by decide +kernel
theorem dL_law_413 : decode cL_law 413 = .ok (.invokevirtual 57, 3) := by decide +kernel
theorem dL_law_416 : decode cL_law 416 = .ok (.aload_n 2, 1) := by decide +kernel
theorem dL_law_417 : decode cL_law 417 = .ok (.aload_n 0, 1) := by decide +kernel
theorem dL_law_418 : decode cL_law 418 = .ok (.iload_n 3, 1) := by decide +kernel
theorem dL_law_419 : decode cL_law 419 = .ok (.iconst 1, 1) := by decide +kernel
theorem dL_law_420 : decode cL_law 420 = .ok (.iadd, 1) := by decide +kernel
theorem dL_law_421 : decode cL_law 421 = .ok (.iaload, 1) := by decide +kernel
theorem dL_law_422 : decode cL_law 422 = .ok (.aload_n 0, 1) := by decide +kernel
theorem dL_law_423 : decode cL_law 423 = .ok (.iload_n 3, 1) := by decide +kernel
theorem dL_law_424 : decode cL_law 424 = .ok (.iconst 2, 1) := by decide +kernel
theorem dL_law_425 : decode cL_law 425 = .ok (.iadd, 1) := by decide +kernel
theorem dL_law_426 : decode cL_law 426 = .ok (.iaload, 1) := by decide +kernel
theorem dL_law_427 : decode cL_law 427 = .ok (.invokevirtual 60, 3) := by decide +kernel
theorem dL_law_430 : decode cL_law 430 = .ok (.if_icmp .eq 421, 3) := by decide +kernel
theorem dL_law_433 : decode cL_law 433 = .ok (.iconst 0, 1) := by decide +kernel
theorem dL_law_434 : decode cL_law 434 = .ok (.ireturn, 1) := by decide +kernel
theorem dL_law_435 : decode cL_law 435 = .ok (.aload_n 1, 1) := by decide +kernel
theorem dL_law_436 : decode cL_law 436 = .ok (.invokevirtual 61, 3) := by decide +kernel
theorem dL_law_439 : decode cL_law 439 = .ok (.aload_n 2, 1) := by decide +kernel
theorem dL_law_440 : decode cL_law 440 = .ok (.invokevirtual 64, 3) := by decide +kernel
theorem dL_law_443 : decode cL_law 443 = .ok (.if_icmp .eq 408, 3) := by decide +kernel
theorem dL_law_446 : decode cL_law 446 = .ok (.iconst 0, 1) := by decide +kernel
theorem dL_law_447 : decode cL_law 447 = .ok (.ireturn, 1) := by decide +kernel
theorem dL_law_448 : decode cL_law 448 = .ok (.aload_n 1, 1) := by decide +kernel
theorem dL_law_449 : decode cL_law 449 = .ok (.aload_n 0, 1) := by decide +kernel
theorem dL_law_450 : decode cL_law 450 = .ok (.iload_n 3, 1) := by decide +kernel
theorem dL_law_451 : decode cL_law 451 = .ok (.iconst 1, 1) := by decide +kernel
theorem dL_law_452 : decode cL_law 452 = .ok (.iadd, 1) := by decide +kernel
theorem dL_law_453 : decode cL_law 453 = .ok (.iaload, 1) := by decide +kernel
theorem dL_law_454 : decode cL_law 454 = .ok (.invokevirtual 65, 3) := by decide +kernel
theorem dL_law_457 : decode cL_law 457 = .ok (.aload_n 2, 1) := by decide +kernel
theorem dL_law_458 : decode cL_law 458 = .ok (.aload_n 0, 1) := by decide +kernel
theorem dL_law_459 : decode cL_law 459 = .ok (.iload_n 3, 1) := by decide +kernel
theorem dL_law_460 : decode cL_law 460 = .ok (.iconst 1, 1) := by decide +kernel
theorem dL_law_461 : decode cL_law 461 = .ok (.iadd, 1) := by decide +kernel
theorem dL_law_462 : decode cL_law 462 = .ok (.iaload, 1) := by decide +kernel
theorem dL_law_463 : decode cL_law 463 = .ok (.invokevirtual 68, 3) := by decide +kernel
theorem dL_law_466 : decode cL_law 466 = .ok (.if_icmp .eq 385, 3) := by decide +kernel
theorem dL_law_469 : decode cL_law 469 = .ok (.iconst 0, 1) := by decide +kernel
theorem dL_law_470 : decode cL_law 470 = .ok (.ireturn, 1) := by decide +kernel
theorem dL_law_471 : decode cL_law 471 = .ok (.aload_n 1, 1) := by decide +kernel
theorem dL_law_472 : decode cL_law 472 = .ok (.aload_n 0, 1) := by decide +kernel
theorem dL_law_473 : decode cL_law 473 = .ok (.iload_n 3, 1) := by decide +kernel
theorem dL_law_474 : decode cL_law 474 = .ok (.iconst 1, 1) := by decide +kernel
theorem dL_law_475 : decode cL_law 475 = .ok (.iadd, 1) := by decide +kernel
theorem dL_law_476 : decode cL_law 476 = .ok (.iaload, 1) := by decide +kernel
theorem dL_law_477 : decode cL_law 477 = .ok (.aload_n 0, 1) := by decide +kernel
theorem dL_law_478 : decode cL_law 478 = .ok (.iload_n 3, 1) := by decide +kernel
theorem dL_law_479 : decode cL_law 479 = .ok (.iconst 2, 1) := by decide +kernel
theorem dL_law_480 : decode cL_law 480 = .ok (.iadd, 1) := by decide +kernel
theorem dL_law_481 : decode cL_law 481 = .ok (.iaload, 1) := by decide +kernel
theorem dL_law_482 : decode cL_law 482 = .ok (.invokevirtual 69, 3) := by decide +kernel
theorem dL_law_485 : decode cL_law 485 = .ok (.aload_n 2, 1) := by decide +kernel
theorem dL_law_486 : decode cL_law 486 = .ok (.aload_n 0, 1) := by decide +kernel
theorem dL_law_487 : decode cL_law 487 = .ok (.iload_n 3, 1) := by decide +kernel
theorem dL_law_488 : decode cL_law 488 = .ok (.iconst 1, 1) := by decide +kernel
theorem dL_law_489 : decode cL_law 489 = .ok (.iadd, 1) := by decide +kernel
theorem dL_law_490 : decode cL_law 490 = .ok (.iaload, 1) := by decide +kernel
theorem dL_law_491 : decode cL_law 491 = .ok (.aload_n 0, 1) := by decide +kernel
theorem dL_law_492 : decode cL_law 492 = .ok (.iload_n 3, 1) := by decide +kernel
theorem dL_law_493 : decode cL_law 493 = .ok (.iconst 2, 1) := by decide +kernel
theorem dL_law_494 : decode cL_law 494 = .ok (.iadd, 1) := by decide +kernel
theorem dL_law_495 : decode cL_law 495 = .ok (.iaload, 1) := by decide +kernel
theorem dL_law_496 : decode cL_law 496 = .ok (.invokevirtual 72, 3) := by decide +kernel
theorem dL_law_499 : decode cL_law 499 = .ok (.if_icmp .eq 352, 3) := by decide +kernel
theorem dL_law_502 : decode cL_law 502 = .ok (.iconst 0, 1) := by decide +kernel
theorem dL_law_503 : decode cL_law 503 = .ok (.ireturn, 1) := by decide +kernel
theorem dL_law_504 : decode cL_law 504 = .ok (.aload_n 1, 1) := by decide +kernel
theorem dL_law_505 : decode cL_law 505 = .ok (.invokevirtual 73, 3) := by decide +kernel
theorem dL_law_508 : decode cL_law 508 = .ok (.aload_n 2, 1) := by decide +kernel
theorem dL_law_509 : decode cL_law 509 = .ok (.invokevirtual 76, 3) := by decide +kernel
theorem dL_law_512 : decode cL_law 512 = .ok (.if_icmp .eq 339, 3) := by decide +kernel
theorem dL_law_515 : decode cL_law 515 = .ok (.iconst 0, 1) := by decide +kernel
theorem dL_law_516 : decode cL_law 516 = .ok (.ireturn, 1) := by decide +kernel
theorem dL_law_517 : decode cL_law 517 = .ok (.aload_n 1, 1) := by decide +kernel
theorem dL_law_518 : decode cL_law 518 = .ok (.aload_n 0, 1) := by decide +kernel
theorem dL_law_519 : decode cL_law 519 = .ok (.iload_n 3, 1) := by decide +kernel
theorem dL_law_520 : decode cL_law 520 = .ok (.iconst 1, 1) := by decide +kernel
theorem dL_law_521 : decode cL_law 521 = .ok (.iadd, 1) := by decide +kernel
theorem dL_law_522 : decode cL_law 522 = .ok (.iaload, 1) := by decide +kernel
theorem dL_law_523 : decode cL_law 523 = .ok (.invokevirtual 77, 3) := by decide +kernel
theorem dL_law_526 : decode cL_law 526 = .ok (.aload_n 2, 1) := by decide +kernel
theorem dL_law_527 : decode cL_law 527 = .ok (.aload_n 0, 1) := by decide +kernel
theorem dL_law_528 : decode cL_law 528 = .ok (.iload_n 3, 1) := by decide +kernel
theorem dL_law_529 : decode cL_law 529 = .ok (.iconst 1, 1) := by decide +kernel
theorem dL_law_530 : decode cL_law 530 = .ok (.iadd, 1) := by decide +kernel
theorem dL_law_531 : decode cL_law 531 = .ok (.iaload, 1) := by decide +kernel
theorem dL_law_532 : decode cL_law 532 = .ok (.invokevirtual 80, 3) := by decide +kernel
theorem dL_law_535 : decode cL_law 535 = .ok (.if_icmp .eq 316, 3) := by decide +kernel
theorem dL_law_538 : decode cL_law 538 = .ok (.iconst 0, 1) := by decide +kernel
theorem dL_law_539 : decode cL_law 539 = .ok (.ireturn, 1) := by decide +kernel
theorem dL_law_540 : decode cL_law 540 = .ok (.aload_n 1, 1) := by decide +kernel
theorem dL_law_541 : decode cL_law 541 = .ok (.invokevirtual 81, 3) := by decide +kernel
theorem dL_law_544 : decode cL_law 544 = .ok (.aload_n 2, 1) := by decide +kernel
theorem dL_law_545 : decode cL_law 545 = .ok (.invokevirtual 84, 3) := by decide +kernel
theorem dL_law_548 : decode cL_law 548 = .ok (.if_icmp .eq 303, 3) := by decide +kernel
theorem dL_law_551 : decode cL_law 551 = .ok (.iconst 0, 1) := by decide +kernel
theorem dL_law_552 : decode cL_law 552 = .ok (.ireturn, 1) := by decide +kernel
theorem dL_law_553 : decode cL_law 553 = .ok (.aload_n 1, 1) := by decide +kernel
theorem dL_law_554 : decode cL_law 554 = .ok (.aload_n 0, 1) := by decide +kernel
theorem dL_law_555 : decode cL_law 555 = .ok (.iload_n 3, 1) := by decide +kernel
theorem dL_law_556 : decode cL_law 556 = .ok (.iconst 1, 1) := by decide +kernel
theorem dL_law_557 : decode cL_law 557 = .ok (.iadd, 1) := by decide +kernel
theorem dL_law_558 : decode cL_law 558 = .ok (.iaload, 1) := by decide +kernel
theorem dL_law_559 : decode cL_law 559 = .ok (.invokevirtual 85, 3) := by decide +kernel
theorem dL_law_562 : decode cL_law 562 = .ok (.aload_n 2, 1) := by decide +kernel
theorem dL_law_563 : decode cL_law 563 = .ok (.aload_n 0, 1) := by decide +kernel
theorem dL_law_564 : decode cL_law 564 = .ok (.iload_n 3, 1) := by decide +kernel
theorem dL_law_565 : decode cL_law 565 = .ok (.iconst 1, 1) := by decide +kernel
theorem dL_law_566 : decode cL_law 566 = .ok (.iadd, 1) := by decide +kernel
theorem dL_law_567 : decode cL_law 567 = .ok (.iaload, 1) := by decide +kernel
theorem dL_law_568 : decode cL_law 568 = .ok (.invokevirtual 88, 3) := by decide +kernel
theorem dL_law_571 : decode cL_law 571 = .ok (.if_icmp .eq 280, 3) := by decide +kernel
theorem dL_law_574 : decode cL_law 574 = .ok (.iconst 0, 1) := by decide +kernel
theorem dL_law_575 : decode cL_law 575 = .ok (.ireturn, 1) := by decide +kernel
theorem dL_law_576 : decode cL_law 576 = .ok (.aload_n 1, 1) := by decide +kernel
theorem dL_law_577 : decode cL_law 577 = .ok (.aload_n 0, 1) := by decide +kernel
theorem dL_law_578 : decode cL_law 578 = .ok (.iload_n 3, 1) := by decide +kernel
theorem dL_law_579 : decode cL_law 579 = .ok (.iconst 1, 1) := by decide +kernel
theorem dL_law_580 : decode cL_law 580 = .ok (.iadd, 1) := by decide +kernel
theorem dL_law_581 : decode cL_law 581 = .ok (.iaload, 1) := by decide +kernel
theorem dL_law_582 : decode cL_law 582 = .ok (.invokevirtual 89, 3) := by decide +kernel
theorem dL_law_585 : decode cL_law 585 = .ok (.aload_n 2, 1) := by decide +kernel
theorem dL_law_586 : decode cL_law 586 = .ok (.aload_n 0, 1) := by decide +kernel
theorem dL_law_587 : decode cL_law 587 = .ok (.iload_n 3, 1) := by decide +kernel
theorem dL_law_588 : decode cL_law 588 = .ok (.iconst 1, 1) := by decide +kernel
theorem dL_law_589 : decode cL_law 589 = .ok (.iadd, 1) := by decide +kernel
theorem dL_law_590 : decode cL_law 590 = .ok (.iaload, 1) := by decide +kernel
theorem dL_law_591 : decode cL_law 591 = .ok (.invokevirtual 92, 3) := by decide +kernel
theorem dL_law_594 : decode cL_law 594 = .ok (.if_icmp .eq 257, 3) := by decide +kernel
theorem dL_law_597 : decode cL_law 597 = .ok (.iconst 0, 1) := by decide +kernel
theorem dL_law_598 : decode cL_law 598 = .ok (.ireturn, 1) := by decide +kernel
theorem dL_law_599 : decode cL_law 599 = .ok (.aload_n 1, 1) := by decide +kernel
theorem dL_law_600 : decode cL_law 600 = .ok (.aload_n 0, 1) := by decide +kernel
theorem dL_law_601 : decode cL_law 601 = .ok (.iload_n 3, 1) := by decide +kernel
theorem dL_law_602 : decode cL_law 602 = .ok (.iconst 1, 1) := by decide +kernel
theorem dL_law_603 : decode cL_law 603 = .ok (.iadd, 1) := by decide +kernel
theorem dL_law_604 : decode cL_law 604 = .ok (.iaload, 1) := by decide +kernel
theorem dL_law_605 : decode cL_law 605 = .ok (.aload_n 0, 1) := by decide +kernel
theorem dL_law_606 : decode cL_law 606 = .ok (.iload_n 3, 1) := by decide +kernel
theorem dL_law_607 : decode cL_law 607 = .ok (.iconst 2, 1) := by decide +kernel
theorem dL_law_608 : decode cL_law 608 = .ok (.iadd, 1) := by decide +kernel
theorem dL_law_609 : decode cL_law 609 = .ok (.iaload, 1) := by decide +kernel
theorem dL_law_610 : decode cL_law 610 = .ok (.aload_n 0, 1) := by decide +kernel
theorem dL_law_611 : decode cL_law 611 = .ok (.iload_n 3, 1) := by decide +kernel
theorem dL_law_612 : decode cL_law 612 = .ok (.iconst 3, 1) := by decide +kernel
theorem dL_law_613 : decode cL_law 613 = .ok (.iadd, 1) := by decide +kernel
theorem dL_law_614 : decode cL_law 614 = .ok (.iaload, 1) := by decide +kernel
theorem dL_law_615 : decode cL_law 615 = .ok (.invokevirtual 93, 3) := by decide +kernel
theorem dL_law_618 : decode cL_law 618 = .ok (.aload_n 2, 1) := by decide +kernel
theorem dL_law_619 : decode cL_law 619 = .ok (.aload_n 0, 1) := by decide +kernel
theorem dL_law_620 : decode cL_law 620 = .ok (.iload_n 3, 1) := by decide +kernel
theorem dL_law_621 : decode cL_law 621 = .ok (.iconst 1, 1) := by decide +kernel
theorem dL_law_622 : decode cL_law 622 = .ok (.iadd, 1) := by decide +kernel
theorem dL_law_623 : decode cL_law 623 = .ok (.iaload, 1) := by decide +kernel
theorem dL_law_624 : decode cL_law 624 = .ok (.aload_n 0, 1) := by decide +kernel
theorem dL_law_625 : decode cL_law 625 = .ok (.iload_n 3, 1) := by decide +kernel
theorem dL_law_626 : decode cL_law 626 = .ok (.iconst 2, 1) := by decide +kernel
theorem dL_law_627 : decode cL_law 627 = .ok (.iadd, 1) := by decide +kernel
theorem dL_law_628 : decode cL_law 628 = .ok (.iaload, 1) := by decide +kernel
theorem dL_law_629 : decode cL_law 629 = .ok (.aload_n 0, 1) := by decide +kernel
theorem dL_law_630 : decode cL_law 630 = .ok (.iload_n 3, 1) := by decide +kernel
theorem dL_law_631 : decode cL_law 631 = .ok (.iconst 3, 1) := by decide +kernel
theorem dL_law_632 : decode cL_law 632 = .ok (.iadd, 1) := by decide +kernel
theorem dL_law_633 : decode cL_law 633 = .ok (.iaload, 1) := by decide +kernel
theorem dL_law_634 : decode cL_law 634 = .ok (.invokevirtual 96, 3) := by decide +kernel
theorem dL_law_637 : decode cL_law 637 = .ok (.if_icmp .eq 214, 3) := by decide +kernel
theorem dL_law_640 : decode cL_law 640 = .ok (.iconst 0, 1) := by decide +kernel
theorem dL_law_641 : decode cL_law 641 = .ok (.ireturn, 1) := by decide +kernel
theorem dL_law_642 : decode cL_law 642 = .ok (.aload_n 1, 1) := by decide +kernel
theorem dL_law_643 : decode cL_law 643 = .ok (.aload_n 0, 1) := by decide +kernel
theorem dL_law_644 : decode cL_law 644 = .ok (.iload_n 3, 1) := by decide +kernel
theorem dL_law_645 : decode cL_law 645 = .ok (.iconst 1, 1) := by decide +kernel
theorem dL_law_646 : decode cL_law 646 = .ok (.iadd, 1) := by decide +kernel
theorem dL_law_647 : decode cL_law 647 = .ok (.iaload, 1) := by decide +kernel
theorem dL_law_648 : decode cL_law 648 = .ok (.aload_n 0, 1) := by decide +kernel
theorem dL_law_649 : decode cL_law 649 = .ok (.iload_n 3, 1) := by decide +kernel
theorem dL_law_650 : decode cL_law 650 = .ok (.iconst 2, 1) := by decide +kernel
theorem dL_law_651 : decode cL_law 651 = .ok (.iadd, 1) := by decide +kernel
theorem dL_law_652 : decode cL_law 652 = .ok (.iaload, 1) := by decide +kernel
theorem dL_law_653 : decode cL_law 653 = .ok (.invokevirtual 97, 3) := by decide +kernel
theorem dL_law_656 : decode cL_law 656 = .ok (.aload_n 2, 1) := by decide +kernel
theorem dL_law_657 : decode cL_law 657 = .ok (.aload_n 0, 1) := by decide +kernel
theorem dL_law_658 : decode cL_law 658 = .ok (.iload_n 3, 1) := by decide +kernel
theorem dL_law_659 : decode cL_law 659 = .ok (.iconst 1, 1) := by decide +kernel
theorem dL_law_660 : decode cL_law 660 = .ok (.iadd, 1) := by decide +kernel
theorem dL_law_661 : decode cL_law 661 = .ok (.iaload, 1) := by decide +kernel
theorem dL_law_662 : decode cL_law 662 = .ok (.aload_n 0, 1) := by decide +kernel
theorem dL_law_663 : decode cL_law 663 = .ok (.iload_n 3, 1) := by decide +kernel
theorem dL_law_664 : decode cL_law 664 = .ok (.iconst 2, 1) := by decide +kernel
theorem dL_law_665 : decode cL_law 665 = .ok (.iadd, 1) := by decide +kernel
theorem dL_law_666 : decode cL_law 666 = .ok (.iaload, 1) := by decide +kernel
theorem dL_law_667 : decode cL_law 667 = .ok (.invokevirtual 100, 3) := by decide +kernel
theorem dL_law_670 : decode cL_law 670 = .ok (.if_icmp .eq 181, 3) := by decide +kernel
theorem dL_law_673 : decode cL_law 673 = .ok (.iconst 0, 1) := by decide +kernel
theorem dL_law_674 : decode cL_law 674 = .ok (.ireturn, 1) := by decide +kernel
theorem dL_law_675 : decode cL_law 675 = .ok (.aload_n 1, 1) := by decide +kernel
theorem dL_law_676 : decode cL_law 676 = .ok (.aload_n 0, 1) := by decide +kernel
theorem dL_law_677 : decode cL_law 677 = .ok (.iload_n 3, 1) := by decide +kernel
theorem dL_law_678 : decode cL_law 678 = .ok (.iconst 1, 1) := by decide +kernel
theorem dL_law_679 : decode cL_law 679 = .ok (.iadd, 1) := by decide +kernel
theorem dL_law_680 : decode cL_law 680 = .ok (.iaload, 1) := by decide +kernel
theorem dL_law_681 : decode cL_law 681 = .ok (.aload_n 0, 1) := by decide +kernel
theorem dL_law_682 : decode cL_law 682 = .ok (.iload_n 3, 1) := by decide +kernel
theorem dL_law_683 : decode cL_law 683 = .ok (.iconst 2, 1) := by decide +kernel
theorem dL_law_684 : decode cL_law 684 = .ok (.iadd, 1) := by decide +kernel
theorem dL_law_685 : decode cL_law 685 = .ok (.iaload, 1) := by decide +kernel
theorem dL_law_686 : decode cL_law 686 = .ok (.aload_n 0, 1) := by decide +kernel
theorem dL_law_687 : decode cL_law 687 = .ok (.iload_n 3, 1) := by decide +kernel
theorem dL_law_688 : decode cL_law 688 = .ok (.iconst 3, 1) := by decide +kernel
theorem dL_law_689 : decode cL_law 689 = .ok (.iadd, 1) := by decide +kernel
theorem dL_law_690 : decode cL_law 690 = .ok (.iaload, 1) := by decide +kernel
theorem dL_law_691 : decode cL_law 691 = .ok (.aload_n 0, 1) := by decide +kernel
theorem dL_law_692 : decode cL_law 692 = .ok (.iload_n 3, 1) := by decide +kernel
theorem dL_law_693 : decode cL_law 693 = .ok (.iconst 4, 1) := by decide +kernel
theorem dL_law_694 : decode cL_law 694 = .ok (.iadd, 1) := by decide +kernel
theorem dL_law_695 : decode cL_law 695 = .ok (.iaload, 1) := by decide +kernel
theorem dL_law_696 : decode cL_law 696 = .ok (.aload_n 0, 1) := by decide +kernel
theorem dL_law_697 : decode cL_law 697 = .ok (.iload_n 3, 1) := by decide +kernel
theorem dL_law_698 : decode cL_law 698 = .ok (.iconst 5, 1) := by decide +kernel
theorem dL_law_699 : decode cL_law 699 = .ok (.iadd, 1) := by decide +kernel
theorem dL_law_700 : decode cL_law 700 = .ok (.iaload, 1) := by decide +kernel
theorem dL_law_701 : decode cL_law 701 = .ok (.invokevirtual 101, 3) := by decide +kernel
theorem dL_law_704 : decode cL_law 704 = .ok (.aload_n 2, 1) := by decide +kernel
theorem dL_law_705 : decode cL_law 705 = .ok (.aload_n 0, 1) := by decide +kernel
theorem dL_law_706 : decode cL_law 706 = .ok (.iload_n 3, 1) := by decide +kernel
theorem dL_law_707 : decode cL_law 707 = .ok (.iconst 1, 1) := by decide +kernel
theorem dL_law_708 : decode cL_law 708 = .ok (.iadd, 1) := by decide +kernel
theorem dL_law_709 : decode cL_law 709 = .ok (.iaload, 1) := by decide +kernel
theorem dL_law_710 : decode cL_law 710 = .ok (.aload_n 0, 1) := by decide +kernel
theorem dL_law_711 : decode cL_law 711 = .ok (.iload_n 3, 1) := by decide +kernel
theorem dL_law_712 : decode cL_law 712 = .ok (.iconst 2, 1) := by decide +kernel
theorem dL_law_713 : decode cL_law 713 = .ok (.iadd, 1) := by decide +kernel
theorem dL_law_714 : decode cL_law 714 = .ok (.iaload, 1) := by decide +kernel
theorem dL_law_715 : decode cL_law 715 = .ok (.aload_n 0, 1) := by decide +kernel
theorem dL_law_716 : decode cL_law 716 = .ok (.iload_n 3, 1) := by decide +kernel
theorem dL_law_717 : decode cL_law 717 = .ok (.iconst 3, 1) := by decide +kernel
theorem dL_law_718 : decode cL_law 718 = .ok (.iadd, 1) := by decide +kernel
theorem dL_law_719 : decode cL_law 719 = .ok (.iaload, 1) := by decide +kernel
theorem dL_law_720 : decode cL_law 720 = .ok (.aload_n 0, 1) := by decide +kernel
theorem dL_law_721 : decode cL_law 721 = .ok (.iload_n 3, 1) := by decide +kernel
theorem dL_law_722 : decode cL_law 722 = .ok (.iconst 4, 1) := by decide +kernel
theorem dL_law_723 : decode cL_law 723 = .ok (.iadd, 1) := by decide +kernel
theorem dL_law_724 : decode cL_law 724 = .ok (.iaload, 1) := by decide +kernel
theorem dL_law_725 : decode cL_law 725 = .ok (.aload_n 0, 1) := by decide +kernel
theorem dL_law_726 : decode cL_law 726 = .ok (.iload_n 3, 1) := by decide +kernel
theorem dL_law_727 : decode cL_law 727 = .ok (.iconst 5, 1) := by decide +kernel
theorem dL_law_728 : decode cL_law 728 = .ok (.iadd, 1) := by decide +kernel
theorem dL_law_729 : decode cL_law 729 = .ok (.iaload, 1) := by decide +kernel
theorem dL_law_730 : decode cL_law 730 = .ok (.invokevirtual 105, 3) := by decide +kernel
theorem dL_law_733 : decode cL_law 733 = .ok (.lcmp, 1) := by decide +kernel
theorem dL_law_734 : decode cL_law 734 = .ok (.ifCond .eq 117, 3) := by decide +kernel
theorem dL_law_737 : decode cL_law 737 = .ok (.iconst 0, 1) := by decide +kernel
theorem dL_law_738 : decode cL_law 738 = .ok (.ireturn, 1) := by decide +kernel
theorem dL_law_739 : decode cL_law 739 = .ok (.aload_n 1, 1) := by decide +kernel
theorem dL_law_740 : decode cL_law 740 = .ok (.aload_n 0, 1) := by decide +kernel
theorem dL_law_741 : decode cL_law 741 = .ok (.iload_n 3, 1) := by decide +kernel
theorem dL_law_742 : decode cL_law 742 = .ok (.iconst 1, 1) := by decide +kernel
theorem dL_law_743 : decode cL_law 743 = .ok (.iadd, 1) := by decide +kernel
theorem dL_law_744 : decode cL_law 744 = .ok (.iaload, 1) := by decide +kernel
theorem dL_law_745 : decode cL_law 745 = .ok (.aload_n 0, 1) := by decide +kernel
theorem dL_law_746 : decode cL_law 746 = .ok (.iload_n 3, 1) := by decide +kernel
theorem dL_law_747 : decode cL_law 747 = .ok (.iconst 2, 1) := by decide +kernel
theorem dL_law_748 : decode cL_law 748 = .ok (.iadd, 1) := by decide +kernel
theorem dL_law_749 : decode cL_law 749 = .ok (.iaload, 1) := by decide +kernel
theorem dL_law_750 : decode cL_law 750 = .ok (.aload_n 0, 1) := by decide +kernel
theorem dL_law_751 : decode cL_law 751 = .ok (.iload_n 3, 1) := by decide +kernel
theorem dL_law_752 : decode cL_law 752 = .ok (.iconst 3, 1) := by decide +kernel
theorem dL_law_753 : decode cL_law 753 = .ok (.iadd, 1) := by decide +kernel
theorem dL_law_754 : decode cL_law 754 = .ok (.iaload, 1) := by decide +kernel
theorem dL_law_755 : decode cL_law 755 = .ok (.invokevirtual 106, 3) := by decide +kernel
theorem dL_law_758 : decode cL_law 758 = .ok (.aload_n 2, 1) := by decide +kernel
theorem dL_law_759 : decode cL_law 759 = .ok (.aload_n 0, 1) := by decide +kernel
theorem dL_law_760 : decode cL_law 760 = .ok (.iload_n 3, 1) := by decide +kernel
theorem dL_law_761 : decode cL_law 761 = .ok (.iconst 1, 1) := by decide +kernel
theorem dL_law_762 : decode cL_law 762 = .ok (.iadd, 1) := by decide +kernel
theorem dL_law_763 : decode cL_law 763 = .ok (.iaload, 1) := by decide +kernel
theorem dL_law_764 : decode cL_law 764 = .ok (.aload_n 0, 1) := by decide +kernel
theorem dL_law_765 : decode cL_law 765 = .ok (.iload_n 3, 1) := by decide +kernel
theorem dL_law_766 : decode cL_law 766 = .ok (.iconst 2, 1) := by decide +kernel
theorem dL_law_767 : decode cL_law 767 = .ok (.iadd, 1) := by decide +kernel
theorem dL_law_768 : decode cL_law 768 = .ok (.iaload, 1) := by decide +kernel
theorem dL_law_769 : decode cL_law 769 = .ok (.aload_n 0, 1) := by decide +kernel
theorem dL_law_770 : decode cL_law 770 = .ok (.iload_n 3, 1) := by decide +kernel
theorem dL_law_771 : decode cL_law 771 = .ok (.iconst 3, 1) := by decide +kernel
theorem dL_law_772 : decode cL_law 772 = .ok (.iadd, 1) := by decide +kernel
theorem dL_law_773 : decode cL_law 773 = .ok (.iaload, 1) := by decide +kernel
theorem dL_law_774 : decode cL_law 774 = .ok (.invokevirtual 109, 3) := by decide +kernel
theorem dL_law_777 : decode cL_law 777 = .ok (.if_icmp .eq 74, 3) := by decide +kernel
theorem dL_law_780 : decode cL_law 780 = .ok (.iconst 0, 1) := by decide +kernel
theorem dL_law_781 : decode cL_law 781 = .ok (.ireturn, 1) := by decide +kernel
theorem dL_law_782 : decode cL_law 782 = .ok (.aload_n 1, 1) := by decide +kernel
theorem dL_law_783 : decode cL_law 783 = .ok (.aload_n 0, 1) := by decide +kernel
theorem dL_law_784 : decode cL_law 784 = .ok (.iload_n 3, 1) := by decide +kernel
theorem dL_law_785 : decode cL_law 785 = .ok (.iconst 1, 1) := by decide +kernel
theorem dL_law_786 : decode cL_law 786 = .ok (.iadd, 1) := by decide +kernel
theorem dL_law_787 : decode cL_law 787 = .ok (.iaload, 1) := by decide +kernel
theorem dL_law_788 : decode cL_law 788 = .ok (.invokevirtual 110, 3) := by decide +kernel
theorem dL_law_791 : decode cL_law 791 = .ok (.aload_n 2, 1) := by decide +kernel
theorem dL_law_792 : decode cL_law 792 = .ok (.aload_n 0, 1) := by decide +kernel
theorem dL_law_793 : decode cL_law 793 = .ok (.iload_n 3, 1) := by decide +kernel
theorem dL_law_794 : decode cL_law 794 = .ok (.iconst 1, 1) := by decide +kernel
theorem dL_law_795 : decode cL_law 795 = .ok (.iadd, 1) := by decide +kernel
theorem dL_law_796 : decode cL_law 796 = .ok (.iaload, 1) := by decide +kernel
theorem dL_law_797 : decode cL_law 797 = .ok (.invokevirtual 113, 3) := by decide +kernel
theorem dL_law_800 : decode cL_law 800 = .ok (.if_icmp .eq 51, 3) := by decide +kernel
theorem dL_law_803 : decode cL_law 803 = .ok (.iconst 0, 1) := by decide +kernel
theorem dL_law_804 : decode cL_law 804 = .ok (.ireturn, 1) := by decide +kernel
theorem dL_law_805 : decode cL_law 805 = .ok (.aload_n 1, 1) := by decide +kernel
theorem dL_law_806 : decode cL_law 806 = .ok (.aload_n 0, 1) := by decide +kernel
theorem dL_law_807 : decode cL_law 807 = .ok (.iload_n 3, 1) := by decide +kernel
theorem dL_law_808 : decode cL_law 808 = .ok (.iconst 1, 1) := by decide +kernel
theorem dL_law_809 : decode cL_law 809 = .ok (.iadd, 1) := by decide +kernel
theorem dL_law_810 : decode cL_law 810 = .ok (.iaload, 1) := by decide +kernel
theorem dL_law_811 : decode cL_law 811 = .ok (.invokevirtual 114, 3) := by decide +kernel
theorem dL_law_814 : decode cL_law 814 = .ok (.aload_n 2, 1) := by decide +kernel
theorem dL_law_815 : decode cL_law 815 = .ok (.aload_n 0, 1) := by decide +kernel
theorem dL_law_816 : decode cL_law 816 = .ok (.iload_n 3, 1) := by decide +kernel
theorem dL_law_817 : decode cL_law 817 = .ok (.iconst 1, 1) := by decide +kernel
theorem dL_law_818 : decode cL_law 818 = .ok (.iadd, 1) := by decide +kernel
theorem dL_law_819 : decode cL_law 819 = .ok (.iaload, 1) := by decide +kernel
theorem dL_law_820 : decode cL_law 820 = .ok (.invokevirtual 117, 3) := by decide +kernel
theorem dL_law_823 : decode cL_law 823 = .ok (.if_icmp .eq 28, 3) := by decide +kernel
theorem dL_law_826 : decode cL_law 826 = .ok (.iconst 0, 1) := by decide +kernel
theorem dL_law_827 : decode cL_law 827 = .ok (.ireturn, 1) := by decide +kernel
theorem dL_law_828 : decode cL_law 828 = .ok (.aload_n 1, 1) := by decide +kernel
theorem dL_law_829 : decode cL_law 829 = .ok (.aload_n 0, 1) := by decide +kernel
theorem dL_law_830 : decode cL_law 830 = .ok (.iload_n 3, 1) := by decide +kernel
theorem dL_law_831 : decode cL_law 831 = .ok (.iconst 1, 1) := by decide +kernel
theorem dL_law_832 : decode cL_law 832 = .ok (.iadd, 1) := by decide +kernel
theorem dL_law_833 : decode cL_law 833 = .ok (.iaload, 1) := by decide +kernel
theorem dL_law_834 : decode cL_law 834 = .ok (.invokevirtual 118, 3) := by decide +kernel
theorem dL_law_837 : decode cL_law 837 = .ok (.aload_n 2, 1) := by decide +kernel
theorem dL_law_838 : decode cL_law 838 = .ok (.aload_n 0, 1) := by decide +kernel
theorem dL_law_839 : decode cL_law 839 = .ok (.iload_n 3, 1) := by decide +kernel
theorem dL_law_840 : decode cL_law 840 = .ok (.iconst 1, 1) := by decide +kernel
theorem dL_law_841 : decode cL_law 841 = .ok (.iadd, 1) := by decide +kernel
theorem dL_law_842 : decode cL_law 842 = .ok (.iaload, 1) := by decide +kernel
theorem dL_law_843 : decode cL_law 843 = .ok (.invokevirtual 121, 3) := by decide +kernel
theorem dL_law_846 : decode cL_law 846 = .ok (.if_icmp .eq 5, 3) := by decide +kernel
theorem dL_law_849 : decode cL_law 849 = .ok (.iconst 0, 1) := by decide +kernel
theorem dL_law_850 : decode cL_law 850 = .ok (.ireturn, 1) := by decide +kernel
theorem dL_law_851 : decode cL_law 851 = .ok (.iinc 3 6, 3) := by decide +kernel
theorem dL_law_854 : decode cL_law 854 = .ok (.goto (-836), 3) := by decide +kernel
theorem dL_law_857 : decode cL_law 857 = .ok (.iconst 1, 1) := by decide +kernel
theorem dL_law_858 : decode cL_law 858 = .ok (.ireturn, 1) := by decide +kernel
end
