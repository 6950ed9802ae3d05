section
-- ===== PART A: goes FIRST, ahead of the names: the tables' words, and 'selects' of the private methods out of them =====
/-- a private method of a class that the tables say can be made, by its rows of tables_1 -/
def lw_okq (q : MethodName × Nat) : Prop := (q.1.cls ≠ "java/lang/invoke/MethodHandle" ∧ q.1.cls ≠ "java/lang/invoke/VarHandle") ∧ Cond.instantiable q.1.cls q.2 ∈ tables_1 ∧ Cond.privateMethod q.1 ∈ tables_1 ∧ Cond.instanceMethod q.1 ∈ tables_1
theorem lw_p0 : lw_okq (⟨"FlangeFolder", "settled", "(I)I"⟩, 9) := ⟨⟨by decide +kernel, by decide +kernel⟩, List.mem_of_getElem? (i := 14) (by decide +kernel), List.mem_of_getElem? (i := 264) (by decide +kernel), List.mem_of_getElem? (i := 265) (by decide +kernel)⟩
theorem lw_p1 : lw_okq (⟨"FlangeFolder", "refused", "(I)I"⟩, 9) := ⟨⟨by decide +kernel, by decide +kernel⟩, List.mem_of_getElem? (i := 14) (by decide +kernel), List.mem_of_getElem? (i := 271) (by decide +kernel), List.mem_of_getElem? (i := 272) (by decide +kernel)⟩
theorem lw_p2 : lw_okq (⟨"FlangeFolder$Planner", "crossesAt", "(I)Z"⟩, 12) := ⟨⟨by decide +kernel, by decide +kernel⟩, List.mem_of_getElem? (i := 98) (by decide +kernel), List.mem_of_getElem? (i := 342) (by decide +kernel), List.mem_of_getElem? (i := 343) (by decide +kernel)⟩
theorem lw_p3 : lw_okq (⟨"FlangeFolder$Planner", "findFewest", "()V"⟩, 12) := ⟨⟨by decide +kernel, by decide +kernel⟩, List.mem_of_getElem? (i := 98) (by decide +kernel), List.mem_of_getElem? (i := 429) (by decide +kernel), List.mem_of_getElem? (i := 430) (by decide +kernel)⟩
theorem lw_p4 : lw_okq (⟨"FlangeFolder$Planner", "fewestFrom", "(II)I"⟩, 12) := ⟨⟨by decide +kernel, by decide +kernel⟩, List.mem_of_getElem? (i := 98) (by decide +kernel), List.mem_of_getElem? (i := 433) (by decide +kernel), List.mem_of_getElem? (i := 434) (by decide +kernel)⟩
theorem lw_p5 : lw_okq (⟨"FlangeFolder$Planner", "changesBy", "(III)I"⟩, 12) := ⟨⟨by decide +kernel, by decide +kernel⟩, List.mem_of_getElem? (i := 98) (by decide +kernel), List.mem_of_getElem? (i := 437) (by decide +kernel), List.mem_of_getElem? (i := 438) (by decide +kernel)⟩
theorem lw_p6 : lw_okq (⟨"FlangeFolder$Planner", "walk", "([IZ)I"⟩, 12) := ⟨⟨by decide +kernel, by decide +kernel⟩, List.mem_of_getElem? (i := 98) (by decide +kernel), List.mem_of_getElem? (i := 445) (by decide +kernel), List.mem_of_getElem? (i := 446) (by decide +kernel)⟩
theorem lw_p7 : lw_okq (⟨"FlangeFolder$Planner", "leastWithin", "(III)I"⟩, 12) := ⟨⟨by decide +kernel, by decide +kernel⟩, List.mem_of_getElem? (i := 98) (by decide +kernel), List.mem_of_getElem? (i := 449) (by decide +kernel), List.mem_of_getElem? (i := 450) (by decide +kernel)⟩
theorem lw_p8 : lw_okq (⟨"FlangeFolder$Script", "skipBlanks", "()V"⟩, 6) := ⟨⟨by decide +kernel, by decide +kernel⟩, List.mem_of_getElem? (i := 182) (by decide +kernel), List.mem_of_getElem? (i := 501) (by decide +kernel), List.mem_of_getElem? (i := 502) (by decide +kernel)⟩
theorem lw_p9 : lw_okq (⟨"FlangeFolder$Script", "readOrder", "()Z"⟩, 6) := ⟨⟨by decide +kernel, by decide +kernel⟩, List.mem_of_getElem? (i := 182) (by decide +kernel), List.mem_of_getElem? (i := 505) (by decide +kernel), List.mem_of_getElem? (i := 506) (by decide +kernel)⟩
theorem lw_p10 : lw_okq (⟨"FlangeFolder$Script", "readNumber", "(I)Z"⟩, 6) := ⟨⟨by decide +kernel, by decide +kernel⟩, List.mem_of_getElem? (i := 182) (by decide +kernel), List.mem_of_getElem? (i := 512) (by decide +kernel), List.mem_of_getElem? (i := 513) (by decide +kernel)⟩
theorem lw_p11 : lw_okq (⟨"FlangeFolder$Script", "isFigureAt", "()Z"⟩, 6) := ⟨⟨by decide +kernel, by decide +kernel⟩, List.mem_of_getElem? (i := 182) (by decide +kernel), List.mem_of_getElem? (i := 516) (by decide +kernel), List.mem_of_getElem? (i := 517) (by decide +kernel)⟩
theorem lw_p12 : lw_okq (⟨"FlangeFolderModel", "counts", "(I)I"⟩, 19) := ⟨⟨by decide +kernel, by decide +kernel⟩, List.mem_of_getElem? (i := 566) (by decide +kernel), List.mem_of_getElem? (i := 634) (by decide +kernel), List.mem_of_getElem? (i := 635) (by decide +kernel)⟩
theorem lw_p13 : lw_okq (⟨"FlangeFolderModel", "leaves", "()V"⟩, 19) := ⟨⟨by decide +kernel, by decide +kernel⟩, List.mem_of_getElem? (i := 566) (by decide +kernel), List.mem_of_getElem? (i := 645) (by decide +kernel), List.mem_of_getElem? (i := 646) (by decide +kernel)⟩
theorem lw_p14 : lw_okq (⟨"FlangeFolderModel", "strips", "(I)I"⟩, 19) := ⟨⟨by decide +kernel, by decide +kernel⟩, List.mem_of_getElem? (i := 566) (by decide +kernel), List.mem_of_getElem? (i := 649) (by decide +kernel), List.mem_of_getElem? (i := 650) (by decide +kernel)⟩
theorem lw_p15 : lw_okq (⟨"FlangeFolderModel", "mayBend", "(III)Z"⟩, 19) := ⟨⟨by decide +kernel, by decide +kernel⟩, List.mem_of_getElem? (i := 566) (by decide +kernel), List.mem_of_getElem? (i := 657) (by decide +kernel), List.mem_of_getElem? (i := 658) (by decide +kernel)⟩
def lw_privs_1 : List (MethodName × Nat) := [(⟨"FlangeFolder", "settled", "(I)I"⟩, 9), (⟨"FlangeFolder", "refused", "(I)I"⟩, 9), (⟨"FlangeFolder$Planner", "crossesAt", "(I)Z"⟩, 12), (⟨"FlangeFolder$Planner", "findFewest", "()V"⟩, 12), (⟨"FlangeFolder$Planner", "fewestFrom", "(II)I"⟩, 12), (⟨"FlangeFolder$Planner", "changesBy", "(III)I"⟩, 12), (⟨"FlangeFolder$Planner", "walk", "([IZ)I"⟩, 12), (⟨"FlangeFolder$Planner", "leastWithin", "(III)I"⟩, 12), (⟨"FlangeFolder$Script", "skipBlanks", "()V"⟩, 6), (⟨"FlangeFolder$Script", "readOrder", "()Z"⟩, 6), (⟨"FlangeFolder$Script", "readNumber", "(I)Z"⟩, 6), (⟨"FlangeFolder$Script", "isFigureAt", "()Z"⟩, 6), (⟨"FlangeFolderModel", "counts", "(I)I"⟩, 19), (⟨"FlangeFolderModel", "leaves", "()V"⟩, 19), (⟨"FlangeFolderModel", "strips", "(I)I"⟩, 19), (⟨"FlangeFolderModel", "mayBend", "(III)Z"⟩, 19)]
theorem lw_r1 : ∀ q ∈ lw_privs_1, lw_okq q := List.forall_mem_cons.mpr ⟨lw_p0, List.forall_mem_cons.mpr ⟨lw_p1, List.forall_mem_cons.mpr ⟨lw_p2, List.forall_mem_cons.mpr ⟨lw_p3, List.forall_mem_cons.mpr ⟨lw_p4, List.forall_mem_cons.mpr ⟨lw_p5, List.forall_mem_cons.mpr ⟨lw_p6, List.forall_mem_cons.mpr ⟨lw_p7, List.forall_mem_cons.mpr ⟨lw_p8, List.forall_mem_cons.mpr ⟨lw_p9, List.forall_mem_cons.mpr ⟨lw_p10, List.forall_mem_cons.mpr ⟨lw_p11, List.forall_mem_cons.mpr ⟨lw_p12, List.forall_mem_cons.mpr ⟨lw_p13, List.forall_mem_cons.mpr ⟨lw_p14, List.forall_mem_cons.mpr ⟨lw_p15, fun _ h => absurd h List.not_mem_nil⟩⟩⟩⟩⟩⟩⟩⟩⟩⟩⟩⟩⟩⟩⟩⟩
theorem lw_p16 : lw_okq (⟨"FlangeFolderModel", "adds", "(III)I"⟩, 19) := ⟨⟨by decide +kernel, by decide +kernel⟩, List.mem_of_getElem? (i := 566) (by decide +kernel), List.mem_of_getElem? (i := 661) (by decide +kernel), List.mem_of_getElem? (i := 662) (by decide +kernel)⟩
theorem lw_p17 : lw_okq (⟨"FlangeFolderModel", "mayPress", "(II)Z"⟩, 19) := ⟨⟨by decide +kernel, by decide +kernel⟩, List.mem_of_getElem? (i := 566) (by decide +kernel), List.mem_of_getElem? (i := 669) (by decide +kernel), List.mem_of_getElem? (i := 670) (by decide +kernel)⟩
theorem lw_p18 : lw_okq (⟨"FlangeFolderModel", "presses", "(II)I"⟩, 19) := ⟨⟨by decide +kernel, by decide +kernel⟩, List.mem_of_getElem? (i := 566) (by decide +kernel), List.mem_of_getElem? (i := 673) (by decide +kernel), List.mem_of_getElem? (i := 674) (by decide +kernel)⟩
theorem lw_p19 : lw_okq (⟨"FlangeFolderModel", "mayTake", "(II)Z"⟩, 19) := ⟨⟨by decide +kernel, by decide +kernel⟩, List.mem_of_getElem? (i := 566) (by decide +kernel), List.mem_of_getElem? (i := 681) (by decide +kernel), List.mem_of_getElem? (i := 682) (by decide +kernel)⟩
theorem lw_p20 : lw_okq (⟨"FlangeFolderModel", "takesNow", "(II)I"⟩, 19) := ⟨⟨by decide +kernel, by decide +kernel⟩, List.mem_of_getElem? (i := 566) (by decide +kernel), List.mem_of_getElem? (i := 685) (by decide +kernel), List.mem_of_getElem? (i := 686) (by decide +kernel)⟩
theorem lw_p21 : lw_okq (⟨"FlangeFolderModel", "isBend", "(I)Z"⟩, 19) := ⟨⟨by decide +kernel, by decide +kernel⟩, List.mem_of_getElem? (i := 566) (by decide +kernel), List.mem_of_getElem? (i := 693) (by decide +kernel), List.mem_of_getElem? (i := 694) (by decide +kernel)⟩
theorem lw_p22 : lw_okq (⟨"FlangeFolderModel", "isFree", "(II)Z"⟩, 19) := ⟨⟨by decide +kernel, by decide +kernel⟩, List.mem_of_getElem? (i := 566) (by decide +kernel), List.mem_of_getElem? (i := 697) (by decide +kernel), List.mem_of_getElem? (i := 698) (by decide +kernel)⟩
theorem lw_p23 : lw_okq (⟨"FlangeFolderModel", "hitBy", "(II)I"⟩, 19) := ⟨⟨by decide +kernel, by decide +kernel⟩, List.mem_of_getElem? (i := 566) (by decide +kernel), List.mem_of_getElem? (i := 704) (by decide +kernel), List.mem_of_getElem? (i := 705) (by decide +kernel)⟩
theorem lw_p24 : lw_okq (⟨"FlangeFolderModel", "lays", "(I)V"⟩, 19) := ⟨⟨by decide +kernel, by decide +kernel⟩, List.mem_of_getElem? (i := 566) (by decide +kernel), List.mem_of_getElem? (i := 708) (by decide +kernel), List.mem_of_getElem? (i := 709) (by decide +kernel)⟩
theorem lw_p25 : lw_okq (⟨"FlangeFolderModel", "turnsTo", "(I)V"⟩, 19) := ⟨⟨by decide +kernel, by decide +kernel⟩, List.mem_of_getElem? (i := 566) (by decide +kernel), List.mem_of_getElem? (i := 718) (by decide +kernel), List.mem_of_getElem? (i := 719) (by decide +kernel)⟩
theorem lw_p26 : lw_okq (⟨"FlangeFolderModel", "isWithin", "(IIIII)Z"⟩, 19) := ⟨⟨by decide +kernel, by decide +kernel⟩, List.mem_of_getElem? (i := 566) (by decide +kernel), List.mem_of_getElem? (i := 722) (by decide +kernel), List.mem_of_getElem? (i := 723) (by decide +kernel)⟩
theorem lw_p27 : lw_okq (⟨"FlangeFolderModel", "areMet", "(II)Z"⟩, 19) := ⟨⟨by decide +kernel, by decide +kernel⟩, List.mem_of_getElem? (i := 566) (by decide +kernel), List.mem_of_getElem? (i := 732) (by decide +kernel), List.mem_of_getElem? (i := 733) (by decide +kernel)⟩
theorem lw_p28 : lw_okq (⟨"FlangeFolderModel", "ofBend", "(II)I"⟩, 19) := ⟨⟨by decide +kernel, by decide +kernel⟩, List.mem_of_getElem? (i := 566) (by decide +kernel), List.mem_of_getElem? (i := 751) (by decide +kernel), List.mem_of_getElem? (i := 752) (by decide +kernel)⟩
theorem lw_p29 : lw_okq (⟨"FlangeFolderModel", "boxIs", "(I)I"⟩, 19) := ⟨⟨by decide +kernel, by decide +kernel⟩, List.mem_of_getElem? (i := 566) (by decide +kernel), List.mem_of_getElem? (i := 763) (by decide +kernel), List.mem_of_getElem? (i := 764) (by decide +kernel)⟩
theorem lw_p30 : lw_okq (⟨"FlangeFolderModel", "laysOrders", "()V"⟩, 19) := ⟨⟨by decide +kernel, by decide +kernel⟩, List.mem_of_getElem? (i := 566) (by decide +kernel), List.mem_of_getElem? (i := 779) (by decide +kernel), List.mem_of_getElem? (i := 780) (by decide +kernel)⟩
theorem lw_p31 : lw_okq (⟨"FlangeFolderModel", "allMade", "()I"⟩, 19) := ⟨⟨by decide +kernel, by decide +kernel⟩, List.mem_of_getElem? (i := 566) (by decide +kernel), List.mem_of_getElem? (i := 783) (by decide +kernel), List.mem_of_getElem? (i := 784) (by decide +kernel)⟩
def lw_privs_2 : List (MethodName × Nat) := [(⟨"FlangeFolderModel", "adds", "(III)I"⟩, 19), (⟨"FlangeFolderModel", "mayPress", "(II)Z"⟩, 19), (⟨"FlangeFolderModel", "presses", "(II)I"⟩, 19), (⟨"FlangeFolderModel", "mayTake", "(II)Z"⟩, 19), (⟨"FlangeFolderModel", "takesNow", "(II)I"⟩, 19), (⟨"FlangeFolderModel", "isBend", "(I)Z"⟩, 19), (⟨"FlangeFolderModel", "isFree", "(II)Z"⟩, 19), (⟨"FlangeFolderModel", "hitBy", "(II)I"⟩, 19), (⟨"FlangeFolderModel", "lays", "(I)V"⟩, 19), (⟨"FlangeFolderModel", "turnsTo", "(I)V"⟩, 19), (⟨"FlangeFolderModel", "isWithin", "(IIIII)Z"⟩, 19), (⟨"FlangeFolderModel", "areMet", "(II)Z"⟩, 19), (⟨"FlangeFolderModel", "ofBend", "(II)I"⟩, 19), (⟨"FlangeFolderModel", "boxIs", "(I)I"⟩, 19), (⟨"FlangeFolderModel", "laysOrders", "()V"⟩, 19), (⟨"FlangeFolderModel", "allMade", "()I"⟩, 19)]
theorem lw_r2 : ∀ q ∈ lw_privs_2, lw_okq q := List.forall_mem_cons.mpr ⟨lw_p16, List.forall_mem_cons.mpr ⟨lw_p17, List.forall_mem_cons.mpr ⟨lw_p18, List.forall_mem_cons.mpr ⟨lw_p19, List.forall_mem_cons.mpr ⟨lw_p20, List.forall_mem_cons.mpr ⟨lw_p21, List.forall_mem_cons.mpr ⟨lw_p22, List.forall_mem_cons.mpr ⟨lw_p23, List.forall_mem_cons.mpr ⟨lw_p24, List.forall_mem_cons.mpr ⟨lw_p25, List.forall_mem_cons.mpr ⟨lw_p26, List.forall_mem_cons.mpr ⟨lw_p27, List.forall_mem_cons.mpr ⟨lw_p28, List.forall_mem_cons.mpr ⟨lw_p29, List.forall_mem_cons.mpr ⟨lw_p30, List.forall_mem_cons.mpr ⟨lw_p31, fun _ h => absurd h List.not_mem_nil⟩⟩⟩⟩⟩⟩⟩⟩⟩⟩⟩⟩⟩⟩⟩⟩
theorem lw_p32 : lw_okq (⟨"FlangeFolderModel", "changesBy", "(III)I"⟩, 19) := ⟨⟨by decide +kernel, by decide +kernel⟩, List.mem_of_getElem? (i := 566) (by decide +kernel), List.mem_of_getElem? (i := 787) (by decide +kernel), List.mem_of_getElem? (i := 788) (by decide +kernel)⟩
theorem lw_p33 : lw_okq (⟨"FlangeFolderModel", "laysRow", "(I)I"⟩, 19) := ⟨⟨by decide +kernel, by decide +kernel⟩, List.mem_of_getElem? (i := 566) (by decide +kernel), List.mem_of_getElem? (i := 796) (by decide +kernel), List.mem_of_getElem? (i := 797) (by decide +kernel)⟩
theorem lw_p34 : lw_okq (⟨"FlangeFolderModel", "changesIs", "(I)I"⟩, 19) := ⟨⟨by decide +kernel, by decide +kernel⟩, List.mem_of_getElem? (i := 566) (by decide +kernel), List.mem_of_getElem? (i := 804) (by decide +kernel), List.mem_of_getElem? (i := 805) (by decide +kernel)⟩
theorem lw_p35 : lw_okq (⟨"FlangeFolderModel", "countIs", "(I)I"⟩, 19) := ⟨⟨by decide +kernel, by decide +kernel⟩, List.mem_of_getElem? (i := 566) (by decide +kernel), List.mem_of_getElem? (i := 816) (by decide +kernel), List.mem_of_getElem? (i := 817) (by decide +kernel)⟩
theorem lw_p36 : lw_okq (⟨"FlangeFolderModel", "longBy", "(I)I"⟩, 19) := ⟨⟨by decide +kernel, by decide +kernel⟩, List.mem_of_getElem? (i := 566) (by decide +kernel), List.mem_of_getElem? (i := 820) (by decide +kernel), List.mem_of_getElem? (i := 821) (by decide +kernel)⟩
theorem lw_p37 : lw_okq (⟨"FlangeFolderModel", "isRead", "()Z"⟩, 19) := ⟨⟨by decide +kernel, by decide +kernel⟩, List.mem_of_getElem? (i := 566) (by decide +kernel), List.mem_of_getElem? (i := 836) (by decide +kernel), List.mem_of_getElem? (i := 837) (by decide +kernel)⟩
theorem lw_p38 : lw_okq (⟨"FlangeFolderModel", "blanks", "()V"⟩, 19) := ⟨⟨by decide +kernel, by decide +kernel⟩, List.mem_of_getElem? (i := 566) (by decide +kernel), List.mem_of_getElem? (i := 840) (by decide +kernel), List.mem_of_getElem? (i := 841) (by decide +kernel)⟩
theorem lw_p39 : lw_okq (⟨"FlangeFolderModel", "here", "()I"⟩, 19) := ⟨⟨by decide +kernel, by decide +kernel⟩, List.mem_of_getElem? (i := 566) (by decide +kernel), List.mem_of_getElem? (i := 844) (by decide +kernel), List.mem_of_getElem? (i := 845) (by decide +kernel)⟩
theorem lw_p40 : lw_okq (⟨"FlangeFolderModel", "passesOne", "()Z"⟩, 19) := ⟨⟨by decide +kernel, by decide +kernel⟩, List.mem_of_getElem? (i := 566) (by decide +kernel), List.mem_of_getElem? (i := 848) (by decide +kernel), List.mem_of_getElem? (i := 849) (by decide +kernel)⟩
theorem lw_p41 : lw_okq (⟨"FlangeFolderModel", "passesNumber", "(I)Z"⟩, 19) := ⟨⟨by decide +kernel, by decide +kernel⟩, List.mem_of_getElem? (i := 566) (by decide +kernel), List.mem_of_getElem? (i := 855) (by decide +kernel), List.mem_of_getElem? (i := 856) (by decide +kernel)⟩
theorem lw_p42 : lw_okq (⟨"FlangeFolderModel", "isDone", "(I)Z"⟩, 19) := ⟨⟨by decide +kernel, by decide +kernel⟩, List.mem_of_getElem? (i := 566) (by decide +kernel), List.mem_of_getElem? (i := 859) (by decide +kernel), List.mem_of_getElem? (i := 860) (by decide +kernel)⟩
theorem lw_p43 : lw_okq (⟨"FlangeFolderModel", "changesAside", "()V"⟩, 19) := ⟨⟨by decide +kernel, by decide +kernel⟩, List.mem_of_getElem? (i := 566) (by decide +kernel), List.mem_of_getElem? (i := 863) (by decide +kernel), List.mem_of_getElem? (i := 864) (by decide +kernel)⟩
theorem lw_p44 : lw_okq (⟨"FlangeFolderModel", "toldIs", "(I)I"⟩, 19) := ⟨⟨by decide +kernel, by decide +kernel⟩, List.mem_of_getElem? (i := 566) (by decide +kernel), List.mem_of_getElem? (i := 871) (by decide +kernel), List.mem_of_getElem? (i := 872) (by decide +kernel)⟩
theorem lw_p45 : lw_okq (⟨"FlangeFolderModel", "mix", "(I)V"⟩, 19) := ⟨⟨by decide +kernel, by decide +kernel⟩, List.mem_of_getElem? (i := 566) (by decide +kernel), List.mem_of_getElem? (i := 880) (by decide +kernel), List.mem_of_getElem? (i := 881) (by decide +kernel)⟩
def lw_privs_3 : List (MethodName × Nat) := [(⟨"FlangeFolderModel", "changesBy", "(III)I"⟩, 19), (⟨"FlangeFolderModel", "laysRow", "(I)I"⟩, 19), (⟨"FlangeFolderModel", "changesIs", "(I)I"⟩, 19), (⟨"FlangeFolderModel", "countIs", "(I)I"⟩, 19), (⟨"FlangeFolderModel", "longBy", "(I)I"⟩, 19), (⟨"FlangeFolderModel", "isRead", "()Z"⟩, 19), (⟨"FlangeFolderModel", "blanks", "()V"⟩, 19), (⟨"FlangeFolderModel", "here", "()I"⟩, 19), (⟨"FlangeFolderModel", "passesOne", "()Z"⟩, 19), (⟨"FlangeFolderModel", "passesNumber", "(I)Z"⟩, 19), (⟨"FlangeFolderModel", "isDone", "(I)Z"⟩, 19), (⟨"FlangeFolderModel", "changesAside", "()V"⟩, 19), (⟨"FlangeFolderModel", "toldIs", "(I)I"⟩, 19), (⟨"FlangeFolderModel", "mix", "(I)V"⟩, 19)]
theorem lw_r3 : ∀ q ∈ lw_privs_3, lw_okq q := List.forall_mem_cons.mpr ⟨lw_p32, List.forall_mem_cons.mpr ⟨lw_p33, List.forall_mem_cons.mpr ⟨lw_p34, List.forall_mem_cons.mpr ⟨lw_p35, List.forall_mem_cons.mpr ⟨lw_p36, List.forall_mem_cons.mpr ⟨lw_p37, List.forall_mem_cons.mpr ⟨lw_p38, List.forall_mem_cons.mpr ⟨lw_p39, List.forall_mem_cons.mpr ⟨lw_p40, List.forall_mem_cons.mpr ⟨lw_p41, List.forall_mem_cons.mpr ⟨lw_p42, List.forall_mem_cons.mpr ⟨lw_p43, List.forall_mem_cons.mpr ⟨lw_p44, List.forall_mem_cons.mpr ⟨lw_p45, fun _ h => absurd h List.not_mem_nil⟩⟩⟩⟩⟩⟩⟩⟩⟩⟩⟩⟩⟩⟩
def lw_privs : List (MethodName × Nat) := lw_privs_1 ++ (lw_privs_2 ++ (lw_privs_3))
def lw_tbl : List Cond := k2_sels lw_privs ++ tables_1
theorem lw_privs_ok : ∀ q ∈ lw_privs, lw_okq q := by
  show ∀ q ∈ lw_privs_1 ++ (lw_privs_2 ++ (lw_privs_3)), lw_okq q
  exact List.forall_mem_append.mpr ⟨lw_r1, List.forall_mem_append.mpr ⟨lw_r2, lw_r3⟩⟩
end
section
/-! ===== BEGIN words of one list among another's, by their places ===== -/
theorem goodIn_r {big : List Cond} (ws : List Cond) (ps : List Nat) (hp : ws = ps.filterMap (fun i => big[i]?)) (h : ws.all goodWord = true) : GoodIn big ws := by
  intro w hw
  have h1 := List.all_eq_true.mp h w hw
  rw [hp] at hw
  obtain ⟨i, -, hi⟩ := List.mem_filterMap.mp hw
  have hm : w ∈ big := by first | exact List.mem_of_getElem? hi | exact List.getElem?_mem hi
  exact ⟨hm, good_of_word h1⟩
theorem goodIn_app {big a b : List Cond} (ha : GoodIn big a) (hb : GoodIn big b) : GoodIn big (a ++ b) := fun w h => (List.mem_append.mp h).elim (ha w) (hb w)
theorem goodIn_ca {big a b : List Cond} {c : Cond} (ha : GoodIn big (c :: a)) (hb : GoodIn big b) : GoodIn big (c :: (a ++ b)) := fun w h => (List.mem_cons.mp h).elim (fun e => ha w (List.mem_cons.mpr (Or.inl e))) (fun h => (List.mem_append.mp h).elim (fun h => ha w (List.mem_cons.mpr (Or.inr h))) (hb w))
theorem goodIn_sub {big ws : List Cond} (hm : ∀ w ∈ ws, w ∈ big) (h : ws.all goodWord = true) : GoodIn big ws := fun w hw => ⟨hm w hw, good_of_word (List.all_eq_true.mp h w hw)⟩
/-! ===== END ===== -/

/-! ===== BEGIN printed: names, fields, word lists, decode rows ===== -/
def RX0 : String := "FlangeFolder$History"
def TX0 : u_T := fun k => match k with
  | 0 => ("FlangeFolder$History", "ring", "[LFlangeFolder$Sheet;", true)
  | 1 => ("FlangeFolder$History", "next", "I", false)
  | _ => ("FlangeFolder$History", "kept", "I", false)
def tyX0 : Nat → FieldType := fun k => match k with
  | 0 => .array (.object "FlangeFolder$Sheet")
  | 1 => .int
  | _ => .int
abbrev wsX00 : List Cond := u_ws RX0 TX0 3
theorem nmX0 : ∀ a, a < 3 → ∀ b, b < 3 → a ≠ b → (TX0 a).2.1 ≠ (TX0 b).2.1 := by decide +kernel
theorem tyX0_ok : ∀ k, k < 3 → parseFieldDescriptor (TX0 k).2.2.1 = some (tyX0 k) := by decide +kernel
abbrev cX0_init : ByteArray := prog_2_method_1_code
def yX0_init : MethodName := ⟨RX0, "<init>", "()V"⟩
abbrev cX0_stage : ByteArray := prog_2_method_2_code
def yX0_stage : MethodName := ⟨RX0, "stage", "(LFlangeFolder$Sheet;)V"⟩
abbrev cX0_keepStaged : ByteArray := prog_2_method_3_code
def yX0_keepStaged : MethodName := ⟨RX0, "keepStaged", "()V"⟩
abbrev cX0_restoreStaged : ByteArray := prog_2_method_4_code
def yX0_restoreStaged : MethodName := ⟨RX0, "restoreStaged", "(LFlangeFolder$Sheet;)V"⟩
abbrev cX0_restoreLast : ByteArray := prog_2_method_5_code
def yX0_restoreLast : MethodName := ⟨RX0, "restoreLast", "(LFlangeFolder$Sheet;)V"⟩
def RX1 : String := "FlangeFolder$Planner"
def TX1 : u_T := fun k => match k with
  | 0 => ("FlangeFolder$Planner", "sheet", "LFlangeFolder$Sheet;", true)
  | 1 => ("FlangeFolder$Planner", "shape", "LFlangeFolder$Shape;", true)
  | 2 => ("FlangeFolder$Planner", "freeBits", "[I", true)
  | 3 => ("FlangeFolder$Planner", "crossings", "[I", true)
  | 4 => ("FlangeFolder$Planner", "paths", "[I", true)
  | 5 => ("FlangeFolder$Planner", "fewest", "[I", true)
  | 6 => ("FlangeFolder$Planner", "planned", "Z", false)
  | 7 => ("FlangeFolder$Planner", "firstOrder", "[I", true)
  | 8 => ("FlangeFolder$Planner", "bestOrder", "[I", true)
  | 9 => ("FlangeFolder$Planner", "orderCount", "I", false)
  | 10 => ("FlangeFolder$Planner", "firstChanges", "I", false)
  | _ => ("FlangeFolder$Planner", "bestChanges", "I", false)
def tyX1 : Nat → FieldType := fun k => match k with
  | 0 => .object "FlangeFolder$Sheet"
  | 1 => .object "FlangeFolder$Shape"
  | 2 => .array .int
  | 3 => .array .int
  | 4 => .array .int
  | 5 => .array .int
  | 6 => .boolean
  | 7 => .array .int
  | 8 => .array .int
  | 9 => .int
  | 10 => .int
  | _ => .int
abbrev wsX10 : List Cond := u_ws RX1 TX1 12
theorem nmX1 : ∀ a, a < 12 → ∀ b, b < 12 → a ≠ b → (TX1 a).2.1 ≠ (TX1 b).2.1 := by decide +kernel
theorem tyX1_ok : ∀ k, k < 12 → parseFieldDescriptor (TX1 k).2.2.1 = some (tyX1 k) := by decide +kernel
abbrev cX1_init : ByteArray := prog_3_method_1_code
def yX1_init : MethodName := ⟨RX1, "<init>", "(LFlangeFolder$Sheet;LFlangeFolder$Shape;)V"⟩
abbrev cX1_forget : ByteArray := prog_3_method_2_code
def yX1_forget : MethodName := ⟨RX1, "forget", "()V"⟩
abbrev cX1_hitOf : ByteArray := prog_3_method_3_code
def yX1_hitOf : MethodName := ⟨RX1, "hitOf", "(II)I"⟩
abbrev cX1_freeAt : ByteArray := prog_3_method_4_code
def yX1_freeAt : MethodName := ⟨RX1, "freeAt", "(I)I"⟩
abbrev cX1_crossesAt : ByteArray := prog_3_method_5_code
def yX1_crossesAt : MethodName := ⟨RX1, "crossesAt", "(I)Z"⟩
abbrev cX1_pathsFrom : ByteArray := prog_3_method_6_code
def yX1_pathsFrom : MethodName := ⟨RX1, "pathsFrom", "(I)I"⟩
abbrev cX1_plan : ByteArray := prog_3_method_7_code
def yX1_plan : MethodName := ⟨RX1, "plan", "()V"⟩
abbrev cX1_findFewest : ByteArray := prog_3_method_8_code
def yX1_findFewest : MethodName := ⟨RX1, "findFewest", "()V"⟩
abbrev cX1_fewestFrom : ByteArray := prog_3_method_9_code
def yX1_fewestFrom : MethodName := ⟨RX1, "fewestFrom", "(II)I"⟩
abbrev cX1_changesBy : ByteArray := prog_3_method_10_code
def yX1_changesBy : MethodName := ⟨RX1, "changesBy", "(III)I"⟩
abbrev cX1_changeTo : ByteArray := prog_3_method_11_code
def yX1_changeTo : MethodName := ⟨RX1, "changeTo", "(II)I"⟩
abbrev cX1_walk : ByteArray := prog_3_method_12_code
def yX1_walk : MethodName := ⟨RX1, "walk", "([IZ)I"⟩
abbrev cX1_leastWithin : ByteArray := prog_3_method_13_code
def yX1_leastWithin : MethodName := ⟨RX1, "leastWithin", "(III)I"⟩
def RX2 : String := "FlangeFolder$Script"
def TX2 : u_T := fun k => match k with
  | 0 => ("FlangeFolder$Script", "bytes", "[I", true)
  | 1 => ("FlangeFolder$Script", "letters", "[I", true)
  | 2 => ("FlangeFolder$Script", "numbers", "[I", true)
  | 3 => ("FlangeFolder$Script", "size", "I", false)
  | 4 => ("FlangeFolder$Script", "orderCount", "I", false)
  | _ => ("FlangeFolder$Script", "at", "I", false)
def tyX2 : Nat → FieldType := fun k => match k with
  | 0 => .array .int
  | 1 => .array .int
  | 2 => .array .int
  | 3 => .int
  | 4 => .int
  | _ => .int
abbrev wsX20 : List Cond := u_ws RX2 TX2 6
theorem nmX2 : ∀ a, a < 6 → ∀ b, b < 6 → a ≠ b → (TX2 a).2.1 ≠ (TX2 b).2.1 := by decide +kernel
theorem tyX2_ok : ∀ k, k < 6 → parseFieldDescriptor (TX2 k).2.2.1 = some (tyX2 k) := by decide +kernel
abbrev cX2_init : ByteArray := prog_4_method_1_code
def yX2_init : MethodName := ⟨RX2, "<init>", "()V"⟩
abbrev cX2_append : ByteArray := prog_4_method_2_code
def yX2_append : MethodName := ⟨RX2, "append", "(I)V"⟩
abbrev cX2_numberOf : ByteArray := prog_4_method_3_code
def yX2_numberOf : MethodName := ⟨RX2, "numberOf", "(II)I"⟩
abbrev cX2_read : ByteArray := prog_4_method_4_code
def yX2_read : MethodName := ⟨RX2, "read", "()I"⟩
abbrev cX2_readOrder : ByteArray := prog_4_method_5_code
def yX2_readOrder : MethodName := ⟨RX2, "readOrder", "()Z"⟩
abbrev cX2_readNumber : ByteArray := prog_4_method_6_code
def yX2_readNumber : MethodName := ⟨RX2, "readNumber", "(I)Z"⟩
abbrev cX2_isFigureAt : ByteArray := prog_4_method_7_code
def yX2_isFigureAt : MethodName := ⟨RX2, "isFigureAt", "()Z"⟩
abbrev cX2_skipBlanks : ByteArray := prog_4_method_8_code
def yX2_skipBlanks : MethodName := ⟨RX2, "skipBlanks", "()V"⟩
abbrev cX2_numbersBehind : ByteArray := prog_4_method_9_code
def yX2_numbersBehind : MethodName := ⟨RX2, "numbersBehind", "(I)I"⟩
def RX3 : String := "FlangeFolder$Shape"
def TX3 : u_T := fun k => match k with
  | 0 => ("FlangeFolder$Shape", "x", "[I", true)
  | 1 => ("FlangeFolder$Shape", "y", "[I", true)
  | 2 => ("FlangeFolder$Shape", "headings", "[I", true)
  | _ => ("FlangeFolder$Shape", "flanges", "I", false)
def tyX3 : Nat → FieldType := fun k => match k with
  | 0 => .array .int
  | 1 => .array .int
  | 2 => .array .int
  | _ => .int
abbrev wsX30 : List Cond := u_ws RX3 TX3 4
theorem nmX3 : ∀ a, a < 4 → ∀ b, b < 4 → a ≠ b → (TX3 a).2.1 ≠ (TX3 b).2.1 := by decide +kernel
theorem tyX3_ok : ∀ k, k < 4 → parseFieldDescriptor (TX3 k).2.2.1 = some (tyX3 k) := by decide +kernel
abbrev cX3_init : ByteArray := prog_5_method_1_code
def yX3_init : MethodName := ⟨RX3, "<init>", "()V"⟩
abbrev cX3_trace : ByteArray := prog_5_method_2_code
def yX3_trace : MethodName := ⟨RX3, "trace", "(LFlangeFolder$Sheet;I)V"⟩
abbrev cX3_least : ByteArray := prog_5_method_3_code
def yX3_least : MethodName := ⟨RX3, "least", "([I)I"⟩
abbrev cX3_greatest : ByteArray := prog_5_method_4_code
def yX3_greatest : MethodName := ⟨RX3, "greatest", "([I)I"⟩
abbrev cX3_crossesItself : ByteArray := prog_5_method_5_code
def yX3_crossesItself : MethodName := ⟨RX3, "crossesItself", "()Z"⟩
abbrev cX3_pressHit : ByteArray := prog_5_method_6_code
def yX3_pressHit : MethodName := ⟨RX3, "pressHit", "(LFlangeFolder$Sheet;I)I"⟩
abbrev cX3_reaches : ByteArray := prog_5_method_7_code
def yX3_reaches : MethodName := ⟨RX3, "reaches", "(IIII)Z"⟩
def RX4 : String := "FlangeFolder$Sheet"
def TX4 : u_T := fun k => match k with
  | 0 => ("FlangeFolder$Sheet", "lengths", "[I", true)
  | 1 => ("FlangeFolder$Sheet", "turns", "[I", true)
  | 2 => ("FlangeFolder$Sheet", "tools", "[I", true)
  | 3 => ("FlangeFolder$Sheet", "taken", "[I", true)
  | 4 => ("FlangeFolder$Sheet", "bends", "I", false)
  | 5 => ("FlangeFolder$Sheet", "made", "I", false)
  | 6 => ("FlangeFolder$Sheet", "wide", "I", false)
  | _ => ("FlangeFolder$Sheet", "high", "I", false)
def tyX4 : Nat → FieldType := fun k => match k with
  | 0 => .array .int
  | 1 => .array .int
  | 2 => .array .int
  | 3 => .array .int
  | 4 => .int
  | 5 => .int
  | 6 => .int
  | _ => .int
abbrev wsX40 : List Cond := u_ws RX4 TX4 8
theorem nmX4 : ∀ a, a < 8 → ∀ b, b < 8 → a ≠ b → (TX4 a).2.1 ≠ (TX4 b).2.1 := by decide +kernel
theorem tyX4_ok : ∀ k, k < 8 → parseFieldDescriptor (TX4 k).2.2.1 = some (tyX4 k) := by decide +kernel
abbrev cX4_init : ByteArray := prog_6_method_1_code
def yX4_init : MethodName := ⟨RX4, "<init>", "()V"⟩
abbrev cX4_copyFrom : ByteArray := prog_6_method_2_code
def yX4_copyFrom : MethodName := ⟨RX4, "copyFrom", "(LFlangeFolder$Sheet;)V"⟩
abbrev cX4_hasBend : ByteArray := prog_6_method_3_code
def yX4_hasBend : MethodName := ⟨RX4, "hasBend", "(I)Z"⟩
abbrev cX4_isMade : ByteArray := prog_6_method_4_code
def yX4_isMade : MethodName := ⟨RX4, "isMade", "(I)Z"⟩
abbrev cX4_allBends : ByteArray := prog_6_method_5_code
def yX4_allBends : MethodName := ⟨RX4, "allBends", "()I"⟩
abbrev cX4_allLengths : ByteArray := prog_6_method_6_code
def yX4_allLengths : MethodName := ⟨RX4, "allLengths", "()I"⟩
abbrev cX4_lengthLess : ByteArray := prog_6_method_7_code
def yX4_lengthLess : MethodName := ⟨RX4, "lengthLess", "(I)I"⟩
def RX5 : String := "FlangeFolder$Worker"
def TX5 : u_T := fun k => match k with
  | 0 => ("FlangeFolder$Worker", "sheet", "LFlangeFolder$Sheet;", true)
  | _ => ("FlangeFolder$Worker", "planner", "LFlangeFolder$Planner;", true)
def tyX5 : Nat → FieldType := fun k => match k with
  | 0 => .object "FlangeFolder$Sheet"
  | _ => .object "FlangeFolder$Planner"
abbrev wsX50 : List Cond := u_ws RX5 TX5 2
theorem nmX5 : ∀ a, a < 2 → ∀ b, b < 2 → a ≠ b → (TX5 a).2.1 ≠ (TX5 b).2.1 := by decide +kernel
theorem tyX5_ok : ∀ k, k < 2 → parseFieldDescriptor (TX5 k).2.2.1 = some (tyX5 k) := by decide +kernel
abbrev cX5_init : ByteArray := prog_7_method_1_code
def yX5_init : MethodName := ⟨RX5, "<init>", "(LFlangeFolder$Sheet;LFlangeFolder$Planner;)V"⟩
abbrev cX5_newStrip : ByteArray := prog_7_method_2_code
def yX5_newStrip : MethodName := ⟨RX5, "newStrip", "(I)I"⟩
abbrev cX5_addBend : ByteArray := prog_7_method_3_code
def yX5_addBend : MethodName := ⟨RX5, "addBend", "(III)I"⟩
abbrev cX5_setPress : ByteArray := prog_7_method_4_code
def yX5_setPress : MethodName := ⟨RX5, "setPress", "(II)I"⟩
abbrev cX5_setTaken : ByteArray := prog_7_method_5_code
def yX5_setTaken : MethodName := ⟨RX5, "setTaken", "(II)I"⟩
abbrev cX5_makeBend : ByteArray := prog_7_method_6_code
def yX5_makeBend : MethodName := ⟨RX5, "makeBend", "(I)I"⟩
abbrev cX5_unmakeBend : ByteArray := prog_7_method_7_code
def yX5_unmakeBend : MethodName := ⟨RX5, "unmakeBend", "(I)I"⟩
abbrev cX5_unmakeAll : ByteArray := prog_7_method_8_code
def yX5_unmakeAll : MethodName := ⟨RX5, "unmakeAll", "()I"⟩
abbrev cX5_perform : ByteArray := prog_7_method_9_code
def yX5_perform : MethodName := ⟨RX5, "perform", "(LFlangeFolder$Script;I)I"⟩
abbrev cX5_wayOf : ByteArray := prog_7_method_10_code
def yX5_wayOf : MethodName := ⟨RX5, "wayOf", "(I)I"⟩
def RX6 : String := "FlangeFolder"
def TX6 : u_T := fun k => match k with
  | 0 => ("FlangeFolder", "sheet", "LFlangeFolder$Sheet;", true)
  | 1 => ("FlangeFolder", "shape", "LFlangeFolder$Shape;", true)
  | 2 => ("FlangeFolder", "planner", "LFlangeFolder$Planner;", true)
  | 3 => ("FlangeFolder", "worker", "LFlangeFolder$Worker;", true)
  | 4 => ("FlangeFolder", "history", "LFlangeFolder$History;", true)
  | 5 => ("FlangeFolder", "script", "LFlangeFolder$Script;", true)
  | 6 => ("FlangeFolder", "badCalls", "I", false)
  | 7 => ("FlangeFolder", "noCalls", "I", false)
  | _ => ("FlangeFolder", "fullCalls", "I", false)
def tyX6 : Nat → FieldType := fun k => match k with
  | 0 => .object "FlangeFolder$Sheet"
  | 1 => .object "FlangeFolder$Shape"
  | 2 => .object "FlangeFolder$Planner"
  | 3 => .object "FlangeFolder$Worker"
  | 4 => .object "FlangeFolder$History"
  | 5 => .object "FlangeFolder$Script"
  | 6 => .int
  | 7 => .int
  | _ => .int
abbrev wsX60 : List Cond := u_ws RX6 TX6 9
theorem nmX6 : ∀ a, a < 9 → ∀ b, b < 9 → a ≠ b → (TX6 a).2.1 ≠ (TX6 b).2.1 := by decide +kernel
theorem tyX6_ok : ∀ k, k < 9 → parseFieldDescriptor (TX6 k).2.2.1 = some (tyX6 k) := by decide +kernel
abbrev cX6_init : ByteArray := prog_1_method_1_code
def yX6_init : MethodName := ⟨RX6, "<init>", "()V"⟩
abbrev cX6_strip : ByteArray := prog_1_method_2_code
def yX6_strip : MethodName := ⟨RX6, "strip", "(I)I"⟩
abbrev cX6_bend : ByteArray := prog_1_method_3_code
def yX6_bend : MethodName := ⟨RX6, "bend", "(III)I"⟩
abbrev cX6_press : ByteArray := prog_1_method_4_code
def yX6_press : MethodName := ⟨RX6, "press", "(II)I"⟩
abbrev cX6_takes : ByteArray := prog_1_method_5_code
def yX6_takes : MethodName := ⟨RX6, "takes", "(II)I"⟩
abbrev cX6_makes : ByteArray := prog_1_method_6_code
def yX6_makes : MethodName := ⟨RX6, "makes", "(I)I"⟩
abbrev cX6_unmakes : ByteArray := prog_1_method_7_code
def yX6_unmakes : MethodName := ⟨RX6, "unmakes", "(I)I"⟩
abbrev cX6_again : ByteArray := prog_1_method_8_code
def yX6_again : MethodName := ⟨RX6, "again", "()I"⟩
abbrev cX6_of : ByteArray := prog_1_method_9_code
def yX6_of : MethodName := ⟨RX6, "of", "(II)I"⟩
abbrev cX6_joint : ByteArray := prog_1_method_10_code
def yX6_joint : MethodName := ⟨RX6, "joint", "(II)I"⟩
abbrev cX6_box : ByteArray := prog_1_method_11_code
def yX6_box : MethodName := ⟨RX6, "box", "(I)I"⟩
abbrev cX6_hits : ByteArray := prog_1_method_12_code
def yX6_hits : MethodName := ⟨RX6, "hits", "(I)I"⟩
abbrev cX6_free : ByteArray := prog_1_method_13_code
def yX6_free : MethodName := ⟨RX6, "free", "()I"⟩
abbrev cX6_orders : ByteArray := prog_1_method_14_code
def yX6_orders : MethodName := ⟨RX6, "orders", "()I"⟩
abbrev cX6_order : ByteArray := prog_1_method_15_code
def yX6_order : MethodName := ⟨RX6, "order", "(II)I"⟩
abbrev cX6_changes : ByteArray := prog_1_method_16_code
def yX6_changes : MethodName := ⟨RX6, "changes", "(I)I"⟩
abbrev cX6_ways : ByteArray := prog_1_method_17_code
def yX6_ways : MethodName := ⟨RX6, "ways", "()I"⟩
abbrev cX6_count : ByteArray := prog_1_method_18_code
def yX6_count : MethodName := ⟨RX6, "count", "(I)I"⟩
abbrev cX6_type : ByteArray := prog_1_method_19_code
def yX6_type : MethodName := ⟨RX6, "type", "(I)I"⟩
abbrev cX6_clear : ByteArray := prog_1_method_20_code
def yX6_clear : MethodName := ⟨RX6, "clear", "()I"⟩
abbrev cX6_does : ByteArray := prog_1_method_21_code
def yX6_does : MethodName := ⟨RX6, "does", "()I"⟩
abbrev cX6_back : ByteArray := prog_1_method_22_code
def yX6_back : MethodName := ⟨RX6, "back", "()I"⟩
abbrev cX6_told : ByteArray := prog_1_method_23_code
def yX6_told : MethodName := ⟨RX6, "told", "(I)I"⟩
abbrev cX6_digest : ByteArray := prog_1_method_24_code
def yX6_digest : MethodName := ⟨RX6, "digest", "()J"⟩
abbrev cX6_isWithin : ByteArray := prog_1_method_25_code
def yX6_isWithin : MethodName := ⟨RX6, "isWithin", "(III)Z"⟩
abbrev cX6_isRefusal : ByteArray := prog_1_method_26_code
def yX6_isRefusal : MethodName := ⟨RX6, "isRefusal", "(I)Z"⟩
abbrev cX6_refused : ByteArray := prog_1_method_27_code
def yX6_refused : MethodName := ⟨RX6, "refused", "(I)I"⟩
abbrev cX6_settled : ByteArray := prog_1_method_28_code
def yX6_settled : MethodName := ⟨RX6, "settled", "(I)I"⟩
def RX7 : String := "FlangeFolderModel"
def TX7 : u_T := fun k => match k with
  | 0 => ("FlangeFolderModel", "now", "[I", true)
  | 1 => ("FlangeFolderModel", "aside", "[I", true)
  | 2 => ("FlangeFolderModel", "past", "[I", true)
  | 3 => ("FlangeFolderModel", "states", "I", false)
  | 4 => ("FlangeFolderModel", "refused", "[I", true)
  | 5 => ("FlangeFolderModel", "text", "[I", true)
  | 6 => ("FlangeFolderModel", "length", "I", false)
  | 7 => ("FlangeFolderModel", "xs", "[I", true)
  | 8 => ("FlangeFolderModel", "ys", "[I", true)
  | 9 => ("FlangeFolderModel", "goes", "[I", true)
  | 10 => ("FlangeFolderModel", "may", "[I", true)
  | 11 => ("FlangeFolderModel", "many", "[I", true)
  | 12 => ("FlangeFolderModel", "fewest", "[I", true)
  | 13 => ("FlangeFolderModel", "row", "[I", true)
  | 14 => ("FlangeFolderModel", "place", "I", false)
  | 15 => ("FlangeFolderModel", "tells", "I", false)
  | 16 => ("FlangeFolderModel", "letters", "[I", true)
  | 17 => ("FlangeFolderModel", "numbers", "[I", true)
  | _ => ("FlangeFolderModel", "hash", "J", false)
def tyX7 : Nat → FieldType := fun k => match k with
  | 0 => .array .int
  | 1 => .array .int
  | 2 => .array .int
  | 3 => .int
  | 4 => .array .int
  | 5 => .array .int
  | 6 => .int
  | 7 => .array .int
  | 8 => .array .int
  | 9 => .array .int
  | 10 => .array .int
  | 11 => .array .int
  | 12 => .array .int
  | 13 => .array .int
  | 14 => .int
  | 15 => .int
  | 16 => .array .int
  | 17 => .array .int
  | _ => .long
abbrev wsX70 : List Cond := u_ws RX7 TX7 19
theorem nmX7 : ∀ a, a < 19 → ∀ b, b < 19 → a ≠ b → (TX7 a).2.1 ≠ (TX7 b).2.1 := by decide +kernel
theorem tyX7_ok : ∀ k, k < 19 → parseFieldDescriptor (TX7 k).2.2.1 = some (tyX7 k) := by decide +kernel
abbrev cX7_init : ByteArray := prog_9_method_1_code
def yX7_init : MethodName := ⟨RX7, "<init>", "()V"⟩
abbrev cX7_within : ByteArray := prog_9_method_3_code
def yX7_within : MethodName := ⟨RX7, "within", "(III)Z"⟩
abbrev cX7_has : ByteArray := prog_9_method_4_code
def yX7_has : MethodName := ⟨RX7, "has", "(II)Z"⟩
abbrev cX7_ones : ByteArray := prog_9_method_5_code
def yX7_ones : MethodName := ⟨RX7, "ones", "(I)I"⟩
abbrev cX7_counts : ByteArray := prog_9_method_6_code
def yX7_counts : MethodName := ⟨RX7, "counts", "(I)I"⟩
abbrev cX7_isBend : ByteArray := prog_9_method_7_code
def yX7_isBend : MethodName := ⟨RX7, "isBend", "(I)Z"⟩
abbrev cX7_allMade : ByteArray := prog_9_method_8_code
def yX7_allMade : MethodName := ⟨RX7, "allMade", "()I"⟩
abbrev cX7_leaves : ByteArray := prog_9_method_9_code
def yX7_leaves : MethodName := ⟨RX7, "leaves", "()V"⟩
abbrev cX7_back : ByteArray := prog_9_method_10_code
def yX7_back : MethodName := ⟨RX7, "back", "()I"⟩
abbrev cX7_alongX : ByteArray := prog_9_method_11_code
def yX7_alongX : MethodName := ⟨RX7, "alongX", "(I)I"⟩
abbrev cX7_alongY : ByteArray := prog_9_method_12_code
def yX7_alongY : MethodName := ⟨RX7, "alongY", "(I)I"⟩
abbrev cX7_lays : ByteArray := prog_9_method_13_code
def yX7_lays : MethodName := ⟨RX7, "lays", "(I)V"⟩
abbrev cX7_turnsTo : ByteArray := prog_9_method_14_code
def yX7_turnsTo : MethodName := ⟨RX7, "turnsTo", "(I)V"⟩
abbrev cX7_lesser : ByteArray := prog_9_method_15_code
def yX7_lesser : MethodName := ⟨RX7, "lesser", "(II)I"⟩
abbrev cX7_greater : ByteArray := prog_9_method_16_code
def yX7_greater : MethodName := ⟨RX7, "greater", "(II)I"⟩
abbrev cX7_isWithin : ByteArray := prog_9_method_17_code
def yX7_isWithin : MethodName := ⟨RX7, "isWithin", "(IIIII)Z"⟩
abbrev cX7_areMet : ByteArray := prog_9_method_18_code
def yX7_areMet : MethodName := ⟨RX7, "areMet", "(II)Z"⟩
abbrev cX7_hitBy : ByteArray := prog_9_method_19_code
def yX7_hitBy : MethodName := ⟨RX7, "hitBy", "(II)I"⟩
abbrev cX7_isFree : ByteArray := prog_9_method_20_code
def yX7_isFree : MethodName := ⟨RX7, "isFree", "(II)Z"⟩
abbrev cX7_mayBend : ByteArray := prog_9_method_21_code
def yX7_mayBend : MethodName := ⟨RX7, "mayBend", "(III)Z"⟩
abbrev cX7_mayPress : ByteArray := prog_9_method_22_code
def yX7_mayPress : MethodName := ⟨RX7, "mayPress", "(II)Z"⟩
abbrev cX7_mayTake : ByteArray := prog_9_method_23_code
def yX7_mayTake : MethodName := ⟨RX7, "mayTake", "(II)Z"⟩
abbrev cX7_strips : ByteArray := prog_9_method_24_code
def yX7_strips : MethodName := ⟨RX7, "strips", "(I)I"⟩
abbrev cX7_adds : ByteArray := prog_9_method_25_code
def yX7_adds : MethodName := ⟨RX7, "adds", "(III)I"⟩
abbrev cX7_presses : ByteArray := prog_9_method_26_code
def yX7_presses : MethodName := ⟨RX7, "presses", "(II)I"⟩
abbrev cX7_takesNow : ByteArray := prog_9_method_27_code
def yX7_takesNow : MethodName := ⟨RX7, "takesNow", "(II)I"⟩
abbrev cX7_strip : ByteArray := prog_9_method_28_code
def yX7_strip : MethodName := ⟨RX7, "strip", "(I)I"⟩
abbrev cX7_bend : ByteArray := prog_9_method_29_code
def yX7_bend : MethodName := ⟨RX7, "bend", "(III)I"⟩
abbrev cX7_press : ByteArray := prog_9_method_30_code
def yX7_press : MethodName := ⟨RX7, "press", "(II)I"⟩
abbrev cX7_takes : ByteArray := prog_9_method_31_code
def yX7_takes : MethodName := ⟨RX7, "takes", "(II)I"⟩
abbrev cX7_makes : ByteArray := prog_9_method_32_code
def yX7_makes : MethodName := ⟨RX7, "makes", "(I)I"⟩
abbrev cX7_unmakes : ByteArray := prog_9_method_33_code
def yX7_unmakes : MethodName := ⟨RX7, "unmakes", "(I)I"⟩
abbrev cX7_again : ByteArray := prog_9_method_34_code
def yX7_again : MethodName := ⟨RX7, "again", "()I"⟩
abbrev cX7_ofBend : ByteArray := prog_9_method_35_code
def yX7_ofBend : MethodName := ⟨RX7, "ofBend", "(II)I"⟩
abbrev cX7_of : ByteArray := prog_9_method_36_code
def yX7_of : MethodName := ⟨RX7, "of", "(II)I"⟩
abbrev cX7_joint : ByteArray := prog_9_method_37_code
def yX7_joint : MethodName := ⟨RX7, "joint", "(II)I"⟩
abbrev cX7_boxIs : ByteArray := prog_9_method_38_code
def yX7_boxIs : MethodName := ⟨RX7, "boxIs", "(I)I"⟩
abbrev cX7_box : ByteArray := prog_9_method_39_code
def yX7_box : MethodName := ⟨RX7, "box", "(I)I"⟩
abbrev cX7_hits : ByteArray := prog_9_method_40_code
def yX7_hits : MethodName := ⟨RX7, "hits", "(I)I"⟩
abbrev cX7_free : ByteArray := prog_9_method_41_code
def yX7_free : MethodName := ⟨RX7, "free", "()I"⟩
abbrev cX7_laysOrders : ByteArray := prog_9_method_42_code
def yX7_laysOrders : MethodName := ⟨RX7, "laysOrders", "()V"⟩
abbrev cX7_changesBy : ByteArray := prog_9_method_43_code
def yX7_changesBy : MethodName := ⟨RX7, "changesBy", "(III)I"⟩
abbrev cX7_orders : ByteArray := prog_9_method_44_code
def yX7_orders : MethodName := ⟨RX7, "orders", "()I"⟩
abbrev cX7_laysRow : ByteArray := prog_9_method_45_code
def yX7_laysRow : MethodName := ⟨RX7, "laysRow", "(I)I"⟩
abbrev cX7_order : ByteArray := prog_9_method_46_code
def yX7_order : MethodName := ⟨RX7, "order", "(II)I"⟩
abbrev cX7_changesIs : ByteArray := prog_9_method_47_code
def yX7_changesIs : MethodName := ⟨RX7, "changesIs", "(I)I"⟩
abbrev cX7_changes : ByteArray := prog_9_method_48_code
def yX7_changes : MethodName := ⟨RX7, "changes", "(I)I"⟩
abbrev cX7_ways : ByteArray := prog_9_method_49_code
def yX7_ways : MethodName := ⟨RX7, "ways", "()I"⟩
abbrev cX7_longBy : ByteArray := prog_9_method_50_code
def yX7_longBy : MethodName := ⟨RX7, "longBy", "(I)I"⟩
abbrev cX7_countIs : ByteArray := prog_9_method_51_code
def yX7_countIs : MethodName := ⟨RX7, "countIs", "(I)I"⟩
abbrev cX7_count : ByteArray := prog_9_method_52_code
def yX7_count : MethodName := ⟨RX7, "count", "(I)I"⟩
abbrev cX7_type : ByteArray := prog_9_method_53_code
def yX7_type : MethodName := ⟨RX7, "type", "(I)I"⟩
abbrev cX7_clear : ByteArray := prog_9_method_54_code
def yX7_clear : MethodName := ⟨RX7, "clear", "()I"⟩
abbrev cX7_here : ByteArray := prog_9_method_55_code
def yX7_here : MethodName := ⟨RX7, "here", "()I"⟩
abbrev cX7_blanks : ByteArray := prog_9_method_56_code
def yX7_blanks : MethodName := ⟨RX7, "blanks", "()V"⟩
abbrev cX7_passesNumber : ByteArray := prog_9_method_57_code
def yX7_passesNumber : MethodName := ⟨RX7, "passesNumber", "(I)Z"⟩
abbrev cX7_numbersOf : ByteArray := prog_9_method_58_code
def yX7_numbersOf : MethodName := ⟨RX7, "numbersOf", "(I)I"⟩
abbrev cX7_passesOne : ByteArray := prog_9_method_59_code
def yX7_passesOne : MethodName := ⟨RX7, "passesOne", "()Z"⟩
abbrev cX7_isRead : ByteArray := prog_9_method_60_code
def yX7_isRead : MethodName := ⟨RX7, "isRead", "()Z"⟩
abbrev cX7_isDone : ByteArray := prog_9_method_61_code
def yX7_isDone : MethodName := ⟨RX7, "isDone", "(I)Z"⟩
abbrev cX7_changesAside : ByteArray := prog_9_method_62_code
def yX7_changesAside : MethodName := ⟨RX7, "changesAside", "()V"⟩
abbrev cX7_does : ByteArray := prog_9_method_63_code
def yX7_does : MethodName := ⟨RX7, "does", "()I"⟩
abbrev cX7_toldIs : ByteArray := prog_9_method_64_code
def yX7_toldIs : MethodName := ⟨RX7, "toldIs", "(I)I"⟩
abbrev cX7_told : ByteArray := prog_9_method_65_code
def yX7_told : MethodName := ⟨RX7, "told", "(I)I"⟩
abbrev cX7_mix : ByteArray := prog_9_method_66_code
def yX7_mix : MethodName := ⟨RX7, "mix", "(I)V"⟩
abbrev cX7_digest : ByteArray := prog_9_method_67_code
def yX7_digest : MethodName := ⟨RX7, "digest", "()J"⟩
def RJ6 : String := "java/lang/Integer"
def TJ6 : u_T := fun k => match k with
  | _ => ("", "", "", false)
def tyJ6 : Nat → FieldType := fun k => match k with
  | _ => .int
abbrev wsJ60 : List Cond := u_ws RJ6 TJ6 0
theorem nmJ6 : ∀ a, a < 0 → ∀ b, b < 0 → a ≠ b → (TJ6 a).2.1 ≠ (TJ6 b).2.1 := by decide +kernel
theorem tyJ6_ok : ∀ k, k < 0 → parseFieldDescriptor (TJ6 k).2.2.1 = some (tyJ6 k) := by decide +kernel
abbrev cJ6_bitCount_0f7a4 : ByteArray := prog_10_method_49_code
def yJ6_bitCount_0f7a4 : MethodName := ⟨RJ6, "bitCount", "(I)I"⟩
def RJ9 : String := "java/lang/Math"
def TJ9 : u_T := fun k => match k with
  | _ => ("", "", "", false)
def tyJ9 : Nat → FieldType := fun k => match k with
  | _ => .int
abbrev wsJ90 : List Cond := u_ws RJ9 TJ9 0
theorem nmJ9 : ∀ a, a < 0 → ∀ b, b < 0 → a ≠ b → (TJ9 a).2.1 ≠ (TJ9 b).2.1 := by decide +kernel
theorem tyJ9_ok : ∀ k, k < 0 → parseFieldDescriptor (TJ9 k).2.2.1 = some (tyJ9 k) := by decide +kernel
abbrev cJ9_max_7cf53 : ByteArray := prog_11_method_65_code
def yJ9_max_7cf53 : MethodName := ⟨RJ9, "max", "(II)I"⟩
abbrev cJ9_min_7cf53 : ByteArray := prog_11_method_69_code
def yJ9_min_7cf53 : MethodName := ⟨RJ9, "min", "(II)I"⟩
def RJ10 : String := "java/lang/System"
def TJ10 : u_T := fun k => match k with
  | _ => ("", "", "", false)
def tyJ10 : Nat → FieldType := fun k => match k with
  | _ => .int
abbrev wsJ100 : List Cond := u_ws RJ10 TJ10 0
theorem nmJ10 : ∀ a, a < 0 → ∀ b, b < 0 → a ≠ b → (TJ10 a).2.1 ≠ (TJ10 b).2.1 := by decide +kernel
theorem tyJ10_ok : ∀ k, k < 0 → parseFieldDescriptor (TJ10 k).2.2.1 = some (tyJ10 k) := by decide +kernel
def RJ7 : String := "java/util/Arrays"
def TJ7 : u_T := fun k => match k with
  | _ => ("", "", "", false)
def tyJ7 : Nat → FieldType := fun k => match k with
  | _ => .int
abbrev wsJ70 : List Cond := u_ws RJ7 TJ7 0
theorem nmJ7 : ∀ a, a < 0 → ∀ b, b < 0 → a ≠ b → (TJ7 a).2.1 ≠ (TJ7 b).2.1 := by decide +kernel
theorem tyJ7_ok : ∀ k, k < 0 → parseFieldDescriptor (TJ7 k).2.2.1 = some (tyJ7 k) := by decide +kernel
abbrev cJ7_fill_53178 : ByteArray := prog_13_method_103_code
def yJ7_fill_53178 : MethodName := ⟨RJ7, "fill", "([II)V"⟩
def RL : String := "FlangeFolderLaw"
abbrev cL_law : ByteArray := code
def yL_law : MethodName := ⟨RL, "law", "([I)Z"⟩
def wsX4_init : List Cond := .code yX4_init cX4_init 1 none :: ([.methodLink RX4 3 objectInit, .instanceMethod objectInit, .code objectInit ⟨#[0xb1]⟩ 1 none, .arrayClass .int, .fieldLink RX4 9 "FlangeFolder$Sheet" "lengths" "[I", .fieldLink RX4 15 "FlangeFolder$Sheet" "turns" "[I", .fieldLink RX4 18 "FlangeFolder$Sheet" "tools" "[I", .fieldLink RX4 21 "FlangeFolder$Sheet" "taken" "[I", .fieldLink RX4 24 "FlangeFolder$Sheet" "bends" "I", .fieldLink RX4 28 "FlangeFolder$Sheet" "made" "I", .fieldLink RX4 31 "FlangeFolder$Sheet" "wide" "I", .fieldLink RX4 34 "FlangeFolder$Sheet" "high" "I"] ++ wsX40)
def wsX0_init : List Cond := .code yX0_init cX0_init 2 none :: ([.methodLink RX0 3 objectInit, .instanceMethod objectInit, .code objectInit ⟨#[0xb1]⟩ 1 none, .classLink RX0 11 RX4, .fieldLink RX0 13 "FlangeFolder$History" "ring" "[LFlangeFolder$Sheet;", .instantiable RX4 8, .initialized RX4, .fieldLink RX0 18 "FlangeFolder$History" "next" "I", .fieldLink RX0 22 "FlangeFolder$History" "kept" "I", .methodLink RX0 17 yX4_init, .instanceMethod yX4_init, .code yX4_init cX4_init 1 none, .methodLink RX4 3 objectInit, .arrayClass .int, .fieldLink RX4 9 "FlangeFolder$Sheet" "lengths" "[I", .fieldLink RX4 15 "FlangeFolder$Sheet" "turns" "[I", .fieldLink RX4 18 "FlangeFolder$Sheet" "tools" "[I", .fieldLink RX4 21 "FlangeFolder$Sheet" "taken" "[I", .fieldLink RX4 24 "FlangeFolder$Sheet" "bends" "I", .fieldLink RX4 28 "FlangeFolder$Sheet" "made" "I", .fieldLink RX4 31 "FlangeFolder$Sheet" "wide" "I", .fieldLink RX4 34 "FlangeFolder$Sheet" "high" "I"] ++ wsX00 ++ wsX40)
def wsX4_copyFrom : List Cond := .code yX4_copyFrom cX4_copyFrom 2 none :: ([.fieldLink RX4 9 "FlangeFolder$Sheet" "lengths" "[I", .methodLink RX4 37 arraycopyName, .native arraycopyName, .static arraycopyName, .initialized "java/lang/System", .fieldLink RX4 15 "FlangeFolder$Sheet" "turns" "[I", .fieldLink RX4 18 "FlangeFolder$Sheet" "tools" "[I", .fieldLink RX4 21 "FlangeFolder$Sheet" "taken" "[I", .fieldLink RX4 24 "FlangeFolder$Sheet" "bends" "I", .fieldLink RX4 28 "FlangeFolder$Sheet" "made" "I", .fieldLink RX4 31 "FlangeFolder$Sheet" "wide" "I", .fieldLink RX4 34 "FlangeFolder$Sheet" "high" "I"] ++ wsX40)
def wsX0_stage : List Cond := .code yX0_stage cX0_stage 2 none :: ([.fieldLink RX0 13 "FlangeFolder$History" "ring" "[LFlangeFolder$Sheet;", .fieldLink RX0 18 "FlangeFolder$History" "next" "I", .methodLink RX0 25 yX4_copyFrom, .instanceMethod yX4_copyFrom, .selects RX4 yX4_copyFrom yX4_copyFrom, .initialized RX4, .code yX4_copyFrom cX4_copyFrom 2 none, .fieldLink RX4 9 "FlangeFolder$Sheet" "lengths" "[I", .methodLink RX4 37 arraycopyName, .native arraycopyName, .static arraycopyName, .initialized "java/lang/System", .fieldLink RX4 15 "FlangeFolder$Sheet" "turns" "[I", .fieldLink RX4 18 "FlangeFolder$Sheet" "tools" "[I", .fieldLink RX4 21 "FlangeFolder$Sheet" "taken" "[I", .fieldLink RX4 24 "FlangeFolder$Sheet" "bends" "I", .fieldLink RX4 28 "FlangeFolder$Sheet" "made" "I", .fieldLink RX4 31 "FlangeFolder$Sheet" "wide" "I", .fieldLink RX4 34 "FlangeFolder$Sheet" "high" "I"] ++ wsX00 ++ wsX40)
def wsX0_keepStaged : List Cond := .code yX0_keepStaged cX0_keepStaged 1 none :: ([.fieldLink RX0 18 "FlangeFolder$History" "next" "I", .fieldLink RX0 22 "FlangeFolder$History" "kept" "I", .methodLink RX0 29 Lib.Math.min.name, .static Lib.Math.min.name, .initialized "java/lang/Math", .code Lib.Math.min.name Lib.Math.min.code 2 (some .int)] ++ wsX00)
def wsX0_restoreStaged : List Cond := .code yX0_restoreStaged cX0_restoreStaged 2 none :: ([.fieldLink RX0 13 "FlangeFolder$History" "ring" "[LFlangeFolder$Sheet;", .fieldLink RX0 18 "FlangeFolder$History" "next" "I", .methodLink RX0 25 yX4_copyFrom, .instanceMethod yX4_copyFrom, .selects RX4 yX4_copyFrom yX4_copyFrom, .initialized RX4, .code yX4_copyFrom cX4_copyFrom 2 none, .fieldLink RX4 9 "FlangeFolder$Sheet" "lengths" "[I", .methodLink RX4 37 arraycopyName, .native arraycopyName, .static arraycopyName, .initialized "java/lang/System", .fieldLink RX4 15 "FlangeFolder$Sheet" "turns" "[I", .fieldLink RX4 18 "FlangeFolder$Sheet" "tools" "[I", .fieldLink RX4 21 "FlangeFolder$Sheet" "taken" "[I", .fieldLink RX4 24 "FlangeFolder$Sheet" "bends" "I", .fieldLink RX4 28 "FlangeFolder$Sheet" "made" "I", .fieldLink RX4 31 "FlangeFolder$Sheet" "wide" "I", .fieldLink RX4 34 "FlangeFolder$Sheet" "high" "I"] ++ wsX00 ++ wsX40)
def wsX0_restoreLast : List Cond := .code yX0_restoreLast cX0_restoreLast 2 none :: ([.fieldLink RX0 18 "FlangeFolder$History" "next" "I", .fieldLink RX0 22 "FlangeFolder$History" "kept" "I", .fieldLink RX0 13 "FlangeFolder$History" "ring" "[LFlangeFolder$Sheet;", .methodLink RX0 25 yX4_copyFrom, .instanceMethod yX4_copyFrom, .selects RX4 yX4_copyFrom yX4_copyFrom, .initialized RX4, .code yX4_copyFrom cX4_copyFrom 2 none, .fieldLink RX4 9 "FlangeFolder$Sheet" "lengths" "[I", .methodLink RX4 37 arraycopyName, .native arraycopyName, .static arraycopyName, .initialized "java/lang/System", .fieldLink RX4 15 "FlangeFolder$Sheet" "turns" "[I", .fieldLink RX4 18 "FlangeFolder$Sheet" "tools" "[I", .fieldLink RX4 21 "FlangeFolder$Sheet" "taken" "[I", .fieldLink RX4 24 "FlangeFolder$Sheet" "bends" "I", .fieldLink RX4 28 "FlangeFolder$Sheet" "made" "I", .fieldLink RX4 31 "FlangeFolder$Sheet" "wide" "I", .fieldLink RX4 34 "FlangeFolder$Sheet" "high" "I"] ++ wsX00 ++ wsX40)
def wsJ7_fill_53178 : List Cond := .code yJ7_fill_53178 cJ7_fill_53178 4 none :: ([])
def wsX1_init : List Cond := .code yX1_init cX1_init 3 none :: ([.methodLink RX1 3 objectInit, .instanceMethod objectInit, .code objectInit ⟨#[0xb1]⟩ 1 none, .arrayClass .int, .fieldLink RX1 9 "FlangeFolder$Planner" "freeBits" "[I", .fieldLink RX1 15 "FlangeFolder$Planner" "crossings" "[I", .fieldLink RX1 18 "FlangeFolder$Planner" "paths" "[I", .fieldLink RX1 21 "FlangeFolder$Planner" "fewest" "[I", .fieldLink RX1 24 "FlangeFolder$Planner" "firstOrder" "[I", .fieldLink RX1 27 "FlangeFolder$Planner" "bestOrder" "[I", .fieldLink RX1 30 "FlangeFolder$Planner" "sheet" "LFlangeFolder$Sheet;", .fieldLink RX1 34 "FlangeFolder$Planner" "shape" "LFlangeFolder$Shape;", .fieldLink RX1 44 "FlangeFolder$Planner" "planned" "Z", .fieldLink RX1 48 "FlangeFolder$Planner" "orderCount" "I", .fieldLink RX1 52 "FlangeFolder$Planner" "firstChanges" "I", .fieldLink RX1 55 "FlangeFolder$Planner" "bestChanges" "I", .methodLink RX1 38 yJ7_fill_53178, .static yJ7_fill_53178, .initialized RJ7, .code yJ7_fill_53178 cJ7_fill_53178 4 none] ++ wsX10)
def wsX1_forget : List Cond := .code yX1_forget cX1_forget 1 none :: ([.fieldLink RX1 9 "FlangeFolder$Planner" "freeBits" "[I", .fieldLink RX1 15 "FlangeFolder$Planner" "crossings" "[I", .fieldLink RX1 44 "FlangeFolder$Planner" "planned" "Z", .methodLink RX1 38 yJ7_fill_53178, .static yJ7_fill_53178, .initialized RJ7, .code yJ7_fill_53178 cJ7_fill_53178 4 none] ++ wsX10)
def wsX3_trace : List Cond := .code yX3_trace cX3_trace 5 none :: ([.fieldLink RX3 25 "FlangeFolder$Sheet" "bends" "I", .fieldLink RX3 21 "FlangeFolder$Shape" "flanges" "I", .fieldLink RX3 18 "FlangeFolder$Shape" "headings" "[I", .fieldLink RX3 9 "FlangeFolder$Shape" "x" "[I", .fieldLink RX3 30 "FlangeFolder$Sheet" "lengths" "[I", .fieldLink RX3 33 "FlangeFolder$Shape" "STEP_X" "[I", .fieldLink RX3 15 "FlangeFolder$Shape" "y" "[I", .fieldLink RX3 36 "FlangeFolder$Shape" "STEP_Y" "[I", .fieldLink RX3 39 "FlangeFolder$Sheet" "turns" "[I"] ++ wsX40 ++ wsX30)
def wsX3_reaches : List Cond := .code yX3_reaches cX3_reaches 4 (some .boolean) :: ([])
def wsX3_pressHit : List Cond := .code yX3_pressHit cX3_pressHit 14 (some .int) :: ([.fieldLink RX3 39 "FlangeFolder$Sheet" "turns" "[I", .fieldLink RX3 33 "FlangeFolder$Shape" "STEP_X" "[I", .fieldLink RX3 18 "FlangeFolder$Shape" "headings" "[I", .fieldLink RX3 36 "FlangeFolder$Shape" "STEP_Y" "[I", .fieldLink RX3 21 "FlangeFolder$Shape" "flanges" "I", .fieldLink RX3 9 "FlangeFolder$Shape" "x" "[I", .fieldLink RX3 15 "FlangeFolder$Shape" "y" "[I", .methodLink RX3 42 Lib.Math.min.name, .static Lib.Math.min.name, .initialized "java/lang/Math", .code Lib.Math.min.name Lib.Math.min.code 2 (some .int), .fieldLink RX3 55 "FlangeFolder$Sheet" "wide" "I", .fieldLink RX3 58 "FlangeFolder$Sheet" "high" "I", .methodLink RX3 51 yX3_reaches, .static yX3_reaches, .initialized RX3, .code yX3_reaches cX3_reaches 4 (some .boolean)] ++ wsX40 ++ wsX30)
def wsX3_crossesItself : List Cond := .code yX3_crossesItself cX3_crossesItself 7 (some .boolean) :: ([.fieldLink RX3 21 "FlangeFolder$Shape" "flanges" "I", .fieldLink RX3 9 "FlangeFolder$Shape" "x" "[I", .methodLink RX3 42 Lib.Math.min.name, .static Lib.Math.min.name, .initialized "java/lang/Math", .code Lib.Math.min.name Lib.Math.min.code 2 (some .int), .methodLink RX3 48 Lib.Math.max.name, .static Lib.Math.max.name, .code Lib.Math.max.name Lib.Math.max.code 2 (some .int), .fieldLink RX3 15 "FlangeFolder$Shape" "y" "[I", .methodLink RX3 51 yX3_reaches, .static yX3_reaches, .initialized RX3, .code yX3_reaches cX3_reaches 4 (some .boolean)] ++ wsX30)
def wsX1_crossesAt_r1 : List Cond := [Cond.fieldLink RX1 15 "FlangeFolder$Planner" "crossings" "[I", Cond.fieldLink RX1 34 "FlangeFolder$Planner" "shape" "LFlangeFolder$Shape;", Cond.fieldLink RX1 30 "FlangeFolder$Planner" "sheet" "LFlangeFolder$Sheet;", Cond.methodLink RX1 58 yX3_trace, Cond.instanceMethod yX3_trace, Cond.selects RX3 yX3_trace yX3_trace, Cond.initialized RX3, Cond.code yX3_trace cX3_trace 5 none, Cond.fieldLink RX3 25 "FlangeFolder$Sheet" "bends" "I", Cond.fieldLink RX3 21 "FlangeFolder$Shape" "flanges" "I", Cond.fieldLink RX3 18 "FlangeFolder$Shape" "headings" "[I", Cond.fieldLink RX3 9 "FlangeFolder$Shape" "x" "[I", Cond.fieldLink RX3 30 "FlangeFolder$Sheet" "lengths" "[I", Cond.fieldLink RX3 33 "FlangeFolder$Shape" "STEP_X" "[I", Cond.fieldLink RX3 15 "FlangeFolder$Shape" "y" "[I", Cond.fieldLink RX3 36 "FlangeFolder$Shape" "STEP_Y" "[I", Cond.fieldLink RX3 39 "FlangeFolder$Sheet" "turns" "[I", Cond.methodLink RX1 77 yX3_crossesItself, Cond.instanceMethod yX3_crossesItself, Cond.selects RX3 yX3_crossesItself yX3_crossesItself, Cond.code yX3_crossesItself cX3_crossesItself 7 (some .boolean), Cond.methodLink RX3 42 Lib.Math.min.name, Cond.static Lib.Math.min.name, Cond.initialized "java/lang/Math"]
def wsX1_crossesAt_r2 : List Cond := [Cond.code Lib.Math.min.name Lib.Math.min.code 2 (some .int), Cond.methodLink RX3 48 Lib.Math.max.name, Cond.static Lib.Math.max.name, Cond.code Lib.Math.max.name Lib.Math.max.code 2 (some .int), Cond.methodLink RX3 51 yX3_reaches, Cond.static yX3_reaches, Cond.code yX3_reaches cX3_reaches 4 (some .boolean)]
def wsX1_crossesAt : List Cond := .code yX1_crossesAt cX1_crossesAt 2 (some .boolean) :: ((wsX1_crossesAt_r1 ++ wsX1_crossesAt_r2) ++ wsX10 ++ wsX40 ++ wsX30)
def wsX1_hitOf_r1 : List Cond := [Cond.fieldLink RX1 34 "FlangeFolder$Planner" "shape" "LFlangeFolder$Shape;", Cond.fieldLink RX1 30 "FlangeFolder$Planner" "sheet" "LFlangeFolder$Sheet;", Cond.methodLink RX1 58 yX3_trace, Cond.instanceMethod yX3_trace, Cond.selects RX3 yX3_trace yX3_trace, Cond.initialized RX3, Cond.code yX3_trace cX3_trace 5 none, Cond.fieldLink RX3 25 "FlangeFolder$Sheet" "bends" "I", Cond.fieldLink RX3 21 "FlangeFolder$Shape" "flanges" "I", Cond.fieldLink RX3 18 "FlangeFolder$Shape" "headings" "[I", Cond.fieldLink RX3 9 "FlangeFolder$Shape" "x" "[I", Cond.fieldLink RX3 30 "FlangeFolder$Sheet" "lengths" "[I", Cond.fieldLink RX3 33 "FlangeFolder$Shape" "STEP_X" "[I", Cond.fieldLink RX3 15 "FlangeFolder$Shape" "y" "[I", Cond.fieldLink RX3 36 "FlangeFolder$Shape" "STEP_Y" "[I", Cond.fieldLink RX3 39 "FlangeFolder$Sheet" "turns" "[I", Cond.methodLink RX1 64 yX3_pressHit, Cond.instanceMethod yX3_pressHit, Cond.selects RX3 yX3_pressHit yX3_pressHit, Cond.code yX3_pressHit cX3_pressHit 14 (some .int), Cond.methodLink RX3 42 Lib.Math.min.name, Cond.static Lib.Math.min.name, Cond.initialized "java/lang/Math", Cond.code Lib.Math.min.name Lib.Math.min.code 2 (some .int)]
def wsX1_hitOf_r2 : List Cond := [Cond.fieldLink RX3 55 "FlangeFolder$Sheet" "wide" "I", Cond.fieldLink RX3 58 "FlangeFolder$Sheet" "high" "I", Cond.methodLink RX3 51 yX3_reaches, Cond.static yX3_reaches, Cond.code yX3_reaches cX3_reaches 4 (some .boolean), Cond.methodLink RX1 68 yX1_crossesAt, Cond.instanceMethod yX1_crossesAt, Cond.selects RX1 yX1_crossesAt yX1_crossesAt, Cond.initialized RX1, Cond.code yX1_crossesAt cX1_crossesAt 2 (some .boolean), Cond.fieldLink RX1 15 "FlangeFolder$Planner" "crossings" "[I", Cond.methodLink RX1 77 yX3_crossesItself, Cond.instanceMethod yX3_crossesItself, Cond.selects RX3 yX3_crossesItself yX3_crossesItself, Cond.code yX3_crossesItself cX3_crossesItself 7 (some .boolean), Cond.methodLink RX3 48 Lib.Math.max.name, Cond.static Lib.Math.max.name, Cond.code Lib.Math.max.name Lib.Math.max.code 2 (some .int)]
def wsX1_hitOf : List Cond := .code yX1_hitOf cX1_hitOf 4 (some .int) :: ((wsX1_hitOf_r1 ++ wsX1_hitOf_r2) ++ wsX10 ++ wsX40 ++ wsX30)
def wsX1_freeAt_r1 : List Cond := [Cond.fieldLink RX1 9 "FlangeFolder$Planner" "freeBits" "[I", Cond.fieldLink RX1 34 "FlangeFolder$Planner" "shape" "LFlangeFolder$Shape;", Cond.fieldLink RX1 30 "FlangeFolder$Planner" "sheet" "LFlangeFolder$Sheet;", Cond.fieldLink RX1 72 "FlangeFolder$Sheet" "bends" "I", Cond.methodLink RX1 58 yX3_trace, Cond.instanceMethod yX3_trace, Cond.selects RX3 yX3_trace yX3_trace, Cond.initialized RX3, Cond.code yX3_trace cX3_trace 5 none, Cond.fieldLink RX3 25 "FlangeFolder$Sheet" "bends" "I", Cond.fieldLink RX3 21 "FlangeFolder$Shape" "flanges" "I", Cond.fieldLink RX3 18 "FlangeFolder$Shape" "headings" "[I", Cond.fieldLink RX3 9 "FlangeFolder$Shape" "x" "[I", Cond.fieldLink RX3 30 "FlangeFolder$Sheet" "lengths" "[I", Cond.fieldLink RX3 33 "FlangeFolder$Shape" "STEP_X" "[I", Cond.fieldLink RX3 15 "FlangeFolder$Shape" "y" "[I", Cond.fieldLink RX3 36 "FlangeFolder$Shape" "STEP_Y" "[I", Cond.fieldLink RX3 39 "FlangeFolder$Sheet" "turns" "[I", Cond.methodLink RX1 64 yX3_pressHit, Cond.instanceMethod yX3_pressHit, Cond.selects RX3 yX3_pressHit yX3_pressHit, Cond.code yX3_pressHit cX3_pressHit 14 (some .int), Cond.methodLink RX3 42 Lib.Math.min.name, Cond.static Lib.Math.min.name]
def wsX1_freeAt_r2 : List Cond := [Cond.initialized "java/lang/Math", Cond.code Lib.Math.min.name Lib.Math.min.code 2 (some .int), Cond.fieldLink RX3 55 "FlangeFolder$Sheet" "wide" "I", Cond.fieldLink RX3 58 "FlangeFolder$Sheet" "high" "I", Cond.methodLink RX3 51 yX3_reaches, Cond.static yX3_reaches, Cond.code yX3_reaches cX3_reaches 4 (some .boolean), Cond.methodLink RX1 68 yX1_crossesAt, Cond.instanceMethod yX1_crossesAt, Cond.selects RX1 yX1_crossesAt yX1_crossesAt, Cond.initialized RX1, Cond.code yX1_crossesAt cX1_crossesAt 2 (some .boolean), Cond.fieldLink RX1 15 "FlangeFolder$Planner" "crossings" "[I", Cond.methodLink RX1 77 yX3_crossesItself, Cond.instanceMethod yX3_crossesItself, Cond.selects RX3 yX3_crossesItself yX3_crossesItself, Cond.code yX3_crossesItself cX3_crossesItself 7 (some .boolean), Cond.methodLink RX3 48 Lib.Math.max.name, Cond.static Lib.Math.max.name, Cond.code Lib.Math.max.name Lib.Math.max.code 2 (some .int)]
def wsX1_freeAt : List Cond := .code yX1_freeAt cX1_freeAt 4 (some .int) :: ((wsX1_freeAt_r1 ++ wsX1_freeAt_r2) ++ wsX10 ++ wsX40 ++ wsX30)
def wsX4_allBends : List Cond := .code yX4_allBends cX4_allBends 1 (some .int) :: ([.fieldLink RX4 24 "FlangeFolder$Sheet" "bends" "I"] ++ wsX40)
def wsX1_pathsFrom_r1 : List Cond := [Cond.fieldLink RX1 30 "FlangeFolder$Planner" "sheet" "LFlangeFolder$Sheet;", Cond.fieldLink RX1 18 "FlangeFolder$Planner" "paths" "[I", Cond.fieldLink RX1 72 "FlangeFolder$Sheet" "bends" "I", Cond.methodLink RX1 81 yX4_allBends, Cond.instanceMethod yX4_allBends, Cond.selects RX4 yX4_allBends yX4_allBends, Cond.initialized RX4, Cond.code yX4_allBends cX4_allBends 1 (some .int), Cond.fieldLink RX4 24 "FlangeFolder$Sheet" "bends" "I", Cond.methodLink RX1 38 yJ7_fill_53178, Cond.static yJ7_fill_53178, Cond.initialized RJ7, Cond.code yJ7_fill_53178 cJ7_fill_53178 4 none, Cond.methodLink RX1 85 yX1_freeAt, Cond.instanceMethod yX1_freeAt, Cond.selects RX1 yX1_freeAt yX1_freeAt, Cond.initialized RX1, Cond.code yX1_freeAt cX1_freeAt 4 (some .int), Cond.fieldLink RX1 9 "FlangeFolder$Planner" "freeBits" "[I", Cond.fieldLink RX1 34 "FlangeFolder$Planner" "shape" "LFlangeFolder$Shape;", Cond.methodLink RX1 58 yX3_trace, Cond.instanceMethod yX3_trace, Cond.selects RX3 yX3_trace yX3_trace, Cond.initialized RX3]
def wsX1_pathsFrom_r2 : List Cond := [Cond.code yX3_trace cX3_trace 5 none, Cond.fieldLink RX3 25 "FlangeFolder$Sheet" "bends" "I", Cond.fieldLink RX3 21 "FlangeFolder$Shape" "flanges" "I", Cond.fieldLink RX3 18 "FlangeFolder$Shape" "headings" "[I", Cond.fieldLink RX3 9 "FlangeFolder$Shape" "x" "[I", Cond.fieldLink RX3 30 "FlangeFolder$Sheet" "lengths" "[I", Cond.fieldLink RX3 33 "FlangeFolder$Shape" "STEP_X" "[I", Cond.fieldLink RX3 15 "FlangeFolder$Shape" "y" "[I", Cond.fieldLink RX3 36 "FlangeFolder$Shape" "STEP_Y" "[I", Cond.fieldLink RX3 39 "FlangeFolder$Sheet" "turns" "[I", Cond.methodLink RX1 64 yX3_pressHit, Cond.instanceMethod yX3_pressHit, Cond.selects RX3 yX3_pressHit yX3_pressHit, Cond.code yX3_pressHit cX3_pressHit 14 (some .int), Cond.methodLink RX3 42 Lib.Math.min.name, Cond.static Lib.Math.min.name, Cond.initialized "java/lang/Math", Cond.code Lib.Math.min.name Lib.Math.min.code 2 (some .int), Cond.fieldLink RX3 55 "FlangeFolder$Sheet" "wide" "I", Cond.fieldLink RX3 58 "FlangeFolder$Sheet" "high" "I", Cond.methodLink RX3 51 yX3_reaches, Cond.static yX3_reaches, Cond.code yX3_reaches cX3_reaches 4 (some .boolean), Cond.methodLink RX1 68 yX1_crossesAt]
def wsX1_pathsFrom_r3 : List Cond := [Cond.instanceMethod yX1_crossesAt, Cond.selects RX1 yX1_crossesAt yX1_crossesAt, Cond.code yX1_crossesAt cX1_crossesAt 2 (some .boolean), Cond.fieldLink RX1 15 "FlangeFolder$Planner" "crossings" "[I", Cond.methodLink RX1 77 yX3_crossesItself, Cond.instanceMethod yX3_crossesItself, Cond.selects RX3 yX3_crossesItself yX3_crossesItself, Cond.code yX3_crossesItself cX3_crossesItself 7 (some .boolean), Cond.methodLink RX3 48 Lib.Math.max.name, Cond.static Lib.Math.max.name, Cond.code Lib.Math.max.name Lib.Math.max.code 2 (some .int)]
def wsX1_pathsFrom : List Cond := .code yX1_pathsFrom cX1_pathsFrom 6 (some .int) :: ((wsX1_pathsFrom_r1 ++ (wsX1_pathsFrom_r2 ++ wsX1_pathsFrom_r3)) ++ wsX10 ++ wsX40 ++ wsX30)
def wsX1_changeTo : List Cond := .code yX1_changeTo cX1_changeTo 2 (some .int) :: ([])
def wsX1_changesBy : List Cond := .code yX1_changesBy cX1_changesBy 5 (some .int) :: ([.fieldLink RX1 30 "FlangeFolder$Planner" "sheet" "LFlangeFolder$Sheet;", .fieldLink RX1 112 "FlangeFolder$Sheet" "tools" "[I", .fieldLink RX1 21 "FlangeFolder$Planner" "fewest" "[I", .methodLink RX1 115 yX1_changeTo, .static yX1_changeTo, .initialized RX1, .code yX1_changeTo cX1_changeTo 2 (some .int)] ++ wsX10 ++ wsX40)
def wsX1_fewestFrom : List Cond := .code yX1_fewestFrom cX1_fewestFrom 6 (some .int) :: ([.fieldLink RX1 9 "FlangeFolder$Planner" "freeBits" "[I", .fieldLink RX1 30 "FlangeFolder$Planner" "sheet" "LFlangeFolder$Sheet;", .fieldLink RX1 72 "FlangeFolder$Sheet" "bends" "I", .methodLink RX1 107 Lib.Math.min.name, .static Lib.Math.min.name, .initialized "java/lang/Math", .code Lib.Math.min.name Lib.Math.min.code 2 (some .int), .methodLink RX1 103 yX1_changesBy, .instanceMethod yX1_changesBy, .selects RX1 yX1_changesBy yX1_changesBy, .initialized RX1, .code yX1_changesBy cX1_changesBy 5 (some .int), .fieldLink RX1 112 "FlangeFolder$Sheet" "tools" "[I", .fieldLink RX1 21 "FlangeFolder$Planner" "fewest" "[I", .methodLink RX1 115 yX1_changeTo, .static yX1_changeTo, .code yX1_changeTo cX1_changeTo 2 (some .int)] ++ wsX10 ++ wsX40)
def wsX1_findFewest_r1 : List Cond := [Cond.fieldLink RX1 30 "FlangeFolder$Planner" "sheet" "LFlangeFolder$Sheet;", Cond.fieldLink RX1 21 "FlangeFolder$Planner" "fewest" "[I", Cond.fieldLink RX1 18 "FlangeFolder$Planner" "paths" "[I", Cond.methodLink RX1 81 yX4_allBends, Cond.instanceMethod yX4_allBends, Cond.selects RX4 yX4_allBends yX4_allBends, Cond.initialized RX4, Cond.code yX4_allBends cX4_allBends 1 (some .int), Cond.fieldLink RX4 24 "FlangeFolder$Sheet" "bends" "I", Cond.methodLink RX1 38 yJ7_fill_53178, Cond.static yJ7_fill_53178, Cond.initialized RJ7, Cond.code yJ7_fill_53178 cJ7_fill_53178 4 none, Cond.methodLink RX1 99 yX1_fewestFrom, Cond.instanceMethod yX1_fewestFrom, Cond.selects RX1 yX1_fewestFrom yX1_fewestFrom, Cond.initialized RX1, Cond.code yX1_fewestFrom cX1_fewestFrom 6 (some .int), Cond.fieldLink RX1 9 "FlangeFolder$Planner" "freeBits" "[I", Cond.fieldLink RX1 72 "FlangeFolder$Sheet" "bends" "I", Cond.methodLink RX1 107 Lib.Math.min.name, Cond.static Lib.Math.min.name, Cond.initialized "java/lang/Math", Cond.code Lib.Math.min.name Lib.Math.min.code 2 (some .int)]
def wsX1_findFewest_r2 : List Cond := [Cond.methodLink RX1 103 yX1_changesBy, Cond.instanceMethod yX1_changesBy, Cond.selects RX1 yX1_changesBy yX1_changesBy, Cond.code yX1_changesBy cX1_changesBy 5 (some .int), Cond.fieldLink RX1 112 "FlangeFolder$Sheet" "tools" "[I", Cond.methodLink RX1 115 yX1_changeTo, Cond.static yX1_changeTo, Cond.code yX1_changeTo cX1_changeTo 2 (some .int)]
def wsX1_findFewest : List Cond := .code yX1_findFewest cX1_findFewest 4 none :: ((wsX1_findFewest_r1 ++ wsX1_findFewest_r2) ++ wsX10 ++ wsX40)
def wsX1_leastWithin : List Cond := .code yX1_leastWithin cX1_leastWithin 6 (some .int) :: ([.fieldLink RX1 9 "FlangeFolder$Planner" "freeBits" "[I", .fieldLink RX1 30 "FlangeFolder$Planner" "sheet" "LFlangeFolder$Sheet;", .fieldLink RX1 72 "FlangeFolder$Sheet" "bends" "I", .methodLink RX1 103 yX1_changesBy, .instanceMethod yX1_changesBy, .selects RX1 yX1_changesBy yX1_changesBy, .initialized RX1, .code yX1_changesBy cX1_changesBy 5 (some .int), .fieldLink RX1 112 "FlangeFolder$Sheet" "tools" "[I", .fieldLink RX1 21 "FlangeFolder$Planner" "fewest" "[I", .methodLink RX1 115 yX1_changeTo, .static yX1_changeTo, .code yX1_changeTo cX1_changeTo 2 (some .int)] ++ wsX10 ++ wsX40)
def wsX1_walk : List Cond := .code yX1_walk cX1_walk 9 (some .int) :: ([.fieldLink RX1 30 "FlangeFolder$Planner" "sheet" "LFlangeFolder$Sheet;", .fieldLink RX1 72 "FlangeFolder$Sheet" "bends" "I", .fieldLink RX1 21 "FlangeFolder$Planner" "fewest" "[I", .fieldLink RX1 112 "FlangeFolder$Sheet" "tools" "[I", .methodLink RX1 118 yX1_leastWithin, .instanceMethod yX1_leastWithin, .selects RX1 yX1_leastWithin yX1_leastWithin, .initialized RX1, .code yX1_leastWithin cX1_leastWithin 6 (some .int), .fieldLink RX1 9 "FlangeFolder$Planner" "freeBits" "[I", .methodLink RX1 103 yX1_changesBy, .instanceMethod yX1_changesBy, .selects RX1 yX1_changesBy yX1_changesBy, .code yX1_changesBy cX1_changesBy 5 (some .int), .methodLink RX1 115 yX1_changeTo, .static yX1_changeTo, .code yX1_changeTo cX1_changeTo 2 (some .int)] ++ wsX10 ++ wsX40)
def wsX1_plan_r1 : List Cond := [Cond.fieldLink RX1 44 "FlangeFolder$Planner" "planned" "Z", Cond.fieldLink RX1 48 "FlangeFolder$Planner" "orderCount" "I", Cond.fieldLink RX1 24 "FlangeFolder$Planner" "firstOrder" "[I", Cond.fieldLink RX1 27 "FlangeFolder$Planner" "bestOrder" "[I", Cond.fieldLink RX1 52 "FlangeFolder$Planner" "firstChanges" "I", Cond.fieldLink RX1 55 "FlangeFolder$Planner" "bestChanges" "I", Cond.methodLink RX1 89 yX1_pathsFrom, Cond.instanceMethod yX1_pathsFrom, Cond.selects RX1 yX1_pathsFrom yX1_pathsFrom, Cond.initialized RX1, Cond.code yX1_pathsFrom cX1_pathsFrom 6 (some .int), Cond.fieldLink RX1 30 "FlangeFolder$Planner" "sheet" "LFlangeFolder$Sheet;", Cond.fieldLink RX1 18 "FlangeFolder$Planner" "paths" "[I", Cond.fieldLink RX1 72 "FlangeFolder$Sheet" "bends" "I", Cond.methodLink RX1 81 yX4_allBends, Cond.instanceMethod yX4_allBends, Cond.selects RX4 yX4_allBends yX4_allBends, Cond.initialized RX4, Cond.code yX4_allBends cX4_allBends 1 (some .int), Cond.fieldLink RX4 24 "FlangeFolder$Sheet" "bends" "I", Cond.methodLink RX1 38 yJ7_fill_53178, Cond.static yJ7_fill_53178, Cond.initialized RJ7, Cond.code yJ7_fill_53178 cJ7_fill_53178 4 none]
def wsX1_plan_r2 : List Cond := [Cond.methodLink RX1 85 yX1_freeAt, Cond.instanceMethod yX1_freeAt, Cond.selects RX1 yX1_freeAt yX1_freeAt, Cond.code yX1_freeAt cX1_freeAt 4 (some .int), Cond.fieldLink RX1 9 "FlangeFolder$Planner" "freeBits" "[I", Cond.fieldLink RX1 34 "FlangeFolder$Planner" "shape" "LFlangeFolder$Shape;", Cond.methodLink RX1 58 yX3_trace, Cond.instanceMethod yX3_trace, Cond.selects RX3 yX3_trace yX3_trace, Cond.initialized RX3, Cond.code yX3_trace cX3_trace 5 none, Cond.fieldLink RX3 25 "FlangeFolder$Sheet" "bends" "I", Cond.fieldLink RX3 21 "FlangeFolder$Shape" "flanges" "I", Cond.fieldLink RX3 18 "FlangeFolder$Shape" "headings" "[I", Cond.fieldLink RX3 9 "FlangeFolder$Shape" "x" "[I", Cond.fieldLink RX3 30 "FlangeFolder$Sheet" "lengths" "[I", Cond.fieldLink RX3 33 "FlangeFolder$Shape" "STEP_X" "[I", Cond.fieldLink RX3 15 "FlangeFolder$Shape" "y" "[I", Cond.fieldLink RX3 36 "FlangeFolder$Shape" "STEP_Y" "[I", Cond.fieldLink RX3 39 "FlangeFolder$Sheet" "turns" "[I", Cond.methodLink RX1 64 yX3_pressHit, Cond.instanceMethod yX3_pressHit, Cond.selects RX3 yX3_pressHit yX3_pressHit, Cond.code yX3_pressHit cX3_pressHit 14 (some .int)]
def wsX1_plan_r3 : List Cond := [Cond.methodLink RX3 42 Lib.Math.min.name, Cond.static Lib.Math.min.name, Cond.initialized "java/lang/Math", Cond.code Lib.Math.min.name Lib.Math.min.code 2 (some .int), Cond.fieldLink RX3 55 "FlangeFolder$Sheet" "wide" "I", Cond.fieldLink RX3 58 "FlangeFolder$Sheet" "high" "I", Cond.methodLink RX3 51 yX3_reaches, Cond.static yX3_reaches, Cond.code yX3_reaches cX3_reaches 4 (some .boolean), Cond.methodLink RX1 68 yX1_crossesAt, Cond.instanceMethod yX1_crossesAt, Cond.selects RX1 yX1_crossesAt yX1_crossesAt, Cond.code yX1_crossesAt cX1_crossesAt 2 (some .boolean), Cond.fieldLink RX1 15 "FlangeFolder$Planner" "crossings" "[I", Cond.methodLink RX1 77 yX3_crossesItself, Cond.instanceMethod yX3_crossesItself, Cond.selects RX3 yX3_crossesItself yX3_crossesItself, Cond.code yX3_crossesItself cX3_crossesItself 7 (some .boolean), Cond.methodLink RX3 48 Lib.Math.max.name, Cond.static Lib.Math.max.name, Cond.code Lib.Math.max.name Lib.Math.max.code 2 (some .int), Cond.methodLink RX1 92 yX1_findFewest, Cond.instanceMethod yX1_findFewest, Cond.selects RX1 yX1_findFewest yX1_findFewest]
def wsX1_plan_r4 : List Cond := [Cond.code yX1_findFewest cX1_findFewest 4 none, Cond.fieldLink RX1 21 "FlangeFolder$Planner" "fewest" "[I", Cond.methodLink RX1 99 yX1_fewestFrom, Cond.instanceMethod yX1_fewestFrom, Cond.selects RX1 yX1_fewestFrom yX1_fewestFrom, Cond.code yX1_fewestFrom cX1_fewestFrom 6 (some .int), Cond.methodLink RX1 107 Lib.Math.min.name, Cond.methodLink RX1 103 yX1_changesBy, Cond.instanceMethod yX1_changesBy, Cond.selects RX1 yX1_changesBy yX1_changesBy, Cond.code yX1_changesBy cX1_changesBy 5 (some .int), Cond.fieldLink RX1 112 "FlangeFolder$Sheet" "tools" "[I", Cond.methodLink RX1 115 yX1_changeTo, Cond.static yX1_changeTo, Cond.code yX1_changeTo cX1_changeTo 2 (some .int), Cond.methodLink RX1 95 yX1_walk, Cond.instanceMethod yX1_walk, Cond.selects RX1 yX1_walk yX1_walk, Cond.code yX1_walk cX1_walk 9 (some .int), Cond.methodLink RX1 118 yX1_leastWithin, Cond.instanceMethod yX1_leastWithin, Cond.selects RX1 yX1_leastWithin yX1_leastWithin, Cond.code yX1_leastWithin cX1_leastWithin 6 (some .int)]
def wsX1_plan : List Cond := .code yX1_plan cX1_plan 1 none :: ((wsX1_plan_r1 ++ (wsX1_plan_r2 ++ (wsX1_plan_r3 ++ wsX1_plan_r4))) ++ wsX10 ++ wsX40 ++ wsX30)
def wsX2_init : List Cond := .code yX2_init cX2_init 1 none :: ([.methodLink RX2 3 objectInit, .instanceMethod objectInit, .code objectInit ⟨#[0xb1]⟩ 1 none, .arrayClass .int, .fieldLink RX2 9 "FlangeFolder$Script" "bytes" "[I", .fieldLink RX2 15 "FlangeFolder$Script" "letters" "[I", .fieldLink RX2 18 "FlangeFolder$Script" "numbers" "[I", .fieldLink RX2 21 "FlangeFolder$Script" "size" "I", .fieldLink RX2 25 "FlangeFolder$Script" "orderCount" "I", .fieldLink RX2 28 "FlangeFolder$Script" "at" "I"] ++ wsX20)
def wsX2_append : List Cond := .code yX2_append cX2_append 2 none :: ([.fieldLink RX2 9 "FlangeFolder$Script" "bytes" "[I", .fieldLink RX2 21 "FlangeFolder$Script" "size" "I"] ++ wsX20)
def wsX2_numberOf : List Cond := .code yX2_numberOf cX2_numberOf 3 (some .int) :: ([.fieldLink RX2 18 "FlangeFolder$Script" "numbers" "[I"] ++ wsX20)
def wsX2_skipBlanks : List Cond := .code yX2_skipBlanks cX2_skipBlanks 1 none :: ([.fieldLink RX2 28 "FlangeFolder$Script" "at" "I", .fieldLink RX2 21 "FlangeFolder$Script" "size" "I", .fieldLink RX2 9 "FlangeFolder$Script" "bytes" "[I"] ++ wsX20)
def wsX2_numbersBehind : List Cond := .code yX2_numbersBehind cX2_numbersBehind 1 (some .int) :: ([])
def wsX2_isFigureAt : List Cond := .code yX2_isFigureAt cX2_isFigureAt 1 (some .boolean) :: ([.fieldLink RX2 28 "FlangeFolder$Script" "at" "I", .fieldLink RX2 21 "FlangeFolder$Script" "size" "I", .fieldLink RX2 9 "FlangeFolder$Script" "bytes" "[I"] ++ wsX20)
def wsX2_readNumber : List Cond := .code yX2_readNumber cX2_readNumber 3 (some .boolean) :: ([.fieldLink RX2 9 "FlangeFolder$Script" "bytes" "[I", .fieldLink RX2 28 "FlangeFolder$Script" "at" "I", .fieldLink RX2 18 "FlangeFolder$Script" "numbers" "[I", .fieldLink RX2 25 "FlangeFolder$Script" "orderCount" "I", .methodLink RX2 31 yX2_skipBlanks, .instanceMethod yX2_skipBlanks, .selects RX2 yX2_skipBlanks yX2_skipBlanks, .initialized RX2, .code yX2_skipBlanks cX2_skipBlanks 1 none, .fieldLink RX2 21 "FlangeFolder$Script" "size" "I", .methodLink RX2 46 yX2_isFigureAt, .instanceMethod yX2_isFigureAt, .selects RX2 yX2_isFigureAt yX2_isFigureAt, .code yX2_isFigureAt cX2_isFigureAt 1 (some .boolean)] ++ wsX20)
def wsX2_readOrder : List Cond := .code yX2_readOrder cX2_readOrder 4 (some .boolean) :: ([.fieldLink RX2 9 "FlangeFolder$Script" "bytes" "[I", .fieldLink RX2 28 "FlangeFolder$Script" "at" "I", .fieldLink RX2 15 "FlangeFolder$Script" "letters" "[I", .fieldLink RX2 25 "FlangeFolder$Script" "orderCount" "I", .fieldLink RX2 21 "FlangeFolder$Script" "size" "I", .methodLink RX2 38 yX2_numbersBehind, .static yX2_numbersBehind, .initialized RX2, .code yX2_numbersBehind cX2_numbersBehind 1 (some .int), .methodLink RX2 42 yX2_readNumber, .instanceMethod yX2_readNumber, .selects RX2 yX2_readNumber yX2_readNumber, .code yX2_readNumber cX2_readNumber 3 (some .boolean), .fieldLink RX2 18 "FlangeFolder$Script" "numbers" "[I", .methodLink RX2 31 yX2_skipBlanks, .instanceMethod yX2_skipBlanks, .selects RX2 yX2_skipBlanks yX2_skipBlanks, .code yX2_skipBlanks cX2_skipBlanks 1 none, .methodLink RX2 46 yX2_isFigureAt, .instanceMethod yX2_isFigureAt, .selects RX2 yX2_isFigureAt yX2_isFigureAt, .code yX2_isFigureAt cX2_isFigureAt 1 (some .boolean)] ++ wsX20)
def wsX2_read_r1 : List Cond := [Cond.fieldLink RX2 28 "FlangeFolder$Script" "at" "I", Cond.fieldLink RX2 25 "FlangeFolder$Script" "orderCount" "I", Cond.fieldLink RX2 21 "FlangeFolder$Script" "size" "I", Cond.methodLink RX2 31 yX2_skipBlanks, Cond.instanceMethod yX2_skipBlanks, Cond.selects RX2 yX2_skipBlanks yX2_skipBlanks, Cond.initialized RX2, Cond.code yX2_skipBlanks cX2_skipBlanks 1 none, Cond.fieldLink RX2 9 "FlangeFolder$Script" "bytes" "[I", Cond.methodLink RX2 34 yX2_readOrder, Cond.instanceMethod yX2_readOrder, Cond.selects RX2 yX2_readOrder yX2_readOrder, Cond.code yX2_readOrder cX2_readOrder 4 (some .boolean), Cond.fieldLink RX2 15 "FlangeFolder$Script" "letters" "[I", Cond.methodLink RX2 38 yX2_numbersBehind, Cond.static yX2_numbersBehind, Cond.code yX2_numbersBehind cX2_numbersBehind 1 (some .int), Cond.methodLink RX2 42 yX2_readNumber, Cond.instanceMethod yX2_readNumber, Cond.selects RX2 yX2_readNumber yX2_readNumber, Cond.code yX2_readNumber cX2_readNumber 3 (some .boolean), Cond.fieldLink RX2 18 "FlangeFolder$Script" "numbers" "[I", Cond.methodLink RX2 46 yX2_isFigureAt, Cond.instanceMethod yX2_isFigureAt]
def wsX2_read_r2 : List Cond := [Cond.selects RX2 yX2_isFigureAt yX2_isFigureAt, Cond.code yX2_isFigureAt cX2_isFigureAt 1 (some .boolean)]
def wsX2_read : List Cond := .code yX2_read cX2_read 1 (some .int) :: ((wsX2_read_r1 ++ wsX2_read_r2) ++ wsX20)
def wsX3_init : List Cond := .code yX3_init cX3_init 1 none :: ([.methodLink RX3 3 objectInit, .instanceMethod objectInit, .code objectInit ⟨#[0xb1]⟩ 1 none, .arrayClass .int, .fieldLink RX3 9 "FlangeFolder$Shape" "x" "[I", .fieldLink RX3 15 "FlangeFolder$Shape" "y" "[I", .fieldLink RX3 18 "FlangeFolder$Shape" "headings" "[I", .fieldLink RX3 21 "FlangeFolder$Shape" "flanges" "I"] ++ wsX30)
def wsX3_least : List Cond := .code yX3_least cX3_least 4 (some .int) :: ([.fieldLink RX3 21 "FlangeFolder$Shape" "flanges" "I", .methodLink RX3 42 Lib.Math.min.name, .static Lib.Math.min.name, .initialized "java/lang/Math", .code Lib.Math.min.name Lib.Math.min.code 2 (some .int)] ++ wsX30)
def wsX3_greatest : List Cond := .code yX3_greatest cX3_greatest 4 (some .int) :: ([.fieldLink RX3 21 "FlangeFolder$Shape" "flanges" "I", .methodLink RX3 48 Lib.Math.max.name, .static Lib.Math.max.name, .initialized "java/lang/Math", .code Lib.Math.max.name Lib.Math.max.code 2 (some .int)] ++ wsX30)
def wsX4_hasBend : List Cond := .code yX4_hasBend cX4_hasBend 2 (some .boolean) :: ([.fieldLink RX4 24 "FlangeFolder$Sheet" "bends" "I"] ++ wsX40)
def wsX4_isMade : List Cond := .code yX4_isMade cX4_isMade 2 (some .boolean) :: ([.fieldLink RX4 28 "FlangeFolder$Sheet" "made" "I"] ++ wsX40)
def wsX4_allLengths : List Cond := .code yX4_allLengths cX4_allLengths 3 (some .int) :: ([.fieldLink RX4 24 "FlangeFolder$Sheet" "bends" "I", .fieldLink RX4 9 "FlangeFolder$Sheet" "lengths" "[I"] ++ wsX40)
def wsX4_lengthLess : List Cond := .code yX4_lengthLess cX4_lengthLess 4 (some .int) :: ([.fieldLink RX4 24 "FlangeFolder$Sheet" "bends" "I", .fieldLink RX4 21 "FlangeFolder$Sheet" "taken" "[I", .fieldLink RX4 18 "FlangeFolder$Sheet" "tools" "[I", .methodLink RX4 43 yX4_allLengths, .instanceMethod yX4_allLengths, .selects RX4 yX4_allLengths yX4_allLengths, .initialized RX4, .code yX4_allLengths cX4_allLengths 3 (some .int), .fieldLink RX4 9 "FlangeFolder$Sheet" "lengths" "[I"] ++ wsX40)
def wsX5_init : List Cond := .code yX5_init cX5_init 3 none :: ([.methodLink RX5 3 objectInit, .instanceMethod objectInit, .code objectInit ⟨#[0xb1]⟩ 1 none, .fieldLink RX5 9 "FlangeFolder$Worker" "sheet" "LFlangeFolder$Sheet;", .fieldLink RX5 15 "FlangeFolder$Worker" "planner" "LFlangeFolder$Planner;"] ++ wsX50)
def wsX6_isWithin : List Cond := .code yX6_isWithin cX6_isWithin 3 (some .boolean) :: ([])
def wsX5_newStrip : List Cond := .code yX5_newStrip cX5_newStrip 3 (some .int) :: ([.fieldLink RX5 9 "FlangeFolder$Worker" "sheet" "LFlangeFolder$Sheet;", .fieldLink RX5 23 "FlangeFolder$Sheet" "bends" "I", .fieldLink RX5 29 "FlangeFolder$Sheet" "lengths" "[I", .fieldLink RX5 33 "FlangeFolder$Sheet" "made" "I", .fieldLink RX5 15 "FlangeFolder$Worker" "planner" "LFlangeFolder$Planner;", .static yX6_isWithin, .initialized RX6, .code yX6_isWithin cX6_isWithin 3 (some .boolean), .methodLink RX5 36 yX1_forget, .instanceMethod yX1_forget, .selects RX1 yX1_forget yX1_forget, .initialized RX1, .code yX1_forget cX1_forget 1 none, .fieldLink RX1 9 "FlangeFolder$Planner" "freeBits" "[I", .fieldLink RX1 15 "FlangeFolder$Planner" "crossings" "[I", .fieldLink RX1 44 "FlangeFolder$Planner" "planned" "Z", .methodLink RX1 38 yJ7_fill_53178, .static yJ7_fill_53178, .initialized RJ7, .code yJ7_fill_53178 cJ7_fill_53178 4 none] ++ wsX50 ++ wsX40 ++ wsX10)
def wsX5_addBend : List Cond := .code yX5_addBend cX5_addBend 6 (some .int) :: ([.fieldLink RX5 9 "FlangeFolder$Worker" "sheet" "LFlangeFolder$Sheet;", .fieldLink RX5 23 "FlangeFolder$Sheet" "bends" "I", .fieldLink RX5 41 "FlangeFolder$Sheet" "turns" "[I", .fieldLink RX5 44 "FlangeFolder$Sheet" "tools" "[I", .fieldLink RX5 29 "FlangeFolder$Sheet" "lengths" "[I", .fieldLink RX5 15 "FlangeFolder$Worker" "planner" "LFlangeFolder$Planner;", .static yX6_isWithin, .initialized RX6, .code yX6_isWithin cX6_isWithin 3 (some .boolean), .methodLink RX5 36 yX1_forget, .instanceMethod yX1_forget, .selects RX1 yX1_forget yX1_forget, .initialized RX1, .code yX1_forget cX1_forget 1 none, .fieldLink RX1 9 "FlangeFolder$Planner" "freeBits" "[I", .fieldLink RX1 15 "FlangeFolder$Planner" "crossings" "[I", .fieldLink RX1 44 "FlangeFolder$Planner" "planned" "Z", .methodLink RX1 38 yJ7_fill_53178, .static yJ7_fill_53178, .initialized RJ7, .code yJ7_fill_53178 cJ7_fill_53178 4 none] ++ wsX50 ++ wsX40 ++ wsX10)
def wsX5_setPress : List Cond := .code yX5_setPress cX5_setPress 4 (some .int) :: ([.fieldLink RX5 9 "FlangeFolder$Worker" "sheet" "LFlangeFolder$Sheet;", .fieldLink RX5 47 "FlangeFolder$Sheet" "wide" "I", .fieldLink RX5 50 "FlangeFolder$Sheet" "high" "I", .fieldLink RX5 15 "FlangeFolder$Worker" "planner" "LFlangeFolder$Planner;", .static yX6_isWithin, .initialized RX6, .code yX6_isWithin cX6_isWithin 3 (some .boolean), .methodLink RX5 36 yX1_forget, .instanceMethod yX1_forget, .selects RX1 yX1_forget yX1_forget, .initialized RX1, .code yX1_forget cX1_forget 1 none, .fieldLink RX1 9 "FlangeFolder$Planner" "freeBits" "[I", .fieldLink RX1 15 "FlangeFolder$Planner" "crossings" "[I", .fieldLink RX1 44 "FlangeFolder$Planner" "planned" "Z", .methodLink RX1 38 yJ7_fill_53178, .static yJ7_fill_53178, .initialized RJ7, .code yJ7_fill_53178 cJ7_fill_53178 4 none] ++ wsX50 ++ wsX40 ++ wsX10)
def wsX5_setTaken : List Cond := .code yX5_setTaken cX5_setTaken 4 (some .int) :: ([.fieldLink RX5 9 "FlangeFolder$Worker" "sheet" "LFlangeFolder$Sheet;", .fieldLink RX5 53 "FlangeFolder$Sheet" "taken" "[I", .static yX6_isWithin, .initialized RX6, .code yX6_isWithin cX6_isWithin 3 (some .boolean)] ++ wsX50 ++ wsX40)
def wsJ6_bitCount_0f7a4 : List Cond := .code yJ6_bitCount_0f7a4 cJ6_bitCount_0f7a4 1 (some .int) :: ([.constant RJ6 265 (1431655765), .constant RJ6 266 (858993459), .constant RJ6 267 (252645135)])
def wsX5_makeBend_r1 : List Cond := [Cond.fieldLink RX5 9 "FlangeFolder$Worker" "sheet" "LFlangeFolder$Sheet;", Cond.fieldLink RX5 15 "FlangeFolder$Worker" "planner" "LFlangeFolder$Planner;", Cond.fieldLink RX5 33 "FlangeFolder$Sheet" "made" "I", Cond.methodLink RX5 56 yX4_hasBend, Cond.instanceMethod yX4_hasBend, Cond.selects RX4 yX4_hasBend yX4_hasBend, Cond.initialized RX4, Cond.code yX4_hasBend cX4_hasBend 2 (some .boolean), Cond.fieldLink RX4 24 "FlangeFolder$Sheet" "bends" "I", Cond.methodLink RX5 60 yX4_isMade, Cond.instanceMethod yX4_isMade, Cond.selects RX4 yX4_isMade yX4_isMade, Cond.code yX4_isMade cX4_isMade 2 (some .boolean), Cond.fieldLink RX4 28 "FlangeFolder$Sheet" "made" "I", Cond.methodLink RX5 63 yX1_hitOf, Cond.instanceMethod yX1_hitOf, Cond.selects RX1 yX1_hitOf yX1_hitOf, Cond.initialized RX1, Cond.code yX1_hitOf cX1_hitOf 4 (some .int), Cond.fieldLink RX1 34 "FlangeFolder$Planner" "shape" "LFlangeFolder$Shape;", Cond.fieldLink RX1 30 "FlangeFolder$Planner" "sheet" "LFlangeFolder$Sheet;", Cond.methodLink RX1 58 yX3_trace, Cond.instanceMethod yX3_trace, Cond.selects RX3 yX3_trace yX3_trace]
def wsX5_makeBend_r2 : List Cond := [Cond.initialized RX3, Cond.code yX3_trace cX3_trace 5 none, Cond.fieldLink RX3 25 "FlangeFolder$Sheet" "bends" "I", Cond.fieldLink RX3 21 "FlangeFolder$Shape" "flanges" "I", Cond.fieldLink RX3 18 "FlangeFolder$Shape" "headings" "[I", Cond.fieldLink RX3 9 "FlangeFolder$Shape" "x" "[I", Cond.fieldLink RX3 30 "FlangeFolder$Sheet" "lengths" "[I", Cond.fieldLink RX3 33 "FlangeFolder$Shape" "STEP_X" "[I", Cond.fieldLink RX3 15 "FlangeFolder$Shape" "y" "[I", Cond.fieldLink RX3 36 "FlangeFolder$Shape" "STEP_Y" "[I", Cond.fieldLink RX3 39 "FlangeFolder$Sheet" "turns" "[I", Cond.methodLink RX1 64 yX3_pressHit, Cond.instanceMethod yX3_pressHit, Cond.selects RX3 yX3_pressHit yX3_pressHit, Cond.code yX3_pressHit cX3_pressHit 14 (some .int), Cond.methodLink RX3 42 Lib.Math.min.name, Cond.static Lib.Math.min.name, Cond.initialized "java/lang/Math", Cond.code Lib.Math.min.name Lib.Math.min.code 2 (some .int), Cond.fieldLink RX3 55 "FlangeFolder$Sheet" "wide" "I", Cond.fieldLink RX3 58 "FlangeFolder$Sheet" "high" "I", Cond.methodLink RX3 51 yX3_reaches, Cond.static yX3_reaches, Cond.code yX3_reaches cX3_reaches 4 (some .boolean)]
def wsX5_makeBend_r3 : List Cond := [Cond.methodLink RX1 68 yX1_crossesAt, Cond.instanceMethod yX1_crossesAt, Cond.selects RX1 yX1_crossesAt yX1_crossesAt, Cond.code yX1_crossesAt cX1_crossesAt 2 (some .boolean), Cond.fieldLink RX1 15 "FlangeFolder$Planner" "crossings" "[I", Cond.methodLink RX1 77 yX3_crossesItself, Cond.instanceMethod yX3_crossesItself, Cond.selects RX3 yX3_crossesItself yX3_crossesItself, Cond.code yX3_crossesItself cX3_crossesItself 7 (some .boolean), Cond.methodLink RX3 48 Lib.Math.max.name, Cond.static Lib.Math.max.name, Cond.code Lib.Math.max.name Lib.Math.max.code 2 (some .int), Cond.methodLink RX5 67 yJ6_bitCount_0f7a4, Cond.static yJ6_bitCount_0f7a4, Cond.initialized RJ6, Cond.code yJ6_bitCount_0f7a4 cJ6_bitCount_0f7a4 1 (some .int), Cond.constant RJ6 265 (1431655765), Cond.constant RJ6 266 (858993459), Cond.constant RJ6 267 (252645135)]
def wsX5_makeBend : List Cond := .code yX5_makeBend cX5_makeBend 2 (some .int) :: ((wsX5_makeBend_r1 ++ (wsX5_makeBend_r2 ++ wsX5_makeBend_r3)) ++ wsX50 ++ wsX40 ++ wsX10 ++ wsX30)
def wsX5_unmakeBend : List Cond := .code yX5_unmakeBend cX5_unmakeBend 2 (some .int) :: ([.fieldLink RX5 9 "FlangeFolder$Worker" "sheet" "LFlangeFolder$Sheet;", .fieldLink RX5 33 "FlangeFolder$Sheet" "made" "I", .methodLink RX5 56 yX4_hasBend, .instanceMethod yX4_hasBend, .selects RX4 yX4_hasBend yX4_hasBend, .initialized RX4, .code yX4_hasBend cX4_hasBend 2 (some .boolean), .fieldLink RX4 24 "FlangeFolder$Sheet" "bends" "I", .methodLink RX5 60 yX4_isMade, .instanceMethod yX4_isMade, .selects RX4 yX4_isMade yX4_isMade, .code yX4_isMade cX4_isMade 2 (some .boolean), .fieldLink RX4 28 "FlangeFolder$Sheet" "made" "I", .methodLink RX5 67 yJ6_bitCount_0f7a4, .static yJ6_bitCount_0f7a4, .initialized RJ6, .code yJ6_bitCount_0f7a4 cJ6_bitCount_0f7a4 1 (some .int), .constant RJ6 265 (1431655765), .constant RJ6 266 (858993459), .constant RJ6 267 (252645135)] ++ wsX50 ++ wsX40)
def wsX5_unmakeAll : List Cond := .code yX5_unmakeAll cX5_unmakeAll 2 (some .int) :: ([.fieldLink RX5 9 "FlangeFolder$Worker" "sheet" "LFlangeFolder$Sheet;", .fieldLink RX5 33 "FlangeFolder$Sheet" "made" "I", .methodLink RX5 67 yJ6_bitCount_0f7a4, .static yJ6_bitCount_0f7a4, .initialized RJ6, .code yJ6_bitCount_0f7a4 cJ6_bitCount_0f7a4 1 (some .int), .constant RJ6 265 (1431655765), .constant RJ6 266 (858993459), .constant RJ6 267 (252645135)] ++ wsX50 ++ wsX40)
def wsX5_wayOf : List Cond := .code yX5_wayOf cX5_wayOf 1 (some .int) :: ([])
def wsX5_perform_r1 : List Cond := [Cond.fieldLink RX5 78 "FlangeFolder$Script" "letters" "[I", Cond.methodLink RX5 73 yX2_numberOf, Cond.instanceMethod yX2_numberOf, Cond.selects RX2 yX2_numberOf yX2_numberOf, Cond.initialized RX2, Cond.code yX2_numberOf cX2_numberOf 3 (some .int), Cond.fieldLink RX2 18 "FlangeFolder$Script" "numbers" "[I", Cond.methodLink RX5 81 yX5_newStrip, Cond.instanceMethod yX5_newStrip, Cond.selects RX5 yX5_newStrip yX5_newStrip, Cond.initialized RX5, Cond.code yX5_newStrip cX5_newStrip 3 (some .int), Cond.fieldLink RX5 9 "FlangeFolder$Worker" "sheet" "LFlangeFolder$Sheet;", Cond.fieldLink RX5 23 "FlangeFolder$Sheet" "bends" "I", Cond.fieldLink RX5 29 "FlangeFolder$Sheet" "lengths" "[I", Cond.fieldLink RX5 33 "FlangeFolder$Sheet" "made" "I", Cond.fieldLink RX5 15 "FlangeFolder$Worker" "planner" "LFlangeFolder$Planner;", Cond.static yX6_isWithin, Cond.initialized RX6, Cond.code yX6_isWithin cX6_isWithin 3 (some .boolean), Cond.methodLink RX5 36 yX1_forget, Cond.instanceMethod yX1_forget, Cond.selects RX1 yX1_forget yX1_forget, Cond.initialized RX1]
def wsX5_perform_r2 : List Cond := [Cond.code yX1_forget cX1_forget 1 none, Cond.fieldLink RX1 9 "FlangeFolder$Planner" "freeBits" "[I", Cond.fieldLink RX1 15 "FlangeFolder$Planner" "crossings" "[I", Cond.fieldLink RX1 44 "FlangeFolder$Planner" "planned" "Z", Cond.methodLink RX1 38 yJ7_fill_53178, Cond.static yJ7_fill_53178, Cond.initialized RJ7, Cond.code yJ7_fill_53178 cJ7_fill_53178 4 none, Cond.methodLink RX5 84 yX5_wayOf, Cond.static yX5_wayOf, Cond.code yX5_wayOf cX5_wayOf 1 (some .int), Cond.methodLink RX5 87 yX5_addBend, Cond.instanceMethod yX5_addBend, Cond.selects RX5 yX5_addBend yX5_addBend, Cond.code yX5_addBend cX5_addBend 6 (some .int), Cond.fieldLink RX5 41 "FlangeFolder$Sheet" "turns" "[I", Cond.fieldLink RX5 44 "FlangeFolder$Sheet" "tools" "[I", Cond.methodLink RX5 91 yX5_makeBend, Cond.instanceMethod yX5_makeBend, Cond.selects RX5 yX5_makeBend yX5_makeBend, Cond.code yX5_makeBend cX5_makeBend 2 (some .int), Cond.methodLink RX5 56 yX4_hasBend, Cond.instanceMethod yX4_hasBend, Cond.selects RX4 yX4_hasBend yX4_hasBend]
def wsX5_perform_r3 : List Cond := [Cond.initialized RX4, Cond.code yX4_hasBend cX4_hasBend 2 (some .boolean), Cond.fieldLink RX4 24 "FlangeFolder$Sheet" "bends" "I", Cond.methodLink RX5 60 yX4_isMade, Cond.instanceMethod yX4_isMade, Cond.selects RX4 yX4_isMade yX4_isMade, Cond.code yX4_isMade cX4_isMade 2 (some .boolean), Cond.fieldLink RX4 28 "FlangeFolder$Sheet" "made" "I", Cond.methodLink RX5 63 yX1_hitOf, Cond.instanceMethod yX1_hitOf, Cond.selects RX1 yX1_hitOf yX1_hitOf, Cond.code yX1_hitOf cX1_hitOf 4 (some .int), Cond.fieldLink RX1 34 "FlangeFolder$Planner" "shape" "LFlangeFolder$Shape;", Cond.fieldLink RX1 30 "FlangeFolder$Planner" "sheet" "LFlangeFolder$Sheet;", Cond.methodLink RX1 58 yX3_trace, Cond.instanceMethod yX3_trace, Cond.selects RX3 yX3_trace yX3_trace, Cond.initialized RX3, Cond.code yX3_trace cX3_trace 5 none, Cond.fieldLink RX3 25 "FlangeFolder$Sheet" "bends" "I", Cond.fieldLink RX3 21 "FlangeFolder$Shape" "flanges" "I", Cond.fieldLink RX3 18 "FlangeFolder$Shape" "headings" "[I", Cond.fieldLink RX3 9 "FlangeFolder$Shape" "x" "[I", Cond.fieldLink RX3 30 "FlangeFolder$Sheet" "lengths" "[I"]
def wsX5_perform_r4 : List Cond := [Cond.fieldLink RX3 33 "FlangeFolder$Shape" "STEP_X" "[I", Cond.fieldLink RX3 15 "FlangeFolder$Shape" "y" "[I", Cond.fieldLink RX3 36 "FlangeFolder$Shape" "STEP_Y" "[I", Cond.fieldLink RX3 39 "FlangeFolder$Sheet" "turns" "[I", Cond.methodLink RX1 64 yX3_pressHit, Cond.instanceMethod yX3_pressHit, Cond.selects RX3 yX3_pressHit yX3_pressHit, Cond.code yX3_pressHit cX3_pressHit 14 (some .int), Cond.methodLink RX3 42 Lib.Math.min.name, Cond.static Lib.Math.min.name, Cond.initialized "java/lang/Math", Cond.code Lib.Math.min.name Lib.Math.min.code 2 (some .int), Cond.fieldLink RX3 55 "FlangeFolder$Sheet" "wide" "I", Cond.fieldLink RX3 58 "FlangeFolder$Sheet" "high" "I", Cond.methodLink RX3 51 yX3_reaches, Cond.static yX3_reaches, Cond.code yX3_reaches cX3_reaches 4 (some .boolean), Cond.methodLink RX1 68 yX1_crossesAt, Cond.instanceMethod yX1_crossesAt, Cond.selects RX1 yX1_crossesAt yX1_crossesAt, Cond.code yX1_crossesAt cX1_crossesAt 2 (some .boolean), Cond.methodLink RX1 77 yX3_crossesItself, Cond.instanceMethod yX3_crossesItself, Cond.selects RX3 yX3_crossesItself yX3_crossesItself]
def wsX5_perform_r5 : List Cond := [Cond.code yX3_crossesItself cX3_crossesItself 7 (some .boolean), Cond.methodLink RX3 48 Lib.Math.max.name, Cond.static Lib.Math.max.name, Cond.code Lib.Math.max.name Lib.Math.max.code 2 (some .int), Cond.methodLink RX5 67 yJ6_bitCount_0f7a4, Cond.static yJ6_bitCount_0f7a4, Cond.initialized RJ6, Cond.code yJ6_bitCount_0f7a4 cJ6_bitCount_0f7a4 1 (some .int), Cond.constant RJ6 265 (1431655765), Cond.constant RJ6 266 (858993459), Cond.constant RJ6 267 (252645135), Cond.methodLink RX5 94 yX5_unmakeBend, Cond.instanceMethod yX5_unmakeBend, Cond.selects RX5 yX5_unmakeBend yX5_unmakeBend, Cond.code yX5_unmakeBend cX5_unmakeBend 2 (some .int), Cond.methodLink RX5 97 yX5_setPress, Cond.instanceMethod yX5_setPress, Cond.selects RX5 yX5_setPress yX5_setPress, Cond.code yX5_setPress cX5_setPress 4 (some .int), Cond.fieldLink RX5 47 "FlangeFolder$Sheet" "wide" "I", Cond.fieldLink RX5 50 "FlangeFolder$Sheet" "high" "I", Cond.methodLink RX5 100 yX5_setTaken, Cond.instanceMethod yX5_setTaken, Cond.selects RX5 yX5_setTaken yX5_setTaken]
def wsX5_perform_r6 : List Cond := [Cond.code yX5_setTaken cX5_setTaken 4 (some .int), Cond.fieldLink RX5 53 "FlangeFolder$Sheet" "taken" "[I", Cond.methodLink RX5 103 yX5_unmakeAll, Cond.instanceMethod yX5_unmakeAll, Cond.selects RX5 yX5_unmakeAll yX5_unmakeAll, Cond.code yX5_unmakeAll cX5_unmakeAll 2 (some .int)]
def wsX5_perform : List Cond := .code yX5_perform cX5_perform 5 (some .int) :: ((wsX5_perform_r1 ++ (wsX5_perform_r2 ++ (wsX5_perform_r3 ++ (wsX5_perform_r4 ++ (wsX5_perform_r5 ++ wsX5_perform_r6))))) ++ wsX20 ++ wsX50 ++ wsX40 ++ wsX10 ++ wsX30)
def wsX6_init_r1 : List Cond := [Cond.methodLink RX6 3 objectInit, Cond.instanceMethod objectInit, Cond.code objectInit ⟨#[0xb1]⟩ 1 none, Cond.classLink RX6 9 RX4, Cond.instantiable RX4 8, Cond.initialized RX4, Cond.fieldLink RX6 12 "FlangeFolder" "sheet" "LFlangeFolder$Sheet;", Cond.classLink RX6 16 RX3, Cond.instantiable RX3 4, Cond.initialized RX3, Cond.fieldLink RX6 19 "FlangeFolder" "shape" "LFlangeFolder$Shape;", Cond.classLink RX6 23 RX1, Cond.instantiable RX1 12, Cond.initialized RX1, Cond.fieldLink RX6 28 "FlangeFolder" "planner" "LFlangeFolder$Planner;", Cond.classLink RX6 32 RX5, Cond.instantiable RX5 2, Cond.initialized RX5, Cond.fieldLink RX6 37 "FlangeFolder" "worker" "LFlangeFolder$Worker;", Cond.classLink RX6 41 RX0, Cond.instantiable RX0 3, Cond.initialized RX0, Cond.fieldLink RX6 44 "FlangeFolder" "history" "LFlangeFolder$History;", Cond.classLink RX6 48 RX2]
def wsX6_init_r2 : List Cond := [Cond.instantiable RX2 6, Cond.initialized RX2, Cond.fieldLink RX6 51 "FlangeFolder" "script" "LFlangeFolder$Script;", Cond.fieldLink RX6 55 "FlangeFolder" "badCalls" "I", Cond.fieldLink RX6 59 "FlangeFolder" "noCalls" "I", Cond.fieldLink RX6 62 "FlangeFolder" "fullCalls" "I", Cond.methodLink RX6 11 yX4_init, Cond.instanceMethod yX4_init, Cond.code yX4_init cX4_init 1 none, Cond.methodLink RX4 3 objectInit, Cond.arrayClass .int, Cond.fieldLink RX4 9 "FlangeFolder$Sheet" "lengths" "[I", Cond.fieldLink RX4 15 "FlangeFolder$Sheet" "turns" "[I", Cond.fieldLink RX4 18 "FlangeFolder$Sheet" "tools" "[I", Cond.fieldLink RX4 21 "FlangeFolder$Sheet" "taken" "[I", Cond.fieldLink RX4 24 "FlangeFolder$Sheet" "bends" "I", Cond.fieldLink RX4 28 "FlangeFolder$Sheet" "made" "I", Cond.fieldLink RX4 31 "FlangeFolder$Sheet" "wide" "I", Cond.fieldLink RX4 34 "FlangeFolder$Sheet" "high" "I", Cond.methodLink RX6 18 yX3_init, Cond.instanceMethod yX3_init, Cond.code yX3_init cX3_init 1 none, Cond.methodLink RX3 3 objectInit, Cond.fieldLink RX3 9 "FlangeFolder$Shape" "x" "[I"]
def wsX6_init_r3 : List Cond := [Cond.fieldLink RX3 15 "FlangeFolder$Shape" "y" "[I", Cond.fieldLink RX3 18 "FlangeFolder$Shape" "headings" "[I", Cond.fieldLink RX3 21 "FlangeFolder$Shape" "flanges" "I", Cond.methodLink RX6 25 yX1_init, Cond.instanceMethod yX1_init, Cond.code yX1_init cX1_init 3 none, Cond.methodLink RX1 3 objectInit, Cond.fieldLink RX1 9 "FlangeFolder$Planner" "freeBits" "[I", Cond.fieldLink RX1 15 "FlangeFolder$Planner" "crossings" "[I", Cond.fieldLink RX1 18 "FlangeFolder$Planner" "paths" "[I", Cond.fieldLink RX1 21 "FlangeFolder$Planner" "fewest" "[I", Cond.fieldLink RX1 24 "FlangeFolder$Planner" "firstOrder" "[I", Cond.fieldLink RX1 27 "FlangeFolder$Planner" "bestOrder" "[I", Cond.fieldLink RX1 30 "FlangeFolder$Planner" "sheet" "LFlangeFolder$Sheet;", Cond.fieldLink RX1 34 "FlangeFolder$Planner" "shape" "LFlangeFolder$Shape;", Cond.fieldLink RX1 44 "FlangeFolder$Planner" "planned" "Z", Cond.fieldLink RX1 48 "FlangeFolder$Planner" "orderCount" "I", Cond.fieldLink RX1 52 "FlangeFolder$Planner" "firstChanges" "I", Cond.fieldLink RX1 55 "FlangeFolder$Planner" "bestChanges" "I", Cond.methodLink RX1 38 yJ7_fill_53178, Cond.static yJ7_fill_53178, Cond.initialized RJ7, Cond.code yJ7_fill_53178 cJ7_fill_53178 4 none, Cond.methodLink RX6 34 yX5_init]
def wsX6_init_r4 : List Cond := [Cond.instanceMethod yX5_init, Cond.code yX5_init cX5_init 3 none, Cond.methodLink RX5 3 objectInit, Cond.fieldLink RX5 9 "FlangeFolder$Worker" "sheet" "LFlangeFolder$Sheet;", Cond.fieldLink RX5 15 "FlangeFolder$Worker" "planner" "LFlangeFolder$Planner;", Cond.methodLink RX6 43 yX0_init, Cond.instanceMethod yX0_init, Cond.code yX0_init cX0_init 2 none, Cond.methodLink RX0 3 objectInit, Cond.classLink RX0 11 RX4, Cond.fieldLink RX0 13 "FlangeFolder$History" "ring" "[LFlangeFolder$Sheet;", Cond.fieldLink RX0 18 "FlangeFolder$History" "next" "I", Cond.fieldLink RX0 22 "FlangeFolder$History" "kept" "I", Cond.methodLink RX0 17 yX4_init, Cond.methodLink RX6 50 yX2_init, Cond.instanceMethod yX2_init, Cond.code yX2_init cX2_init 1 none, Cond.methodLink RX2 3 objectInit, Cond.fieldLink RX2 9 "FlangeFolder$Script" "bytes" "[I", Cond.fieldLink RX2 15 "FlangeFolder$Script" "letters" "[I", Cond.fieldLink RX2 18 "FlangeFolder$Script" "numbers" "[I", Cond.fieldLink RX2 21 "FlangeFolder$Script" "size" "I", Cond.fieldLink RX2 25 "FlangeFolder$Script" "orderCount" "I", Cond.fieldLink RX2 28 "FlangeFolder$Script" "at" "I"]
def wsX6_init : List Cond := .code yX6_init cX6_init 1 none :: ((wsX6_init_r1 ++ (wsX6_init_r2 ++ (wsX6_init_r3 ++ wsX6_init_r4))) ++ wsX40 ++ wsX60 ++ wsX30 ++ wsX10 ++ wsX50 ++ wsX00 ++ wsX20)
def wsX6_isRefusal : List Cond := .code yX6_isRefusal cX6_isRefusal 1 (some .boolean) :: ([])
def wsX6_refused : List Cond := .code yX6_refused cX6_refused 2 (some .int) :: ([.fieldLink RX6 55 "FlangeFolder" "badCalls" "I", .fieldLink RX6 59 "FlangeFolder" "noCalls" "I", .fieldLink RX6 62 "FlangeFolder" "fullCalls" "I"] ++ wsX60)
def wsX6_settled : List Cond := .code yX6_settled cX6_settled 2 (some .int) :: ([.fieldLink RX6 44 "FlangeFolder" "history" "LFlangeFolder$History;", .methodLink RX6 209 yX6_isRefusal, .static yX6_isRefusal, .initialized RX6, .code yX6_isRefusal cX6_isRefusal 1 (some .boolean), .methodLink RX6 101 yX6_refused, .instanceMethod yX6_refused, .selects RX6 yX6_refused yX6_refused, .code yX6_refused cX6_refused 2 (some .int), .fieldLink RX6 55 "FlangeFolder" "badCalls" "I", .fieldLink RX6 59 "FlangeFolder" "noCalls" "I", .fieldLink RX6 62 "FlangeFolder" "fullCalls" "I", .methodLink RX6 218 yX0_keepStaged, .instanceMethod yX0_keepStaged, .selects RX0 yX0_keepStaged yX0_keepStaged, .initialized RX0, .code yX0_keepStaged cX0_keepStaged 1 none, .fieldLink RX0 18 "FlangeFolder$History" "next" "I", .fieldLink RX0 22 "FlangeFolder$History" "kept" "I", .methodLink RX0 29 Lib.Math.min.name, .static Lib.Math.min.name, .initialized "java/lang/Math", .code Lib.Math.min.name Lib.Math.min.code 2 (some .int)] ++ wsX60 ++ wsX00)
def wsX6_strip_r1 : List Cond := [Cond.fieldLink RX6 44 "FlangeFolder" "history" "LFlangeFolder$History;", Cond.fieldLink RX6 12 "FlangeFolder" "sheet" "LFlangeFolder$Sheet;", Cond.fieldLink RX6 37 "FlangeFolder" "worker" "LFlangeFolder$Worker;", Cond.methodLink RX6 65 yX0_stage, Cond.instanceMethod yX0_stage, Cond.selects RX0 yX0_stage yX0_stage, Cond.initialized RX0, Cond.code yX0_stage cX0_stage 2 none, Cond.fieldLink RX0 13 "FlangeFolder$History" "ring" "[LFlangeFolder$Sheet;", Cond.fieldLink RX0 18 "FlangeFolder$History" "next" "I", Cond.methodLink RX0 25 yX4_copyFrom, Cond.instanceMethod yX4_copyFrom, Cond.selects RX4 yX4_copyFrom yX4_copyFrom, Cond.initialized RX4, Cond.code yX4_copyFrom cX4_copyFrom 2 none, Cond.fieldLink RX4 9 "FlangeFolder$Sheet" "lengths" "[I", Cond.methodLink RX4 37 arraycopyName, Cond.native arraycopyName, Cond.static arraycopyName, Cond.initialized "java/lang/System", Cond.fieldLink RX4 15 "FlangeFolder$Sheet" "turns" "[I", Cond.fieldLink RX4 18 "FlangeFolder$Sheet" "tools" "[I", Cond.fieldLink RX4 21 "FlangeFolder$Sheet" "taken" "[I", Cond.fieldLink RX4 24 "FlangeFolder$Sheet" "bends" "I"]
def wsX6_strip_r2 : List Cond := [Cond.fieldLink RX4 28 "FlangeFolder$Sheet" "made" "I", Cond.fieldLink RX4 31 "FlangeFolder$Sheet" "wide" "I", Cond.fieldLink RX4 34 "FlangeFolder$Sheet" "high" "I", Cond.methodLink RX6 69 yX5_newStrip, Cond.instanceMethod yX5_newStrip, Cond.selects RX5 yX5_newStrip yX5_newStrip, Cond.initialized RX5, Cond.code yX5_newStrip cX5_newStrip 3 (some .int), Cond.fieldLink RX5 9 "FlangeFolder$Worker" "sheet" "LFlangeFolder$Sheet;", Cond.fieldLink RX5 23 "FlangeFolder$Sheet" "bends" "I", Cond.fieldLink RX5 29 "FlangeFolder$Sheet" "lengths" "[I", Cond.fieldLink RX5 33 "FlangeFolder$Sheet" "made" "I", Cond.fieldLink RX5 15 "FlangeFolder$Worker" "planner" "LFlangeFolder$Planner;", Cond.static yX6_isWithin, Cond.initialized RX6, Cond.code yX6_isWithin cX6_isWithin 3 (some .boolean), Cond.methodLink RX5 36 yX1_forget, Cond.instanceMethod yX1_forget, Cond.selects RX1 yX1_forget yX1_forget, Cond.initialized RX1, Cond.code yX1_forget cX1_forget 1 none, Cond.fieldLink RX1 9 "FlangeFolder$Planner" "freeBits" "[I", Cond.fieldLink RX1 15 "FlangeFolder$Planner" "crossings" "[I", Cond.fieldLink RX1 44 "FlangeFolder$Planner" "planned" "Z"]
def wsX6_strip_r3 : List Cond := [Cond.methodLink RX1 38 yJ7_fill_53178, Cond.static yJ7_fill_53178, Cond.initialized RJ7, Cond.code yJ7_fill_53178 cJ7_fill_53178 4 none, Cond.methodLink RX6 73 yX6_settled, Cond.instanceMethod yX6_settled, Cond.selects RX6 yX6_settled yX6_settled, Cond.code yX6_settled cX6_settled 2 (some .int), Cond.methodLink RX6 209 yX6_isRefusal, Cond.static yX6_isRefusal, Cond.code yX6_isRefusal cX6_isRefusal 1 (some .boolean), Cond.methodLink RX6 101 yX6_refused, Cond.instanceMethod yX6_refused, Cond.selects RX6 yX6_refused yX6_refused, Cond.code yX6_refused cX6_refused 2 (some .int), Cond.fieldLink RX6 55 "FlangeFolder" "badCalls" "I", Cond.fieldLink RX6 59 "FlangeFolder" "noCalls" "I", Cond.fieldLink RX6 62 "FlangeFolder" "fullCalls" "I", Cond.methodLink RX6 218 yX0_keepStaged, Cond.instanceMethod yX0_keepStaged, Cond.selects RX0 yX0_keepStaged yX0_keepStaged, Cond.code yX0_keepStaged cX0_keepStaged 1 none, Cond.fieldLink RX0 22 "FlangeFolder$History" "kept" "I", Cond.methodLink RX0 29 Lib.Math.min.name]
def wsX6_strip_r4 : List Cond := [Cond.static Lib.Math.min.name, Cond.initialized "java/lang/Math", Cond.code Lib.Math.min.name Lib.Math.min.code 2 (some .int)]
def wsX6_strip : List Cond := .code yX6_strip cX6_strip 2 (some .int) :: ((wsX6_strip_r1 ++ (wsX6_strip_r2 ++ (wsX6_strip_r3 ++ wsX6_strip_r4))) ++ wsX60 ++ wsX00 ++ wsX40 ++ wsX50 ++ wsX10)
def wsX6_bend_r1 : List Cond := [Cond.fieldLink RX6 44 "FlangeFolder" "history" "LFlangeFolder$History;", Cond.fieldLink RX6 12 "FlangeFolder" "sheet" "LFlangeFolder$Sheet;", Cond.fieldLink RX6 37 "FlangeFolder" "worker" "LFlangeFolder$Worker;", Cond.methodLink RX6 65 yX0_stage, Cond.instanceMethod yX0_stage, Cond.selects RX0 yX0_stage yX0_stage, Cond.initialized RX0, Cond.code yX0_stage cX0_stage 2 none, Cond.fieldLink RX0 13 "FlangeFolder$History" "ring" "[LFlangeFolder$Sheet;", Cond.fieldLink RX0 18 "FlangeFolder$History" "next" "I", Cond.methodLink RX0 25 yX4_copyFrom, Cond.instanceMethod yX4_copyFrom, Cond.selects RX4 yX4_copyFrom yX4_copyFrom, Cond.initialized RX4, Cond.code yX4_copyFrom cX4_copyFrom 2 none, Cond.fieldLink RX4 9 "FlangeFolder$Sheet" "lengths" "[I", Cond.methodLink RX4 37 arraycopyName, Cond.native arraycopyName, Cond.static arraycopyName, Cond.initialized "java/lang/System", Cond.fieldLink RX4 15 "FlangeFolder$Sheet" "turns" "[I", Cond.fieldLink RX4 18 "FlangeFolder$Sheet" "tools" "[I", Cond.fieldLink RX4 21 "FlangeFolder$Sheet" "taken" "[I", Cond.fieldLink RX4 24 "FlangeFolder$Sheet" "bends" "I"]
def wsX6_bend_r2 : List Cond := [Cond.fieldLink RX4 28 "FlangeFolder$Sheet" "made" "I", Cond.fieldLink RX4 31 "FlangeFolder$Sheet" "wide" "I", Cond.fieldLink RX4 34 "FlangeFolder$Sheet" "high" "I", Cond.methodLink RX6 76 yX5_addBend, Cond.instanceMethod yX5_addBend, Cond.selects RX5 yX5_addBend yX5_addBend, Cond.initialized RX5, Cond.code yX5_addBend cX5_addBend 6 (some .int), Cond.fieldLink RX5 9 "FlangeFolder$Worker" "sheet" "LFlangeFolder$Sheet;", Cond.fieldLink RX5 23 "FlangeFolder$Sheet" "bends" "I", Cond.fieldLink RX5 41 "FlangeFolder$Sheet" "turns" "[I", Cond.fieldLink RX5 44 "FlangeFolder$Sheet" "tools" "[I", Cond.fieldLink RX5 29 "FlangeFolder$Sheet" "lengths" "[I", Cond.fieldLink RX5 15 "FlangeFolder$Worker" "planner" "LFlangeFolder$Planner;", Cond.static yX6_isWithin, Cond.initialized RX6, Cond.code yX6_isWithin cX6_isWithin 3 (some .boolean), Cond.methodLink RX5 36 yX1_forget, Cond.instanceMethod yX1_forget, Cond.selects RX1 yX1_forget yX1_forget, Cond.initialized RX1, Cond.code yX1_forget cX1_forget 1 none, Cond.fieldLink RX1 9 "FlangeFolder$Planner" "freeBits" "[I", Cond.fieldLink RX1 15 "FlangeFolder$Planner" "crossings" "[I"]
def wsX6_bend_r3 : List Cond := [Cond.fieldLink RX1 44 "FlangeFolder$Planner" "planned" "Z", Cond.methodLink RX1 38 yJ7_fill_53178, Cond.static yJ7_fill_53178, Cond.initialized RJ7, Cond.code yJ7_fill_53178 cJ7_fill_53178 4 none, Cond.methodLink RX6 73 yX6_settled, Cond.instanceMethod yX6_settled, Cond.selects RX6 yX6_settled yX6_settled, Cond.code yX6_settled cX6_settled 2 (some .int), Cond.methodLink RX6 209 yX6_isRefusal, Cond.static yX6_isRefusal, Cond.code yX6_isRefusal cX6_isRefusal 1 (some .boolean), Cond.methodLink RX6 101 yX6_refused, Cond.instanceMethod yX6_refused, Cond.selects RX6 yX6_refused yX6_refused, Cond.code yX6_refused cX6_refused 2 (some .int), Cond.fieldLink RX6 55 "FlangeFolder" "badCalls" "I", Cond.fieldLink RX6 59 "FlangeFolder" "noCalls" "I", Cond.fieldLink RX6 62 "FlangeFolder" "fullCalls" "I", Cond.methodLink RX6 218 yX0_keepStaged, Cond.instanceMethod yX0_keepStaged, Cond.selects RX0 yX0_keepStaged yX0_keepStaged, Cond.code yX0_keepStaged cX0_keepStaged 1 none, Cond.fieldLink RX0 22 "FlangeFolder$History" "kept" "I"]
def wsX6_bend_r4 : List Cond := [Cond.methodLink RX0 29 Lib.Math.min.name, Cond.static Lib.Math.min.name, Cond.initialized "java/lang/Math", Cond.code Lib.Math.min.name Lib.Math.min.code 2 (some .int)]
def wsX6_bend : List Cond := .code yX6_bend cX6_bend 4 (some .int) :: ((wsX6_bend_r1 ++ (wsX6_bend_r2 ++ (wsX6_bend_r3 ++ wsX6_bend_r4))) ++ wsX60 ++ wsX00 ++ wsX40 ++ wsX50 ++ wsX10)
def wsX6_press_r1 : List Cond := [Cond.fieldLink RX6 44 "FlangeFolder" "history" "LFlangeFolder$History;", Cond.fieldLink RX6 12 "FlangeFolder" "sheet" "LFlangeFolder$Sheet;", Cond.fieldLink RX6 37 "FlangeFolder" "worker" "LFlangeFolder$Worker;", Cond.methodLink RX6 65 yX0_stage, Cond.instanceMethod yX0_stage, Cond.selects RX0 yX0_stage yX0_stage, Cond.initialized RX0, Cond.code yX0_stage cX0_stage 2 none, Cond.fieldLink RX0 13 "FlangeFolder$History" "ring" "[LFlangeFolder$Sheet;", Cond.fieldLink RX0 18 "FlangeFolder$History" "next" "I", Cond.methodLink RX0 25 yX4_copyFrom, Cond.instanceMethod yX4_copyFrom, Cond.selects RX4 yX4_copyFrom yX4_copyFrom, Cond.initialized RX4, Cond.code yX4_copyFrom cX4_copyFrom 2 none, Cond.fieldLink RX4 9 "FlangeFolder$Sheet" "lengths" "[I", Cond.methodLink RX4 37 arraycopyName, Cond.native arraycopyName, Cond.static arraycopyName, Cond.initialized "java/lang/System", Cond.fieldLink RX4 15 "FlangeFolder$Sheet" "turns" "[I", Cond.fieldLink RX4 18 "FlangeFolder$Sheet" "tools" "[I", Cond.fieldLink RX4 21 "FlangeFolder$Sheet" "taken" "[I", Cond.fieldLink RX4 24 "FlangeFolder$Sheet" "bends" "I"]
def wsX6_press_r2 : List Cond := [Cond.fieldLink RX4 28 "FlangeFolder$Sheet" "made" "I", Cond.fieldLink RX4 31 "FlangeFolder$Sheet" "wide" "I", Cond.fieldLink RX4 34 "FlangeFolder$Sheet" "high" "I", Cond.methodLink RX6 80 yX5_setPress, Cond.instanceMethod yX5_setPress, Cond.selects RX5 yX5_setPress yX5_setPress, Cond.initialized RX5, Cond.code yX5_setPress cX5_setPress 4 (some .int), Cond.fieldLink RX5 9 "FlangeFolder$Worker" "sheet" "LFlangeFolder$Sheet;", Cond.fieldLink RX5 47 "FlangeFolder$Sheet" "wide" "I", Cond.fieldLink RX5 50 "FlangeFolder$Sheet" "high" "I", Cond.fieldLink RX5 15 "FlangeFolder$Worker" "planner" "LFlangeFolder$Planner;", Cond.static yX6_isWithin, Cond.initialized RX6, Cond.code yX6_isWithin cX6_isWithin 3 (some .boolean), Cond.methodLink RX5 36 yX1_forget, Cond.instanceMethod yX1_forget, Cond.selects RX1 yX1_forget yX1_forget, Cond.initialized RX1, Cond.code yX1_forget cX1_forget 1 none, Cond.fieldLink RX1 9 "FlangeFolder$Planner" "freeBits" "[I", Cond.fieldLink RX1 15 "FlangeFolder$Planner" "crossings" "[I", Cond.fieldLink RX1 44 "FlangeFolder$Planner" "planned" "Z", Cond.methodLink RX1 38 yJ7_fill_53178]
def wsX6_press_r3 : List Cond := [Cond.static yJ7_fill_53178, Cond.initialized RJ7, Cond.code yJ7_fill_53178 cJ7_fill_53178 4 none, Cond.methodLink RX6 73 yX6_settled, Cond.instanceMethod yX6_settled, Cond.selects RX6 yX6_settled yX6_settled, Cond.code yX6_settled cX6_settled 2 (some .int), Cond.methodLink RX6 209 yX6_isRefusal, Cond.static yX6_isRefusal, Cond.code yX6_isRefusal cX6_isRefusal 1 (some .boolean), Cond.methodLink RX6 101 yX6_refused, Cond.instanceMethod yX6_refused, Cond.selects RX6 yX6_refused yX6_refused, Cond.code yX6_refused cX6_refused 2 (some .int), Cond.fieldLink RX6 55 "FlangeFolder" "badCalls" "I", Cond.fieldLink RX6 59 "FlangeFolder" "noCalls" "I", Cond.fieldLink RX6 62 "FlangeFolder" "fullCalls" "I", Cond.methodLink RX6 218 yX0_keepStaged, Cond.instanceMethod yX0_keepStaged, Cond.selects RX0 yX0_keepStaged yX0_keepStaged, Cond.code yX0_keepStaged cX0_keepStaged 1 none, Cond.fieldLink RX0 22 "FlangeFolder$History" "kept" "I", Cond.methodLink RX0 29 Lib.Math.min.name, Cond.static Lib.Math.min.name]
def wsX6_press_r4 : List Cond := [Cond.initialized "java/lang/Math", Cond.code Lib.Math.min.name Lib.Math.min.code 2 (some .int)]
def wsX6_press : List Cond := .code yX6_press cX6_press 3 (some .int) :: ((wsX6_press_r1 ++ (wsX6_press_r2 ++ (wsX6_press_r3 ++ wsX6_press_r4))) ++ wsX60 ++ wsX00 ++ wsX40 ++ wsX50 ++ wsX10)
def wsX6_takes_r1 : List Cond := [Cond.fieldLink RX6 44 "FlangeFolder" "history" "LFlangeFolder$History;", Cond.fieldLink RX6 12 "FlangeFolder" "sheet" "LFlangeFolder$Sheet;", Cond.fieldLink RX6 37 "FlangeFolder" "worker" "LFlangeFolder$Worker;", Cond.methodLink RX6 65 yX0_stage, Cond.instanceMethod yX0_stage, Cond.selects RX0 yX0_stage yX0_stage, Cond.initialized RX0, Cond.code yX0_stage cX0_stage 2 none, Cond.fieldLink RX0 13 "FlangeFolder$History" "ring" "[LFlangeFolder$Sheet;", Cond.fieldLink RX0 18 "FlangeFolder$History" "next" "I", Cond.methodLink RX0 25 yX4_copyFrom, Cond.instanceMethod yX4_copyFrom, Cond.selects RX4 yX4_copyFrom yX4_copyFrom, Cond.initialized RX4, Cond.code yX4_copyFrom cX4_copyFrom 2 none, Cond.fieldLink RX4 9 "FlangeFolder$Sheet" "lengths" "[I", Cond.methodLink RX4 37 arraycopyName, Cond.native arraycopyName, Cond.static arraycopyName, Cond.initialized "java/lang/System", Cond.fieldLink RX4 15 "FlangeFolder$Sheet" "turns" "[I", Cond.fieldLink RX4 18 "FlangeFolder$Sheet" "tools" "[I", Cond.fieldLink RX4 21 "FlangeFolder$Sheet" "taken" "[I", Cond.fieldLink RX4 24 "FlangeFolder$Sheet" "bends" "I"]
def wsX6_takes_r2 : List Cond := [Cond.fieldLink RX4 28 "FlangeFolder$Sheet" "made" "I", Cond.fieldLink RX4 31 "FlangeFolder$Sheet" "wide" "I", Cond.fieldLink RX4 34 "FlangeFolder$Sheet" "high" "I", Cond.methodLink RX6 84 yX5_setTaken, Cond.instanceMethod yX5_setTaken, Cond.selects RX5 yX5_setTaken yX5_setTaken, Cond.initialized RX5, Cond.code yX5_setTaken cX5_setTaken 4 (some .int), Cond.fieldLink RX5 9 "FlangeFolder$Worker" "sheet" "LFlangeFolder$Sheet;", Cond.fieldLink RX5 53 "FlangeFolder$Sheet" "taken" "[I", Cond.static yX6_isWithin, Cond.initialized RX6, Cond.code yX6_isWithin cX6_isWithin 3 (some .boolean), Cond.methodLink RX6 73 yX6_settled, Cond.instanceMethod yX6_settled, Cond.selects RX6 yX6_settled yX6_settled, Cond.code yX6_settled cX6_settled 2 (some .int), Cond.methodLink RX6 209 yX6_isRefusal, Cond.static yX6_isRefusal, Cond.code yX6_isRefusal cX6_isRefusal 1 (some .boolean), Cond.methodLink RX6 101 yX6_refused, Cond.instanceMethod yX6_refused, Cond.selects RX6 yX6_refused yX6_refused, Cond.code yX6_refused cX6_refused 2 (some .int)]
def wsX6_takes_r3 : List Cond := [Cond.fieldLink RX6 55 "FlangeFolder" "badCalls" "I", Cond.fieldLink RX6 59 "FlangeFolder" "noCalls" "I", Cond.fieldLink RX6 62 "FlangeFolder" "fullCalls" "I", Cond.methodLink RX6 218 yX0_keepStaged, Cond.instanceMethod yX0_keepStaged, Cond.selects RX0 yX0_keepStaged yX0_keepStaged, Cond.code yX0_keepStaged cX0_keepStaged 1 none, Cond.fieldLink RX0 22 "FlangeFolder$History" "kept" "I", Cond.methodLink RX0 29 Lib.Math.min.name, Cond.static Lib.Math.min.name, Cond.initialized "java/lang/Math", Cond.code Lib.Math.min.name Lib.Math.min.code 2 (some .int)]
def wsX6_takes : List Cond := .code yX6_takes cX6_takes 3 (some .int) :: ((wsX6_takes_r1 ++ (wsX6_takes_r2 ++ wsX6_takes_r3)) ++ wsX60 ++ wsX00 ++ wsX40 ++ wsX50)
def wsX6_makes_r1 : List Cond := [Cond.fieldLink RX6 44 "FlangeFolder" "history" "LFlangeFolder$History;", Cond.fieldLink RX6 12 "FlangeFolder" "sheet" "LFlangeFolder$Sheet;", Cond.fieldLink RX6 37 "FlangeFolder" "worker" "LFlangeFolder$Worker;", Cond.methodLink RX6 65 yX0_stage, Cond.instanceMethod yX0_stage, Cond.selects RX0 yX0_stage yX0_stage, Cond.initialized RX0, Cond.code yX0_stage cX0_stage 2 none, Cond.fieldLink RX0 13 "FlangeFolder$History" "ring" "[LFlangeFolder$Sheet;", Cond.fieldLink RX0 18 "FlangeFolder$History" "next" "I", Cond.methodLink RX0 25 yX4_copyFrom, Cond.instanceMethod yX4_copyFrom, Cond.selects RX4 yX4_copyFrom yX4_copyFrom, Cond.initialized RX4, Cond.code yX4_copyFrom cX4_copyFrom 2 none, Cond.fieldLink RX4 9 "FlangeFolder$Sheet" "lengths" "[I", Cond.methodLink RX4 37 arraycopyName, Cond.native arraycopyName, Cond.static arraycopyName, Cond.initialized "java/lang/System", Cond.fieldLink RX4 15 "FlangeFolder$Sheet" "turns" "[I", Cond.fieldLink RX4 18 "FlangeFolder$Sheet" "tools" "[I", Cond.fieldLink RX4 21 "FlangeFolder$Sheet" "taken" "[I", Cond.fieldLink RX4 24 "FlangeFolder$Sheet" "bends" "I"]
def wsX6_makes_r2 : List Cond := [Cond.fieldLink RX4 28 "FlangeFolder$Sheet" "made" "I", Cond.fieldLink RX4 31 "FlangeFolder$Sheet" "wide" "I", Cond.fieldLink RX4 34 "FlangeFolder$Sheet" "high" "I", Cond.methodLink RX6 87 yX5_makeBend, Cond.instanceMethod yX5_makeBend, Cond.selects RX5 yX5_makeBend yX5_makeBend, Cond.initialized RX5, Cond.code yX5_makeBend cX5_makeBend 2 (some .int), Cond.fieldLink RX5 9 "FlangeFolder$Worker" "sheet" "LFlangeFolder$Sheet;", Cond.fieldLink RX5 15 "FlangeFolder$Worker" "planner" "LFlangeFolder$Planner;", Cond.fieldLink RX5 33 "FlangeFolder$Sheet" "made" "I", Cond.methodLink RX5 56 yX4_hasBend, Cond.instanceMethod yX4_hasBend, Cond.selects RX4 yX4_hasBend yX4_hasBend, Cond.code yX4_hasBend cX4_hasBend 2 (some .boolean), Cond.methodLink RX5 60 yX4_isMade, Cond.instanceMethod yX4_isMade, Cond.selects RX4 yX4_isMade yX4_isMade, Cond.code yX4_isMade cX4_isMade 2 (some .boolean), Cond.methodLink RX5 63 yX1_hitOf, Cond.instanceMethod yX1_hitOf, Cond.selects RX1 yX1_hitOf yX1_hitOf, Cond.initialized RX1, Cond.code yX1_hitOf cX1_hitOf 4 (some .int)]
def wsX6_makes_r3 : List Cond := [Cond.fieldLink RX1 34 "FlangeFolder$Planner" "shape" "LFlangeFolder$Shape;", Cond.fieldLink RX1 30 "FlangeFolder$Planner" "sheet" "LFlangeFolder$Sheet;", Cond.methodLink RX1 58 yX3_trace, Cond.instanceMethod yX3_trace, Cond.selects RX3 yX3_trace yX3_trace, Cond.initialized RX3, Cond.code yX3_trace cX3_trace 5 none, Cond.fieldLink RX3 25 "FlangeFolder$Sheet" "bends" "I", Cond.fieldLink RX3 21 "FlangeFolder$Shape" "flanges" "I", Cond.fieldLink RX3 18 "FlangeFolder$Shape" "headings" "[I", Cond.fieldLink RX3 9 "FlangeFolder$Shape" "x" "[I", Cond.fieldLink RX3 30 "FlangeFolder$Sheet" "lengths" "[I", Cond.fieldLink RX3 33 "FlangeFolder$Shape" "STEP_X" "[I", Cond.fieldLink RX3 15 "FlangeFolder$Shape" "y" "[I", Cond.fieldLink RX3 36 "FlangeFolder$Shape" "STEP_Y" "[I", Cond.fieldLink RX3 39 "FlangeFolder$Sheet" "turns" "[I", Cond.methodLink RX1 64 yX3_pressHit, Cond.instanceMethod yX3_pressHit, Cond.selects RX3 yX3_pressHit yX3_pressHit, Cond.code yX3_pressHit cX3_pressHit 14 (some .int), Cond.methodLink RX3 42 Lib.Math.min.name, Cond.static Lib.Math.min.name, Cond.initialized "java/lang/Math", Cond.code Lib.Math.min.name Lib.Math.min.code 2 (some .int)]
def wsX6_makes_r4 : List Cond := [Cond.fieldLink RX3 55 "FlangeFolder$Sheet" "wide" "I", Cond.fieldLink RX3 58 "FlangeFolder$Sheet" "high" "I", Cond.methodLink RX3 51 yX3_reaches, Cond.static yX3_reaches, Cond.code yX3_reaches cX3_reaches 4 (some .boolean), Cond.methodLink RX1 68 yX1_crossesAt, Cond.instanceMethod yX1_crossesAt, Cond.selects RX1 yX1_crossesAt yX1_crossesAt, Cond.code yX1_crossesAt cX1_crossesAt 2 (some .boolean), Cond.fieldLink RX1 15 "FlangeFolder$Planner" "crossings" "[I", Cond.methodLink RX1 77 yX3_crossesItself, Cond.instanceMethod yX3_crossesItself, Cond.selects RX3 yX3_crossesItself yX3_crossesItself, Cond.code yX3_crossesItself cX3_crossesItself 7 (some .boolean), Cond.methodLink RX3 48 Lib.Math.max.name, Cond.static Lib.Math.max.name, Cond.code Lib.Math.max.name Lib.Math.max.code 2 (some .int), Cond.methodLink RX5 67 yJ6_bitCount_0f7a4, Cond.static yJ6_bitCount_0f7a4, Cond.initialized RJ6, Cond.code yJ6_bitCount_0f7a4 cJ6_bitCount_0f7a4 1 (some .int), Cond.constant RJ6 265 (1431655765), Cond.constant RJ6 266 (858993459), Cond.constant RJ6 267 (252645135)]
def wsX6_makes_r5 : List Cond := [Cond.methodLink RX6 73 yX6_settled, Cond.instanceMethod yX6_settled, Cond.selects RX6 yX6_settled yX6_settled, Cond.initialized RX6, Cond.code yX6_settled cX6_settled 2 (some .int), Cond.methodLink RX6 209 yX6_isRefusal, Cond.static yX6_isRefusal, Cond.code yX6_isRefusal cX6_isRefusal 1 (some .boolean), Cond.methodLink RX6 101 yX6_refused, Cond.instanceMethod yX6_refused, Cond.selects RX6 yX6_refused yX6_refused, Cond.code yX6_refused cX6_refused 2 (some .int), Cond.fieldLink RX6 55 "FlangeFolder" "badCalls" "I", Cond.fieldLink RX6 59 "FlangeFolder" "noCalls" "I", Cond.fieldLink RX6 62 "FlangeFolder" "fullCalls" "I", Cond.methodLink RX6 218 yX0_keepStaged, Cond.instanceMethod yX0_keepStaged, Cond.selects RX0 yX0_keepStaged yX0_keepStaged, Cond.code yX0_keepStaged cX0_keepStaged 1 none, Cond.fieldLink RX0 22 "FlangeFolder$History" "kept" "I", Cond.methodLink RX0 29 Lib.Math.min.name]
def wsX6_makes : List Cond := .code yX6_makes cX6_makes 2 (some .int) :: ((wsX6_makes_r1 ++ (wsX6_makes_r2 ++ (wsX6_makes_r3 ++ (wsX6_makes_r4 ++ wsX6_makes_r5)))) ++ wsX60 ++ wsX00 ++ wsX40 ++ wsX50 ++ wsX10 ++ wsX30)
def wsX6_unmakes_r1 : List Cond := [Cond.fieldLink RX6 44 "FlangeFolder" "history" "LFlangeFolder$History;", Cond.fieldLink RX6 12 "FlangeFolder" "sheet" "LFlangeFolder$Sheet;", Cond.fieldLink RX6 37 "FlangeFolder" "worker" "LFlangeFolder$Worker;", Cond.methodLink RX6 65 yX0_stage, Cond.instanceMethod yX0_stage, Cond.selects RX0 yX0_stage yX0_stage, Cond.initialized RX0, Cond.code yX0_stage cX0_stage 2 none, Cond.fieldLink RX0 13 "FlangeFolder$History" "ring" "[LFlangeFolder$Sheet;", Cond.fieldLink RX0 18 "FlangeFolder$History" "next" "I", Cond.methodLink RX0 25 yX4_copyFrom, Cond.instanceMethod yX4_copyFrom, Cond.selects RX4 yX4_copyFrom yX4_copyFrom, Cond.initialized RX4, Cond.code yX4_copyFrom cX4_copyFrom 2 none, Cond.fieldLink RX4 9 "FlangeFolder$Sheet" "lengths" "[I", Cond.methodLink RX4 37 arraycopyName, Cond.native arraycopyName, Cond.static arraycopyName, Cond.initialized "java/lang/System", Cond.fieldLink RX4 15 "FlangeFolder$Sheet" "turns" "[I", Cond.fieldLink RX4 18 "FlangeFolder$Sheet" "tools" "[I", Cond.fieldLink RX4 21 "FlangeFolder$Sheet" "taken" "[I", Cond.fieldLink RX4 24 "FlangeFolder$Sheet" "bends" "I"]
def wsX6_unmakes_r2 : List Cond := [Cond.fieldLink RX4 28 "FlangeFolder$Sheet" "made" "I", Cond.fieldLink RX4 31 "FlangeFolder$Sheet" "wide" "I", Cond.fieldLink RX4 34 "FlangeFolder$Sheet" "high" "I", Cond.methodLink RX6 90 yX5_unmakeBend, Cond.instanceMethod yX5_unmakeBend, Cond.selects RX5 yX5_unmakeBend yX5_unmakeBend, Cond.initialized RX5, Cond.code yX5_unmakeBend cX5_unmakeBend 2 (some .int), Cond.fieldLink RX5 9 "FlangeFolder$Worker" "sheet" "LFlangeFolder$Sheet;", Cond.fieldLink RX5 33 "FlangeFolder$Sheet" "made" "I", Cond.methodLink RX5 56 yX4_hasBend, Cond.instanceMethod yX4_hasBend, Cond.selects RX4 yX4_hasBend yX4_hasBend, Cond.code yX4_hasBend cX4_hasBend 2 (some .boolean), Cond.methodLink RX5 60 yX4_isMade, Cond.instanceMethod yX4_isMade, Cond.selects RX4 yX4_isMade yX4_isMade, Cond.code yX4_isMade cX4_isMade 2 (some .boolean), Cond.methodLink RX5 67 yJ6_bitCount_0f7a4, Cond.static yJ6_bitCount_0f7a4, Cond.initialized RJ6, Cond.code yJ6_bitCount_0f7a4 cJ6_bitCount_0f7a4 1 (some .int), Cond.constant RJ6 265 (1431655765), Cond.constant RJ6 266 (858993459)]
def wsX6_unmakes_r3 : List Cond := [Cond.constant RJ6 267 (252645135), Cond.methodLink RX6 73 yX6_settled, Cond.instanceMethod yX6_settled, Cond.selects RX6 yX6_settled yX6_settled, Cond.initialized RX6, Cond.code yX6_settled cX6_settled 2 (some .int), Cond.methodLink RX6 209 yX6_isRefusal, Cond.static yX6_isRefusal, Cond.code yX6_isRefusal cX6_isRefusal 1 (some .boolean), Cond.methodLink RX6 101 yX6_refused, Cond.instanceMethod yX6_refused, Cond.selects RX6 yX6_refused yX6_refused, Cond.code yX6_refused cX6_refused 2 (some .int), Cond.fieldLink RX6 55 "FlangeFolder" "badCalls" "I", Cond.fieldLink RX6 59 "FlangeFolder" "noCalls" "I", Cond.fieldLink RX6 62 "FlangeFolder" "fullCalls" "I", Cond.methodLink RX6 218 yX0_keepStaged, Cond.instanceMethod yX0_keepStaged, Cond.selects RX0 yX0_keepStaged yX0_keepStaged, Cond.code yX0_keepStaged cX0_keepStaged 1 none, Cond.fieldLink RX0 22 "FlangeFolder$History" "kept" "I", Cond.methodLink RX0 29 Lib.Math.min.name, Cond.static Lib.Math.min.name, Cond.initialized "java/lang/Math"]
def wsX6_unmakes_r4 : List Cond := [Cond.code Lib.Math.min.name Lib.Math.min.code 2 (some .int)]
def wsX6_unmakes : List Cond := .code yX6_unmakes cX6_unmakes 2 (some .int) :: ((wsX6_unmakes_r1 ++ (wsX6_unmakes_r2 ++ (wsX6_unmakes_r3 ++ wsX6_unmakes_r4))) ++ wsX60 ++ wsX00 ++ wsX40 ++ wsX50)
def wsX6_again_r1 : List Cond := [Cond.fieldLink RX6 44 "FlangeFolder" "history" "LFlangeFolder$History;", Cond.fieldLink RX6 12 "FlangeFolder" "sheet" "LFlangeFolder$Sheet;", Cond.fieldLink RX6 37 "FlangeFolder" "worker" "LFlangeFolder$Worker;", Cond.methodLink RX6 65 yX0_stage, Cond.instanceMethod yX0_stage, Cond.selects RX0 yX0_stage yX0_stage, Cond.initialized RX0, Cond.code yX0_stage cX0_stage 2 none, Cond.fieldLink RX0 13 "FlangeFolder$History" "ring" "[LFlangeFolder$Sheet;", Cond.fieldLink RX0 18 "FlangeFolder$History" "next" "I", Cond.methodLink RX0 25 yX4_copyFrom, Cond.instanceMethod yX4_copyFrom, Cond.selects RX4 yX4_copyFrom yX4_copyFrom, Cond.initialized RX4, Cond.code yX4_copyFrom cX4_copyFrom 2 none, Cond.fieldLink RX4 9 "FlangeFolder$Sheet" "lengths" "[I", Cond.methodLink RX4 37 arraycopyName, Cond.native arraycopyName, Cond.static arraycopyName, Cond.initialized "java/lang/System", Cond.fieldLink RX4 15 "FlangeFolder$Sheet" "turns" "[I", Cond.fieldLink RX4 18 "FlangeFolder$Sheet" "tools" "[I", Cond.fieldLink RX4 21 "FlangeFolder$Sheet" "taken" "[I", Cond.fieldLink RX4 24 "FlangeFolder$Sheet" "bends" "I"]
def wsX6_again_r2 : List Cond := [Cond.fieldLink RX4 28 "FlangeFolder$Sheet" "made" "I", Cond.fieldLink RX4 31 "FlangeFolder$Sheet" "wide" "I", Cond.fieldLink RX4 34 "FlangeFolder$Sheet" "high" "I", Cond.methodLink RX6 93 yX5_unmakeAll, Cond.instanceMethod yX5_unmakeAll, Cond.selects RX5 yX5_unmakeAll yX5_unmakeAll, Cond.initialized RX5, Cond.code yX5_unmakeAll cX5_unmakeAll 2 (some .int), Cond.fieldLink RX5 9 "FlangeFolder$Worker" "sheet" "LFlangeFolder$Sheet;", Cond.fieldLink RX5 33 "FlangeFolder$Sheet" "made" "I", Cond.methodLink RX5 67 yJ6_bitCount_0f7a4, Cond.static yJ6_bitCount_0f7a4, Cond.initialized RJ6, Cond.code yJ6_bitCount_0f7a4 cJ6_bitCount_0f7a4 1 (some .int), Cond.constant RJ6 265 (1431655765), Cond.constant RJ6 266 (858993459), Cond.constant RJ6 267 (252645135), Cond.methodLink RX6 73 yX6_settled, Cond.instanceMethod yX6_settled, Cond.selects RX6 yX6_settled yX6_settled, Cond.initialized RX6, Cond.code yX6_settled cX6_settled 2 (some .int), Cond.methodLink RX6 209 yX6_isRefusal, Cond.static yX6_isRefusal]
def wsX6_again_r3 : List Cond := [Cond.code yX6_isRefusal cX6_isRefusal 1 (some .boolean), Cond.methodLink RX6 101 yX6_refused, Cond.instanceMethod yX6_refused, Cond.selects RX6 yX6_refused yX6_refused, Cond.code yX6_refused cX6_refused 2 (some .int), Cond.fieldLink RX6 55 "FlangeFolder" "badCalls" "I", Cond.fieldLink RX6 59 "FlangeFolder" "noCalls" "I", Cond.fieldLink RX6 62 "FlangeFolder" "fullCalls" "I", Cond.methodLink RX6 218 yX0_keepStaged, Cond.instanceMethod yX0_keepStaged, Cond.selects RX0 yX0_keepStaged yX0_keepStaged, Cond.code yX0_keepStaged cX0_keepStaged 1 none, Cond.fieldLink RX0 22 "FlangeFolder$History" "kept" "I", Cond.methodLink RX0 29 Lib.Math.min.name, Cond.static Lib.Math.min.name, Cond.initialized "java/lang/Math", Cond.code Lib.Math.min.name Lib.Math.min.code 2 (some .int)]
def wsX6_again : List Cond := .code yX6_again cX6_again 1 (some .int) :: ((wsX6_again_r1 ++ (wsX6_again_r2 ++ wsX6_again_r3)) ++ wsX60 ++ wsX00 ++ wsX40 ++ wsX50)
def wsX6_of : List Cond := .code yX6_of cX6_of 3 (some .int) :: ([.fieldLink RX6 12 "FlangeFolder" "sheet" "LFlangeFolder$Sheet;", .fieldLink RX6 104 "FlangeFolder$Sheet" "lengths" "[I", .fieldLink RX6 108 "FlangeFolder$Sheet" "turns" "[I", .fieldLink RX6 111 "FlangeFolder$Sheet" "tools" "[I", .methodLink RX6 97 yX4_hasBend, .instanceMethod yX4_hasBend, .selects RX4 yX4_hasBend yX4_hasBend, .initialized RX4, .code yX4_hasBend cX4_hasBend 2 (some .boolean), .fieldLink RX4 24 "FlangeFolder$Sheet" "bends" "I", .methodLink RX6 101 yX6_refused, .instanceMethod yX6_refused, .selects RX6 yX6_refused yX6_refused, .initialized RX6, .code yX6_refused cX6_refused 2 (some .int), .fieldLink RX6 55 "FlangeFolder" "badCalls" "I", .fieldLink RX6 59 "FlangeFolder" "noCalls" "I", .fieldLink RX6 62 "FlangeFolder" "fullCalls" "I", .methodLink RX6 114 yX4_isMade, .instanceMethod yX4_isMade, .selects RX4 yX4_isMade yX4_isMade, .code yX4_isMade cX4_isMade 2 (some .boolean), .fieldLink RX4 28 "FlangeFolder$Sheet" "made" "I"] ++ wsX60 ++ wsX40)
def wsX6_joint_r1 : List Cond := [Cond.fieldLink RX6 12 "FlangeFolder" "sheet" "LFlangeFolder$Sheet;", Cond.fieldLink RX6 117 "FlangeFolder$Sheet" "bends" "I", Cond.fieldLink RX6 19 "FlangeFolder" "shape" "LFlangeFolder$Shape;", Cond.fieldLink RX6 124 "FlangeFolder$Sheet" "made" "I", Cond.fieldLink RX6 131 "FlangeFolder$Shape" "x" "[I", Cond.fieldLink RX6 134 "FlangeFolder$Shape" "y" "[I", Cond.methodLink RX6 120 yX6_isWithin, Cond.static yX6_isWithin, Cond.initialized RX6, Cond.code yX6_isWithin cX6_isWithin 3 (some .boolean), Cond.methodLink RX6 101 yX6_refused, Cond.instanceMethod yX6_refused, Cond.selects RX6 yX6_refused yX6_refused, Cond.code yX6_refused cX6_refused 2 (some .int), Cond.fieldLink RX6 55 "FlangeFolder" "badCalls" "I", Cond.fieldLink RX6 59 "FlangeFolder" "noCalls" "I", Cond.fieldLink RX6 62 "FlangeFolder" "fullCalls" "I", Cond.methodLink RX6 127 yX3_trace, Cond.instanceMethod yX3_trace, Cond.selects RX3 yX3_trace yX3_trace, Cond.initialized RX3, Cond.code yX3_trace cX3_trace 5 none, Cond.fieldLink RX3 25 "FlangeFolder$Sheet" "bends" "I", Cond.fieldLink RX3 21 "FlangeFolder$Shape" "flanges" "I"]
def wsX6_joint_r2 : List Cond := [Cond.fieldLink RX3 18 "FlangeFolder$Shape" "headings" "[I", Cond.fieldLink RX3 9 "FlangeFolder$Shape" "x" "[I", Cond.fieldLink RX3 30 "FlangeFolder$Sheet" "lengths" "[I", Cond.fieldLink RX3 33 "FlangeFolder$Shape" "STEP_X" "[I", Cond.fieldLink RX3 15 "FlangeFolder$Shape" "y" "[I", Cond.fieldLink RX3 36 "FlangeFolder$Shape" "STEP_Y" "[I", Cond.fieldLink RX3 39 "FlangeFolder$Sheet" "turns" "[I"]
def wsX6_joint : List Cond := .code yX6_joint cX6_joint 3 (some .int) :: ((wsX6_joint_r1 ++ wsX6_joint_r2) ++ wsX60 ++ wsX40 ++ wsX30)
def wsX6_box_r1 : List Cond := [Cond.fieldLink RX6 19 "FlangeFolder" "shape" "LFlangeFolder$Shape;", Cond.fieldLink RX6 12 "FlangeFolder" "sheet" "LFlangeFolder$Sheet;", Cond.fieldLink RX6 124 "FlangeFolder$Sheet" "made" "I", Cond.fieldLink RX6 131 "FlangeFolder$Shape" "x" "[I", Cond.fieldLink RX6 134 "FlangeFolder$Shape" "y" "[I", Cond.methodLink RX6 120 yX6_isWithin, Cond.static yX6_isWithin, Cond.initialized RX6, Cond.code yX6_isWithin cX6_isWithin 3 (some .boolean), Cond.methodLink RX6 101 yX6_refused, Cond.instanceMethod yX6_refused, Cond.selects RX6 yX6_refused yX6_refused, Cond.code yX6_refused cX6_refused 2 (some .int), Cond.fieldLink RX6 55 "FlangeFolder" "badCalls" "I", Cond.fieldLink RX6 59 "FlangeFolder" "noCalls" "I", Cond.fieldLink RX6 62 "FlangeFolder" "fullCalls" "I", Cond.methodLink RX6 127 yX3_trace, Cond.instanceMethod yX3_trace, Cond.selects RX3 yX3_trace yX3_trace, Cond.initialized RX3, Cond.code yX3_trace cX3_trace 5 none, Cond.fieldLink RX3 25 "FlangeFolder$Sheet" "bends" "I", Cond.fieldLink RX3 21 "FlangeFolder$Shape" "flanges" "I", Cond.fieldLink RX3 18 "FlangeFolder$Shape" "headings" "[I"]
def wsX6_box_r2 : List Cond := [Cond.fieldLink RX3 9 "FlangeFolder$Shape" "x" "[I", Cond.fieldLink RX3 30 "FlangeFolder$Sheet" "lengths" "[I", Cond.fieldLink RX3 33 "FlangeFolder$Shape" "STEP_X" "[I", Cond.fieldLink RX3 15 "FlangeFolder$Shape" "y" "[I", Cond.fieldLink RX3 36 "FlangeFolder$Shape" "STEP_Y" "[I", Cond.fieldLink RX3 39 "FlangeFolder$Sheet" "turns" "[I", Cond.methodLink RX6 137 yX3_least, Cond.instanceMethod yX3_least, Cond.selects RX3 yX3_least yX3_least, Cond.code yX3_least cX3_least 4 (some .int), Cond.methodLink RX3 42 Lib.Math.min.name, Cond.static Lib.Math.min.name, Cond.initialized "java/lang/Math", Cond.code Lib.Math.min.name Lib.Math.min.code 2 (some .int), Cond.methodLink RX6 141 yX3_greatest, Cond.instanceMethod yX3_greatest, Cond.selects RX3 yX3_greatest yX3_greatest, Cond.code yX3_greatest cX3_greatest 4 (some .int), Cond.methodLink RX3 48 Lib.Math.max.name, Cond.static Lib.Math.max.name, Cond.code Lib.Math.max.name Lib.Math.max.code 2 (some .int)]
def wsX6_box : List Cond := .code yX6_box cX6_box 3 (some .int) :: ((wsX6_box_r1 ++ wsX6_box_r2) ++ wsX60 ++ wsX40 ++ wsX30)
def wsX6_hits_r1 : List Cond := [Cond.fieldLink RX6 12 "FlangeFolder" "sheet" "LFlangeFolder$Sheet;", Cond.fieldLink RX6 28 "FlangeFolder" "planner" "LFlangeFolder$Planner;", Cond.fieldLink RX6 124 "FlangeFolder$Sheet" "made" "I", Cond.methodLink RX6 97 yX4_hasBend, Cond.instanceMethod yX4_hasBend, Cond.selects RX4 yX4_hasBend yX4_hasBend, Cond.initialized RX4, Cond.code yX4_hasBend cX4_hasBend 2 (some .boolean), Cond.fieldLink RX4 24 "FlangeFolder$Sheet" "bends" "I", Cond.methodLink RX6 101 yX6_refused, Cond.instanceMethod yX6_refused, Cond.selects RX6 yX6_refused yX6_refused, Cond.initialized RX6, Cond.code yX6_refused cX6_refused 2 (some .int), Cond.fieldLink RX6 55 "FlangeFolder" "badCalls" "I", Cond.fieldLink RX6 59 "FlangeFolder" "noCalls" "I", Cond.fieldLink RX6 62 "FlangeFolder" "fullCalls" "I", Cond.methodLink RX6 114 yX4_isMade, Cond.instanceMethod yX4_isMade, Cond.selects RX4 yX4_isMade yX4_isMade, Cond.code yX4_isMade cX4_isMade 2 (some .boolean), Cond.fieldLink RX4 28 "FlangeFolder$Sheet" "made" "I", Cond.methodLink RX6 144 yX1_hitOf, Cond.instanceMethod yX1_hitOf]
def wsX6_hits_r2 : List Cond := [Cond.selects RX1 yX1_hitOf yX1_hitOf, Cond.initialized RX1, Cond.code yX1_hitOf cX1_hitOf 4 (some .int), Cond.fieldLink RX1 34 "FlangeFolder$Planner" "shape" "LFlangeFolder$Shape;", Cond.fieldLink RX1 30 "FlangeFolder$Planner" "sheet" "LFlangeFolder$Sheet;", Cond.methodLink RX1 58 yX3_trace, Cond.instanceMethod yX3_trace, Cond.selects RX3 yX3_trace yX3_trace, Cond.initialized RX3, Cond.code yX3_trace cX3_trace 5 none, Cond.fieldLink RX3 25 "FlangeFolder$Sheet" "bends" "I", Cond.fieldLink RX3 21 "FlangeFolder$Shape" "flanges" "I", Cond.fieldLink RX3 18 "FlangeFolder$Shape" "headings" "[I", Cond.fieldLink RX3 9 "FlangeFolder$Shape" "x" "[I", Cond.fieldLink RX3 30 "FlangeFolder$Sheet" "lengths" "[I", Cond.fieldLink RX3 33 "FlangeFolder$Shape" "STEP_X" "[I", Cond.fieldLink RX3 15 "FlangeFolder$Shape" "y" "[I", Cond.fieldLink RX3 36 "FlangeFolder$Shape" "STEP_Y" "[I", Cond.fieldLink RX3 39 "FlangeFolder$Sheet" "turns" "[I", Cond.methodLink RX1 64 yX3_pressHit, Cond.instanceMethod yX3_pressHit, Cond.selects RX3 yX3_pressHit yX3_pressHit, Cond.code yX3_pressHit cX3_pressHit 14 (some .int), Cond.methodLink RX3 42 Lib.Math.min.name]
def wsX6_hits_r3 : List Cond := [Cond.static Lib.Math.min.name, Cond.initialized "java/lang/Math", Cond.code Lib.Math.min.name Lib.Math.min.code 2 (some .int), Cond.fieldLink RX3 55 "FlangeFolder$Sheet" "wide" "I", Cond.fieldLink RX3 58 "FlangeFolder$Sheet" "high" "I", Cond.methodLink RX3 51 yX3_reaches, Cond.static yX3_reaches, Cond.code yX3_reaches cX3_reaches 4 (some .boolean), Cond.methodLink RX1 68 yX1_crossesAt, Cond.instanceMethod yX1_crossesAt, Cond.selects RX1 yX1_crossesAt yX1_crossesAt, Cond.code yX1_crossesAt cX1_crossesAt 2 (some .boolean), Cond.fieldLink RX1 15 "FlangeFolder$Planner" "crossings" "[I", Cond.methodLink RX1 77 yX3_crossesItself, Cond.instanceMethod yX3_crossesItself, Cond.selects RX3 yX3_crossesItself yX3_crossesItself, Cond.code yX3_crossesItself cX3_crossesItself 7 (some .boolean), Cond.methodLink RX3 48 Lib.Math.max.name, Cond.static Lib.Math.max.name, Cond.code Lib.Math.max.name Lib.Math.max.code 2 (some .int)]
def wsX6_hits : List Cond := .code yX6_hits cX6_hits 2 (some .int) :: ((wsX6_hits_r1 ++ (wsX6_hits_r2 ++ wsX6_hits_r3)) ++ wsX60 ++ wsX40 ++ wsX10 ++ wsX30)
def wsX6_free_r1 : List Cond := [Cond.fieldLink RX6 28 "FlangeFolder" "planner" "LFlangeFolder$Planner;", Cond.fieldLink RX6 12 "FlangeFolder" "sheet" "LFlangeFolder$Sheet;", Cond.fieldLink RX6 124 "FlangeFolder$Sheet" "made" "I", Cond.methodLink RX6 147 yX1_freeAt, Cond.instanceMethod yX1_freeAt, Cond.selects RX1 yX1_freeAt yX1_freeAt, Cond.initialized RX1, Cond.code yX1_freeAt cX1_freeAt 4 (some .int), Cond.fieldLink RX1 9 "FlangeFolder$Planner" "freeBits" "[I", Cond.fieldLink RX1 34 "FlangeFolder$Planner" "shape" "LFlangeFolder$Shape;", Cond.fieldLink RX1 30 "FlangeFolder$Planner" "sheet" "LFlangeFolder$Sheet;", Cond.fieldLink RX1 72 "FlangeFolder$Sheet" "bends" "I", Cond.methodLink RX1 58 yX3_trace, Cond.instanceMethod yX3_trace, Cond.selects RX3 yX3_trace yX3_trace, Cond.initialized RX3, Cond.code yX3_trace cX3_trace 5 none, Cond.fieldLink RX3 25 "FlangeFolder$Sheet" "bends" "I", Cond.fieldLink RX3 21 "FlangeFolder$Shape" "flanges" "I", Cond.fieldLink RX3 18 "FlangeFolder$Shape" "headings" "[I", Cond.fieldLink RX3 9 "FlangeFolder$Shape" "x" "[I", Cond.fieldLink RX3 30 "FlangeFolder$Sheet" "lengths" "[I", Cond.fieldLink RX3 33 "FlangeFolder$Shape" "STEP_X" "[I", Cond.fieldLink RX3 15 "FlangeFolder$Shape" "y" "[I"]
def wsX6_free_r2 : List Cond := [Cond.fieldLink RX3 36 "FlangeFolder$Shape" "STEP_Y" "[I", Cond.fieldLink RX3 39 "FlangeFolder$Sheet" "turns" "[I", Cond.methodLink RX1 64 yX3_pressHit, Cond.instanceMethod yX3_pressHit, Cond.selects RX3 yX3_pressHit yX3_pressHit, Cond.code yX3_pressHit cX3_pressHit 14 (some .int), Cond.methodLink RX3 42 Lib.Math.min.name, Cond.static Lib.Math.min.name, Cond.initialized "java/lang/Math", Cond.code Lib.Math.min.name Lib.Math.min.code 2 (some .int), Cond.fieldLink RX3 55 "FlangeFolder$Sheet" "wide" "I", Cond.fieldLink RX3 58 "FlangeFolder$Sheet" "high" "I", Cond.methodLink RX3 51 yX3_reaches, Cond.static yX3_reaches, Cond.code yX3_reaches cX3_reaches 4 (some .boolean), Cond.methodLink RX1 68 yX1_crossesAt, Cond.instanceMethod yX1_crossesAt, Cond.selects RX1 yX1_crossesAt yX1_crossesAt, Cond.code yX1_crossesAt cX1_crossesAt 2 (some .boolean), Cond.fieldLink RX1 15 "FlangeFolder$Planner" "crossings" "[I", Cond.methodLink RX1 77 yX3_crossesItself, Cond.instanceMethod yX3_crossesItself, Cond.selects RX3 yX3_crossesItself yX3_crossesItself, Cond.code yX3_crossesItself cX3_crossesItself 7 (some .boolean)]
def wsX6_free_r3 : List Cond := [Cond.methodLink RX3 48 Lib.Math.max.name, Cond.static Lib.Math.max.name, Cond.code Lib.Math.max.name Lib.Math.max.code 2 (some .int)]
def wsX6_free : List Cond := .code yX6_free cX6_free 1 (some .int) :: ((wsX6_free_r1 ++ (wsX6_free_r2 ++ wsX6_free_r3)) ++ wsX60 ++ wsX40 ++ wsX10 ++ wsX30)
def wsX6_orders_r1 : List Cond := [Cond.fieldLink RX6 28 "FlangeFolder" "planner" "LFlangeFolder$Planner;", Cond.fieldLink RX6 153 "FlangeFolder$Planner" "orderCount" "I", Cond.methodLink RX6 150 yX1_plan, Cond.instanceMethod yX1_plan, Cond.selects RX1 yX1_plan yX1_plan, Cond.initialized RX1, Cond.code yX1_plan cX1_plan 1 none, Cond.fieldLink RX1 44 "FlangeFolder$Planner" "planned" "Z", Cond.fieldLink RX1 48 "FlangeFolder$Planner" "orderCount" "I", Cond.fieldLink RX1 24 "FlangeFolder$Planner" "firstOrder" "[I", Cond.fieldLink RX1 27 "FlangeFolder$Planner" "bestOrder" "[I", Cond.fieldLink RX1 52 "FlangeFolder$Planner" "firstChanges" "I", Cond.fieldLink RX1 55 "FlangeFolder$Planner" "bestChanges" "I", Cond.methodLink RX1 89 yX1_pathsFrom, Cond.instanceMethod yX1_pathsFrom, Cond.selects RX1 yX1_pathsFrom yX1_pathsFrom, Cond.code yX1_pathsFrom cX1_pathsFrom 6 (some .int), Cond.fieldLink RX1 30 "FlangeFolder$Planner" "sheet" "LFlangeFolder$Sheet;", Cond.fieldLink RX1 18 "FlangeFolder$Planner" "paths" "[I", Cond.fieldLink RX1 72 "FlangeFolder$Sheet" "bends" "I", Cond.methodLink RX1 81 yX4_allBends, Cond.instanceMethod yX4_allBends, Cond.selects RX4 yX4_allBends yX4_allBends, Cond.initialized RX4]
def wsX6_orders_r2 : List Cond := [Cond.code yX4_allBends cX4_allBends 1 (some .int), Cond.fieldLink RX4 24 "FlangeFolder$Sheet" "bends" "I", Cond.methodLink RX1 38 yJ7_fill_53178, Cond.static yJ7_fill_53178, Cond.initialized RJ7, Cond.code yJ7_fill_53178 cJ7_fill_53178 4 none, Cond.methodLink RX1 85 yX1_freeAt, Cond.instanceMethod yX1_freeAt, Cond.selects RX1 yX1_freeAt yX1_freeAt, Cond.code yX1_freeAt cX1_freeAt 4 (some .int), Cond.fieldLink RX1 9 "FlangeFolder$Planner" "freeBits" "[I", Cond.fieldLink RX1 34 "FlangeFolder$Planner" "shape" "LFlangeFolder$Shape;", Cond.methodLink RX1 58 yX3_trace, Cond.instanceMethod yX3_trace, Cond.selects RX3 yX3_trace yX3_trace, Cond.initialized RX3, Cond.code yX3_trace cX3_trace 5 none, Cond.fieldLink RX3 25 "FlangeFolder$Sheet" "bends" "I", Cond.fieldLink RX3 21 "FlangeFolder$Shape" "flanges" "I", Cond.fieldLink RX3 18 "FlangeFolder$Shape" "headings" "[I", Cond.fieldLink RX3 9 "FlangeFolder$Shape" "x" "[I", Cond.fieldLink RX3 30 "FlangeFolder$Sheet" "lengths" "[I", Cond.fieldLink RX3 33 "FlangeFolder$Shape" "STEP_X" "[I", Cond.fieldLink RX3 15 "FlangeFolder$Shape" "y" "[I"]
def wsX6_orders_r3 : List Cond := [Cond.fieldLink RX3 36 "FlangeFolder$Shape" "STEP_Y" "[I", Cond.fieldLink RX3 39 "FlangeFolder$Sheet" "turns" "[I", Cond.methodLink RX1 64 yX3_pressHit, Cond.instanceMethod yX3_pressHit, Cond.selects RX3 yX3_pressHit yX3_pressHit, Cond.code yX3_pressHit cX3_pressHit 14 (some .int), Cond.methodLink RX3 42 Lib.Math.min.name, Cond.static Lib.Math.min.name, Cond.initialized "java/lang/Math", Cond.code Lib.Math.min.name Lib.Math.min.code 2 (some .int), Cond.fieldLink RX3 55 "FlangeFolder$Sheet" "wide" "I", Cond.fieldLink RX3 58 "FlangeFolder$Sheet" "high" "I", Cond.methodLink RX3 51 yX3_reaches, Cond.static yX3_reaches, Cond.code yX3_reaches cX3_reaches 4 (some .boolean), Cond.methodLink RX1 68 yX1_crossesAt, Cond.instanceMethod yX1_crossesAt, Cond.selects RX1 yX1_crossesAt yX1_crossesAt, Cond.code yX1_crossesAt cX1_crossesAt 2 (some .boolean), Cond.fieldLink RX1 15 "FlangeFolder$Planner" "crossings" "[I", Cond.methodLink RX1 77 yX3_crossesItself, Cond.instanceMethod yX3_crossesItself, Cond.selects RX3 yX3_crossesItself yX3_crossesItself, Cond.code yX3_crossesItself cX3_crossesItself 7 (some .boolean)]
def wsX6_orders_r4 : List Cond := [Cond.methodLink RX3 48 Lib.Math.max.name, Cond.static Lib.Math.max.name, Cond.code Lib.Math.max.name Lib.Math.max.code 2 (some .int), Cond.methodLink RX1 92 yX1_findFewest, Cond.instanceMethod yX1_findFewest, Cond.selects RX1 yX1_findFewest yX1_findFewest, Cond.code yX1_findFewest cX1_findFewest 4 none, Cond.fieldLink RX1 21 "FlangeFolder$Planner" "fewest" "[I", Cond.methodLink RX1 99 yX1_fewestFrom, Cond.instanceMethod yX1_fewestFrom, Cond.selects RX1 yX1_fewestFrom yX1_fewestFrom, Cond.code yX1_fewestFrom cX1_fewestFrom 6 (some .int), Cond.methodLink RX1 107 Lib.Math.min.name, Cond.methodLink RX1 103 yX1_changesBy, Cond.instanceMethod yX1_changesBy, Cond.selects RX1 yX1_changesBy yX1_changesBy, Cond.code yX1_changesBy cX1_changesBy 5 (some .int), Cond.fieldLink RX1 112 "FlangeFolder$Sheet" "tools" "[I", Cond.methodLink RX1 115 yX1_changeTo, Cond.static yX1_changeTo, Cond.code yX1_changeTo cX1_changeTo 2 (some .int), Cond.methodLink RX1 95 yX1_walk, Cond.instanceMethod yX1_walk, Cond.selects RX1 yX1_walk yX1_walk]
def wsX6_orders_r5 : List Cond := [Cond.code yX1_walk cX1_walk 9 (some .int), Cond.methodLink RX1 118 yX1_leastWithin, Cond.instanceMethod yX1_leastWithin, Cond.selects RX1 yX1_leastWithin yX1_leastWithin, Cond.code yX1_leastWithin cX1_leastWithin 6 (some .int)]
def wsX6_orders : List Cond := .code yX6_orders cX6_orders 1 (some .int) :: ((wsX6_orders_r1 ++ (wsX6_orders_r2 ++ (wsX6_orders_r3 ++ (wsX6_orders_r4 ++ wsX6_orders_r5)))) ++ wsX60 ++ wsX10 ++ wsX40 ++ wsX30)
def wsX6_order_r1 : List Cond := [Cond.fieldLink RX6 12 "FlangeFolder" "sheet" "LFlangeFolder$Sheet;", Cond.fieldLink RX6 28 "FlangeFolder" "planner" "LFlangeFolder$Planner;", Cond.fieldLink RX6 156 "FlangeFolder$Planner" "firstOrder" "[I", Cond.fieldLink RX6 159 "FlangeFolder$Planner" "bestOrder" "[I", Cond.methodLink RX6 97 yX4_hasBend, Cond.instanceMethod yX4_hasBend, Cond.selects RX4 yX4_hasBend yX4_hasBend, Cond.initialized RX4, Cond.code yX4_hasBend cX4_hasBend 2 (some .boolean), Cond.fieldLink RX4 24 "FlangeFolder$Sheet" "bends" "I", Cond.methodLink RX6 120 yX6_isWithin, Cond.static yX6_isWithin, Cond.initialized RX6, Cond.code yX6_isWithin cX6_isWithin 3 (some .boolean), Cond.methodLink RX6 101 yX6_refused, Cond.instanceMethod yX6_refused, Cond.selects RX6 yX6_refused yX6_refused, Cond.code yX6_refused cX6_refused 2 (some .int), Cond.fieldLink RX6 55 "FlangeFolder" "badCalls" "I", Cond.fieldLink RX6 59 "FlangeFolder" "noCalls" "I", Cond.fieldLink RX6 62 "FlangeFolder" "fullCalls" "I", Cond.methodLink RX6 150 yX1_plan, Cond.instanceMethod yX1_plan, Cond.selects RX1 yX1_plan yX1_plan]
def wsX6_order_r2 : List Cond := [Cond.initialized RX1, Cond.code yX1_plan cX1_plan 1 none, Cond.fieldLink RX1 44 "FlangeFolder$Planner" "planned" "Z", Cond.fieldLink RX1 48 "FlangeFolder$Planner" "orderCount" "I", Cond.fieldLink RX1 24 "FlangeFolder$Planner" "firstOrder" "[I", Cond.fieldLink RX1 27 "FlangeFolder$Planner" "bestOrder" "[I", Cond.fieldLink RX1 52 "FlangeFolder$Planner" "firstChanges" "I", Cond.fieldLink RX1 55 "FlangeFolder$Planner" "bestChanges" "I", Cond.methodLink RX1 89 yX1_pathsFrom, Cond.instanceMethod yX1_pathsFrom, Cond.selects RX1 yX1_pathsFrom yX1_pathsFrom, Cond.code yX1_pathsFrom cX1_pathsFrom 6 (some .int), Cond.fieldLink RX1 30 "FlangeFolder$Planner" "sheet" "LFlangeFolder$Sheet;", Cond.fieldLink RX1 18 "FlangeFolder$Planner" "paths" "[I", Cond.fieldLink RX1 72 "FlangeFolder$Sheet" "bends" "I", Cond.methodLink RX1 81 yX4_allBends, Cond.instanceMethod yX4_allBends, Cond.selects RX4 yX4_allBends yX4_allBends, Cond.code yX4_allBends cX4_allBends 1 (some .int), Cond.methodLink RX1 38 yJ7_fill_53178, Cond.static yJ7_fill_53178, Cond.initialized RJ7, Cond.code yJ7_fill_53178 cJ7_fill_53178 4 none, Cond.methodLink RX1 85 yX1_freeAt]
def wsX6_order_r3 : List Cond := [Cond.instanceMethod yX1_freeAt, Cond.selects RX1 yX1_freeAt yX1_freeAt, Cond.code yX1_freeAt cX1_freeAt 4 (some .int), Cond.fieldLink RX1 9 "FlangeFolder$Planner" "freeBits" "[I", Cond.fieldLink RX1 34 "FlangeFolder$Planner" "shape" "LFlangeFolder$Shape;", Cond.methodLink RX1 58 yX3_trace, Cond.instanceMethod yX3_trace, Cond.selects RX3 yX3_trace yX3_trace, Cond.initialized RX3, Cond.code yX3_trace cX3_trace 5 none, Cond.fieldLink RX3 25 "FlangeFolder$Sheet" "bends" "I", Cond.fieldLink RX3 21 "FlangeFolder$Shape" "flanges" "I", Cond.fieldLink RX3 18 "FlangeFolder$Shape" "headings" "[I", Cond.fieldLink RX3 9 "FlangeFolder$Shape" "x" "[I", Cond.fieldLink RX3 30 "FlangeFolder$Sheet" "lengths" "[I", Cond.fieldLink RX3 33 "FlangeFolder$Shape" "STEP_X" "[I", Cond.fieldLink RX3 15 "FlangeFolder$Shape" "y" "[I", Cond.fieldLink RX3 36 "FlangeFolder$Shape" "STEP_Y" "[I", Cond.fieldLink RX3 39 "FlangeFolder$Sheet" "turns" "[I", Cond.methodLink RX1 64 yX3_pressHit, Cond.instanceMethod yX3_pressHit, Cond.selects RX3 yX3_pressHit yX3_pressHit, Cond.code yX3_pressHit cX3_pressHit 14 (some .int), Cond.methodLink RX3 42 Lib.Math.min.name]
def wsX6_order_r4 : List Cond := [Cond.static Lib.Math.min.name, Cond.initialized "java/lang/Math", Cond.code Lib.Math.min.name Lib.Math.min.code 2 (some .int), Cond.fieldLink RX3 55 "FlangeFolder$Sheet" "wide" "I", Cond.fieldLink RX3 58 "FlangeFolder$Sheet" "high" "I", Cond.methodLink RX3 51 yX3_reaches, Cond.static yX3_reaches, Cond.code yX3_reaches cX3_reaches 4 (some .boolean), Cond.methodLink RX1 68 yX1_crossesAt, Cond.instanceMethod yX1_crossesAt, Cond.selects RX1 yX1_crossesAt yX1_crossesAt, Cond.code yX1_crossesAt cX1_crossesAt 2 (some .boolean), Cond.fieldLink RX1 15 "FlangeFolder$Planner" "crossings" "[I", Cond.methodLink RX1 77 yX3_crossesItself, Cond.instanceMethod yX3_crossesItself, Cond.selects RX3 yX3_crossesItself yX3_crossesItself, Cond.code yX3_crossesItself cX3_crossesItself 7 (some .boolean), Cond.methodLink RX3 48 Lib.Math.max.name, Cond.static Lib.Math.max.name, Cond.code Lib.Math.max.name Lib.Math.max.code 2 (some .int), Cond.methodLink RX1 92 yX1_findFewest, Cond.instanceMethod yX1_findFewest, Cond.selects RX1 yX1_findFewest yX1_findFewest, Cond.code yX1_findFewest cX1_findFewest 4 none]
def wsX6_order_r5 : List Cond := [Cond.fieldLink RX1 21 "FlangeFolder$Planner" "fewest" "[I", Cond.methodLink RX1 99 yX1_fewestFrom, Cond.instanceMethod yX1_fewestFrom, Cond.selects RX1 yX1_fewestFrom yX1_fewestFrom, Cond.code yX1_fewestFrom cX1_fewestFrom 6 (some .int), Cond.methodLink RX1 107 Lib.Math.min.name, Cond.methodLink RX1 103 yX1_changesBy, Cond.instanceMethod yX1_changesBy, Cond.selects RX1 yX1_changesBy yX1_changesBy, Cond.code yX1_changesBy cX1_changesBy 5 (some .int), Cond.fieldLink RX1 112 "FlangeFolder$Sheet" "tools" "[I", Cond.methodLink RX1 115 yX1_changeTo, Cond.static yX1_changeTo, Cond.code yX1_changeTo cX1_changeTo 2 (some .int), Cond.methodLink RX1 95 yX1_walk, Cond.instanceMethod yX1_walk, Cond.selects RX1 yX1_walk yX1_walk, Cond.code yX1_walk cX1_walk 9 (some .int), Cond.methodLink RX1 118 yX1_leastWithin, Cond.instanceMethod yX1_leastWithin, Cond.selects RX1 yX1_leastWithin yX1_leastWithin, Cond.code yX1_leastWithin cX1_leastWithin 6 (some .int)]
def wsX6_order : List Cond := .code yX6_order cX6_order 3 (some .int) :: ((wsX6_order_r1 ++ (wsX6_order_r2 ++ (wsX6_order_r3 ++ (wsX6_order_r4 ++ wsX6_order_r5)))) ++ wsX60 ++ wsX10 ++ wsX40 ++ wsX30)
def wsX6_changes_r1 : List Cond := [Cond.fieldLink RX6 28 "FlangeFolder" "planner" "LFlangeFolder$Planner;", Cond.fieldLink RX6 162 "FlangeFolder$Planner" "bestChanges" "I", Cond.fieldLink RX6 165 "FlangeFolder$Planner" "firstChanges" "I", Cond.methodLink RX6 120 yX6_isWithin, Cond.static yX6_isWithin, Cond.initialized RX6, Cond.code yX6_isWithin cX6_isWithin 3 (some .boolean), Cond.methodLink RX6 101 yX6_refused, Cond.instanceMethod yX6_refused, Cond.selects RX6 yX6_refused yX6_refused, Cond.code yX6_refused cX6_refused 2 (some .int), Cond.fieldLink RX6 55 "FlangeFolder" "badCalls" "I", Cond.fieldLink RX6 59 "FlangeFolder" "noCalls" "I", Cond.fieldLink RX6 62 "FlangeFolder" "fullCalls" "I", Cond.methodLink RX6 150 yX1_plan, Cond.instanceMethod yX1_plan, Cond.selects RX1 yX1_plan yX1_plan, Cond.initialized RX1, Cond.code yX1_plan cX1_plan 1 none, Cond.fieldLink RX1 44 "FlangeFolder$Planner" "planned" "Z", Cond.fieldLink RX1 48 "FlangeFolder$Planner" "orderCount" "I", Cond.fieldLink RX1 24 "FlangeFolder$Planner" "firstOrder" "[I", Cond.fieldLink RX1 27 "FlangeFolder$Planner" "bestOrder" "[I", Cond.fieldLink RX1 52 "FlangeFolder$Planner" "firstChanges" "I"]
def wsX6_changes_r2 : List Cond := [Cond.fieldLink RX1 55 "FlangeFolder$Planner" "bestChanges" "I", Cond.methodLink RX1 89 yX1_pathsFrom, Cond.instanceMethod yX1_pathsFrom, Cond.selects RX1 yX1_pathsFrom yX1_pathsFrom, Cond.code yX1_pathsFrom cX1_pathsFrom 6 (some .int), Cond.fieldLink RX1 30 "FlangeFolder$Planner" "sheet" "LFlangeFolder$Sheet;", Cond.fieldLink RX1 18 "FlangeFolder$Planner" "paths" "[I", Cond.fieldLink RX1 72 "FlangeFolder$Sheet" "bends" "I", Cond.methodLink RX1 81 yX4_allBends, Cond.instanceMethod yX4_allBends, Cond.selects RX4 yX4_allBends yX4_allBends, Cond.initialized RX4, Cond.code yX4_allBends cX4_allBends 1 (some .int), Cond.fieldLink RX4 24 "FlangeFolder$Sheet" "bends" "I", Cond.methodLink RX1 38 yJ7_fill_53178, Cond.static yJ7_fill_53178, Cond.initialized RJ7, Cond.code yJ7_fill_53178 cJ7_fill_53178 4 none, Cond.methodLink RX1 85 yX1_freeAt, Cond.instanceMethod yX1_freeAt, Cond.selects RX1 yX1_freeAt yX1_freeAt, Cond.code yX1_freeAt cX1_freeAt 4 (some .int), Cond.fieldLink RX1 9 "FlangeFolder$Planner" "freeBits" "[I", Cond.fieldLink RX1 34 "FlangeFolder$Planner" "shape" "LFlangeFolder$Shape;"]
def wsX6_changes_r3 : List Cond := [Cond.methodLink RX1 58 yX3_trace, Cond.instanceMethod yX3_trace, Cond.selects RX3 yX3_trace yX3_trace, Cond.initialized RX3, Cond.code yX3_trace cX3_trace 5 none, Cond.fieldLink RX3 25 "FlangeFolder$Sheet" "bends" "I", Cond.fieldLink RX3 21 "FlangeFolder$Shape" "flanges" "I", Cond.fieldLink RX3 18 "FlangeFolder$Shape" "headings" "[I", Cond.fieldLink RX3 9 "FlangeFolder$Shape" "x" "[I", Cond.fieldLink RX3 30 "FlangeFolder$Sheet" "lengths" "[I", Cond.fieldLink RX3 33 "FlangeFolder$Shape" "STEP_X" "[I", Cond.fieldLink RX3 15 "FlangeFolder$Shape" "y" "[I", Cond.fieldLink RX3 36 "FlangeFolder$Shape" "STEP_Y" "[I", Cond.fieldLink RX3 39 "FlangeFolder$Sheet" "turns" "[I", Cond.methodLink RX1 64 yX3_pressHit, Cond.instanceMethod yX3_pressHit, Cond.selects RX3 yX3_pressHit yX3_pressHit, Cond.code yX3_pressHit cX3_pressHit 14 (some .int), Cond.methodLink RX3 42 Lib.Math.min.name, Cond.static Lib.Math.min.name, Cond.initialized "java/lang/Math", Cond.code Lib.Math.min.name Lib.Math.min.code 2 (some .int), Cond.fieldLink RX3 55 "FlangeFolder$Sheet" "wide" "I", Cond.fieldLink RX3 58 "FlangeFolder$Sheet" "high" "I"]
def wsX6_changes_r4 : List Cond := [Cond.methodLink RX3 51 yX3_reaches, Cond.static yX3_reaches, Cond.code yX3_reaches cX3_reaches 4 (some .boolean), Cond.methodLink RX1 68 yX1_crossesAt, Cond.instanceMethod yX1_crossesAt, Cond.selects RX1 yX1_crossesAt yX1_crossesAt, Cond.code yX1_crossesAt cX1_crossesAt 2 (some .boolean), Cond.fieldLink RX1 15 "FlangeFolder$Planner" "crossings" "[I", Cond.methodLink RX1 77 yX3_crossesItself, Cond.instanceMethod yX3_crossesItself, Cond.selects RX3 yX3_crossesItself yX3_crossesItself, Cond.code yX3_crossesItself cX3_crossesItself 7 (some .boolean), Cond.methodLink RX3 48 Lib.Math.max.name, Cond.static Lib.Math.max.name, Cond.code Lib.Math.max.name Lib.Math.max.code 2 (some .int), Cond.methodLink RX1 92 yX1_findFewest, Cond.instanceMethod yX1_findFewest, Cond.selects RX1 yX1_findFewest yX1_findFewest, Cond.code yX1_findFewest cX1_findFewest 4 none, Cond.fieldLink RX1 21 "FlangeFolder$Planner" "fewest" "[I", Cond.methodLink RX1 99 yX1_fewestFrom, Cond.instanceMethod yX1_fewestFrom, Cond.selects RX1 yX1_fewestFrom yX1_fewestFrom, Cond.code yX1_fewestFrom cX1_fewestFrom 6 (some .int)]
def wsX6_changes_r5 : List Cond := [Cond.methodLink RX1 107 Lib.Math.min.name, Cond.methodLink RX1 103 yX1_changesBy, Cond.instanceMethod yX1_changesBy, Cond.selects RX1 yX1_changesBy yX1_changesBy, Cond.code yX1_changesBy cX1_changesBy 5 (some .int), Cond.fieldLink RX1 112 "FlangeFolder$Sheet" "tools" "[I", Cond.methodLink RX1 115 yX1_changeTo, Cond.static yX1_changeTo, Cond.code yX1_changeTo cX1_changeTo 2 (some .int), Cond.methodLink RX1 95 yX1_walk, Cond.instanceMethod yX1_walk, Cond.selects RX1 yX1_walk yX1_walk, Cond.code yX1_walk cX1_walk 9 (some .int), Cond.methodLink RX1 118 yX1_leastWithin, Cond.instanceMethod yX1_leastWithin, Cond.selects RX1 yX1_leastWithin yX1_leastWithin, Cond.code yX1_leastWithin cX1_leastWithin 6 (some .int)]
def wsX6_changes : List Cond := .code yX6_changes cX6_changes 2 (some .int) :: ((wsX6_changes_r1 ++ (wsX6_changes_r2 ++ (wsX6_changes_r3 ++ (wsX6_changes_r4 ++ wsX6_changes_r5)))) ++ wsX60 ++ wsX10 ++ wsX40 ++ wsX30)
def wsX6_ways_r1 : List Cond := [Cond.fieldLink RX6 28 "FlangeFolder" "planner" "LFlangeFolder$Planner;", Cond.fieldLink RX6 12 "FlangeFolder" "sheet" "LFlangeFolder$Sheet;", Cond.fieldLink RX6 124 "FlangeFolder$Sheet" "made" "I", Cond.methodLink RX6 168 yX1_pathsFrom, Cond.instanceMethod yX1_pathsFrom, Cond.selects RX1 yX1_pathsFrom yX1_pathsFrom, Cond.initialized RX1, Cond.code yX1_pathsFrom cX1_pathsFrom 6 (some .int), Cond.fieldLink RX1 30 "FlangeFolder$Planner" "sheet" "LFlangeFolder$Sheet;", Cond.fieldLink RX1 18 "FlangeFolder$Planner" "paths" "[I", Cond.fieldLink RX1 72 "FlangeFolder$Sheet" "bends" "I", Cond.methodLink RX1 81 yX4_allBends, Cond.instanceMethod yX4_allBends, Cond.selects RX4 yX4_allBends yX4_allBends, Cond.initialized RX4, Cond.code yX4_allBends cX4_allBends 1 (some .int), Cond.fieldLink RX4 24 "FlangeFolder$Sheet" "bends" "I", Cond.methodLink RX1 38 yJ7_fill_53178, Cond.static yJ7_fill_53178, Cond.initialized RJ7, Cond.code yJ7_fill_53178 cJ7_fill_53178 4 none, Cond.methodLink RX1 85 yX1_freeAt, Cond.instanceMethod yX1_freeAt, Cond.selects RX1 yX1_freeAt yX1_freeAt]
def wsX6_ways_r2 : List Cond := [Cond.code yX1_freeAt cX1_freeAt 4 (some .int), Cond.fieldLink RX1 9 "FlangeFolder$Planner" "freeBits" "[I", Cond.fieldLink RX1 34 "FlangeFolder$Planner" "shape" "LFlangeFolder$Shape;", Cond.methodLink RX1 58 yX3_trace, Cond.instanceMethod yX3_trace, Cond.selects RX3 yX3_trace yX3_trace, Cond.initialized RX3, Cond.code yX3_trace cX3_trace 5 none, Cond.fieldLink RX3 25 "FlangeFolder$Sheet" "bends" "I", Cond.fieldLink RX3 21 "FlangeFolder$Shape" "flanges" "I", Cond.fieldLink RX3 18 "FlangeFolder$Shape" "headings" "[I", Cond.fieldLink RX3 9 "FlangeFolder$Shape" "x" "[I", Cond.fieldLink RX3 30 "FlangeFolder$Sheet" "lengths" "[I", Cond.fieldLink RX3 33 "FlangeFolder$Shape" "STEP_X" "[I", Cond.fieldLink RX3 15 "FlangeFolder$Shape" "y" "[I", Cond.fieldLink RX3 36 "FlangeFolder$Shape" "STEP_Y" "[I", Cond.fieldLink RX3 39 "FlangeFolder$Sheet" "turns" "[I", Cond.methodLink RX1 64 yX3_pressHit, Cond.instanceMethod yX3_pressHit, Cond.selects RX3 yX3_pressHit yX3_pressHit, Cond.code yX3_pressHit cX3_pressHit 14 (some .int), Cond.methodLink RX3 42 Lib.Math.min.name, Cond.static Lib.Math.min.name, Cond.initialized "java/lang/Math"]
def wsX6_ways_r3 : List Cond := [Cond.code Lib.Math.min.name Lib.Math.min.code 2 (some .int), Cond.fieldLink RX3 55 "FlangeFolder$Sheet" "wide" "I", Cond.fieldLink RX3 58 "FlangeFolder$Sheet" "high" "I", Cond.methodLink RX3 51 yX3_reaches, Cond.static yX3_reaches, Cond.code yX3_reaches cX3_reaches 4 (some .boolean), Cond.methodLink RX1 68 yX1_crossesAt, Cond.instanceMethod yX1_crossesAt, Cond.selects RX1 yX1_crossesAt yX1_crossesAt, Cond.code yX1_crossesAt cX1_crossesAt 2 (some .boolean), Cond.fieldLink RX1 15 "FlangeFolder$Planner" "crossings" "[I", Cond.methodLink RX1 77 yX3_crossesItself, Cond.instanceMethod yX3_crossesItself, Cond.selects RX3 yX3_crossesItself yX3_crossesItself, Cond.code yX3_crossesItself cX3_crossesItself 7 (some .boolean), Cond.methodLink RX3 48 Lib.Math.max.name, Cond.static Lib.Math.max.name, Cond.code Lib.Math.max.name Lib.Math.max.code 2 (some .int)]
def wsX6_ways : List Cond := .code yX6_ways cX6_ways 1 (some .int) :: ((wsX6_ways_r1 ++ (wsX6_ways_r2 ++ wsX6_ways_r3)) ++ wsX60 ++ wsX40 ++ wsX10 ++ wsX30)
def wsX6_count_r1 : List Cond := [Cond.fieldLink RX6 12 "FlangeFolder" "sheet" "LFlangeFolder$Sheet;", Cond.fieldLink RX6 117 "FlangeFolder$Sheet" "bends" "I", Cond.fieldLink RX6 124 "FlangeFolder$Sheet" "made" "I", Cond.fieldLink RX6 176 "FlangeFolder$Sheet" "wide" "I", Cond.fieldLink RX6 179 "FlangeFolder$Sheet" "high" "I", Cond.fieldLink RX6 182 "FlangeFolder$Sheet" "taken" "[I", Cond.methodLink RX6 171 yJ6_bitCount_0f7a4, Cond.static yJ6_bitCount_0f7a4, Cond.initialized RJ6, Cond.code yJ6_bitCount_0f7a4 cJ6_bitCount_0f7a4 1 (some .int), Cond.constant RJ6 265 (1431655765), Cond.constant RJ6 266 (858993459), Cond.constant RJ6 267 (252645135), Cond.methodLink RX6 185 yX4_allBends, Cond.instanceMethod yX4_allBends, Cond.selects RX4 yX4_allBends yX4_allBends, Cond.initialized RX4, Cond.code yX4_allBends cX4_allBends 1 (some .int), Cond.fieldLink RX4 24 "FlangeFolder$Sheet" "bends" "I", Cond.methodLink RX6 188 yX4_lengthLess, Cond.instanceMethod yX4_lengthLess, Cond.selects RX4 yX4_lengthLess yX4_lengthLess, Cond.code yX4_lengthLess cX4_lengthLess 4 (some .int), Cond.fieldLink RX4 21 "FlangeFolder$Sheet" "taken" "[I"]
def wsX6_count_r2 : List Cond := [Cond.fieldLink RX4 18 "FlangeFolder$Sheet" "tools" "[I", Cond.methodLink RX4 43 yX4_allLengths, Cond.instanceMethod yX4_allLengths, Cond.selects RX4 yX4_allLengths yX4_allLengths, Cond.code yX4_allLengths cX4_allLengths 3 (some .int), Cond.fieldLink RX4 9 "FlangeFolder$Sheet" "lengths" "[I", Cond.methodLink RX6 191 yX4_allLengths, Cond.methodLink RX6 101 yX6_refused, Cond.instanceMethod yX6_refused, Cond.selects RX6 yX6_refused yX6_refused, Cond.initialized RX6, Cond.code yX6_refused cX6_refused 2 (some .int), Cond.fieldLink RX6 55 "FlangeFolder" "badCalls" "I", Cond.fieldLink RX6 59 "FlangeFolder" "noCalls" "I", Cond.fieldLink RX6 62 "FlangeFolder" "fullCalls" "I"]
def wsX6_count : List Cond := .code yX6_count cX6_count 2 (some .int) :: ((wsX6_count_r1 ++ wsX6_count_r2) ++ wsX60 ++ wsX40)
def wsX6_type : List Cond := .code yX6_type cX6_type 2 (some .int) :: ([.fieldLink RX6 51 "FlangeFolder" "script" "LFlangeFolder$Script;", .fieldLink RX6 194 "FlangeFolder$Script" "size" "I", .methodLink RX6 120 yX6_isWithin, .static yX6_isWithin, .initialized RX6, .code yX6_isWithin cX6_isWithin 3 (some .boolean), .methodLink RX6 101 yX6_refused, .instanceMethod yX6_refused, .selects RX6 yX6_refused yX6_refused, .code yX6_refused cX6_refused 2 (some .int), .fieldLink RX6 55 "FlangeFolder" "badCalls" "I", .fieldLink RX6 59 "FlangeFolder" "noCalls" "I", .fieldLink RX6 62 "FlangeFolder" "fullCalls" "I", .methodLink RX6 197 yX2_append, .instanceMethod yX2_append, .selects RX2 yX2_append yX2_append, .initialized RX2, .code yX2_append cX2_append 2 none, .fieldLink RX2 9 "FlangeFolder$Script" "bytes" "[I", .fieldLink RX2 21 "FlangeFolder$Script" "size" "I"] ++ wsX60 ++ wsX20)
def wsX6_clear : List Cond := .code yX6_clear cX6_clear 2 (some .int) :: ([.fieldLink RX6 51 "FlangeFolder" "script" "LFlangeFolder$Script;", .fieldLink RX6 194 "FlangeFolder$Script" "size" "I"] ++ wsX60 ++ wsX20)
def wsX6_does_r1 : List Cond := [Cond.fieldLink RX6 51 "FlangeFolder" "script" "LFlangeFolder$Script;", Cond.fieldLink RX6 44 "FlangeFolder" "history" "LFlangeFolder$History;", Cond.fieldLink RX6 12 "FlangeFolder" "sheet" "LFlangeFolder$Sheet;", Cond.fieldLink RX6 204 "FlangeFolder$Script" "orderCount" "I", Cond.fieldLink RX6 37 "FlangeFolder" "worker" "LFlangeFolder$Worker;", Cond.fieldLink RX6 28 "FlangeFolder" "planner" "LFlangeFolder$Planner;", Cond.methodLink RX6 201 yX2_read, Cond.instanceMethod yX2_read, Cond.selects RX2 yX2_read yX2_read, Cond.initialized RX2, Cond.code yX2_read cX2_read 1 (some .int), Cond.fieldLink RX2 28 "FlangeFolder$Script" "at" "I", Cond.fieldLink RX2 25 "FlangeFolder$Script" "orderCount" "I", Cond.fieldLink RX2 21 "FlangeFolder$Script" "size" "I", Cond.methodLink RX2 31 yX2_skipBlanks, Cond.instanceMethod yX2_skipBlanks, Cond.selects RX2 yX2_skipBlanks yX2_skipBlanks, Cond.code yX2_skipBlanks cX2_skipBlanks 1 none, Cond.fieldLink RX2 9 "FlangeFolder$Script" "bytes" "[I", Cond.methodLink RX2 34 yX2_readOrder, Cond.instanceMethod yX2_readOrder, Cond.selects RX2 yX2_readOrder yX2_readOrder, Cond.code yX2_readOrder cX2_readOrder 4 (some .boolean), Cond.fieldLink RX2 15 "FlangeFolder$Script" "letters" "[I"]
def wsX6_does_r2 : List Cond := [Cond.methodLink RX2 38 yX2_numbersBehind, Cond.static yX2_numbersBehind, Cond.code yX2_numbersBehind cX2_numbersBehind 1 (some .int), Cond.methodLink RX2 42 yX2_readNumber, Cond.instanceMethod yX2_readNumber, Cond.selects RX2 yX2_readNumber yX2_readNumber, Cond.code yX2_readNumber cX2_readNumber 3 (some .boolean), Cond.fieldLink RX2 18 "FlangeFolder$Script" "numbers" "[I", Cond.methodLink RX2 46 yX2_isFigureAt, Cond.instanceMethod yX2_isFigureAt, Cond.selects RX2 yX2_isFigureAt yX2_isFigureAt, Cond.code yX2_isFigureAt cX2_isFigureAt 1 (some .boolean), Cond.methodLink RX6 65 yX0_stage, Cond.instanceMethod yX0_stage, Cond.selects RX0 yX0_stage yX0_stage, Cond.initialized RX0, Cond.code yX0_stage cX0_stage 2 none, Cond.fieldLink RX0 13 "FlangeFolder$History" "ring" "[LFlangeFolder$Sheet;", Cond.fieldLink RX0 18 "FlangeFolder$History" "next" "I", Cond.methodLink RX0 25 yX4_copyFrom, Cond.instanceMethod yX4_copyFrom, Cond.selects RX4 yX4_copyFrom yX4_copyFrom, Cond.initialized RX4, Cond.code yX4_copyFrom cX4_copyFrom 2 none]
def wsX6_does_r3 : List Cond := [Cond.fieldLink RX4 9 "FlangeFolder$Sheet" "lengths" "[I", Cond.methodLink RX4 37 arraycopyName, Cond.native arraycopyName, Cond.static arraycopyName, Cond.initialized "java/lang/System", Cond.fieldLink RX4 15 "FlangeFolder$Sheet" "turns" "[I", Cond.fieldLink RX4 18 "FlangeFolder$Sheet" "tools" "[I", Cond.fieldLink RX4 21 "FlangeFolder$Sheet" "taken" "[I", Cond.fieldLink RX4 24 "FlangeFolder$Sheet" "bends" "I", Cond.fieldLink RX4 28 "FlangeFolder$Sheet" "made" "I", Cond.fieldLink RX4 31 "FlangeFolder$Sheet" "wide" "I", Cond.fieldLink RX4 34 "FlangeFolder$Sheet" "high" "I", Cond.methodLink RX6 205 yX5_perform, Cond.instanceMethod yX5_perform, Cond.selects RX5 yX5_perform yX5_perform, Cond.initialized RX5, Cond.code yX5_perform cX5_perform 5 (some .int), Cond.fieldLink RX5 78 "FlangeFolder$Script" "letters" "[I", Cond.methodLink RX5 73 yX2_numberOf, Cond.instanceMethod yX2_numberOf, Cond.selects RX2 yX2_numberOf yX2_numberOf, Cond.code yX2_numberOf cX2_numberOf 3 (some .int), Cond.methodLink RX5 81 yX5_newStrip, Cond.instanceMethod yX5_newStrip]
def wsX6_does_r4 : List Cond := [Cond.selects RX5 yX5_newStrip yX5_newStrip, Cond.code yX5_newStrip cX5_newStrip 3 (some .int), Cond.fieldLink RX5 9 "FlangeFolder$Worker" "sheet" "LFlangeFolder$Sheet;", Cond.fieldLink RX5 23 "FlangeFolder$Sheet" "bends" "I", Cond.fieldLink RX5 29 "FlangeFolder$Sheet" "lengths" "[I", Cond.fieldLink RX5 33 "FlangeFolder$Sheet" "made" "I", Cond.fieldLink RX5 15 "FlangeFolder$Worker" "planner" "LFlangeFolder$Planner;", Cond.static yX6_isWithin, Cond.initialized RX6, Cond.code yX6_isWithin cX6_isWithin 3 (some .boolean), Cond.methodLink RX5 36 yX1_forget, Cond.instanceMethod yX1_forget, Cond.selects RX1 yX1_forget yX1_forget, Cond.initialized RX1, Cond.code yX1_forget cX1_forget 1 none, Cond.fieldLink RX1 9 "FlangeFolder$Planner" "freeBits" "[I", Cond.fieldLink RX1 15 "FlangeFolder$Planner" "crossings" "[I", Cond.fieldLink RX1 44 "FlangeFolder$Planner" "planned" "Z", Cond.methodLink RX1 38 yJ7_fill_53178, Cond.static yJ7_fill_53178, Cond.initialized RJ7, Cond.code yJ7_fill_53178 cJ7_fill_53178 4 none, Cond.methodLink RX5 84 yX5_wayOf, Cond.static yX5_wayOf]
def wsX6_does_r5 : List Cond := [Cond.code yX5_wayOf cX5_wayOf 1 (some .int), Cond.methodLink RX5 87 yX5_addBend, Cond.instanceMethod yX5_addBend, Cond.selects RX5 yX5_addBend yX5_addBend, Cond.code yX5_addBend cX5_addBend 6 (some .int), Cond.fieldLink RX5 41 "FlangeFolder$Sheet" "turns" "[I", Cond.fieldLink RX5 44 "FlangeFolder$Sheet" "tools" "[I", Cond.methodLink RX5 91 yX5_makeBend, Cond.instanceMethod yX5_makeBend, Cond.selects RX5 yX5_makeBend yX5_makeBend, Cond.code yX5_makeBend cX5_makeBend 2 (some .int), Cond.methodLink RX5 56 yX4_hasBend, Cond.instanceMethod yX4_hasBend, Cond.selects RX4 yX4_hasBend yX4_hasBend, Cond.code yX4_hasBend cX4_hasBend 2 (some .boolean), Cond.methodLink RX5 60 yX4_isMade, Cond.instanceMethod yX4_isMade, Cond.selects RX4 yX4_isMade yX4_isMade, Cond.code yX4_isMade cX4_isMade 2 (some .boolean), Cond.methodLink RX5 63 yX1_hitOf, Cond.instanceMethod yX1_hitOf, Cond.selects RX1 yX1_hitOf yX1_hitOf, Cond.code yX1_hitOf cX1_hitOf 4 (some .int), Cond.fieldLink RX1 34 "FlangeFolder$Planner" "shape" "LFlangeFolder$Shape;"]
def wsX6_does_r6 : List Cond := [Cond.fieldLink RX1 30 "FlangeFolder$Planner" "sheet" "LFlangeFolder$Sheet;", Cond.methodLink RX1 58 yX3_trace, Cond.instanceMethod yX3_trace, Cond.selects RX3 yX3_trace yX3_trace, Cond.initialized RX3, Cond.code yX3_trace cX3_trace 5 none, Cond.fieldLink RX3 25 "FlangeFolder$Sheet" "bends" "I", Cond.fieldLink RX3 21 "FlangeFolder$Shape" "flanges" "I", Cond.fieldLink RX3 18 "FlangeFolder$Shape" "headings" "[I", Cond.fieldLink RX3 9 "FlangeFolder$Shape" "x" "[I", Cond.fieldLink RX3 30 "FlangeFolder$Sheet" "lengths" "[I", Cond.fieldLink RX3 33 "FlangeFolder$Shape" "STEP_X" "[I", Cond.fieldLink RX3 15 "FlangeFolder$Shape" "y" "[I", Cond.fieldLink RX3 36 "FlangeFolder$Shape" "STEP_Y" "[I", Cond.fieldLink RX3 39 "FlangeFolder$Sheet" "turns" "[I", Cond.methodLink RX1 64 yX3_pressHit, Cond.instanceMethod yX3_pressHit, Cond.selects RX3 yX3_pressHit yX3_pressHit, Cond.code yX3_pressHit cX3_pressHit 14 (some .int), Cond.methodLink RX3 42 Lib.Math.min.name, Cond.static Lib.Math.min.name, Cond.initialized "java/lang/Math", Cond.code Lib.Math.min.name Lib.Math.min.code 2 (some .int), Cond.fieldLink RX3 55 "FlangeFolder$Sheet" "wide" "I"]
def wsX6_does_r7 : List Cond := [Cond.fieldLink RX3 58 "FlangeFolder$Sheet" "high" "I", Cond.methodLink RX3 51 yX3_reaches, Cond.static yX3_reaches, Cond.code yX3_reaches cX3_reaches 4 (some .boolean), Cond.methodLink RX1 68 yX1_crossesAt, Cond.instanceMethod yX1_crossesAt, Cond.selects RX1 yX1_crossesAt yX1_crossesAt, Cond.code yX1_crossesAt cX1_crossesAt 2 (some .boolean), Cond.methodLink RX1 77 yX3_crossesItself, Cond.instanceMethod yX3_crossesItself, Cond.selects RX3 yX3_crossesItself yX3_crossesItself, Cond.code yX3_crossesItself cX3_crossesItself 7 (some .boolean), Cond.methodLink RX3 48 Lib.Math.max.name, Cond.static Lib.Math.max.name, Cond.code Lib.Math.max.name Lib.Math.max.code 2 (some .int), Cond.methodLink RX5 67 yJ6_bitCount_0f7a4, Cond.static yJ6_bitCount_0f7a4, Cond.initialized RJ6, Cond.code yJ6_bitCount_0f7a4 cJ6_bitCount_0f7a4 1 (some .int), Cond.constant RJ6 265 (1431655765), Cond.constant RJ6 266 (858993459), Cond.constant RJ6 267 (252645135), Cond.methodLink RX5 94 yX5_unmakeBend, Cond.instanceMethod yX5_unmakeBend]
def wsX6_does_r8 : List Cond := [Cond.selects RX5 yX5_unmakeBend yX5_unmakeBend, Cond.code yX5_unmakeBend cX5_unmakeBend 2 (some .int), Cond.methodLink RX5 97 yX5_setPress, Cond.instanceMethod yX5_setPress, Cond.selects RX5 yX5_setPress yX5_setPress, Cond.code yX5_setPress cX5_setPress 4 (some .int), Cond.fieldLink RX5 47 "FlangeFolder$Sheet" "wide" "I", Cond.fieldLink RX5 50 "FlangeFolder$Sheet" "high" "I", Cond.methodLink RX5 100 yX5_setTaken, Cond.instanceMethod yX5_setTaken, Cond.selects RX5 yX5_setTaken yX5_setTaken, Cond.code yX5_setTaken cX5_setTaken 4 (some .int), Cond.fieldLink RX5 53 "FlangeFolder$Sheet" "taken" "[I", Cond.methodLink RX5 103 yX5_unmakeAll, Cond.instanceMethod yX5_unmakeAll, Cond.selects RX5 yX5_unmakeAll yX5_unmakeAll, Cond.code yX5_unmakeAll cX5_unmakeAll 2 (some .int), Cond.methodLink RX6 209 yX6_isRefusal, Cond.static yX6_isRefusal, Cond.code yX6_isRefusal cX6_isRefusal 1 (some .boolean), Cond.methodLink RX6 212 yX0_restoreStaged, Cond.instanceMethod yX0_restoreStaged, Cond.selects RX0 yX0_restoreStaged yX0_restoreStaged, Cond.code yX0_restoreStaged cX0_restoreStaged 2 none]
def wsX6_does_r9 : List Cond := [Cond.methodLink RX6 215 yX1_forget, Cond.methodLink RX6 218 yX0_keepStaged, Cond.instanceMethod yX0_keepStaged, Cond.selects RX0 yX0_keepStaged yX0_keepStaged, Cond.code yX0_keepStaged cX0_keepStaged 1 none, Cond.fieldLink RX0 22 "FlangeFolder$History" "kept" "I", Cond.methodLink RX0 29 Lib.Math.min.name]
def wsX6_does : List Cond := .code yX6_does cX6_does 3 (some .int) :: ((wsX6_does_r1 ++ (wsX6_does_r2 ++ (wsX6_does_r3 ++ (wsX6_does_r4 ++ (wsX6_does_r5 ++ (wsX6_does_r6 ++ (wsX6_does_r7 ++ (wsX6_does_r8 ++ wsX6_does_r9)))))))) ++ wsX60 ++ wsX20 ++ wsX00 ++ wsX40 ++ wsX50 ++ wsX10 ++ wsX30)
def wsX6_back_r1 : List Cond := [Cond.fieldLink RX6 44 "FlangeFolder" "history" "LFlangeFolder$History;", Cond.fieldLink RX6 221 "FlangeFolder$History" "kept" "I", Cond.fieldLink RX6 12 "FlangeFolder" "sheet" "LFlangeFolder$Sheet;", Cond.fieldLink RX6 28 "FlangeFolder" "planner" "LFlangeFolder$Planner;", Cond.methodLink RX6 101 yX6_refused, Cond.instanceMethod yX6_refused, Cond.selects RX6 yX6_refused yX6_refused, Cond.initialized RX6, Cond.code yX6_refused cX6_refused 2 (some .int), Cond.fieldLink RX6 55 "FlangeFolder" "badCalls" "I", Cond.fieldLink RX6 59 "FlangeFolder" "noCalls" "I", Cond.fieldLink RX6 62 "FlangeFolder" "fullCalls" "I", Cond.methodLink RX6 224 yX0_restoreLast, Cond.instanceMethod yX0_restoreLast, Cond.selects RX0 yX0_restoreLast yX0_restoreLast, Cond.initialized RX0, Cond.code yX0_restoreLast cX0_restoreLast 2 none, Cond.fieldLink RX0 18 "FlangeFolder$History" "next" "I", Cond.fieldLink RX0 22 "FlangeFolder$History" "kept" "I", Cond.fieldLink RX0 13 "FlangeFolder$History" "ring" "[LFlangeFolder$Sheet;", Cond.methodLink RX0 25 yX4_copyFrom, Cond.instanceMethod yX4_copyFrom, Cond.selects RX4 yX4_copyFrom yX4_copyFrom, Cond.initialized RX4]
def wsX6_back_r2 : List Cond := [Cond.code yX4_copyFrom cX4_copyFrom 2 none, Cond.fieldLink RX4 9 "FlangeFolder$Sheet" "lengths" "[I", Cond.methodLink RX4 37 arraycopyName, Cond.native arraycopyName, Cond.static arraycopyName, Cond.initialized "java/lang/System", Cond.fieldLink RX4 15 "FlangeFolder$Sheet" "turns" "[I", Cond.fieldLink RX4 18 "FlangeFolder$Sheet" "tools" "[I", Cond.fieldLink RX4 21 "FlangeFolder$Sheet" "taken" "[I", Cond.fieldLink RX4 24 "FlangeFolder$Sheet" "bends" "I", Cond.fieldLink RX4 28 "FlangeFolder$Sheet" "made" "I", Cond.fieldLink RX4 31 "FlangeFolder$Sheet" "wide" "I", Cond.fieldLink RX4 34 "FlangeFolder$Sheet" "high" "I", Cond.methodLink RX6 215 yX1_forget, Cond.instanceMethod yX1_forget, Cond.selects RX1 yX1_forget yX1_forget, Cond.initialized RX1, Cond.code yX1_forget cX1_forget 1 none, Cond.fieldLink RX1 9 "FlangeFolder$Planner" "freeBits" "[I", Cond.fieldLink RX1 15 "FlangeFolder$Planner" "crossings" "[I", Cond.fieldLink RX1 44 "FlangeFolder$Planner" "planned" "Z", Cond.methodLink RX1 38 yJ7_fill_53178, Cond.static yJ7_fill_53178, Cond.initialized RJ7]
def wsX6_back_r3 : List Cond := [Cond.code yJ7_fill_53178 cJ7_fill_53178 4 none]
def wsX6_back : List Cond := .code yX6_back cX6_back 1 (some .int) :: ((wsX6_back_r1 ++ (wsX6_back_r2 ++ wsX6_back_r3)) ++ wsX60 ++ wsX00 ++ wsX40 ++ wsX10)
def wsX6_told : List Cond := .code yX6_told cX6_told 2 (some .int) :: ([.fieldLink RX6 55 "FlangeFolder" "badCalls" "I", .fieldLink RX6 59 "FlangeFolder" "noCalls" "I", .fieldLink RX6 62 "FlangeFolder" "fullCalls" "I", .fieldLink RX6 51 "FlangeFolder" "script" "LFlangeFolder$Script;", .fieldLink RX6 194 "FlangeFolder$Script" "size" "I", .fieldLink RX6 44 "FlangeFolder" "history" "LFlangeFolder$History;", .fieldLink RX6 221 "FlangeFolder$History" "kept" "I", .methodLink RX6 101 yX6_refused, .instanceMethod yX6_refused, .selects RX6 yX6_refused yX6_refused, .initialized RX6, .code yX6_refused cX6_refused 2 (some .int)] ++ wsX60 ++ wsX20 ++ wsX00)
def wsX6_digest_r1 : List Cond := [Cond.constantLong RX6 227 (2934), Cond.constantLong RX6 229 (31), Cond.fieldLink RX6 12 "FlangeFolder" "sheet" "LFlangeFolder$Sheet;", Cond.fieldLink RX6 104 "FlangeFolder$Sheet" "lengths" "[I", Cond.fieldLink RX6 117 "FlangeFolder$Sheet" "bends" "I", Cond.fieldLink RX6 28 "FlangeFolder" "planner" "LFlangeFolder$Planner;", Cond.fieldLink RX6 124 "FlangeFolder$Sheet" "made" "I", Cond.fieldLink RX6 153 "FlangeFolder$Planner" "orderCount" "I", Cond.fieldLink RX6 162 "FlangeFolder$Planner" "bestChanges" "I", Cond.fieldLink RX6 165 "FlangeFolder$Planner" "firstChanges" "I", Cond.methodLink RX6 231 yX6_told, Cond.instanceMethod yX6_told, Cond.selects RX6 yX6_told yX6_told, Cond.initialized RX6, Cond.code yX6_told cX6_told 2 (some .int), Cond.fieldLink RX6 55 "FlangeFolder" "badCalls" "I", Cond.fieldLink RX6 59 "FlangeFolder" "noCalls" "I", Cond.fieldLink RX6 62 "FlangeFolder" "fullCalls" "I", Cond.fieldLink RX6 51 "FlangeFolder" "script" "LFlangeFolder$Script;", Cond.fieldLink RX6 194 "FlangeFolder$Script" "size" "I", Cond.fieldLink RX6 44 "FlangeFolder" "history" "LFlangeFolder$History;", Cond.fieldLink RX6 221 "FlangeFolder$History" "kept" "I", Cond.methodLink RX6 101 yX6_refused, Cond.instanceMethod yX6_refused]
def wsX6_digest_r2 : List Cond := [Cond.selects RX6 yX6_refused yX6_refused, Cond.code yX6_refused cX6_refused 2 (some .int), Cond.methodLink RX6 234 yX6_count, Cond.instanceMethod yX6_count, Cond.selects RX6 yX6_count yX6_count, Cond.code yX6_count cX6_count 2 (some .int), Cond.fieldLink RX6 176 "FlangeFolder$Sheet" "wide" "I", Cond.fieldLink RX6 179 "FlangeFolder$Sheet" "high" "I", Cond.fieldLink RX6 182 "FlangeFolder$Sheet" "taken" "[I", Cond.methodLink RX6 171 yJ6_bitCount_0f7a4, Cond.static yJ6_bitCount_0f7a4, Cond.initialized RJ6, Cond.code yJ6_bitCount_0f7a4 cJ6_bitCount_0f7a4 1 (some .int), Cond.constant RJ6 265 (1431655765), Cond.constant RJ6 266 (858993459), Cond.constant RJ6 267 (252645135), Cond.methodLink RX6 185 yX4_allBends, Cond.instanceMethod yX4_allBends, Cond.selects RX4 yX4_allBends yX4_allBends, Cond.initialized RX4, Cond.code yX4_allBends cX4_allBends 1 (some .int), Cond.fieldLink RX4 24 "FlangeFolder$Sheet" "bends" "I", Cond.methodLink RX6 188 yX4_lengthLess, Cond.instanceMethod yX4_lengthLess]
def wsX6_digest_r3 : List Cond := [Cond.selects RX4 yX4_lengthLess yX4_lengthLess, Cond.code yX4_lengthLess cX4_lengthLess 4 (some .int), Cond.fieldLink RX4 21 "FlangeFolder$Sheet" "taken" "[I", Cond.fieldLink RX4 18 "FlangeFolder$Sheet" "tools" "[I", Cond.methodLink RX4 43 yX4_allLengths, Cond.instanceMethod yX4_allLengths, Cond.selects RX4 yX4_allLengths yX4_allLengths, Cond.code yX4_allLengths cX4_allLengths 3 (some .int), Cond.fieldLink RX4 9 "FlangeFolder$Sheet" "lengths" "[I", Cond.methodLink RX6 191 yX4_allLengths, Cond.methodLink RX6 237 yX6_of, Cond.instanceMethod yX6_of, Cond.selects RX6 yX6_of yX6_of, Cond.code yX6_of cX6_of 3 (some .int), Cond.fieldLink RX6 108 "FlangeFolder$Sheet" "turns" "[I", Cond.fieldLink RX6 111 "FlangeFolder$Sheet" "tools" "[I", Cond.methodLink RX6 97 yX4_hasBend, Cond.instanceMethod yX4_hasBend, Cond.selects RX4 yX4_hasBend yX4_hasBend, Cond.code yX4_hasBend cX4_hasBend 2 (some .boolean), Cond.methodLink RX6 114 yX4_isMade, Cond.instanceMethod yX4_isMade, Cond.selects RX4 yX4_isMade yX4_isMade, Cond.code yX4_isMade cX4_isMade 2 (some .boolean)]
def wsX6_digest_r4 : List Cond := [Cond.fieldLink RX4 28 "FlangeFolder$Sheet" "made" "I", Cond.methodLink RX6 240 yX6_joint, Cond.instanceMethod yX6_joint, Cond.selects RX6 yX6_joint yX6_joint, Cond.code yX6_joint cX6_joint 3 (some .int), Cond.fieldLink RX6 19 "FlangeFolder" "shape" "LFlangeFolder$Shape;", Cond.fieldLink RX6 131 "FlangeFolder$Shape" "x" "[I", Cond.fieldLink RX6 134 "FlangeFolder$Shape" "y" "[I", Cond.methodLink RX6 120 yX6_isWithin, Cond.static yX6_isWithin, Cond.code yX6_isWithin cX6_isWithin 3 (some .boolean), Cond.methodLink RX6 127 yX3_trace, Cond.instanceMethod yX3_trace, Cond.selects RX3 yX3_trace yX3_trace, Cond.initialized RX3, Cond.code yX3_trace cX3_trace 5 none, Cond.fieldLink RX3 25 "FlangeFolder$Sheet" "bends" "I", Cond.fieldLink RX3 21 "FlangeFolder$Shape" "flanges" "I", Cond.fieldLink RX3 18 "FlangeFolder$Shape" "headings" "[I", Cond.fieldLink RX3 9 "FlangeFolder$Shape" "x" "[I", Cond.fieldLink RX3 30 "FlangeFolder$Sheet" "lengths" "[I", Cond.fieldLink RX3 33 "FlangeFolder$Shape" "STEP_X" "[I", Cond.fieldLink RX3 15 "FlangeFolder$Shape" "y" "[I", Cond.fieldLink RX3 36 "FlangeFolder$Shape" "STEP_Y" "[I"]
def wsX6_digest_r5 : List Cond := [Cond.fieldLink RX3 39 "FlangeFolder$Sheet" "turns" "[I", Cond.methodLink RX6 243 yX6_box, Cond.instanceMethod yX6_box, Cond.selects RX6 yX6_box yX6_box, Cond.code yX6_box cX6_box 3 (some .int), Cond.methodLink RX6 137 yX3_least, Cond.instanceMethod yX3_least, Cond.selects RX3 yX3_least yX3_least, Cond.code yX3_least cX3_least 4 (some .int), Cond.methodLink RX3 42 Lib.Math.min.name, Cond.static Lib.Math.min.name, Cond.initialized "java/lang/Math", Cond.code Lib.Math.min.name Lib.Math.min.code 2 (some .int), Cond.methodLink RX6 141 yX3_greatest, Cond.instanceMethod yX3_greatest, Cond.selects RX3 yX3_greatest yX3_greatest, Cond.code yX3_greatest cX3_greatest 4 (some .int), Cond.methodLink RX3 48 Lib.Math.max.name, Cond.static Lib.Math.max.name, Cond.code Lib.Math.max.name Lib.Math.max.code 2 (some .int), Cond.methodLink RX6 150 yX1_plan, Cond.instanceMethod yX1_plan, Cond.selects RX1 yX1_plan yX1_plan, Cond.initialized RX1]
def wsX6_digest_r6 : List Cond := [Cond.code yX1_plan cX1_plan 1 none, Cond.fieldLink RX1 44 "FlangeFolder$Planner" "planned" "Z", Cond.fieldLink RX1 48 "FlangeFolder$Planner" "orderCount" "I", Cond.fieldLink RX1 24 "FlangeFolder$Planner" "firstOrder" "[I", Cond.fieldLink RX1 27 "FlangeFolder$Planner" "bestOrder" "[I", Cond.fieldLink RX1 52 "FlangeFolder$Planner" "firstChanges" "I", Cond.fieldLink RX1 55 "FlangeFolder$Planner" "bestChanges" "I", Cond.methodLink RX1 89 yX1_pathsFrom, Cond.instanceMethod yX1_pathsFrom, Cond.selects RX1 yX1_pathsFrom yX1_pathsFrom, Cond.code yX1_pathsFrom cX1_pathsFrom 6 (some .int), Cond.fieldLink RX1 30 "FlangeFolder$Planner" "sheet" "LFlangeFolder$Sheet;", Cond.fieldLink RX1 18 "FlangeFolder$Planner" "paths" "[I", Cond.fieldLink RX1 72 "FlangeFolder$Sheet" "bends" "I", Cond.methodLink RX1 81 yX4_allBends, Cond.methodLink RX1 38 yJ7_fill_53178, Cond.static yJ7_fill_53178, Cond.initialized RJ7, Cond.code yJ7_fill_53178 cJ7_fill_53178 4 none, Cond.methodLink RX1 85 yX1_freeAt, Cond.instanceMethod yX1_freeAt, Cond.selects RX1 yX1_freeAt yX1_freeAt, Cond.code yX1_freeAt cX1_freeAt 4 (some .int), Cond.fieldLink RX1 9 "FlangeFolder$Planner" "freeBits" "[I"]
def wsX6_digest_r7 : List Cond := [Cond.fieldLink RX1 34 "FlangeFolder$Planner" "shape" "LFlangeFolder$Shape;", Cond.methodLink RX1 58 yX3_trace, Cond.methodLink RX1 64 yX3_pressHit, Cond.instanceMethod yX3_pressHit, Cond.selects RX3 yX3_pressHit yX3_pressHit, Cond.code yX3_pressHit cX3_pressHit 14 (some .int), Cond.fieldLink RX3 55 "FlangeFolder$Sheet" "wide" "I", Cond.fieldLink RX3 58 "FlangeFolder$Sheet" "high" "I", Cond.methodLink RX3 51 yX3_reaches, Cond.static yX3_reaches, Cond.code yX3_reaches cX3_reaches 4 (some .boolean), Cond.methodLink RX1 68 yX1_crossesAt, Cond.instanceMethod yX1_crossesAt, Cond.selects RX1 yX1_crossesAt yX1_crossesAt, Cond.code yX1_crossesAt cX1_crossesAt 2 (some .boolean), Cond.fieldLink RX1 15 "FlangeFolder$Planner" "crossings" "[I", Cond.methodLink RX1 77 yX3_crossesItself, Cond.instanceMethod yX3_crossesItself, Cond.selects RX3 yX3_crossesItself yX3_crossesItself, Cond.code yX3_crossesItself cX3_crossesItself 7 (some .boolean), Cond.methodLink RX1 92 yX1_findFewest, Cond.instanceMethod yX1_findFewest, Cond.selects RX1 yX1_findFewest yX1_findFewest, Cond.code yX1_findFewest cX1_findFewest 4 none]
def wsX6_digest_r8 : List Cond := [Cond.fieldLink RX1 21 "FlangeFolder$Planner" "fewest" "[I", Cond.methodLink RX1 99 yX1_fewestFrom, Cond.instanceMethod yX1_fewestFrom, Cond.selects RX1 yX1_fewestFrom yX1_fewestFrom, Cond.code yX1_fewestFrom cX1_fewestFrom 6 (some .int), Cond.methodLink RX1 107 Lib.Math.min.name, Cond.methodLink RX1 103 yX1_changesBy, Cond.instanceMethod yX1_changesBy, Cond.selects RX1 yX1_changesBy yX1_changesBy, Cond.code yX1_changesBy cX1_changesBy 5 (some .int), Cond.fieldLink RX1 112 "FlangeFolder$Sheet" "tools" "[I", Cond.methodLink RX1 115 yX1_changeTo, Cond.static yX1_changeTo, Cond.code yX1_changeTo cX1_changeTo 2 (some .int), Cond.methodLink RX1 95 yX1_walk, Cond.instanceMethod yX1_walk, Cond.selects RX1 yX1_walk yX1_walk, Cond.code yX1_walk cX1_walk 9 (some .int), Cond.methodLink RX1 118 yX1_leastWithin, Cond.instanceMethod yX1_leastWithin, Cond.selects RX1 yX1_leastWithin yX1_leastWithin, Cond.code yX1_leastWithin cX1_leastWithin 6 (some .int), Cond.methodLink RX6 147 yX1_freeAt, Cond.methodLink RX6 168 yX1_pathsFrom]
def wsX6_digest : List Cond := .code yX6_digest cX6_digest 5 (some .long) :: ((wsX6_digest_r1 ++ (wsX6_digest_r2 ++ (wsX6_digest_r3 ++ (wsX6_digest_r4 ++ (wsX6_digest_r5 ++ (wsX6_digest_r6 ++ (wsX6_digest_r7 ++ wsX6_digest_r8))))))) ++ wsX60 ++ wsX40 ++ wsX10 ++ wsX20 ++ wsX00 ++ wsX30)
def wsX7_init : List Cond := .code yX7_init cX7_init 1 none :: ([.methodLink RX7 1 objectInit, .instanceMethod objectInit, .code objectInit ⟨#[0xb1]⟩ 1 none, .arrayClass .int, .fieldLink RX7 7 "FlangeFolderModel" "now" "[I", .fieldLink RX7 13 "FlangeFolderModel" "aside" "[I", .fieldLink RX7 16 "FlangeFolderModel" "past" "[I", .fieldLink RX7 19 "FlangeFolderModel" "refused" "[I", .fieldLink RX7 22 "FlangeFolderModel" "text" "[I", .fieldLink RX7 25 "FlangeFolderModel" "xs" "[I", .fieldLink RX7 28 "FlangeFolderModel" "ys" "[I", .fieldLink RX7 31 "FlangeFolderModel" "goes" "[I", .fieldLink RX7 34 "FlangeFolderModel" "may" "[I", .fieldLink RX7 37 "FlangeFolderModel" "many" "[I", .fieldLink RX7 40 "FlangeFolderModel" "fewest" "[I", .fieldLink RX7 43 "FlangeFolderModel" "row" "[I", .fieldLink RX7 46 "FlangeFolderModel" "letters" "[I", .fieldLink RX7 49 "FlangeFolderModel" "numbers" "[I"] ++ wsX70)
def wsX7_within : List Cond := .code yX7_within cX7_within 3 (some .boolean) :: ([])
def wsX7_has : List Cond := .code yX7_has cX7_has 2 (some .boolean) :: ([])
def wsX7_ones : List Cond := .code yX7_ones cX7_ones 3 (some .int) :: ([])
def wsX7_counts : List Cond := .code yX7_counts cX7_counts 2 (some .int) :: ([.fieldLink RX7 19 "FlangeFolderModel" "refused" "[I"] ++ wsX70)
def wsX7_isBend : List Cond := .code yX7_isBend cX7_isBend 2 (some .boolean) :: ([.fieldLink RX7 7 "FlangeFolderModel" "now" "[I", .methodLink RX7 52 yX7_within, .static yX7_within, .initialized RX7, .code yX7_within cX7_within 3 (some .boolean)] ++ wsX70)
def wsX7_allMade : List Cond := .code yX7_allMade cX7_allMade 1 (some .int) :: ([.fieldLink RX7 7 "FlangeFolderModel" "now" "[I"] ++ wsX70)
def wsX7_leaves : List Cond := .code yX7_leaves cX7_leaves 2 none :: ([.fieldLink RX7 56 "FlangeFolderModel" "states" "I", .fieldLink RX7 16 "FlangeFolderModel" "past" "[I", .fieldLink RX7 7 "FlangeFolderModel" "now" "[I"] ++ wsX70)
def wsX7_back : List Cond := .code yX7_back cX7_back 2 (some .int) :: ([.fieldLink RX7 56 "FlangeFolderModel" "states" "I", .fieldLink RX7 7 "FlangeFolderModel" "now" "[I", .fieldLink RX7 16 "FlangeFolderModel" "past" "[I", .methodLink RX7 60 yX7_counts, .instanceMethod yX7_counts, .selects RX7 yX7_counts yX7_counts, .initialized RX7, .code yX7_counts cX7_counts 2 (some .int), .fieldLink RX7 19 "FlangeFolderModel" "refused" "[I"] ++ wsX70)
def wsX7_alongX : List Cond := .code yX7_alongX cX7_alongX 1 (some .int) :: ([])
def wsX7_alongY : List Cond := .code yX7_alongY cX7_alongY 1 (some .int) :: ([])
def wsX7_lays : List Cond := .code yX7_lays cX7_lays 4 none :: ([.fieldLink RX7 25 "FlangeFolderModel" "xs" "[I", .fieldLink RX7 28 "FlangeFolderModel" "ys" "[I", .fieldLink RX7 7 "FlangeFolderModel" "now" "[I", .fieldLink RX7 31 "FlangeFolderModel" "goes" "[I", .methodLink RX7 64 yX7_alongX, .static yX7_alongX, .initialized RX7, .code yX7_alongX cX7_alongX 1 (some .int), .methodLink RX7 67 yX7_alongY, .static yX7_alongY, .code yX7_alongY cX7_alongY 1 (some .int), .methodLink RX7 70 yX7_has, .static yX7_has, .code yX7_has cX7_has 2 (some .boolean)] ++ wsX70)
def wsX7_turnsTo : List Cond := .code yX7_turnsTo cX7_turnsTo 8 none :: ([.fieldLink RX7 25 "FlangeFolderModel" "xs" "[I", .fieldLink RX7 28 "FlangeFolderModel" "ys" "[I", .fieldLink RX7 31 "FlangeFolderModel" "goes" "[I", .fieldLink RX7 7 "FlangeFolderModel" "now" "[I", .methodLink RX7 64 yX7_alongX, .static yX7_alongX, .initialized RX7, .code yX7_alongX cX7_alongX 1 (some .int), .methodLink RX7 67 yX7_alongY, .static yX7_alongY, .code yX7_alongY cX7_alongY 1 (some .int)] ++ wsX70)
def wsX7_lesser : List Cond := .code yX7_lesser cX7_lesser 2 (some .int) :: ([])
def wsX7_greater : List Cond := .code yX7_greater cX7_greater 2 (some .int) :: ([])
def wsX7_isWithin : List Cond := .code yX7_isWithin cX7_isWithin 10 (some .boolean) :: ([.fieldLink RX7 25 "FlangeFolderModel" "xs" "[I", .fieldLink RX7 28 "FlangeFolderModel" "ys" "[I", .methodLink RX7 74 yX7_lesser, .static yX7_lesser, .initialized RX7, .code yX7_lesser cX7_lesser 2 (some .int), .methodLink RX7 78 yX7_greater, .static yX7_greater, .code yX7_greater cX7_greater 2 (some .int)] ++ wsX70)
def wsX7_areMet : List Cond := .code yX7_areMet cX7_areMet 4 (some .boolean) :: ([.fieldLink RX7 25 "FlangeFolderModel" "xs" "[I", .fieldLink RX7 28 "FlangeFolderModel" "ys" "[I", .methodLink RX7 78 yX7_greater, .static yX7_greater, .initialized RX7, .code yX7_greater cX7_greater 2 (some .int), .methodLink RX7 74 yX7_lesser, .static yX7_lesser, .code yX7_lesser cX7_lesser 2 (some .int)] ++ wsX70)
def wsX7_hitBy_r1 : List Cond := [Cond.fieldLink RX7 7 "FlangeFolderModel" "now" "[I", Cond.methodLink RX7 81 yX7_lays, Cond.instanceMethod yX7_lays, Cond.selects RX7 yX7_lays yX7_lays, Cond.initialized RX7, Cond.code yX7_lays cX7_lays 4 none, Cond.fieldLink RX7 25 "FlangeFolderModel" "xs" "[I", Cond.fieldLink RX7 28 "FlangeFolderModel" "ys" "[I", Cond.fieldLink RX7 31 "FlangeFolderModel" "goes" "[I", Cond.methodLink RX7 64 yX7_alongX, Cond.static yX7_alongX, Cond.code yX7_alongX cX7_alongX 1 (some .int), Cond.methodLink RX7 67 yX7_alongY, Cond.static yX7_alongY, Cond.code yX7_alongY cX7_alongY 1 (some .int), Cond.methodLink RX7 70 yX7_has, Cond.static yX7_has, Cond.code yX7_has cX7_has 2 (some .boolean), Cond.methodLink RX7 85 yX7_turnsTo, Cond.instanceMethod yX7_turnsTo, Cond.selects RX7 yX7_turnsTo yX7_turnsTo, Cond.code yX7_turnsTo cX7_turnsTo 8 none, Cond.methodLink RX7 88 yX7_isWithin, Cond.instanceMethod yX7_isWithin]
def wsX7_hitBy_r2 : List Cond := [Cond.selects RX7 yX7_isWithin yX7_isWithin, Cond.code yX7_isWithin cX7_isWithin 10 (some .boolean), Cond.methodLink RX7 74 yX7_lesser, Cond.static yX7_lesser, Cond.code yX7_lesser cX7_lesser 2 (some .int), Cond.methodLink RX7 78 yX7_greater, Cond.static yX7_greater, Cond.code yX7_greater cX7_greater 2 (some .int), Cond.methodLink RX7 92 yX7_areMet, Cond.instanceMethod yX7_areMet, Cond.selects RX7 yX7_areMet yX7_areMet, Cond.code yX7_areMet cX7_areMet 4 (some .boolean)]
def wsX7_hitBy : List Cond := .code yX7_hitBy cX7_hitBy 9 (some .int) :: ((wsX7_hitBy_r1 ++ wsX7_hitBy_r2) ++ wsX70)
def wsX7_isFree_r1 : List Cond := [Cond.methodLink RX7 70 yX7_has, Cond.static yX7_has, Cond.initialized RX7, Cond.code yX7_has cX7_has 2 (some .boolean), Cond.methodLink RX7 95 yX7_hitBy, Cond.instanceMethod yX7_hitBy, Cond.selects RX7 yX7_hitBy yX7_hitBy, Cond.code yX7_hitBy cX7_hitBy 9 (some .int), Cond.fieldLink RX7 7 "FlangeFolderModel" "now" "[I", Cond.methodLink RX7 81 yX7_lays, Cond.instanceMethod yX7_lays, Cond.selects RX7 yX7_lays yX7_lays, Cond.code yX7_lays cX7_lays 4 none, Cond.fieldLink RX7 25 "FlangeFolderModel" "xs" "[I", Cond.fieldLink RX7 28 "FlangeFolderModel" "ys" "[I", Cond.fieldLink RX7 31 "FlangeFolderModel" "goes" "[I", Cond.methodLink RX7 64 yX7_alongX, Cond.static yX7_alongX, Cond.code yX7_alongX cX7_alongX 1 (some .int), Cond.methodLink RX7 67 yX7_alongY, Cond.static yX7_alongY, Cond.code yX7_alongY cX7_alongY 1 (some .int), Cond.methodLink RX7 85 yX7_turnsTo, Cond.instanceMethod yX7_turnsTo]
def wsX7_isFree_r2 : List Cond := [Cond.selects RX7 yX7_turnsTo yX7_turnsTo, Cond.code yX7_turnsTo cX7_turnsTo 8 none, Cond.methodLink RX7 88 yX7_isWithin, Cond.instanceMethod yX7_isWithin, Cond.selects RX7 yX7_isWithin yX7_isWithin, Cond.code yX7_isWithin cX7_isWithin 10 (some .boolean), Cond.methodLink RX7 74 yX7_lesser, Cond.static yX7_lesser, Cond.code yX7_lesser cX7_lesser 2 (some .int), Cond.methodLink RX7 78 yX7_greater, Cond.static yX7_greater, Cond.code yX7_greater cX7_greater 2 (some .int), Cond.methodLink RX7 92 yX7_areMet, Cond.instanceMethod yX7_areMet, Cond.selects RX7 yX7_areMet yX7_areMet, Cond.code yX7_areMet cX7_areMet 4 (some .boolean)]
def wsX7_isFree : List Cond := .code yX7_isFree cX7_isFree 3 (some .boolean) :: ((wsX7_isFree_r1 ++ wsX7_isFree_r2) ++ wsX70)
def wsX7_mayBend : List Cond := .code yX7_mayBend cX7_mayBend 4 (some .boolean) :: ([.methodLink RX7 52 yX7_within, .static yX7_within, .initialized RX7, .code yX7_within cX7_within 3 (some .boolean)])
def wsX7_mayPress : List Cond := .code yX7_mayPress cX7_mayPress 3 (some .boolean) :: ([.methodLink RX7 52 yX7_within, .static yX7_within, .initialized RX7, .code yX7_within cX7_within 3 (some .boolean)])
def wsX7_mayTake : List Cond := .code yX7_mayTake cX7_mayTake 3 (some .boolean) :: ([.methodLink RX7 52 yX7_within, .static yX7_within, .initialized RX7, .code yX7_within cX7_within 3 (some .boolean)])
def wsX7_strips : List Cond := .code yX7_strips cX7_strips 3 (some .int) :: ([.fieldLink RX7 7 "FlangeFolderModel" "now" "[I"] ++ wsX70)
def wsX7_adds : List Cond := .code yX7_adds cX7_adds 5 (some .int) :: ([.fieldLink RX7 7 "FlangeFolderModel" "now" "[I"] ++ wsX70)
def wsX7_presses : List Cond := .code yX7_presses cX7_presses 4 (some .int) :: ([.fieldLink RX7 7 "FlangeFolderModel" "now" "[I"] ++ wsX70)
def wsX7_takesNow : List Cond := .code yX7_takesNow cX7_takesNow 4 (some .int) :: ([.fieldLink RX7 7 "FlangeFolderModel" "now" "[I"] ++ wsX70)
def wsX7_strip : List Cond := .code yX7_strip cX7_strip 2 (some .int) :: ([.methodLink RX7 52 yX7_within, .static yX7_within, .initialized RX7, .code yX7_within cX7_within 3 (some .boolean), .methodLink RX7 60 yX7_counts, .instanceMethod yX7_counts, .selects RX7 yX7_counts yX7_counts, .code yX7_counts cX7_counts 2 (some .int), .fieldLink RX7 19 "FlangeFolderModel" "refused" "[I", .methodLink RX7 98 yX7_leaves, .instanceMethod yX7_leaves, .selects RX7 yX7_leaves yX7_leaves, .code yX7_leaves cX7_leaves 2 none, .fieldLink RX7 56 "FlangeFolderModel" "states" "I", .fieldLink RX7 16 "FlangeFolderModel" "past" "[I", .fieldLink RX7 7 "FlangeFolderModel" "now" "[I", .methodLink RX7 101 yX7_strips, .instanceMethod yX7_strips, .selects RX7 yX7_strips yX7_strips, .code yX7_strips cX7_strips 3 (some .int)] ++ wsX70)
def wsX7_bend : List Cond := .code yX7_bend cX7_bend 4 (some .int) :: ([.fieldLink RX7 7 "FlangeFolderModel" "now" "[I", .methodLink RX7 104 yX7_mayBend, .instanceMethod yX7_mayBend, .selects RX7 yX7_mayBend yX7_mayBend, .initialized RX7, .code yX7_mayBend cX7_mayBend 4 (some .boolean), .methodLink RX7 52 yX7_within, .static yX7_within, .code yX7_within cX7_within 3 (some .boolean), .methodLink RX7 60 yX7_counts, .instanceMethod yX7_counts, .selects RX7 yX7_counts yX7_counts, .code yX7_counts cX7_counts 2 (some .int), .fieldLink RX7 19 "FlangeFolderModel" "refused" "[I", .methodLink RX7 98 yX7_leaves, .instanceMethod yX7_leaves, .selects RX7 yX7_leaves yX7_leaves, .code yX7_leaves cX7_leaves 2 none, .fieldLink RX7 56 "FlangeFolderModel" "states" "I", .fieldLink RX7 16 "FlangeFolderModel" "past" "[I", .methodLink RX7 107 yX7_adds, .instanceMethod yX7_adds, .selects RX7 yX7_adds yX7_adds, .code yX7_adds cX7_adds 5 (some .int)] ++ wsX70)
def wsX7_press : List Cond := .code yX7_press cX7_press 3 (some .int) :: ([.methodLink RX7 111 yX7_mayPress, .instanceMethod yX7_mayPress, .selects RX7 yX7_mayPress yX7_mayPress, .initialized RX7, .code yX7_mayPress cX7_mayPress 3 (some .boolean), .methodLink RX7 52 yX7_within, .static yX7_within, .code yX7_within cX7_within 3 (some .boolean), .methodLink RX7 60 yX7_counts, .instanceMethod yX7_counts, .selects RX7 yX7_counts yX7_counts, .code yX7_counts cX7_counts 2 (some .int), .fieldLink RX7 19 "FlangeFolderModel" "refused" "[I", .methodLink RX7 98 yX7_leaves, .instanceMethod yX7_leaves, .selects RX7 yX7_leaves yX7_leaves, .code yX7_leaves cX7_leaves 2 none, .fieldLink RX7 56 "FlangeFolderModel" "states" "I", .fieldLink RX7 16 "FlangeFolderModel" "past" "[I", .fieldLink RX7 7 "FlangeFolderModel" "now" "[I", .methodLink RX7 114 yX7_presses, .instanceMethod yX7_presses, .selects RX7 yX7_presses yX7_presses, .code yX7_presses cX7_presses 4 (some .int)] ++ wsX70)
def wsX7_takes : List Cond := .code yX7_takes cX7_takes 3 (some .int) :: ([.methodLink RX7 117 yX7_mayTake, .instanceMethod yX7_mayTake, .selects RX7 yX7_mayTake yX7_mayTake, .initialized RX7, .code yX7_mayTake cX7_mayTake 3 (some .boolean), .methodLink RX7 52 yX7_within, .static yX7_within, .code yX7_within cX7_within 3 (some .boolean), .methodLink RX7 60 yX7_counts, .instanceMethod yX7_counts, .selects RX7 yX7_counts yX7_counts, .code yX7_counts cX7_counts 2 (some .int), .fieldLink RX7 19 "FlangeFolderModel" "refused" "[I", .methodLink RX7 98 yX7_leaves, .instanceMethod yX7_leaves, .selects RX7 yX7_leaves yX7_leaves, .code yX7_leaves cX7_leaves 2 none, .fieldLink RX7 56 "FlangeFolderModel" "states" "I", .fieldLink RX7 16 "FlangeFolderModel" "past" "[I", .fieldLink RX7 7 "FlangeFolderModel" "now" "[I", .methodLink RX7 120 yX7_takesNow, .instanceMethod yX7_takesNow, .selects RX7 yX7_takesNow yX7_takesNow, .code yX7_takesNow cX7_takesNow 4 (some .int)] ++ wsX70)
def wsX7_makes_r1 : List Cond := [Cond.fieldLink RX7 7 "FlangeFolderModel" "now" "[I", Cond.methodLink RX7 123 yX7_isBend, Cond.instanceMethod yX7_isBend, Cond.selects RX7 yX7_isBend yX7_isBend, Cond.initialized RX7, Cond.code yX7_isBend cX7_isBend 2 (some .boolean), Cond.methodLink RX7 52 yX7_within, Cond.static yX7_within, Cond.code yX7_within cX7_within 3 (some .boolean), Cond.methodLink RX7 60 yX7_counts, Cond.instanceMethod yX7_counts, Cond.selects RX7 yX7_counts yX7_counts, Cond.code yX7_counts cX7_counts 2 (some .int), Cond.fieldLink RX7 19 "FlangeFolderModel" "refused" "[I", Cond.methodLink RX7 127 yX7_isFree, Cond.instanceMethod yX7_isFree, Cond.selects RX7 yX7_isFree yX7_isFree, Cond.code yX7_isFree cX7_isFree 3 (some .boolean), Cond.methodLink RX7 70 yX7_has, Cond.static yX7_has, Cond.code yX7_has cX7_has 2 (some .boolean), Cond.methodLink RX7 95 yX7_hitBy, Cond.instanceMethod yX7_hitBy, Cond.selects RX7 yX7_hitBy yX7_hitBy]
def wsX7_makes_r2 : List Cond := [Cond.code yX7_hitBy cX7_hitBy 9 (some .int), Cond.methodLink RX7 81 yX7_lays, Cond.instanceMethod yX7_lays, Cond.selects RX7 yX7_lays yX7_lays, Cond.code yX7_lays cX7_lays 4 none, Cond.fieldLink RX7 25 "FlangeFolderModel" "xs" "[I", Cond.fieldLink RX7 28 "FlangeFolderModel" "ys" "[I", Cond.fieldLink RX7 31 "FlangeFolderModel" "goes" "[I", Cond.methodLink RX7 64 yX7_alongX, Cond.static yX7_alongX, Cond.code yX7_alongX cX7_alongX 1 (some .int), Cond.methodLink RX7 67 yX7_alongY, Cond.static yX7_alongY, Cond.code yX7_alongY cX7_alongY 1 (some .int), Cond.methodLink RX7 85 yX7_turnsTo, Cond.instanceMethod yX7_turnsTo, Cond.selects RX7 yX7_turnsTo yX7_turnsTo, Cond.code yX7_turnsTo cX7_turnsTo 8 none, Cond.methodLink RX7 88 yX7_isWithin, Cond.instanceMethod yX7_isWithin, Cond.selects RX7 yX7_isWithin yX7_isWithin, Cond.code yX7_isWithin cX7_isWithin 10 (some .boolean), Cond.methodLink RX7 74 yX7_lesser, Cond.static yX7_lesser]
def wsX7_makes_r3 : List Cond := [Cond.code yX7_lesser cX7_lesser 2 (some .int), Cond.methodLink RX7 78 yX7_greater, Cond.static yX7_greater, Cond.code yX7_greater cX7_greater 2 (some .int), Cond.methodLink RX7 92 yX7_areMet, Cond.instanceMethod yX7_areMet, Cond.selects RX7 yX7_areMet yX7_areMet, Cond.code yX7_areMet cX7_areMet 4 (some .boolean), Cond.methodLink RX7 98 yX7_leaves, Cond.instanceMethod yX7_leaves, Cond.selects RX7 yX7_leaves yX7_leaves, Cond.code yX7_leaves cX7_leaves 2 none, Cond.fieldLink RX7 56 "FlangeFolderModel" "states" "I", Cond.fieldLink RX7 16 "FlangeFolderModel" "past" "[I", Cond.methodLink RX7 130 yX7_ones, Cond.static yX7_ones, Cond.code yX7_ones cX7_ones 3 (some .int)]
def wsX7_makes : List Cond := .code yX7_makes cX7_makes 2 (some .int) :: ((wsX7_makes_r1 ++ (wsX7_makes_r2 ++ wsX7_makes_r3)) ++ wsX70)
def wsX7_unmakes_r1 : List Cond := [Cond.fieldLink RX7 7 "FlangeFolderModel" "now" "[I", Cond.methodLink RX7 123 yX7_isBend, Cond.instanceMethod yX7_isBend, Cond.selects RX7 yX7_isBend yX7_isBend, Cond.initialized RX7, Cond.code yX7_isBend cX7_isBend 2 (some .boolean), Cond.methodLink RX7 52 yX7_within, Cond.static yX7_within, Cond.code yX7_within cX7_within 3 (some .boolean), Cond.methodLink RX7 60 yX7_counts, Cond.instanceMethod yX7_counts, Cond.selects RX7 yX7_counts yX7_counts, Cond.code yX7_counts cX7_counts 2 (some .int), Cond.fieldLink RX7 19 "FlangeFolderModel" "refused" "[I", Cond.methodLink RX7 70 yX7_has, Cond.static yX7_has, Cond.code yX7_has cX7_has 2 (some .boolean), Cond.methodLink RX7 98 yX7_leaves, Cond.instanceMethod yX7_leaves, Cond.selects RX7 yX7_leaves yX7_leaves, Cond.code yX7_leaves cX7_leaves 2 none, Cond.fieldLink RX7 56 "FlangeFolderModel" "states" "I", Cond.fieldLink RX7 16 "FlangeFolderModel" "past" "[I", Cond.methodLink RX7 130 yX7_ones]
def wsX7_unmakes_r2 : List Cond := [Cond.static yX7_ones, Cond.code yX7_ones cX7_ones 3 (some .int)]
def wsX7_unmakes : List Cond := .code yX7_unmakes cX7_unmakes 2 (some .int) :: ((wsX7_unmakes_r1 ++ wsX7_unmakes_r2) ++ wsX70)
def wsX7_again : List Cond := .code yX7_again cX7_again 2 (some .int) :: ([.fieldLink RX7 7 "FlangeFolderModel" "now" "[I", .methodLink RX7 98 yX7_leaves, .instanceMethod yX7_leaves, .selects RX7 yX7_leaves yX7_leaves, .initialized RX7, .code yX7_leaves cX7_leaves 2 none, .fieldLink RX7 56 "FlangeFolderModel" "states" "I", .fieldLink RX7 16 "FlangeFolderModel" "past" "[I", .methodLink RX7 130 yX7_ones, .static yX7_ones, .code yX7_ones cX7_ones 3 (some .int)] ++ wsX70)
def wsX7_ofBend : List Cond := .code yX7_ofBend cX7_ofBend 3 (some .int) :: ([.fieldLink RX7 7 "FlangeFolderModel" "now" "[I"] ++ wsX70)
def wsX7_of : List Cond := .code yX7_of cX7_of 3 (some .int) :: ([.methodLink RX7 123 yX7_isBend, .instanceMethod yX7_isBend, .selects RX7 yX7_isBend yX7_isBend, .initialized RX7, .code yX7_isBend cX7_isBend 2 (some .boolean), .fieldLink RX7 7 "FlangeFolderModel" "now" "[I", .methodLink RX7 52 yX7_within, .static yX7_within, .code yX7_within cX7_within 3 (some .boolean), .methodLink RX7 133 yX7_ofBend, .instanceMethod yX7_ofBend, .selects RX7 yX7_ofBend yX7_ofBend, .code yX7_ofBend cX7_ofBend 3 (some .int), .methodLink RX7 60 yX7_counts, .instanceMethod yX7_counts, .selects RX7 yX7_counts yX7_counts, .code yX7_counts cX7_counts 2 (some .int), .fieldLink RX7 19 "FlangeFolderModel" "refused" "[I"] ++ wsX70)
def wsX7_joint_r1 : List Cond := [Cond.fieldLink RX7 7 "FlangeFolderModel" "now" "[I", Cond.fieldLink RX7 25 "FlangeFolderModel" "xs" "[I", Cond.fieldLink RX7 28 "FlangeFolderModel" "ys" "[I", Cond.methodLink RX7 52 yX7_within, Cond.static yX7_within, Cond.initialized RX7, Cond.code yX7_within cX7_within 3 (some .boolean), Cond.methodLink RX7 60 yX7_counts, Cond.instanceMethod yX7_counts, Cond.selects RX7 yX7_counts yX7_counts, Cond.code yX7_counts cX7_counts 2 (some .int), Cond.fieldLink RX7 19 "FlangeFolderModel" "refused" "[I", Cond.methodLink RX7 81 yX7_lays, Cond.instanceMethod yX7_lays, Cond.selects RX7 yX7_lays yX7_lays, Cond.code yX7_lays cX7_lays 4 none, Cond.fieldLink RX7 31 "FlangeFolderModel" "goes" "[I", Cond.methodLink RX7 64 yX7_alongX, Cond.static yX7_alongX, Cond.code yX7_alongX cX7_alongX 1 (some .int), Cond.methodLink RX7 67 yX7_alongY, Cond.static yX7_alongY, Cond.code yX7_alongY cX7_alongY 1 (some .int), Cond.methodLink RX7 70 yX7_has]
def wsX7_joint_r2 : List Cond := [Cond.static yX7_has, Cond.code yX7_has cX7_has 2 (some .boolean)]
def wsX7_joint : List Cond := .code yX7_joint cX7_joint 3 (some .int) :: ((wsX7_joint_r1 ++ wsX7_joint_r2) ++ wsX70)
def wsX7_boxIs : List Cond := .code yX7_boxIs cX7_boxIs 5 (some .int) :: ([.fieldLink RX7 7 "FlangeFolderModel" "now" "[I", .fieldLink RX7 25 "FlangeFolderModel" "xs" "[I", .fieldLink RX7 28 "FlangeFolderModel" "ys" "[I", .methodLink RX7 81 yX7_lays, .instanceMethod yX7_lays, .selects RX7 yX7_lays yX7_lays, .initialized RX7, .code yX7_lays cX7_lays 4 none, .fieldLink RX7 31 "FlangeFolderModel" "goes" "[I", .methodLink RX7 64 yX7_alongX, .static yX7_alongX, .code yX7_alongX cX7_alongX 1 (some .int), .methodLink RX7 67 yX7_alongY, .static yX7_alongY, .code yX7_alongY cX7_alongY 1 (some .int), .methodLink RX7 70 yX7_has, .static yX7_has, .code yX7_has cX7_has 2 (some .boolean), .methodLink RX7 74 yX7_lesser, .static yX7_lesser, .code yX7_lesser cX7_lesser 2 (some .int), .methodLink RX7 78 yX7_greater, .static yX7_greater, .code yX7_greater cX7_greater 2 (some .int)] ++ wsX70)
def wsX7_box_r1 : List Cond := [Cond.methodLink RX7 52 yX7_within, Cond.static yX7_within, Cond.initialized RX7, Cond.code yX7_within cX7_within 3 (some .boolean), Cond.methodLink RX7 136 yX7_boxIs, Cond.instanceMethod yX7_boxIs, Cond.selects RX7 yX7_boxIs yX7_boxIs, Cond.code yX7_boxIs cX7_boxIs 5 (some .int), Cond.fieldLink RX7 7 "FlangeFolderModel" "now" "[I", Cond.fieldLink RX7 25 "FlangeFolderModel" "xs" "[I", Cond.fieldLink RX7 28 "FlangeFolderModel" "ys" "[I", Cond.methodLink RX7 81 yX7_lays, Cond.instanceMethod yX7_lays, Cond.selects RX7 yX7_lays yX7_lays, Cond.code yX7_lays cX7_lays 4 none, Cond.fieldLink RX7 31 "FlangeFolderModel" "goes" "[I", Cond.methodLink RX7 64 yX7_alongX, Cond.static yX7_alongX, Cond.code yX7_alongX cX7_alongX 1 (some .int), Cond.methodLink RX7 67 yX7_alongY, Cond.static yX7_alongY, Cond.code yX7_alongY cX7_alongY 1 (some .int), Cond.methodLink RX7 70 yX7_has, Cond.static yX7_has]
def wsX7_box_r2 : List Cond := [Cond.code yX7_has cX7_has 2 (some .boolean), Cond.methodLink RX7 74 yX7_lesser, Cond.static yX7_lesser, Cond.code yX7_lesser cX7_lesser 2 (some .int), Cond.methodLink RX7 78 yX7_greater, Cond.static yX7_greater, Cond.code yX7_greater cX7_greater 2 (some .int), Cond.methodLink RX7 60 yX7_counts, Cond.instanceMethod yX7_counts, Cond.selects RX7 yX7_counts yX7_counts, Cond.code yX7_counts cX7_counts 2 (some .int), Cond.fieldLink RX7 19 "FlangeFolderModel" "refused" "[I"]
def wsX7_box : List Cond := .code yX7_box cX7_box 2 (some .int) :: ((wsX7_box_r1 ++ wsX7_box_r2) ++ wsX70)
def wsX7_hits_r1 : List Cond := [Cond.fieldLink RX7 7 "FlangeFolderModel" "now" "[I", Cond.methodLink RX7 123 yX7_isBend, Cond.instanceMethod yX7_isBend, Cond.selects RX7 yX7_isBend yX7_isBend, Cond.initialized RX7, Cond.code yX7_isBend cX7_isBend 2 (some .boolean), Cond.methodLink RX7 52 yX7_within, Cond.static yX7_within, Cond.code yX7_within cX7_within 3 (some .boolean), Cond.methodLink RX7 60 yX7_counts, Cond.instanceMethod yX7_counts, Cond.selects RX7 yX7_counts yX7_counts, Cond.code yX7_counts cX7_counts 2 (some .int), Cond.fieldLink RX7 19 "FlangeFolderModel" "refused" "[I", Cond.methodLink RX7 70 yX7_has, Cond.static yX7_has, Cond.code yX7_has cX7_has 2 (some .boolean), Cond.methodLink RX7 95 yX7_hitBy, Cond.instanceMethod yX7_hitBy, Cond.selects RX7 yX7_hitBy yX7_hitBy, Cond.code yX7_hitBy cX7_hitBy 9 (some .int), Cond.methodLink RX7 81 yX7_lays, Cond.instanceMethod yX7_lays, Cond.selects RX7 yX7_lays yX7_lays]
def wsX7_hits_r2 : List Cond := [Cond.code yX7_lays cX7_lays 4 none, Cond.fieldLink RX7 25 "FlangeFolderModel" "xs" "[I", Cond.fieldLink RX7 28 "FlangeFolderModel" "ys" "[I", Cond.fieldLink RX7 31 "FlangeFolderModel" "goes" "[I", Cond.methodLink RX7 64 yX7_alongX, Cond.static yX7_alongX, Cond.code yX7_alongX cX7_alongX 1 (some .int), Cond.methodLink RX7 67 yX7_alongY, Cond.static yX7_alongY, Cond.code yX7_alongY cX7_alongY 1 (some .int), Cond.methodLink RX7 85 yX7_turnsTo, Cond.instanceMethod yX7_turnsTo, Cond.selects RX7 yX7_turnsTo yX7_turnsTo, Cond.code yX7_turnsTo cX7_turnsTo 8 none, Cond.methodLink RX7 88 yX7_isWithin, Cond.instanceMethod yX7_isWithin, Cond.selects RX7 yX7_isWithin yX7_isWithin, Cond.code yX7_isWithin cX7_isWithin 10 (some .boolean), Cond.methodLink RX7 74 yX7_lesser, Cond.static yX7_lesser, Cond.code yX7_lesser cX7_lesser 2 (some .int), Cond.methodLink RX7 78 yX7_greater, Cond.static yX7_greater, Cond.code yX7_greater cX7_greater 2 (some .int)]
def wsX7_hits_r3 : List Cond := [Cond.methodLink RX7 92 yX7_areMet, Cond.instanceMethod yX7_areMet, Cond.selects RX7 yX7_areMet yX7_areMet, Cond.code yX7_areMet cX7_areMet 4 (some .boolean)]
def wsX7_hits : List Cond := .code yX7_hits cX7_hits 2 (some .int) :: ((wsX7_hits_r1 ++ (wsX7_hits_r2 ++ wsX7_hits_r3)) ++ wsX70)
def wsX7_free_r1 : List Cond := [Cond.fieldLink RX7 7 "FlangeFolderModel" "now" "[I", Cond.methodLink RX7 127 yX7_isFree, Cond.instanceMethod yX7_isFree, Cond.selects RX7 yX7_isFree yX7_isFree, Cond.initialized RX7, Cond.code yX7_isFree cX7_isFree 3 (some .boolean), Cond.methodLink RX7 70 yX7_has, Cond.static yX7_has, Cond.code yX7_has cX7_has 2 (some .boolean), Cond.methodLink RX7 95 yX7_hitBy, Cond.instanceMethod yX7_hitBy, Cond.selects RX7 yX7_hitBy yX7_hitBy, Cond.code yX7_hitBy cX7_hitBy 9 (some .int), Cond.methodLink RX7 81 yX7_lays, Cond.instanceMethod yX7_lays, Cond.selects RX7 yX7_lays yX7_lays, Cond.code yX7_lays cX7_lays 4 none, Cond.fieldLink RX7 25 "FlangeFolderModel" "xs" "[I", Cond.fieldLink RX7 28 "FlangeFolderModel" "ys" "[I", Cond.fieldLink RX7 31 "FlangeFolderModel" "goes" "[I", Cond.methodLink RX7 64 yX7_alongX, Cond.static yX7_alongX, Cond.code yX7_alongX cX7_alongX 1 (some .int), Cond.methodLink RX7 67 yX7_alongY]
def wsX7_free_r2 : List Cond := [Cond.static yX7_alongY, Cond.code yX7_alongY cX7_alongY 1 (some .int), Cond.methodLink RX7 85 yX7_turnsTo, Cond.instanceMethod yX7_turnsTo, Cond.selects RX7 yX7_turnsTo yX7_turnsTo, Cond.code yX7_turnsTo cX7_turnsTo 8 none, Cond.methodLink RX7 88 yX7_isWithin, Cond.instanceMethod yX7_isWithin, Cond.selects RX7 yX7_isWithin yX7_isWithin, Cond.code yX7_isWithin cX7_isWithin 10 (some .boolean), Cond.methodLink RX7 74 yX7_lesser, Cond.static yX7_lesser, Cond.code yX7_lesser cX7_lesser 2 (some .int), Cond.methodLink RX7 78 yX7_greater, Cond.static yX7_greater, Cond.code yX7_greater cX7_greater 2 (some .int), Cond.methodLink RX7 92 yX7_areMet, Cond.instanceMethod yX7_areMet, Cond.selects RX7 yX7_areMet yX7_areMet, Cond.code yX7_areMet cX7_areMet 4 (some .boolean)]
def wsX7_free : List Cond := .code yX7_free cX7_free 3 (some .int) :: ((wsX7_free_r1 ++ wsX7_free_r2) ++ wsX70)
def wsX7_changesBy : List Cond := .code yX7_changesBy cX7_changesBy 5 (some .int) :: ([.fieldLink RX7 7 "FlangeFolderModel" "now" "[I", .fieldLink RX7 40 "FlangeFolderModel" "fewest" "[I"] ++ wsX70)
def wsX7_laysOrders_r1 : List Cond := [Cond.fieldLink RX7 34 "FlangeFolderModel" "may" "[I", Cond.fieldLink RX7 37 "FlangeFolderModel" "many" "[I", Cond.fieldLink RX7 40 "FlangeFolderModel" "fewest" "[I", Cond.fieldLink RX7 7 "FlangeFolderModel" "now" "[I", Cond.methodLink RX7 139 yX7_allMade, Cond.instanceMethod yX7_allMade, Cond.selects RX7 yX7_allMade yX7_allMade, Cond.initialized RX7, Cond.code yX7_allMade cX7_allMade 1 (some .int), Cond.methodLink RX7 127 yX7_isFree, Cond.instanceMethod yX7_isFree, Cond.selects RX7 yX7_isFree yX7_isFree, Cond.code yX7_isFree cX7_isFree 3 (some .boolean), Cond.methodLink RX7 70 yX7_has, Cond.static yX7_has, Cond.code yX7_has cX7_has 2 (some .boolean), Cond.methodLink RX7 95 yX7_hitBy, Cond.instanceMethod yX7_hitBy, Cond.selects RX7 yX7_hitBy yX7_hitBy, Cond.code yX7_hitBy cX7_hitBy 9 (some .int), Cond.methodLink RX7 81 yX7_lays, Cond.instanceMethod yX7_lays, Cond.selects RX7 yX7_lays yX7_lays, Cond.code yX7_lays cX7_lays 4 none]
def wsX7_laysOrders_r2 : List Cond := [Cond.fieldLink RX7 25 "FlangeFolderModel" "xs" "[I", Cond.fieldLink RX7 28 "FlangeFolderModel" "ys" "[I", Cond.fieldLink RX7 31 "FlangeFolderModel" "goes" "[I", Cond.methodLink RX7 64 yX7_alongX, Cond.static yX7_alongX, Cond.code yX7_alongX cX7_alongX 1 (some .int), Cond.methodLink RX7 67 yX7_alongY, Cond.static yX7_alongY, Cond.code yX7_alongY cX7_alongY 1 (some .int), Cond.methodLink RX7 85 yX7_turnsTo, Cond.instanceMethod yX7_turnsTo, Cond.selects RX7 yX7_turnsTo yX7_turnsTo, Cond.code yX7_turnsTo cX7_turnsTo 8 none, Cond.methodLink RX7 88 yX7_isWithin, Cond.instanceMethod yX7_isWithin, Cond.selects RX7 yX7_isWithin yX7_isWithin, Cond.code yX7_isWithin cX7_isWithin 10 (some .boolean), Cond.methodLink RX7 74 yX7_lesser, Cond.static yX7_lesser, Cond.code yX7_lesser cX7_lesser 2 (some .int), Cond.methodLink RX7 78 yX7_greater, Cond.static yX7_greater, Cond.code yX7_greater cX7_greater 2 (some .int), Cond.methodLink RX7 92 yX7_areMet]
def wsX7_laysOrders_r3 : List Cond := [Cond.instanceMethod yX7_areMet, Cond.selects RX7 yX7_areMet yX7_areMet, Cond.code yX7_areMet cX7_areMet 4 (some .boolean), Cond.methodLink RX7 143 yX7_changesBy, Cond.instanceMethod yX7_changesBy, Cond.selects RX7 yX7_changesBy yX7_changesBy, Cond.code yX7_changesBy cX7_changesBy 5 (some .int)]
def wsX7_laysOrders : List Cond := .code yX7_laysOrders cX7_laysOrders 4 none :: ((wsX7_laysOrders_r1 ++ (wsX7_laysOrders_r2 ++ wsX7_laysOrders_r3)) ++ wsX70)
def wsX7_orders_r1 : List Cond := [Cond.fieldLink RX7 37 "FlangeFolderModel" "many" "[I", Cond.methodLink RX7 146 yX7_laysOrders, Cond.instanceMethod yX7_laysOrders, Cond.selects RX7 yX7_laysOrders yX7_laysOrders, Cond.initialized RX7, Cond.code yX7_laysOrders cX7_laysOrders 4 none, Cond.fieldLink RX7 34 "FlangeFolderModel" "may" "[I", Cond.fieldLink RX7 40 "FlangeFolderModel" "fewest" "[I", Cond.fieldLink RX7 7 "FlangeFolderModel" "now" "[I", Cond.methodLink RX7 139 yX7_allMade, Cond.instanceMethod yX7_allMade, Cond.selects RX7 yX7_allMade yX7_allMade, Cond.code yX7_allMade cX7_allMade 1 (some .int), Cond.methodLink RX7 127 yX7_isFree, Cond.instanceMethod yX7_isFree, Cond.selects RX7 yX7_isFree yX7_isFree, Cond.code yX7_isFree cX7_isFree 3 (some .boolean), Cond.methodLink RX7 70 yX7_has, Cond.static yX7_has, Cond.code yX7_has cX7_has 2 (some .boolean), Cond.methodLink RX7 95 yX7_hitBy, Cond.instanceMethod yX7_hitBy, Cond.selects RX7 yX7_hitBy yX7_hitBy, Cond.code yX7_hitBy cX7_hitBy 9 (some .int)]
def wsX7_orders_r2 : List Cond := [Cond.methodLink RX7 81 yX7_lays, Cond.instanceMethod yX7_lays, Cond.selects RX7 yX7_lays yX7_lays, Cond.code yX7_lays cX7_lays 4 none, Cond.fieldLink RX7 25 "FlangeFolderModel" "xs" "[I", Cond.fieldLink RX7 28 "FlangeFolderModel" "ys" "[I", Cond.fieldLink RX7 31 "FlangeFolderModel" "goes" "[I", Cond.methodLink RX7 64 yX7_alongX, Cond.static yX7_alongX, Cond.code yX7_alongX cX7_alongX 1 (some .int), Cond.methodLink RX7 67 yX7_alongY, Cond.static yX7_alongY, Cond.code yX7_alongY cX7_alongY 1 (some .int), Cond.methodLink RX7 85 yX7_turnsTo, Cond.instanceMethod yX7_turnsTo, Cond.selects RX7 yX7_turnsTo yX7_turnsTo, Cond.code yX7_turnsTo cX7_turnsTo 8 none, Cond.methodLink RX7 88 yX7_isWithin, Cond.instanceMethod yX7_isWithin, Cond.selects RX7 yX7_isWithin yX7_isWithin, Cond.code yX7_isWithin cX7_isWithin 10 (some .boolean), Cond.methodLink RX7 74 yX7_lesser, Cond.static yX7_lesser, Cond.code yX7_lesser cX7_lesser 2 (some .int)]
def wsX7_orders_r3 : List Cond := [Cond.methodLink RX7 78 yX7_greater, Cond.static yX7_greater, Cond.code yX7_greater cX7_greater 2 (some .int), Cond.methodLink RX7 92 yX7_areMet, Cond.instanceMethod yX7_areMet, Cond.selects RX7 yX7_areMet yX7_areMet, Cond.code yX7_areMet cX7_areMet 4 (some .boolean), Cond.methodLink RX7 143 yX7_changesBy, Cond.instanceMethod yX7_changesBy, Cond.selects RX7 yX7_changesBy yX7_changesBy, Cond.code yX7_changesBy cX7_changesBy 5 (some .int)]
def wsX7_orders : List Cond := .code yX7_orders cX7_orders 1 (some .int) :: ((wsX7_orders_r1 ++ (wsX7_orders_r2 ++ wsX7_orders_r3)) ++ wsX70)
def wsX7_laysRow : List Cond := .code yX7_laysRow cX7_laysRow 7 (some .int) :: ([.fieldLink RX7 7 "FlangeFolderModel" "now" "[I", .fieldLink RX7 34 "FlangeFolderModel" "may" "[I", .fieldLink RX7 37 "FlangeFolderModel" "many" "[I", .fieldLink RX7 40 "FlangeFolderModel" "fewest" "[I", .fieldLink RX7 43 "FlangeFolderModel" "row" "[I", .methodLink RX7 70 yX7_has, .static yX7_has, .initialized RX7, .code yX7_has cX7_has 2 (some .boolean), .methodLink RX7 143 yX7_changesBy, .instanceMethod yX7_changesBy, .selects RX7 yX7_changesBy yX7_changesBy, .code yX7_changesBy cX7_changesBy 5 (some .int)] ++ wsX70)
def wsX7_order_r1 : List Cond := [Cond.fieldLink RX7 43 "FlangeFolderModel" "row" "[I", Cond.methodLink RX7 123 yX7_isBend, Cond.instanceMethod yX7_isBend, Cond.selects RX7 yX7_isBend yX7_isBend, Cond.initialized RX7, Cond.code yX7_isBend cX7_isBend 2 (some .boolean), Cond.fieldLink RX7 7 "FlangeFolderModel" "now" "[I", Cond.methodLink RX7 52 yX7_within, Cond.static yX7_within, Cond.code yX7_within cX7_within 3 (some .boolean), Cond.methodLink RX7 60 yX7_counts, Cond.instanceMethod yX7_counts, Cond.selects RX7 yX7_counts yX7_counts, Cond.code yX7_counts cX7_counts 2 (some .int), Cond.fieldLink RX7 19 "FlangeFolderModel" "refused" "[I", Cond.methodLink RX7 149 yX7_orders, Cond.instanceMethod yX7_orders, Cond.selects RX7 yX7_orders yX7_orders, Cond.code yX7_orders cX7_orders 1 (some .int), Cond.fieldLink RX7 37 "FlangeFolderModel" "many" "[I", Cond.methodLink RX7 146 yX7_laysOrders, Cond.instanceMethod yX7_laysOrders, Cond.selects RX7 yX7_laysOrders yX7_laysOrders, Cond.code yX7_laysOrders cX7_laysOrders 4 none]
def wsX7_order_r2 : List Cond := [Cond.fieldLink RX7 34 "FlangeFolderModel" "may" "[I", Cond.fieldLink RX7 40 "FlangeFolderModel" "fewest" "[I", Cond.methodLink RX7 139 yX7_allMade, Cond.instanceMethod yX7_allMade, Cond.selects RX7 yX7_allMade yX7_allMade, Cond.code yX7_allMade cX7_allMade 1 (some .int), Cond.methodLink RX7 127 yX7_isFree, Cond.instanceMethod yX7_isFree, Cond.selects RX7 yX7_isFree yX7_isFree, Cond.code yX7_isFree cX7_isFree 3 (some .boolean), Cond.methodLink RX7 70 yX7_has, Cond.static yX7_has, Cond.code yX7_has cX7_has 2 (some .boolean), Cond.methodLink RX7 95 yX7_hitBy, Cond.instanceMethod yX7_hitBy, Cond.selects RX7 yX7_hitBy yX7_hitBy, Cond.code yX7_hitBy cX7_hitBy 9 (some .int), Cond.methodLink RX7 81 yX7_lays, Cond.instanceMethod yX7_lays, Cond.selects RX7 yX7_lays yX7_lays, Cond.code yX7_lays cX7_lays 4 none, Cond.fieldLink RX7 25 "FlangeFolderModel" "xs" "[I", Cond.fieldLink RX7 28 "FlangeFolderModel" "ys" "[I", Cond.fieldLink RX7 31 "FlangeFolderModel" "goes" "[I"]
def wsX7_order_r3 : List Cond := [Cond.methodLink RX7 64 yX7_alongX, Cond.static yX7_alongX, Cond.code yX7_alongX cX7_alongX 1 (some .int), Cond.methodLink RX7 67 yX7_alongY, Cond.static yX7_alongY, Cond.code yX7_alongY cX7_alongY 1 (some .int), Cond.methodLink RX7 85 yX7_turnsTo, Cond.instanceMethod yX7_turnsTo, Cond.selects RX7 yX7_turnsTo yX7_turnsTo, Cond.code yX7_turnsTo cX7_turnsTo 8 none, Cond.methodLink RX7 88 yX7_isWithin, Cond.instanceMethod yX7_isWithin, Cond.selects RX7 yX7_isWithin yX7_isWithin, Cond.code yX7_isWithin cX7_isWithin 10 (some .boolean), Cond.methodLink RX7 74 yX7_lesser, Cond.static yX7_lesser, Cond.code yX7_lesser cX7_lesser 2 (some .int), Cond.methodLink RX7 78 yX7_greater, Cond.static yX7_greater, Cond.code yX7_greater cX7_greater 2 (some .int), Cond.methodLink RX7 92 yX7_areMet, Cond.instanceMethod yX7_areMet, Cond.selects RX7 yX7_areMet yX7_areMet, Cond.code yX7_areMet cX7_areMet 4 (some .boolean)]
def wsX7_order_r4 : List Cond := [Cond.methodLink RX7 143 yX7_changesBy, Cond.instanceMethod yX7_changesBy, Cond.selects RX7 yX7_changesBy yX7_changesBy, Cond.code yX7_changesBy cX7_changesBy 5 (some .int), Cond.methodLink RX7 152 yX7_laysRow, Cond.instanceMethod yX7_laysRow, Cond.selects RX7 yX7_laysRow yX7_laysRow, Cond.code yX7_laysRow cX7_laysRow 7 (some .int)]
def wsX7_order : List Cond := .code yX7_order cX7_order 3 (some .int) :: ((wsX7_order_r1 ++ (wsX7_order_r2 ++ (wsX7_order_r3 ++ wsX7_order_r4))) ++ wsX70)
def wsX7_changesIs : List Cond := .code yX7_changesIs cX7_changesIs 2 (some .int) :: ([.fieldLink RX7 37 "FlangeFolderModel" "many" "[I", .methodLink RX7 152 yX7_laysRow, .instanceMethod yX7_laysRow, .selects RX7 yX7_laysRow yX7_laysRow, .initialized RX7, .code yX7_laysRow cX7_laysRow 7 (some .int), .fieldLink RX7 7 "FlangeFolderModel" "now" "[I", .fieldLink RX7 34 "FlangeFolderModel" "may" "[I", .fieldLink RX7 40 "FlangeFolderModel" "fewest" "[I", .fieldLink RX7 43 "FlangeFolderModel" "row" "[I", .methodLink RX7 70 yX7_has, .static yX7_has, .code yX7_has cX7_has 2 (some .boolean), .methodLink RX7 143 yX7_changesBy, .instanceMethod yX7_changesBy, .selects RX7 yX7_changesBy yX7_changesBy, .code yX7_changesBy cX7_changesBy 5 (some .int)] ++ wsX70)
def wsX7_changes_r1 : List Cond := [Cond.methodLink RX7 52 yX7_within, Cond.static yX7_within, Cond.initialized RX7, Cond.code yX7_within cX7_within 3 (some .boolean), Cond.methodLink RX7 60 yX7_counts, Cond.instanceMethod yX7_counts, Cond.selects RX7 yX7_counts yX7_counts, Cond.code yX7_counts cX7_counts 2 (some .int), Cond.fieldLink RX7 19 "FlangeFolderModel" "refused" "[I", Cond.methodLink RX7 146 yX7_laysOrders, Cond.instanceMethod yX7_laysOrders, Cond.selects RX7 yX7_laysOrders yX7_laysOrders, Cond.code yX7_laysOrders cX7_laysOrders 4 none, Cond.fieldLink RX7 34 "FlangeFolderModel" "may" "[I", Cond.fieldLink RX7 37 "FlangeFolderModel" "many" "[I", Cond.fieldLink RX7 40 "FlangeFolderModel" "fewest" "[I", Cond.fieldLink RX7 7 "FlangeFolderModel" "now" "[I", Cond.methodLink RX7 139 yX7_allMade, Cond.instanceMethod yX7_allMade, Cond.selects RX7 yX7_allMade yX7_allMade, Cond.code yX7_allMade cX7_allMade 1 (some .int), Cond.methodLink RX7 127 yX7_isFree, Cond.instanceMethod yX7_isFree, Cond.selects RX7 yX7_isFree yX7_isFree]
def wsX7_changes_r2 : List Cond := [Cond.code yX7_isFree cX7_isFree 3 (some .boolean), Cond.methodLink RX7 70 yX7_has, Cond.static yX7_has, Cond.code yX7_has cX7_has 2 (some .boolean), Cond.methodLink RX7 95 yX7_hitBy, Cond.instanceMethod yX7_hitBy, Cond.selects RX7 yX7_hitBy yX7_hitBy, Cond.code yX7_hitBy cX7_hitBy 9 (some .int), Cond.methodLink RX7 81 yX7_lays, Cond.instanceMethod yX7_lays, Cond.selects RX7 yX7_lays yX7_lays, Cond.code yX7_lays cX7_lays 4 none, Cond.fieldLink RX7 25 "FlangeFolderModel" "xs" "[I", Cond.fieldLink RX7 28 "FlangeFolderModel" "ys" "[I", Cond.fieldLink RX7 31 "FlangeFolderModel" "goes" "[I", Cond.methodLink RX7 64 yX7_alongX, Cond.static yX7_alongX, Cond.code yX7_alongX cX7_alongX 1 (some .int), Cond.methodLink RX7 67 yX7_alongY, Cond.static yX7_alongY, Cond.code yX7_alongY cX7_alongY 1 (some .int), Cond.methodLink RX7 85 yX7_turnsTo, Cond.instanceMethod yX7_turnsTo, Cond.selects RX7 yX7_turnsTo yX7_turnsTo]
def wsX7_changes_r3 : List Cond := [Cond.code yX7_turnsTo cX7_turnsTo 8 none, Cond.methodLink RX7 88 yX7_isWithin, Cond.instanceMethod yX7_isWithin, Cond.selects RX7 yX7_isWithin yX7_isWithin, Cond.code yX7_isWithin cX7_isWithin 10 (some .boolean), Cond.methodLink RX7 74 yX7_lesser, Cond.static yX7_lesser, Cond.code yX7_lesser cX7_lesser 2 (some .int), Cond.methodLink RX7 78 yX7_greater, Cond.static yX7_greater, Cond.code yX7_greater cX7_greater 2 (some .int), Cond.methodLink RX7 92 yX7_areMet, Cond.instanceMethod yX7_areMet, Cond.selects RX7 yX7_areMet yX7_areMet, Cond.code yX7_areMet cX7_areMet 4 (some .boolean), Cond.methodLink RX7 143 yX7_changesBy, Cond.instanceMethod yX7_changesBy, Cond.selects RX7 yX7_changesBy yX7_changesBy, Cond.code yX7_changesBy cX7_changesBy 5 (some .int), Cond.methodLink RX7 155 yX7_changesIs, Cond.instanceMethod yX7_changesIs, Cond.selects RX7 yX7_changesIs yX7_changesIs, Cond.code yX7_changesIs cX7_changesIs 2 (some .int), Cond.methodLink RX7 152 yX7_laysRow]
def wsX7_changes_r4 : List Cond := [Cond.instanceMethod yX7_laysRow, Cond.selects RX7 yX7_laysRow yX7_laysRow, Cond.code yX7_laysRow cX7_laysRow 7 (some .int), Cond.fieldLink RX7 43 "FlangeFolderModel" "row" "[I"]
def wsX7_changes : List Cond := .code yX7_changes cX7_changes 2 (some .int) :: ((wsX7_changes_r1 ++ (wsX7_changes_r2 ++ (wsX7_changes_r3 ++ wsX7_changes_r4))) ++ wsX70)
def wsX7_ways_r1 : List Cond := [Cond.fieldLink RX7 37 "FlangeFolderModel" "many" "[I", Cond.fieldLink RX7 7 "FlangeFolderModel" "now" "[I", Cond.methodLink RX7 146 yX7_laysOrders, Cond.instanceMethod yX7_laysOrders, Cond.selects RX7 yX7_laysOrders yX7_laysOrders, Cond.initialized RX7, Cond.code yX7_laysOrders cX7_laysOrders 4 none, Cond.fieldLink RX7 34 "FlangeFolderModel" "may" "[I", Cond.fieldLink RX7 40 "FlangeFolderModel" "fewest" "[I", Cond.methodLink RX7 139 yX7_allMade, Cond.instanceMethod yX7_allMade, Cond.selects RX7 yX7_allMade yX7_allMade, Cond.code yX7_allMade cX7_allMade 1 (some .int), Cond.methodLink RX7 127 yX7_isFree, Cond.instanceMethod yX7_isFree, Cond.selects RX7 yX7_isFree yX7_isFree, Cond.code yX7_isFree cX7_isFree 3 (some .boolean), Cond.methodLink RX7 70 yX7_has, Cond.static yX7_has, Cond.code yX7_has cX7_has 2 (some .boolean), Cond.methodLink RX7 95 yX7_hitBy, Cond.instanceMethod yX7_hitBy, Cond.selects RX7 yX7_hitBy yX7_hitBy, Cond.code yX7_hitBy cX7_hitBy 9 (some .int)]
def wsX7_ways_r2 : List Cond := [Cond.methodLink RX7 81 yX7_lays, Cond.instanceMethod yX7_lays, Cond.selects RX7 yX7_lays yX7_lays, Cond.code yX7_lays cX7_lays 4 none, Cond.fieldLink RX7 25 "FlangeFolderModel" "xs" "[I", Cond.fieldLink RX7 28 "FlangeFolderModel" "ys" "[I", Cond.fieldLink RX7 31 "FlangeFolderModel" "goes" "[I", Cond.methodLink RX7 64 yX7_alongX, Cond.static yX7_alongX, Cond.code yX7_alongX cX7_alongX 1 (some .int), Cond.methodLink RX7 67 yX7_alongY, Cond.static yX7_alongY, Cond.code yX7_alongY cX7_alongY 1 (some .int), Cond.methodLink RX7 85 yX7_turnsTo, Cond.instanceMethod yX7_turnsTo, Cond.selects RX7 yX7_turnsTo yX7_turnsTo, Cond.code yX7_turnsTo cX7_turnsTo 8 none, Cond.methodLink RX7 88 yX7_isWithin, Cond.instanceMethod yX7_isWithin, Cond.selects RX7 yX7_isWithin yX7_isWithin, Cond.code yX7_isWithin cX7_isWithin 10 (some .boolean), Cond.methodLink RX7 74 yX7_lesser, Cond.static yX7_lesser, Cond.code yX7_lesser cX7_lesser 2 (some .int)]
def wsX7_ways_r3 : List Cond := [Cond.methodLink RX7 78 yX7_greater, Cond.static yX7_greater, Cond.code yX7_greater cX7_greater 2 (some .int), Cond.methodLink RX7 92 yX7_areMet, Cond.instanceMethod yX7_areMet, Cond.selects RX7 yX7_areMet yX7_areMet, Cond.code yX7_areMet cX7_areMet 4 (some .boolean), Cond.methodLink RX7 143 yX7_changesBy, Cond.instanceMethod yX7_changesBy, Cond.selects RX7 yX7_changesBy yX7_changesBy, Cond.code yX7_changesBy cX7_changesBy 5 (some .int)]
def wsX7_ways : List Cond := .code yX7_ways cX7_ways 1 (some .int) :: ((wsX7_ways_r1 ++ (wsX7_ways_r2 ++ wsX7_ways_r3)) ++ wsX70)
def wsX7_longBy : List Cond := .code yX7_longBy cX7_longBy 4 (some .int) :: ([.fieldLink RX7 7 "FlangeFolderModel" "now" "[I", .methodLink RX7 70 yX7_has, .static yX7_has, .initialized RX7, .code yX7_has cX7_has 2 (some .boolean)] ++ wsX70)
def wsX7_countIs : List Cond := .code yX7_countIs cX7_countIs 2 (some .int) :: ([.fieldLink RX7 7 "FlangeFolderModel" "now" "[I", .methodLink RX7 130 yX7_ones, .static yX7_ones, .initialized RX7, .code yX7_ones cX7_ones 3 (some .int), .methodLink RX7 139 yX7_allMade, .instanceMethod yX7_allMade, .selects RX7 yX7_allMade yX7_allMade, .code yX7_allMade cX7_allMade 1 (some .int), .methodLink RX7 158 yX7_longBy, .instanceMethod yX7_longBy, .selects RX7 yX7_longBy yX7_longBy, .code yX7_longBy cX7_longBy 4 (some .int), .methodLink RX7 70 yX7_has, .static yX7_has, .code yX7_has cX7_has 2 (some .boolean)] ++ wsX70)
def wsX7_count_r1 : List Cond := [Cond.methodLink RX7 52 yX7_within, Cond.static yX7_within, Cond.initialized RX7, Cond.code yX7_within cX7_within 3 (some .boolean), Cond.methodLink RX7 161 yX7_countIs, Cond.instanceMethod yX7_countIs, Cond.selects RX7 yX7_countIs yX7_countIs, Cond.code yX7_countIs cX7_countIs 2 (some .int), Cond.fieldLink RX7 7 "FlangeFolderModel" "now" "[I", Cond.methodLink RX7 130 yX7_ones, Cond.static yX7_ones, Cond.code yX7_ones cX7_ones 3 (some .int), Cond.methodLink RX7 139 yX7_allMade, Cond.instanceMethod yX7_allMade, Cond.selects RX7 yX7_allMade yX7_allMade, Cond.code yX7_allMade cX7_allMade 1 (some .int), Cond.methodLink RX7 158 yX7_longBy, Cond.instanceMethod yX7_longBy, Cond.selects RX7 yX7_longBy yX7_longBy, Cond.code yX7_longBy cX7_longBy 4 (some .int), Cond.methodLink RX7 70 yX7_has, Cond.static yX7_has, Cond.code yX7_has cX7_has 2 (some .boolean), Cond.methodLink RX7 60 yX7_counts]
def wsX7_count_r2 : List Cond := [Cond.instanceMethod yX7_counts, Cond.selects RX7 yX7_counts yX7_counts, Cond.code yX7_counts cX7_counts 2 (some .int), Cond.fieldLink RX7 19 "FlangeFolderModel" "refused" "[I"]
def wsX7_count : List Cond := .code yX7_count cX7_count 2 (some .int) :: ((wsX7_count_r1 ++ wsX7_count_r2) ++ wsX70)
def wsX7_type : List Cond := .code yX7_type cX7_type 2 (some .int) :: ([.fieldLink RX7 164 "FlangeFolderModel" "length" "I", .fieldLink RX7 22 "FlangeFolderModel" "text" "[I", .methodLink RX7 52 yX7_within, .static yX7_within, .initialized RX7, .code yX7_within cX7_within 3 (some .boolean), .methodLink RX7 60 yX7_counts, .instanceMethod yX7_counts, .selects RX7 yX7_counts yX7_counts, .code yX7_counts cX7_counts 2 (some .int), .fieldLink RX7 19 "FlangeFolderModel" "refused" "[I"] ++ wsX70)
def wsX7_clear : List Cond := .code yX7_clear cX7_clear 2 (some .int) :: ([.fieldLink RX7 164 "FlangeFolderModel" "length" "I"] ++ wsX70)
def wsX7_here : List Cond := .code yX7_here cX7_here 1 (some .int) :: ([.fieldLink RX7 167 "FlangeFolderModel" "place" "I", .fieldLink RX7 164 "FlangeFolderModel" "length" "I", .fieldLink RX7 22 "FlangeFolderModel" "text" "[I"] ++ wsX70)
def wsX7_blanks : List Cond := .code yX7_blanks cX7_blanks 1 none :: ([.fieldLink RX7 167 "FlangeFolderModel" "place" "I", .methodLink RX7 170 yX7_here, .instanceMethod yX7_here, .selects RX7 yX7_here yX7_here, .initialized RX7, .code yX7_here cX7_here 1 (some .int), .fieldLink RX7 164 "FlangeFolderModel" "length" "I", .fieldLink RX7 22 "FlangeFolderModel" "text" "[I"] ++ wsX70)
def wsX7_passesNumber : List Cond := .code yX7_passesNumber cX7_passesNumber 4 (some .boolean) :: ([.fieldLink RX7 167 "FlangeFolderModel" "place" "I", .fieldLink RX7 49 "FlangeFolderModel" "numbers" "[I", .methodLink RX7 173 yX7_blanks, .instanceMethod yX7_blanks, .selects RX7 yX7_blanks yX7_blanks, .initialized RX7, .code yX7_blanks cX7_blanks 1 none, .methodLink RX7 170 yX7_here, .instanceMethod yX7_here, .selects RX7 yX7_here yX7_here, .code yX7_here cX7_here 1 (some .int), .fieldLink RX7 164 "FlangeFolderModel" "length" "I", .fieldLink RX7 22 "FlangeFolderModel" "text" "[I", .methodLink RX7 52 yX7_within, .static yX7_within, .code yX7_within cX7_within 3 (some .boolean)] ++ wsX70)
def wsX7_numbersOf : List Cond := .code yX7_numbersOf cX7_numbersOf 1 (some .int) :: ([])
def wsX7_passesOne_r1 : List Cond := [Cond.fieldLink RX7 46 "FlangeFolderModel" "letters" "[I", Cond.fieldLink RX7 179 "FlangeFolderModel" "tells" "I", Cond.fieldLink RX7 167 "FlangeFolderModel" "place" "I", Cond.methodLink RX7 170 yX7_here, Cond.instanceMethod yX7_here, Cond.selects RX7 yX7_here yX7_here, Cond.initialized RX7, Cond.code yX7_here cX7_here 1 (some .int), Cond.fieldLink RX7 164 "FlangeFolderModel" "length" "I", Cond.fieldLink RX7 22 "FlangeFolderModel" "text" "[I", Cond.methodLink RX7 176 yX7_numbersOf, Cond.static yX7_numbersOf, Cond.code yX7_numbersOf cX7_numbersOf 1 (some .int), Cond.methodLink RX7 182 yX7_passesNumber, Cond.instanceMethod yX7_passesNumber, Cond.selects RX7 yX7_passesNumber yX7_passesNumber, Cond.code yX7_passesNumber cX7_passesNumber 4 (some .boolean), Cond.fieldLink RX7 49 "FlangeFolderModel" "numbers" "[I", Cond.methodLink RX7 173 yX7_blanks, Cond.instanceMethod yX7_blanks, Cond.selects RX7 yX7_blanks yX7_blanks, Cond.code yX7_blanks cX7_blanks 1 none, Cond.methodLink RX7 52 yX7_within, Cond.static yX7_within]
def wsX7_passesOne_r2 : List Cond := [Cond.code yX7_within cX7_within 3 (some .boolean)]
def wsX7_passesOne : List Cond := .code yX7_passesOne cX7_passesOne 3 (some .boolean) :: ((wsX7_passesOne_r1 ++ wsX7_passesOne_r2) ++ wsX70)
def wsX7_isRead_r1 : List Cond := [Cond.fieldLink RX7 167 "FlangeFolderModel" "place" "I", Cond.fieldLink RX7 179 "FlangeFolderModel" "tells" "I", Cond.fieldLink RX7 164 "FlangeFolderModel" "length" "I", Cond.methodLink RX7 173 yX7_blanks, Cond.instanceMethod yX7_blanks, Cond.selects RX7 yX7_blanks yX7_blanks, Cond.initialized RX7, Cond.code yX7_blanks cX7_blanks 1 none, Cond.methodLink RX7 170 yX7_here, Cond.instanceMethod yX7_here, Cond.selects RX7 yX7_here yX7_here, Cond.code yX7_here cX7_here 1 (some .int), Cond.fieldLink RX7 22 "FlangeFolderModel" "text" "[I", Cond.methodLink RX7 185 yX7_passesOne, Cond.instanceMethod yX7_passesOne, Cond.selects RX7 yX7_passesOne yX7_passesOne, Cond.code yX7_passesOne cX7_passesOne 3 (some .boolean), Cond.fieldLink RX7 46 "FlangeFolderModel" "letters" "[I", Cond.methodLink RX7 176 yX7_numbersOf, Cond.static yX7_numbersOf, Cond.code yX7_numbersOf cX7_numbersOf 1 (some .int), Cond.methodLink RX7 182 yX7_passesNumber, Cond.instanceMethod yX7_passesNumber, Cond.selects RX7 yX7_passesNumber yX7_passesNumber]
def wsX7_isRead_r2 : List Cond := [Cond.code yX7_passesNumber cX7_passesNumber 4 (some .boolean), Cond.fieldLink RX7 49 "FlangeFolderModel" "numbers" "[I", Cond.methodLink RX7 52 yX7_within, Cond.static yX7_within, Cond.code yX7_within cX7_within 3 (some .boolean)]
def wsX7_isRead : List Cond := .code yX7_isRead cX7_isRead 2 (some .boolean) :: ((wsX7_isRead_r1 ++ wsX7_isRead_r2) ++ wsX70)
def wsX7_isDone_r1 : List Cond := [Cond.fieldLink RX7 49 "FlangeFolderModel" "numbers" "[I", Cond.fieldLink RX7 46 "FlangeFolderModel" "letters" "[I", Cond.fieldLink RX7 7 "FlangeFolderModel" "now" "[I", Cond.methodLink RX7 52 yX7_within, Cond.static yX7_within, Cond.initialized RX7, Cond.code yX7_within cX7_within 3 (some .boolean), Cond.methodLink RX7 101 yX7_strips, Cond.instanceMethod yX7_strips, Cond.selects RX7 yX7_strips yX7_strips, Cond.code yX7_strips cX7_strips 3 (some .int), Cond.methodLink RX7 104 yX7_mayBend, Cond.instanceMethod yX7_mayBend, Cond.selects RX7 yX7_mayBend yX7_mayBend, Cond.code yX7_mayBend cX7_mayBend 4 (some .boolean), Cond.methodLink RX7 107 yX7_adds, Cond.instanceMethod yX7_adds, Cond.selects RX7 yX7_adds yX7_adds, Cond.code yX7_adds cX7_adds 5 (some .int), Cond.methodLink RX7 123 yX7_isBend, Cond.instanceMethod yX7_isBend, Cond.selects RX7 yX7_isBend yX7_isBend, Cond.code yX7_isBend cX7_isBend 2 (some .boolean), Cond.methodLink RX7 127 yX7_isFree]
def wsX7_isDone_r2 : List Cond := [Cond.instanceMethod yX7_isFree, Cond.selects RX7 yX7_isFree yX7_isFree, Cond.code yX7_isFree cX7_isFree 3 (some .boolean), Cond.methodLink RX7 70 yX7_has, Cond.static yX7_has, Cond.code yX7_has cX7_has 2 (some .boolean), Cond.methodLink RX7 95 yX7_hitBy, Cond.instanceMethod yX7_hitBy, Cond.selects RX7 yX7_hitBy yX7_hitBy, Cond.code yX7_hitBy cX7_hitBy 9 (some .int), Cond.methodLink RX7 81 yX7_lays, Cond.instanceMethod yX7_lays, Cond.selects RX7 yX7_lays yX7_lays, Cond.code yX7_lays cX7_lays 4 none, Cond.fieldLink RX7 25 "FlangeFolderModel" "xs" "[I", Cond.fieldLink RX7 28 "FlangeFolderModel" "ys" "[I", Cond.fieldLink RX7 31 "FlangeFolderModel" "goes" "[I", Cond.methodLink RX7 64 yX7_alongX, Cond.static yX7_alongX, Cond.code yX7_alongX cX7_alongX 1 (some .int), Cond.methodLink RX7 67 yX7_alongY, Cond.static yX7_alongY, Cond.code yX7_alongY cX7_alongY 1 (some .int), Cond.methodLink RX7 85 yX7_turnsTo]
def wsX7_isDone_r3 : List Cond := [Cond.instanceMethod yX7_turnsTo, Cond.selects RX7 yX7_turnsTo yX7_turnsTo, Cond.code yX7_turnsTo cX7_turnsTo 8 none, Cond.methodLink RX7 88 yX7_isWithin, Cond.instanceMethod yX7_isWithin, Cond.selects RX7 yX7_isWithin yX7_isWithin, Cond.code yX7_isWithin cX7_isWithin 10 (some .boolean), Cond.methodLink RX7 74 yX7_lesser, Cond.static yX7_lesser, Cond.code yX7_lesser cX7_lesser 2 (some .int), Cond.methodLink RX7 78 yX7_greater, Cond.static yX7_greater, Cond.code yX7_greater cX7_greater 2 (some .int), Cond.methodLink RX7 92 yX7_areMet, Cond.instanceMethod yX7_areMet, Cond.selects RX7 yX7_areMet yX7_areMet, Cond.code yX7_areMet cX7_areMet 4 (some .boolean), Cond.methodLink RX7 111 yX7_mayPress, Cond.instanceMethod yX7_mayPress, Cond.selects RX7 yX7_mayPress yX7_mayPress, Cond.code yX7_mayPress cX7_mayPress 3 (some .boolean), Cond.methodLink RX7 114 yX7_presses, Cond.instanceMethod yX7_presses, Cond.selects RX7 yX7_presses yX7_presses]
def wsX7_isDone_r4 : List Cond := [Cond.code yX7_presses cX7_presses 4 (some .int), Cond.methodLink RX7 117 yX7_mayTake, Cond.instanceMethod yX7_mayTake, Cond.selects RX7 yX7_mayTake yX7_mayTake, Cond.code yX7_mayTake cX7_mayTake 3 (some .boolean), Cond.methodLink RX7 120 yX7_takesNow, Cond.instanceMethod yX7_takesNow, Cond.selects RX7 yX7_takesNow yX7_takesNow, Cond.code yX7_takesNow cX7_takesNow 4 (some .int)]
def wsX7_isDone : List Cond := .code yX7_isDone cX7_isDone 7 (some .boolean) :: ((wsX7_isDone_r1 ++ (wsX7_isDone_r2 ++ (wsX7_isDone_r3 ++ wsX7_isDone_r4))) ++ wsX70)
def wsX7_changesAside : List Cond := .code yX7_changesAside cX7_changesAside 3 none :: ([.fieldLink RX7 7 "FlangeFolderModel" "now" "[I", .fieldLink RX7 13 "FlangeFolderModel" "aside" "[I"] ++ wsX70)
def wsX7_does_r1 : List Cond := [Cond.fieldLink RX7 167 "FlangeFolderModel" "place" "I", Cond.fieldLink RX7 13 "FlangeFolderModel" "aside" "[I", Cond.fieldLink RX7 7 "FlangeFolderModel" "now" "[I", Cond.fieldLink RX7 179 "FlangeFolderModel" "tells" "I", Cond.methodLink RX7 189 yX7_isRead, Cond.instanceMethod yX7_isRead, Cond.selects RX7 yX7_isRead yX7_isRead, Cond.initialized RX7, Cond.code yX7_isRead cX7_isRead 2 (some .boolean), Cond.fieldLink RX7 164 "FlangeFolderModel" "length" "I", Cond.methodLink RX7 173 yX7_blanks, Cond.instanceMethod yX7_blanks, Cond.selects RX7 yX7_blanks yX7_blanks, Cond.code yX7_blanks cX7_blanks 1 none, Cond.methodLink RX7 170 yX7_here, Cond.instanceMethod yX7_here, Cond.selects RX7 yX7_here yX7_here, Cond.code yX7_here cX7_here 1 (some .int), Cond.fieldLink RX7 22 "FlangeFolderModel" "text" "[I", Cond.methodLink RX7 185 yX7_passesOne, Cond.instanceMethod yX7_passesOne, Cond.selects RX7 yX7_passesOne yX7_passesOne, Cond.code yX7_passesOne cX7_passesOne 3 (some .boolean), Cond.fieldLink RX7 46 "FlangeFolderModel" "letters" "[I"]
def wsX7_does_r2 : List Cond := [Cond.methodLink RX7 176 yX7_numbersOf, Cond.static yX7_numbersOf, Cond.code yX7_numbersOf cX7_numbersOf 1 (some .int), Cond.methodLink RX7 182 yX7_passesNumber, Cond.instanceMethod yX7_passesNumber, Cond.selects RX7 yX7_passesNumber yX7_passesNumber, Cond.code yX7_passesNumber cX7_passesNumber 4 (some .boolean), Cond.fieldLink RX7 49 "FlangeFolderModel" "numbers" "[I", Cond.methodLink RX7 52 yX7_within, Cond.static yX7_within, Cond.code yX7_within cX7_within 3 (some .boolean), Cond.methodLink RX7 192 yX7_isDone, Cond.instanceMethod yX7_isDone, Cond.selects RX7 yX7_isDone yX7_isDone, Cond.code yX7_isDone cX7_isDone 7 (some .boolean), Cond.methodLink RX7 101 yX7_strips, Cond.instanceMethod yX7_strips, Cond.selects RX7 yX7_strips yX7_strips, Cond.code yX7_strips cX7_strips 3 (some .int), Cond.methodLink RX7 104 yX7_mayBend, Cond.instanceMethod yX7_mayBend, Cond.selects RX7 yX7_mayBend yX7_mayBend, Cond.code yX7_mayBend cX7_mayBend 4 (some .boolean), Cond.methodLink RX7 107 yX7_adds]
def wsX7_does_r3 : List Cond := [Cond.instanceMethod yX7_adds, Cond.selects RX7 yX7_adds yX7_adds, Cond.code yX7_adds cX7_adds 5 (some .int), Cond.methodLink RX7 123 yX7_isBend, Cond.instanceMethod yX7_isBend, Cond.selects RX7 yX7_isBend yX7_isBend, Cond.code yX7_isBend cX7_isBend 2 (some .boolean), Cond.methodLink RX7 127 yX7_isFree, Cond.instanceMethod yX7_isFree, Cond.selects RX7 yX7_isFree yX7_isFree, Cond.code yX7_isFree cX7_isFree 3 (some .boolean), Cond.methodLink RX7 70 yX7_has, Cond.static yX7_has, Cond.code yX7_has cX7_has 2 (some .boolean), Cond.methodLink RX7 95 yX7_hitBy, Cond.instanceMethod yX7_hitBy, Cond.selects RX7 yX7_hitBy yX7_hitBy, Cond.code yX7_hitBy cX7_hitBy 9 (some .int), Cond.methodLink RX7 81 yX7_lays, Cond.instanceMethod yX7_lays, Cond.selects RX7 yX7_lays yX7_lays, Cond.code yX7_lays cX7_lays 4 none, Cond.fieldLink RX7 25 "FlangeFolderModel" "xs" "[I", Cond.fieldLink RX7 28 "FlangeFolderModel" "ys" "[I"]
def wsX7_does_r4 : List Cond := [Cond.fieldLink RX7 31 "FlangeFolderModel" "goes" "[I", Cond.methodLink RX7 64 yX7_alongX, Cond.static yX7_alongX, Cond.code yX7_alongX cX7_alongX 1 (some .int), Cond.methodLink RX7 67 yX7_alongY, Cond.static yX7_alongY, Cond.code yX7_alongY cX7_alongY 1 (some .int), Cond.methodLink RX7 85 yX7_turnsTo, Cond.instanceMethod yX7_turnsTo, Cond.selects RX7 yX7_turnsTo yX7_turnsTo, Cond.code yX7_turnsTo cX7_turnsTo 8 none, Cond.methodLink RX7 88 yX7_isWithin, Cond.instanceMethod yX7_isWithin, Cond.selects RX7 yX7_isWithin yX7_isWithin, Cond.code yX7_isWithin cX7_isWithin 10 (some .boolean), Cond.methodLink RX7 74 yX7_lesser, Cond.static yX7_lesser, Cond.code yX7_lesser cX7_lesser 2 (some .int), Cond.methodLink RX7 78 yX7_greater, Cond.static yX7_greater, Cond.code yX7_greater cX7_greater 2 (some .int), Cond.methodLink RX7 92 yX7_areMet, Cond.instanceMethod yX7_areMet, Cond.selects RX7 yX7_areMet yX7_areMet]
def wsX7_does_r5 : List Cond := [Cond.code yX7_areMet cX7_areMet 4 (some .boolean), Cond.methodLink RX7 111 yX7_mayPress, Cond.instanceMethod yX7_mayPress, Cond.selects RX7 yX7_mayPress yX7_mayPress, Cond.code yX7_mayPress cX7_mayPress 3 (some .boolean), Cond.methodLink RX7 114 yX7_presses, Cond.instanceMethod yX7_presses, Cond.selects RX7 yX7_presses yX7_presses, Cond.code yX7_presses cX7_presses 4 (some .int), Cond.methodLink RX7 117 yX7_mayTake, Cond.instanceMethod yX7_mayTake, Cond.selects RX7 yX7_mayTake yX7_mayTake, Cond.code yX7_mayTake cX7_mayTake 3 (some .boolean), Cond.methodLink RX7 120 yX7_takesNow, Cond.instanceMethod yX7_takesNow, Cond.selects RX7 yX7_takesNow yX7_takesNow, Cond.code yX7_takesNow cX7_takesNow 4 (some .int), Cond.methodLink RX7 195 yX7_changesAside, Cond.instanceMethod yX7_changesAside, Cond.selects RX7 yX7_changesAside yX7_changesAside, Cond.code yX7_changesAside cX7_changesAside 3 none, Cond.methodLink RX7 98 yX7_leaves, Cond.instanceMethod yX7_leaves, Cond.selects RX7 yX7_leaves yX7_leaves]
def wsX7_does_r6 : List Cond := [Cond.code yX7_leaves cX7_leaves 2 none, Cond.fieldLink RX7 56 "FlangeFolderModel" "states" "I", Cond.fieldLink RX7 16 "FlangeFolderModel" "past" "[I"]
def wsX7_does : List Cond := .code yX7_does cX7_does 2 (some .int) :: ((wsX7_does_r1 ++ (wsX7_does_r2 ++ (wsX7_does_r3 ++ (wsX7_does_r4 ++ (wsX7_does_r5 ++ wsX7_does_r6))))) ++ wsX70)
def wsX7_toldIs : List Cond := .code yX7_toldIs cX7_toldIs 2 (some .int) :: ([.fieldLink RX7 19 "FlangeFolderModel" "refused" "[I", .fieldLink RX7 164 "FlangeFolderModel" "length" "I", .fieldLink RX7 56 "FlangeFolderModel" "states" "I"] ++ wsX70)
def wsX7_told : List Cond := .code yX7_told cX7_told 2 (some .int) :: ([.methodLink RX7 52 yX7_within, .static yX7_within, .initialized RX7, .code yX7_within cX7_within 3 (some .boolean), .methodLink RX7 198 yX7_toldIs, .instanceMethod yX7_toldIs, .selects RX7 yX7_toldIs yX7_toldIs, .code yX7_toldIs cX7_toldIs 2 (some .int), .fieldLink RX7 19 "FlangeFolderModel" "refused" "[I", .fieldLink RX7 164 "FlangeFolderModel" "length" "I", .fieldLink RX7 56 "FlangeFolderModel" "states" "I", .methodLink RX7 60 yX7_counts, .instanceMethod yX7_counts, .selects RX7 yX7_counts yX7_counts, .code yX7_counts cX7_counts 2 (some .int)] ++ wsX70)
def wsX7_mix : List Cond := .code yX7_mix cX7_mix 2 none :: ([.constantLong RX7 201 (31), .fieldLink RX7 203 "FlangeFolderModel" "hash" "J"] ++ wsX70)
def wsX7_digest_r1 : List Cond := [Cond.constantLong RX7 207 (2934), Cond.fieldLink RX7 203 "FlangeFolderModel" "hash" "J", Cond.fieldLink RX7 7 "FlangeFolderModel" "now" "[I", Cond.fieldLink RX7 25 "FlangeFolderModel" "xs" "[I", Cond.fieldLink RX7 28 "FlangeFolderModel" "ys" "[I", Cond.fieldLink RX7 37 "FlangeFolderModel" "many" "[I", Cond.methodLink RX7 198 yX7_toldIs, Cond.instanceMethod yX7_toldIs, Cond.selects RX7 yX7_toldIs yX7_toldIs, Cond.initialized RX7, Cond.code yX7_toldIs cX7_toldIs 2 (some .int), Cond.fieldLink RX7 19 "FlangeFolderModel" "refused" "[I", Cond.fieldLink RX7 164 "FlangeFolderModel" "length" "I", Cond.fieldLink RX7 56 "FlangeFolderModel" "states" "I", Cond.methodLink RX7 209 yX7_mix, Cond.instanceMethod yX7_mix, Cond.selects RX7 yX7_mix yX7_mix, Cond.code yX7_mix cX7_mix 2 none, Cond.constantLong RX7 201 (31), Cond.methodLink RX7 161 yX7_countIs, Cond.instanceMethod yX7_countIs, Cond.selects RX7 yX7_countIs yX7_countIs, Cond.code yX7_countIs cX7_countIs 2 (some .int), Cond.methodLink RX7 130 yX7_ones]
def wsX7_digest_r2 : List Cond := [Cond.static yX7_ones, Cond.code yX7_ones cX7_ones 3 (some .int), Cond.methodLink RX7 139 yX7_allMade, Cond.instanceMethod yX7_allMade, Cond.selects RX7 yX7_allMade yX7_allMade, Cond.code yX7_allMade cX7_allMade 1 (some .int), Cond.methodLink RX7 158 yX7_longBy, Cond.instanceMethod yX7_longBy, Cond.selects RX7 yX7_longBy yX7_longBy, Cond.code yX7_longBy cX7_longBy 4 (some .int), Cond.methodLink RX7 70 yX7_has, Cond.static yX7_has, Cond.code yX7_has cX7_has 2 (some .boolean), Cond.methodLink RX7 133 yX7_ofBend, Cond.instanceMethod yX7_ofBend, Cond.selects RX7 yX7_ofBend yX7_ofBend, Cond.code yX7_ofBend cX7_ofBend 3 (some .int), Cond.methodLink RX7 81 yX7_lays, Cond.instanceMethod yX7_lays, Cond.selects RX7 yX7_lays yX7_lays, Cond.code yX7_lays cX7_lays 4 none, Cond.fieldLink RX7 31 "FlangeFolderModel" "goes" "[I", Cond.methodLink RX7 64 yX7_alongX, Cond.static yX7_alongX]
def wsX7_digest_r3 : List Cond := [Cond.code yX7_alongX cX7_alongX 1 (some .int), Cond.methodLink RX7 67 yX7_alongY, Cond.static yX7_alongY, Cond.code yX7_alongY cX7_alongY 1 (some .int), Cond.methodLink RX7 136 yX7_boxIs, Cond.instanceMethod yX7_boxIs, Cond.selects RX7 yX7_boxIs yX7_boxIs, Cond.code yX7_boxIs cX7_boxIs 5 (some .int), Cond.methodLink RX7 74 yX7_lesser, Cond.static yX7_lesser, Cond.code yX7_lesser cX7_lesser 2 (some .int), Cond.methodLink RX7 78 yX7_greater, Cond.static yX7_greater, Cond.code yX7_greater cX7_greater 2 (some .int), Cond.methodLink RX7 212 yX7_free, Cond.instanceMethod yX7_free, Cond.selects RX7 yX7_free yX7_free, Cond.code yX7_free cX7_free 3 (some .int), Cond.methodLink RX7 127 yX7_isFree, Cond.instanceMethod yX7_isFree, Cond.selects RX7 yX7_isFree yX7_isFree, Cond.code yX7_isFree cX7_isFree 3 (some .boolean), Cond.methodLink RX7 95 yX7_hitBy, Cond.instanceMethod yX7_hitBy]
def wsX7_digest_r4 : List Cond := [Cond.selects RX7 yX7_hitBy yX7_hitBy, Cond.code yX7_hitBy cX7_hitBy 9 (some .int), Cond.methodLink RX7 85 yX7_turnsTo, Cond.instanceMethod yX7_turnsTo, Cond.selects RX7 yX7_turnsTo yX7_turnsTo, Cond.code yX7_turnsTo cX7_turnsTo 8 none, Cond.methodLink RX7 88 yX7_isWithin, Cond.instanceMethod yX7_isWithin, Cond.selects RX7 yX7_isWithin yX7_isWithin, Cond.code yX7_isWithin cX7_isWithin 10 (some .boolean), Cond.methodLink RX7 92 yX7_areMet, Cond.instanceMethod yX7_areMet, Cond.selects RX7 yX7_areMet yX7_areMet, Cond.code yX7_areMet cX7_areMet 4 (some .boolean), Cond.methodLink RX7 146 yX7_laysOrders, Cond.instanceMethod yX7_laysOrders, Cond.selects RX7 yX7_laysOrders yX7_laysOrders, Cond.code yX7_laysOrders cX7_laysOrders 4 none, Cond.fieldLink RX7 34 "FlangeFolderModel" "may" "[I", Cond.fieldLink RX7 40 "FlangeFolderModel" "fewest" "[I", Cond.methodLink RX7 143 yX7_changesBy, Cond.instanceMethod yX7_changesBy, Cond.selects RX7 yX7_changesBy yX7_changesBy, Cond.code yX7_changesBy cX7_changesBy 5 (some .int)]
def wsX7_digest_r5 : List Cond := [Cond.methodLink RX7 155 yX7_changesIs, Cond.instanceMethod yX7_changesIs, Cond.selects RX7 yX7_changesIs yX7_changesIs, Cond.code yX7_changesIs cX7_changesIs 2 (some .int), Cond.methodLink RX7 152 yX7_laysRow, Cond.instanceMethod yX7_laysRow, Cond.selects RX7 yX7_laysRow yX7_laysRow, Cond.code yX7_laysRow cX7_laysRow 7 (some .int), Cond.fieldLink RX7 43 "FlangeFolderModel" "row" "[I"]
def wsX7_digest : List Cond := .code yX7_digest cX7_digest 2 (some .long) :: ((wsX7_digest_r1 ++ (wsX7_digest_r2 ++ (wsX7_digest_r3 ++ (wsX7_digest_r4 ++ wsX7_digest_r5)))) ++ wsX70)
def wsJ9_max_7cf53 : List Cond := .code yJ9_max_7cf53 cJ9_max_7cf53 2 (some .int) :: ([])
def wsJ9_min_7cf53 : List Cond := .code yJ9_min_7cf53 cJ9_min_7cf53 2 (some .int) :: ([])
def wsL_law_r1 : List Cond := [Cond.classLink RL 7 RX6, Cond.instantiable RX6 9, Cond.initialized RX6, Cond.classLink RL 10 RX7, Cond.instantiable RX7 19, Cond.initialized RX7, Cond.methodLink RL 9 yX6_init, Cond.instanceMethod yX6_init, Cond.code yX6_init cX6_init 1 none, Cond.methodLink RX6 3 objectInit, Cond.instanceMethod objectInit, Cond.code objectInit ⟨#[0xb1]⟩ 1 none, Cond.classLink RX6 9 RX4, Cond.instantiable RX4 8, Cond.initialized RX4, Cond.fieldLink RX6 12 "FlangeFolder" "sheet" "LFlangeFolder$Sheet;", Cond.classLink RX6 16 RX3, Cond.instantiable RX3 4, Cond.initialized RX3, Cond.fieldLink RX6 19 "FlangeFolder" "shape" "LFlangeFolder$Shape;", Cond.classLink RX6 23 RX1, Cond.instantiable RX1 12, Cond.initialized RX1, Cond.fieldLink RX6 28 "FlangeFolder" "planner" "LFlangeFolder$Planner;"]
def wsL_law_r2 : List Cond := [Cond.classLink RX6 32 RX5, Cond.instantiable RX5 2, Cond.initialized RX5, Cond.fieldLink RX6 37 "FlangeFolder" "worker" "LFlangeFolder$Worker;", Cond.classLink RX6 41 RX0, Cond.instantiable RX0 3, Cond.initialized RX0, Cond.fieldLink RX6 44 "FlangeFolder" "history" "LFlangeFolder$History;", Cond.classLink RX6 48 RX2, Cond.instantiable RX2 6, Cond.initialized RX2, Cond.fieldLink RX6 51 "FlangeFolder" "script" "LFlangeFolder$Script;", Cond.fieldLink RX6 55 "FlangeFolder" "badCalls" "I", Cond.fieldLink RX6 59 "FlangeFolder" "noCalls" "I", Cond.fieldLink RX6 62 "FlangeFolder" "fullCalls" "I", Cond.methodLink RX6 11 yX4_init, Cond.instanceMethod yX4_init, Cond.code yX4_init cX4_init 1 none, Cond.methodLink RX4 3 objectInit, Cond.arrayClass .int, Cond.fieldLink RX4 9 "FlangeFolder$Sheet" "lengths" "[I", Cond.fieldLink RX4 15 "FlangeFolder$Sheet" "turns" "[I", Cond.fieldLink RX4 18 "FlangeFolder$Sheet" "tools" "[I", Cond.fieldLink RX4 21 "FlangeFolder$Sheet" "taken" "[I"]
def wsL_law_r3 : List Cond := [Cond.fieldLink RX4 24 "FlangeFolder$Sheet" "bends" "I", Cond.fieldLink RX4 28 "FlangeFolder$Sheet" "made" "I", Cond.fieldLink RX4 31 "FlangeFolder$Sheet" "wide" "I", Cond.fieldLink RX4 34 "FlangeFolder$Sheet" "high" "I", Cond.methodLink RX6 18 yX3_init, Cond.instanceMethod yX3_init, Cond.code yX3_init cX3_init 1 none, Cond.methodLink RX3 3 objectInit, Cond.fieldLink RX3 9 "FlangeFolder$Shape" "x" "[I", Cond.fieldLink RX3 15 "FlangeFolder$Shape" "y" "[I", Cond.fieldLink RX3 18 "FlangeFolder$Shape" "headings" "[I", Cond.fieldLink RX3 21 "FlangeFolder$Shape" "flanges" "I", Cond.methodLink RX6 25 yX1_init, Cond.instanceMethod yX1_init, Cond.code yX1_init cX1_init 3 none, Cond.methodLink RX1 3 objectInit, Cond.fieldLink RX1 9 "FlangeFolder$Planner" "freeBits" "[I", Cond.fieldLink RX1 15 "FlangeFolder$Planner" "crossings" "[I", Cond.fieldLink RX1 18 "FlangeFolder$Planner" "paths" "[I", Cond.fieldLink RX1 21 "FlangeFolder$Planner" "fewest" "[I", Cond.fieldLink RX1 24 "FlangeFolder$Planner" "firstOrder" "[I", Cond.fieldLink RX1 27 "FlangeFolder$Planner" "bestOrder" "[I", Cond.fieldLink RX1 30 "FlangeFolder$Planner" "sheet" "LFlangeFolder$Sheet;", Cond.fieldLink RX1 34 "FlangeFolder$Planner" "shape" "LFlangeFolder$Shape;"]
def wsL_law_r4 : List Cond := [Cond.fieldLink RX1 44 "FlangeFolder$Planner" "planned" "Z", Cond.fieldLink RX1 48 "FlangeFolder$Planner" "orderCount" "I", Cond.fieldLink RX1 52 "FlangeFolder$Planner" "firstChanges" "I", Cond.fieldLink RX1 55 "FlangeFolder$Planner" "bestChanges" "I", Cond.methodLink RX1 38 yJ7_fill_53178, Cond.static yJ7_fill_53178, Cond.initialized RJ7, Cond.code yJ7_fill_53178 cJ7_fill_53178 4 none, Cond.methodLink RX6 34 yX5_init, Cond.instanceMethod yX5_init, Cond.code yX5_init cX5_init 3 none, Cond.methodLink RX5 3 objectInit, Cond.fieldLink RX5 9 "FlangeFolder$Worker" "sheet" "LFlangeFolder$Sheet;", Cond.fieldLink RX5 15 "FlangeFolder$Worker" "planner" "LFlangeFolder$Planner;", Cond.methodLink RX6 43 yX0_init, Cond.instanceMethod yX0_init, Cond.code yX0_init cX0_init 2 none, Cond.methodLink RX0 3 objectInit, Cond.classLink RX0 11 RX4, Cond.fieldLink RX0 13 "FlangeFolder$History" "ring" "[LFlangeFolder$Sheet;", Cond.fieldLink RX0 18 "FlangeFolder$History" "next" "I", Cond.fieldLink RX0 22 "FlangeFolder$History" "kept" "I", Cond.methodLink RX0 17 yX4_init, Cond.methodLink RX6 50 yX2_init]
def wsL_law_r5 : List Cond := [Cond.instanceMethod yX2_init, Cond.code yX2_init cX2_init 1 none, Cond.methodLink RX2 3 objectInit, Cond.fieldLink RX2 9 "FlangeFolder$Script" "bytes" "[I", Cond.fieldLink RX2 15 "FlangeFolder$Script" "letters" "[I", Cond.fieldLink RX2 18 "FlangeFolder$Script" "numbers" "[I", Cond.fieldLink RX2 21 "FlangeFolder$Script" "size" "I", Cond.fieldLink RX2 25 "FlangeFolder$Script" "orderCount" "I", Cond.fieldLink RX2 28 "FlangeFolder$Script" "at" "I", Cond.methodLink RL 12 yX7_init, Cond.instanceMethod yX7_init, Cond.code yX7_init cX7_init 1 none, Cond.methodLink RX7 1 objectInit, Cond.fieldLink RX7 7 "FlangeFolderModel" "now" "[I", Cond.fieldLink RX7 13 "FlangeFolderModel" "aside" "[I", Cond.fieldLink RX7 16 "FlangeFolderModel" "past" "[I", Cond.fieldLink RX7 19 "FlangeFolderModel" "refused" "[I", Cond.fieldLink RX7 22 "FlangeFolderModel" "text" "[I", Cond.fieldLink RX7 25 "FlangeFolderModel" "xs" "[I", Cond.fieldLink RX7 28 "FlangeFolderModel" "ys" "[I", Cond.fieldLink RX7 31 "FlangeFolderModel" "goes" "[I", Cond.fieldLink RX7 34 "FlangeFolderModel" "may" "[I", Cond.fieldLink RX7 37 "FlangeFolderModel" "many" "[I", Cond.fieldLink RX7 40 "FlangeFolderModel" "fewest" "[I"]
def wsL_law_r6 : List Cond := [Cond.fieldLink RX7 43 "FlangeFolderModel" "row" "[I", Cond.fieldLink RX7 46 "FlangeFolderModel" "letters" "[I", Cond.fieldLink RX7 49 "FlangeFolderModel" "numbers" "[I", Cond.methodLink RL 13 yX6_strip, Cond.instanceMethod yX6_strip, Cond.selects RX6 yX6_strip yX6_strip, Cond.code yX6_strip cX6_strip 2 (some .int), Cond.methodLink RX6 65 yX0_stage, Cond.instanceMethod yX0_stage, Cond.selects RX0 yX0_stage yX0_stage, Cond.code yX0_stage cX0_stage 2 none, Cond.methodLink RX0 25 yX4_copyFrom, Cond.instanceMethod yX4_copyFrom, Cond.selects RX4 yX4_copyFrom yX4_copyFrom, Cond.code yX4_copyFrom cX4_copyFrom 2 none, Cond.methodLink RX4 37 arraycopyName, Cond.native arraycopyName, Cond.static arraycopyName, Cond.initialized "java/lang/System", Cond.methodLink RX6 69 yX5_newStrip, Cond.instanceMethod yX5_newStrip, Cond.selects RX5 yX5_newStrip yX5_newStrip, Cond.code yX5_newStrip cX5_newStrip 3 (some .int), Cond.fieldLink RX5 23 "FlangeFolder$Sheet" "bends" "I"]
def wsL_law_r7 : List Cond := [Cond.fieldLink RX5 29 "FlangeFolder$Sheet" "lengths" "[I", Cond.fieldLink RX5 33 "FlangeFolder$Sheet" "made" "I", Cond.static yX6_isWithin, Cond.code yX6_isWithin cX6_isWithin 3 (some .boolean), Cond.methodLink RX5 36 yX1_forget, Cond.instanceMethod yX1_forget, Cond.selects RX1 yX1_forget yX1_forget, Cond.code yX1_forget cX1_forget 1 none, Cond.methodLink RX6 73 yX6_settled, Cond.instanceMethod yX6_settled, Cond.selects RX6 yX6_settled yX6_settled, Cond.code yX6_settled cX6_settled 2 (some .int), Cond.methodLink RX6 209 yX6_isRefusal, Cond.static yX6_isRefusal, Cond.code yX6_isRefusal cX6_isRefusal 1 (some .boolean), Cond.methodLink RX6 101 yX6_refused, Cond.instanceMethod yX6_refused, Cond.selects RX6 yX6_refused yX6_refused, Cond.code yX6_refused cX6_refused 2 (some .int), Cond.methodLink RX6 218 yX0_keepStaged, Cond.instanceMethod yX0_keepStaged, Cond.selects RX0 yX0_keepStaged yX0_keepStaged, Cond.code yX0_keepStaged cX0_keepStaged 1 none, Cond.methodLink RX0 29 Lib.Math.min.name]
def wsL_law_r8 : List Cond := [Cond.static Lib.Math.min.name, Cond.initialized "java/lang/Math", Cond.code Lib.Math.min.name Lib.Math.min.code 2 (some .int), Cond.methodLink RL 17 yX7_strip, Cond.instanceMethod yX7_strip, Cond.selects RX7 yX7_strip yX7_strip, Cond.code yX7_strip cX7_strip 2 (some .int), Cond.methodLink RX7 52 yX7_within, Cond.static yX7_within, Cond.code yX7_within cX7_within 3 (some .boolean), Cond.methodLink RX7 60 yX7_counts, Cond.instanceMethod yX7_counts, Cond.selects RX7 yX7_counts yX7_counts, Cond.code yX7_counts cX7_counts 2 (some .int), Cond.methodLink RX7 98 yX7_leaves, Cond.instanceMethod yX7_leaves, Cond.selects RX7 yX7_leaves yX7_leaves, Cond.code yX7_leaves cX7_leaves 2 none, Cond.fieldLink RX7 56 "FlangeFolderModel" "states" "I", Cond.methodLink RX7 101 yX7_strips, Cond.instanceMethod yX7_strips, Cond.selects RX7 yX7_strips yX7_strips, Cond.code yX7_strips cX7_strips 3 (some .int), Cond.methodLink RL 18 yX6_bend]
def wsL_law_r9 : List Cond := [Cond.instanceMethod yX6_bend, Cond.selects RX6 yX6_bend yX6_bend, Cond.code yX6_bend cX6_bend 4 (some .int), Cond.methodLink RX6 76 yX5_addBend, Cond.instanceMethod yX5_addBend, Cond.selects RX5 yX5_addBend yX5_addBend, Cond.code yX5_addBend cX5_addBend 6 (some .int), Cond.fieldLink RX5 41 "FlangeFolder$Sheet" "turns" "[I", Cond.fieldLink RX5 44 "FlangeFolder$Sheet" "tools" "[I", Cond.methodLink RL 22 yX7_bend, Cond.instanceMethod yX7_bend, Cond.selects RX7 yX7_bend yX7_bend, Cond.code yX7_bend cX7_bend 4 (some .int), Cond.methodLink RX7 104 yX7_mayBend, Cond.instanceMethod yX7_mayBend, Cond.selects RX7 yX7_mayBend yX7_mayBend, Cond.code yX7_mayBend cX7_mayBend 4 (some .boolean), Cond.methodLink RX7 107 yX7_adds, Cond.instanceMethod yX7_adds, Cond.selects RX7 yX7_adds yX7_adds, Cond.code yX7_adds cX7_adds 5 (some .int), Cond.methodLink RL 23 yX6_press, Cond.instanceMethod yX6_press, Cond.selects RX6 yX6_press yX6_press]
def wsL_law_r10 : List Cond := [Cond.code yX6_press cX6_press 3 (some .int), Cond.methodLink RX6 80 yX5_setPress, Cond.instanceMethod yX5_setPress, Cond.selects RX5 yX5_setPress yX5_setPress, Cond.code yX5_setPress cX5_setPress 4 (some .int), Cond.fieldLink RX5 47 "FlangeFolder$Sheet" "wide" "I", Cond.fieldLink RX5 50 "FlangeFolder$Sheet" "high" "I", Cond.methodLink RL 27 yX7_press, Cond.instanceMethod yX7_press, Cond.selects RX7 yX7_press yX7_press, Cond.code yX7_press cX7_press 3 (some .int), Cond.methodLink RX7 111 yX7_mayPress, Cond.instanceMethod yX7_mayPress, Cond.selects RX7 yX7_mayPress yX7_mayPress, Cond.code yX7_mayPress cX7_mayPress 3 (some .boolean), Cond.methodLink RX7 114 yX7_presses, Cond.instanceMethod yX7_presses, Cond.selects RX7 yX7_presses yX7_presses, Cond.code yX7_presses cX7_presses 4 (some .int), Cond.methodLink RL 28 yX6_takes, Cond.instanceMethod yX6_takes, Cond.selects RX6 yX6_takes yX6_takes, Cond.code yX6_takes cX6_takes 3 (some .int), Cond.methodLink RX6 84 yX5_setTaken]
def wsL_law_r11 : List Cond := [Cond.instanceMethod yX5_setTaken, Cond.selects RX5 yX5_setTaken yX5_setTaken, Cond.code yX5_setTaken cX5_setTaken 4 (some .int), Cond.fieldLink RX5 53 "FlangeFolder$Sheet" "taken" "[I", Cond.methodLink RL 31 yX7_takes, Cond.instanceMethod yX7_takes, Cond.selects RX7 yX7_takes yX7_takes, Cond.code yX7_takes cX7_takes 3 (some .int), Cond.methodLink RX7 117 yX7_mayTake, Cond.instanceMethod yX7_mayTake, Cond.selects RX7 yX7_mayTake yX7_mayTake, Cond.code yX7_mayTake cX7_mayTake 3 (some .boolean), Cond.methodLink RX7 120 yX7_takesNow, Cond.instanceMethod yX7_takesNow, Cond.selects RX7 yX7_takesNow yX7_takesNow, Cond.code yX7_takesNow cX7_takesNow 4 (some .int), Cond.methodLink RL 32 yX6_makes, Cond.instanceMethod yX6_makes, Cond.selects RX6 yX6_makes yX6_makes, Cond.code yX6_makes cX6_makes 2 (some .int), Cond.methodLink RX6 87 yX5_makeBend, Cond.instanceMethod yX5_makeBend, Cond.selects RX5 yX5_makeBend yX5_makeBend, Cond.code yX5_makeBend cX5_makeBend 2 (some .int)]
def wsL_law_r12 : List Cond := [Cond.methodLink RX5 56 yX4_hasBend, Cond.instanceMethod yX4_hasBend, Cond.selects RX4 yX4_hasBend yX4_hasBend, Cond.code yX4_hasBend cX4_hasBend 2 (some .boolean), Cond.methodLink RX5 60 yX4_isMade, Cond.instanceMethod yX4_isMade, Cond.selects RX4 yX4_isMade yX4_isMade, Cond.code yX4_isMade cX4_isMade 2 (some .boolean), Cond.methodLink RX5 63 yX1_hitOf, Cond.instanceMethod yX1_hitOf, Cond.selects RX1 yX1_hitOf yX1_hitOf, Cond.code yX1_hitOf cX1_hitOf 4 (some .int), Cond.methodLink RX1 58 yX3_trace, Cond.instanceMethod yX3_trace, Cond.selects RX3 yX3_trace yX3_trace, Cond.code yX3_trace cX3_trace 5 none, Cond.fieldLink RX3 25 "FlangeFolder$Sheet" "bends" "I", Cond.fieldLink RX3 30 "FlangeFolder$Sheet" "lengths" "[I", Cond.fieldLink RX3 33 "FlangeFolder$Shape" "STEP_X" "[I", Cond.fieldLink RX3 36 "FlangeFolder$Shape" "STEP_Y" "[I", Cond.fieldLink RX3 39 "FlangeFolder$Sheet" "turns" "[I", Cond.methodLink RX1 64 yX3_pressHit, Cond.instanceMethod yX3_pressHit, Cond.selects RX3 yX3_pressHit yX3_pressHit]
def wsL_law_r13 : List Cond := [Cond.code yX3_pressHit cX3_pressHit 14 (some .int), Cond.methodLink RX3 42 Lib.Math.min.name, Cond.fieldLink RX3 55 "FlangeFolder$Sheet" "wide" "I", Cond.fieldLink RX3 58 "FlangeFolder$Sheet" "high" "I", Cond.methodLink RX3 51 yX3_reaches, Cond.static yX3_reaches, Cond.code yX3_reaches cX3_reaches 4 (some .boolean), Cond.methodLink RX1 68 yX1_crossesAt, Cond.instanceMethod yX1_crossesAt, Cond.selects RX1 yX1_crossesAt yX1_crossesAt, Cond.code yX1_crossesAt cX1_crossesAt 2 (some .boolean), Cond.methodLink RX1 77 yX3_crossesItself, Cond.instanceMethod yX3_crossesItself, Cond.selects RX3 yX3_crossesItself yX3_crossesItself, Cond.code yX3_crossesItself cX3_crossesItself 7 (some .boolean), Cond.methodLink RX3 48 Lib.Math.max.name, Cond.static Lib.Math.max.name, Cond.code Lib.Math.max.name Lib.Math.max.code 2 (some .int), Cond.methodLink RX5 67 yJ6_bitCount_0f7a4, Cond.static yJ6_bitCount_0f7a4, Cond.initialized RJ6, Cond.code yJ6_bitCount_0f7a4 cJ6_bitCount_0f7a4 1 (some .int), Cond.constant RJ6 265 (1431655765), Cond.constant RJ6 266 (858993459)]
def wsL_law_r14 : List Cond := [Cond.constant RJ6 267 (252645135), Cond.methodLink RL 35 yX7_makes, Cond.instanceMethod yX7_makes, Cond.selects RX7 yX7_makes yX7_makes, Cond.code yX7_makes cX7_makes 2 (some .int), Cond.methodLink RX7 123 yX7_isBend, Cond.instanceMethod yX7_isBend, Cond.selects RX7 yX7_isBend yX7_isBend, Cond.code yX7_isBend cX7_isBend 2 (some .boolean), Cond.methodLink RX7 127 yX7_isFree, Cond.instanceMethod yX7_isFree, Cond.selects RX7 yX7_isFree yX7_isFree, Cond.code yX7_isFree cX7_isFree 3 (some .boolean), Cond.methodLink RX7 70 yX7_has, Cond.static yX7_has, Cond.code yX7_has cX7_has 2 (some .boolean), Cond.methodLink RX7 95 yX7_hitBy, Cond.instanceMethod yX7_hitBy, Cond.selects RX7 yX7_hitBy yX7_hitBy, Cond.code yX7_hitBy cX7_hitBy 9 (some .int), Cond.methodLink RX7 81 yX7_lays, Cond.instanceMethod yX7_lays, Cond.selects RX7 yX7_lays yX7_lays, Cond.code yX7_lays cX7_lays 4 none]
def wsL_law_r15 : List Cond := [Cond.methodLink RX7 64 yX7_alongX, Cond.static yX7_alongX, Cond.code yX7_alongX cX7_alongX 1 (some .int), Cond.methodLink RX7 67 yX7_alongY, Cond.static yX7_alongY, Cond.code yX7_alongY cX7_alongY 1 (some .int), Cond.methodLink RX7 85 yX7_turnsTo, Cond.instanceMethod yX7_turnsTo, Cond.selects RX7 yX7_turnsTo yX7_turnsTo, Cond.code yX7_turnsTo cX7_turnsTo 8 none, Cond.methodLink RX7 88 yX7_isWithin, Cond.instanceMethod yX7_isWithin, Cond.selects RX7 yX7_isWithin yX7_isWithin, Cond.code yX7_isWithin cX7_isWithin 10 (some .boolean), Cond.methodLink RX7 74 yX7_lesser, Cond.static yX7_lesser, Cond.code yX7_lesser cX7_lesser 2 (some .int), Cond.methodLink RX7 78 yX7_greater, Cond.static yX7_greater, Cond.code yX7_greater cX7_greater 2 (some .int), Cond.methodLink RX7 92 yX7_areMet, Cond.instanceMethod yX7_areMet, Cond.selects RX7 yX7_areMet yX7_areMet, Cond.code yX7_areMet cX7_areMet 4 (some .boolean)]
def wsL_law_r16 : List Cond := [Cond.methodLink RX7 130 yX7_ones, Cond.static yX7_ones, Cond.code yX7_ones cX7_ones 3 (some .int), Cond.methodLink RL 36 yX6_unmakes, Cond.instanceMethod yX6_unmakes, Cond.selects RX6 yX6_unmakes yX6_unmakes, Cond.code yX6_unmakes cX6_unmakes 2 (some .int), Cond.methodLink RX6 90 yX5_unmakeBend, Cond.instanceMethod yX5_unmakeBend, Cond.selects RX5 yX5_unmakeBend yX5_unmakeBend, Cond.code yX5_unmakeBend cX5_unmakeBend 2 (some .int), Cond.methodLink RL 39 yX7_unmakes, Cond.instanceMethod yX7_unmakes, Cond.selects RX7 yX7_unmakes yX7_unmakes, Cond.code yX7_unmakes cX7_unmakes 2 (some .int), Cond.methodLink RL 40 yX6_again, Cond.instanceMethod yX6_again, Cond.selects RX6 yX6_again yX6_again, Cond.code yX6_again cX6_again 1 (some .int), Cond.methodLink RX6 93 yX5_unmakeAll, Cond.instanceMethod yX5_unmakeAll, Cond.selects RX5 yX5_unmakeAll yX5_unmakeAll, Cond.code yX5_unmakeAll cX5_unmakeAll 2 (some .int), Cond.methodLink RL 44 yX7_again]
def wsL_law_r17 : List Cond := [Cond.instanceMethod yX7_again, Cond.selects RX7 yX7_again yX7_again, Cond.code yX7_again cX7_again 2 (some .int), Cond.methodLink RL 45 yX6_of, Cond.instanceMethod yX6_of, Cond.selects RX6 yX6_of yX6_of, Cond.code yX6_of cX6_of 3 (some .int), Cond.fieldLink RX6 104 "FlangeFolder$Sheet" "lengths" "[I", Cond.fieldLink RX6 108 "FlangeFolder$Sheet" "turns" "[I", Cond.fieldLink RX6 111 "FlangeFolder$Sheet" "tools" "[I", Cond.methodLink RX6 97 yX4_hasBend, Cond.methodLink RX6 114 yX4_isMade, Cond.methodLink RL 48 yX7_of, Cond.instanceMethod yX7_of, Cond.selects RX7 yX7_of yX7_of, Cond.code yX7_of cX7_of 3 (some .int), Cond.methodLink RX7 133 yX7_ofBend, Cond.instanceMethod yX7_ofBend, Cond.selects RX7 yX7_ofBend yX7_ofBend, Cond.code yX7_ofBend cX7_ofBend 3 (some .int), Cond.methodLink RL 49 yX6_joint, Cond.instanceMethod yX6_joint, Cond.selects RX6 yX6_joint yX6_joint, Cond.code yX6_joint cX6_joint 3 (some .int)]
def wsL_law_r18 : List Cond := [Cond.fieldLink RX6 117 "FlangeFolder$Sheet" "bends" "I", Cond.fieldLink RX6 124 "FlangeFolder$Sheet" "made" "I", Cond.fieldLink RX6 131 "FlangeFolder$Shape" "x" "[I", Cond.fieldLink RX6 134 "FlangeFolder$Shape" "y" "[I", Cond.methodLink RX6 120 yX6_isWithin, Cond.methodLink RX6 127 yX3_trace, Cond.methodLink RL 52 yX7_joint, Cond.instanceMethod yX7_joint, Cond.selects RX7 yX7_joint yX7_joint, Cond.code yX7_joint cX7_joint 3 (some .int), Cond.methodLink RL 53 yX6_box, Cond.instanceMethod yX6_box, Cond.selects RX6 yX6_box yX6_box, Cond.code yX6_box cX6_box 3 (some .int), Cond.methodLink RX6 137 yX3_least, Cond.instanceMethod yX3_least, Cond.selects RX3 yX3_least yX3_least, Cond.code yX3_least cX3_least 4 (some .int), Cond.methodLink RX6 141 yX3_greatest, Cond.instanceMethod yX3_greatest, Cond.selects RX3 yX3_greatest yX3_greatest, Cond.code yX3_greatest cX3_greatest 4 (some .int), Cond.methodLink RL 56 yX7_box, Cond.instanceMethod yX7_box]
def wsL_law_r19 : List Cond := [Cond.selects RX7 yX7_box yX7_box, Cond.code yX7_box cX7_box 2 (some .int), Cond.methodLink RX7 136 yX7_boxIs, Cond.instanceMethod yX7_boxIs, Cond.selects RX7 yX7_boxIs yX7_boxIs, Cond.code yX7_boxIs cX7_boxIs 5 (some .int), Cond.methodLink RL 57 yX6_hits, Cond.instanceMethod yX6_hits, Cond.selects RX6 yX6_hits yX6_hits, Cond.code yX6_hits cX6_hits 2 (some .int), Cond.methodLink RX6 144 yX1_hitOf, Cond.methodLink RL 60 yX7_hits, Cond.instanceMethod yX7_hits, Cond.selects RX7 yX7_hits yX7_hits, Cond.code yX7_hits cX7_hits 2 (some .int), Cond.methodLink RL 61 yX6_free, Cond.instanceMethod yX6_free, Cond.selects RX6 yX6_free yX6_free, Cond.code yX6_free cX6_free 1 (some .int), Cond.methodLink RX6 147 yX1_freeAt, Cond.instanceMethod yX1_freeAt, Cond.selects RX1 yX1_freeAt yX1_freeAt, Cond.code yX1_freeAt cX1_freeAt 4 (some .int), Cond.fieldLink RX1 72 "FlangeFolder$Sheet" "bends" "I"]
def wsL_law_r20 : List Cond := [Cond.methodLink RL 64 yX7_free, Cond.instanceMethod yX7_free, Cond.selects RX7 yX7_free yX7_free, Cond.code yX7_free cX7_free 3 (some .int), Cond.methodLink RL 65 yX6_orders, Cond.instanceMethod yX6_orders, Cond.selects RX6 yX6_orders yX6_orders, Cond.code yX6_orders cX6_orders 1 (some .int), Cond.fieldLink RX6 153 "FlangeFolder$Planner" "orderCount" "I", Cond.methodLink RX6 150 yX1_plan, Cond.instanceMethod yX1_plan, Cond.selects RX1 yX1_plan yX1_plan, Cond.code yX1_plan cX1_plan 1 none, Cond.methodLink RX1 89 yX1_pathsFrom, Cond.instanceMethod yX1_pathsFrom, Cond.selects RX1 yX1_pathsFrom yX1_pathsFrom, Cond.code yX1_pathsFrom cX1_pathsFrom 6 (some .int), Cond.methodLink RX1 81 yX4_allBends, Cond.instanceMethod yX4_allBends, Cond.selects RX4 yX4_allBends yX4_allBends, Cond.code yX4_allBends cX4_allBends 1 (some .int), Cond.methodLink RX1 85 yX1_freeAt, Cond.methodLink RX1 92 yX1_findFewest, Cond.instanceMethod yX1_findFewest]
def wsL_law_r21 : List Cond := [Cond.selects RX1 yX1_findFewest yX1_findFewest, Cond.code yX1_findFewest cX1_findFewest 4 none, Cond.methodLink RX1 99 yX1_fewestFrom, Cond.instanceMethod yX1_fewestFrom, Cond.selects RX1 yX1_fewestFrom yX1_fewestFrom, Cond.code yX1_fewestFrom cX1_fewestFrom 6 (some .int), Cond.methodLink RX1 107 Lib.Math.min.name, Cond.methodLink RX1 103 yX1_changesBy, Cond.instanceMethod yX1_changesBy, Cond.selects RX1 yX1_changesBy yX1_changesBy, Cond.code yX1_changesBy cX1_changesBy 5 (some .int), Cond.fieldLink RX1 112 "FlangeFolder$Sheet" "tools" "[I", Cond.methodLink RX1 115 yX1_changeTo, Cond.static yX1_changeTo, Cond.code yX1_changeTo cX1_changeTo 2 (some .int), Cond.methodLink RX1 95 yX1_walk, Cond.instanceMethod yX1_walk, Cond.selects RX1 yX1_walk yX1_walk, Cond.code yX1_walk cX1_walk 9 (some .int), Cond.methodLink RX1 118 yX1_leastWithin, Cond.instanceMethod yX1_leastWithin, Cond.selects RX1 yX1_leastWithin yX1_leastWithin, Cond.code yX1_leastWithin cX1_leastWithin 6 (some .int), Cond.methodLink RL 68 yX7_orders]
def wsL_law_r22 : List Cond := [Cond.instanceMethod yX7_orders, Cond.selects RX7 yX7_orders yX7_orders, Cond.code yX7_orders cX7_orders 1 (some .int), Cond.methodLink RX7 146 yX7_laysOrders, Cond.instanceMethod yX7_laysOrders, Cond.selects RX7 yX7_laysOrders yX7_laysOrders, Cond.code yX7_laysOrders cX7_laysOrders 4 none, Cond.methodLink RX7 139 yX7_allMade, Cond.instanceMethod yX7_allMade, Cond.selects RX7 yX7_allMade yX7_allMade, Cond.code yX7_allMade cX7_allMade 1 (some .int), Cond.methodLink RX7 143 yX7_changesBy, Cond.instanceMethod yX7_changesBy, Cond.selects RX7 yX7_changesBy yX7_changesBy, Cond.code yX7_changesBy cX7_changesBy 5 (some .int), Cond.methodLink RL 69 yX6_order, Cond.instanceMethod yX6_order, Cond.selects RX6 yX6_order yX6_order, Cond.code yX6_order cX6_order 3 (some .int), Cond.fieldLink RX6 156 "FlangeFolder$Planner" "firstOrder" "[I", Cond.fieldLink RX6 159 "FlangeFolder$Planner" "bestOrder" "[I", Cond.methodLink RL 72 yX7_order, Cond.instanceMethod yX7_order, Cond.selects RX7 yX7_order yX7_order]
def wsL_law_r23 : List Cond := [Cond.code yX7_order cX7_order 3 (some .int), Cond.methodLink RX7 149 yX7_orders, Cond.methodLink RX7 152 yX7_laysRow, Cond.instanceMethod yX7_laysRow, Cond.selects RX7 yX7_laysRow yX7_laysRow, Cond.code yX7_laysRow cX7_laysRow 7 (some .int), Cond.methodLink RL 73 yX6_changes, Cond.instanceMethod yX6_changes, Cond.selects RX6 yX6_changes yX6_changes, Cond.code yX6_changes cX6_changes 2 (some .int), Cond.fieldLink RX6 162 "FlangeFolder$Planner" "bestChanges" "I", Cond.fieldLink RX6 165 "FlangeFolder$Planner" "firstChanges" "I", Cond.methodLink RL 76 yX7_changes, Cond.instanceMethod yX7_changes, Cond.selects RX7 yX7_changes yX7_changes, Cond.code yX7_changes cX7_changes 2 (some .int), Cond.methodLink RX7 155 yX7_changesIs, Cond.instanceMethod yX7_changesIs, Cond.selects RX7 yX7_changesIs yX7_changesIs, Cond.code yX7_changesIs cX7_changesIs 2 (some .int), Cond.methodLink RL 77 yX6_ways, Cond.instanceMethod yX6_ways, Cond.selects RX6 yX6_ways yX6_ways, Cond.code yX6_ways cX6_ways 1 (some .int)]
def wsL_law_r24 : List Cond := [Cond.methodLink RX6 168 yX1_pathsFrom, Cond.methodLink RL 80 yX7_ways, Cond.instanceMethod yX7_ways, Cond.selects RX7 yX7_ways yX7_ways, Cond.code yX7_ways cX7_ways 1 (some .int), Cond.methodLink RL 81 yX6_count, Cond.instanceMethod yX6_count, Cond.selects RX6 yX6_count yX6_count, Cond.code yX6_count cX6_count 2 (some .int), Cond.fieldLink RX6 176 "FlangeFolder$Sheet" "wide" "I", Cond.fieldLink RX6 179 "FlangeFolder$Sheet" "high" "I", Cond.fieldLink RX6 182 "FlangeFolder$Sheet" "taken" "[I", Cond.methodLink RX6 171 yJ6_bitCount_0f7a4, Cond.methodLink RX6 185 yX4_allBends, Cond.methodLink RX6 188 yX4_lengthLess, Cond.instanceMethod yX4_lengthLess, Cond.selects RX4 yX4_lengthLess yX4_lengthLess, Cond.code yX4_lengthLess cX4_lengthLess 4 (some .int), Cond.methodLink RX4 43 yX4_allLengths, Cond.instanceMethod yX4_allLengths, Cond.selects RX4 yX4_allLengths yX4_allLengths, Cond.code yX4_allLengths cX4_allLengths 3 (some .int), Cond.methodLink RX6 191 yX4_allLengths, Cond.methodLink RL 84 yX7_count]
def wsL_law_r25 : List Cond := [Cond.instanceMethod yX7_count, Cond.selects RX7 yX7_count yX7_count, Cond.code yX7_count cX7_count 2 (some .int), Cond.methodLink RX7 161 yX7_countIs, Cond.instanceMethod yX7_countIs, Cond.selects RX7 yX7_countIs yX7_countIs, Cond.code yX7_countIs cX7_countIs 2 (some .int), Cond.methodLink RX7 158 yX7_longBy, Cond.instanceMethod yX7_longBy, Cond.selects RX7 yX7_longBy yX7_longBy, Cond.code yX7_longBy cX7_longBy 4 (some .int), Cond.methodLink RL 85 yX6_type, Cond.instanceMethod yX6_type, Cond.selects RX6 yX6_type yX6_type, Cond.code yX6_type cX6_type 2 (some .int), Cond.fieldLink RX6 194 "FlangeFolder$Script" "size" "I", Cond.methodLink RX6 197 yX2_append, Cond.instanceMethod yX2_append, Cond.selects RX2 yX2_append yX2_append, Cond.code yX2_append cX2_append 2 none, Cond.methodLink RL 88 yX7_type, Cond.instanceMethod yX7_type, Cond.selects RX7 yX7_type yX7_type, Cond.code yX7_type cX7_type 2 (some .int)]
def wsL_law_r26 : List Cond := [Cond.fieldLink RX7 164 "FlangeFolderModel" "length" "I", Cond.methodLink RL 89 yX6_clear, Cond.instanceMethod yX6_clear, Cond.selects RX6 yX6_clear yX6_clear, Cond.code yX6_clear cX6_clear 2 (some .int), Cond.methodLink RL 92 yX7_clear, Cond.instanceMethod yX7_clear, Cond.selects RX7 yX7_clear yX7_clear, Cond.code yX7_clear cX7_clear 2 (some .int), Cond.methodLink RL 93 yX6_does, Cond.instanceMethod yX6_does, Cond.selects RX6 yX6_does yX6_does, Cond.code yX6_does cX6_does 3 (some .int), Cond.fieldLink RX6 204 "FlangeFolder$Script" "orderCount" "I", Cond.methodLink RX6 201 yX2_read, Cond.instanceMethod yX2_read, Cond.selects RX2 yX2_read yX2_read, Cond.code yX2_read cX2_read 1 (some .int), Cond.methodLink RX2 31 yX2_skipBlanks, Cond.instanceMethod yX2_skipBlanks, Cond.selects RX2 yX2_skipBlanks yX2_skipBlanks, Cond.code yX2_skipBlanks cX2_skipBlanks 1 none, Cond.methodLink RX2 34 yX2_readOrder, Cond.instanceMethod yX2_readOrder]
def wsL_law_r27 : List Cond := [Cond.selects RX2 yX2_readOrder yX2_readOrder, Cond.code yX2_readOrder cX2_readOrder 4 (some .boolean), Cond.methodLink RX2 38 yX2_numbersBehind, Cond.static yX2_numbersBehind, Cond.code yX2_numbersBehind cX2_numbersBehind 1 (some .int), Cond.methodLink RX2 42 yX2_readNumber, Cond.instanceMethod yX2_readNumber, Cond.selects RX2 yX2_readNumber yX2_readNumber, Cond.code yX2_readNumber cX2_readNumber 3 (some .boolean), Cond.methodLink RX2 46 yX2_isFigureAt, Cond.instanceMethod yX2_isFigureAt, Cond.selects RX2 yX2_isFigureAt yX2_isFigureAt, Cond.code yX2_isFigureAt cX2_isFigureAt 1 (some .boolean), Cond.methodLink RX6 205 yX5_perform, Cond.instanceMethod yX5_perform, Cond.selects RX5 yX5_perform yX5_perform, Cond.code yX5_perform cX5_perform 5 (some .int), Cond.fieldLink RX5 78 "FlangeFolder$Script" "letters" "[I", Cond.methodLink RX5 73 yX2_numberOf, Cond.instanceMethod yX2_numberOf, Cond.selects RX2 yX2_numberOf yX2_numberOf, Cond.code yX2_numberOf cX2_numberOf 3 (some .int), Cond.methodLink RX5 81 yX5_newStrip, Cond.methodLink RX5 84 yX5_wayOf]
def wsL_law_r28 : List Cond := [Cond.static yX5_wayOf, Cond.code yX5_wayOf cX5_wayOf 1 (some .int), Cond.methodLink RX5 87 yX5_addBend, Cond.methodLink RX5 91 yX5_makeBend, Cond.methodLink RX5 94 yX5_unmakeBend, Cond.methodLink RX5 97 yX5_setPress, Cond.methodLink RX5 100 yX5_setTaken, Cond.methodLink RX5 103 yX5_unmakeAll, Cond.methodLink RX6 212 yX0_restoreStaged, Cond.instanceMethod yX0_restoreStaged, Cond.selects RX0 yX0_restoreStaged yX0_restoreStaged, Cond.code yX0_restoreStaged cX0_restoreStaged 2 none, Cond.methodLink RX6 215 yX1_forget, Cond.methodLink RL 96 yX7_does, Cond.instanceMethod yX7_does, Cond.selects RX7 yX7_does yX7_does, Cond.code yX7_does cX7_does 2 (some .int), Cond.fieldLink RX7 167 "FlangeFolderModel" "place" "I", Cond.fieldLink RX7 179 "FlangeFolderModel" "tells" "I", Cond.methodLink RX7 189 yX7_isRead, Cond.instanceMethod yX7_isRead, Cond.selects RX7 yX7_isRead yX7_isRead, Cond.code yX7_isRead cX7_isRead 2 (some .boolean), Cond.methodLink RX7 173 yX7_blanks]
def wsL_law_r29 : List Cond := [Cond.instanceMethod yX7_blanks, Cond.selects RX7 yX7_blanks yX7_blanks, Cond.code yX7_blanks cX7_blanks 1 none, Cond.methodLink RX7 170 yX7_here, Cond.instanceMethod yX7_here, Cond.selects RX7 yX7_here yX7_here, Cond.code yX7_here cX7_here 1 (some .int), Cond.methodLink RX7 185 yX7_passesOne, Cond.instanceMethod yX7_passesOne, Cond.selects RX7 yX7_passesOne yX7_passesOne, Cond.code yX7_passesOne cX7_passesOne 3 (some .boolean), Cond.methodLink RX7 176 yX7_numbersOf, Cond.static yX7_numbersOf, Cond.code yX7_numbersOf cX7_numbersOf 1 (some .int), Cond.methodLink RX7 182 yX7_passesNumber, Cond.instanceMethod yX7_passesNumber, Cond.selects RX7 yX7_passesNumber yX7_passesNumber, Cond.code yX7_passesNumber cX7_passesNumber 4 (some .boolean), Cond.methodLink RX7 192 yX7_isDone, Cond.instanceMethod yX7_isDone, Cond.selects RX7 yX7_isDone yX7_isDone, Cond.code yX7_isDone cX7_isDone 7 (some .boolean), Cond.methodLink RX7 195 yX7_changesAside, Cond.instanceMethod yX7_changesAside]
def wsL_law_r30 : List Cond := [Cond.selects RX7 yX7_changesAside yX7_changesAside, Cond.code yX7_changesAside cX7_changesAside 3 none, Cond.methodLink RL 97 yX6_back, Cond.instanceMethod yX6_back, Cond.selects RX6 yX6_back yX6_back, Cond.code yX6_back cX6_back 1 (some .int), Cond.fieldLink RX6 221 "FlangeFolder$History" "kept" "I", Cond.methodLink RX6 224 yX0_restoreLast, Cond.instanceMethod yX0_restoreLast, Cond.selects RX0 yX0_restoreLast yX0_restoreLast, Cond.code yX0_restoreLast cX0_restoreLast 2 none, Cond.methodLink RL 100 yX7_back, Cond.instanceMethod yX7_back, Cond.selects RX7 yX7_back yX7_back, Cond.code yX7_back cX7_back 2 (some .int), Cond.methodLink RL 101 yX6_told, Cond.instanceMethod yX6_told, Cond.selects RX6 yX6_told yX6_told, Cond.code yX6_told cX6_told 2 (some .int), Cond.methodLink RL 104 yX7_told, Cond.instanceMethod yX7_told, Cond.selects RX7 yX7_told yX7_told, Cond.code yX7_told cX7_told 2 (some .int), Cond.methodLink RX7 198 yX7_toldIs]
def wsL_law_r31 : List Cond := [Cond.instanceMethod yX7_toldIs, Cond.selects RX7 yX7_toldIs yX7_toldIs, Cond.code yX7_toldIs cX7_toldIs 2 (some .int), Cond.methodLink RL 105 yX6_digest, Cond.instanceMethod yX6_digest, Cond.selects RX6 yX6_digest yX6_digest, Cond.code yX6_digest cX6_digest 5 (some .long), Cond.constantLong RX6 227 (2934), Cond.constantLong RX6 229 (31), Cond.methodLink RX6 231 yX6_told, Cond.methodLink RX6 234 yX6_count, Cond.methodLink RX6 237 yX6_of, Cond.methodLink RX6 240 yX6_joint, Cond.methodLink RX6 243 yX6_box, Cond.methodLink RL 109 yX7_digest, Cond.instanceMethod yX7_digest, Cond.selects RX7 yX7_digest yX7_digest, Cond.code yX7_digest cX7_digest 2 (some .long), Cond.constantLong RX7 207 (2934), Cond.fieldLink RX7 203 "FlangeFolderModel" "hash" "J", Cond.methodLink RX7 209 yX7_mix, Cond.instanceMethod yX7_mix, Cond.selects RX7 yX7_mix yX7_mix, Cond.code yX7_mix cX7_mix 2 none]
def wsL_law_r32 : List Cond := [Cond.constantLong RX7 201 (31), Cond.methodLink RX7 212 yX7_free]
def wsL_law : List Cond := (wsL_law_r1 ++ (wsL_law_r2 ++ (wsL_law_r3 ++ (wsL_law_r4 ++ (wsL_law_r5 ++ (wsL_law_r6 ++ (wsL_law_r7 ++ (wsL_law_r8 ++ (wsL_law_r9 ++ (wsL_law_r10 ++ (wsL_law_r11 ++ (wsL_law_r12 ++ (wsL_law_r13 ++ (wsL_law_r14 ++ (wsL_law_r15 ++ (wsL_law_r16 ++ (wsL_law_r17 ++ (wsL_law_r18 ++ (wsL_law_r19 ++ (wsL_law_r20 ++ (wsL_law_r21 ++ (wsL_law_r22 ++ (wsL_law_r23 ++ (wsL_law_r24 ++ (wsL_law_r25 ++ (wsL_law_r26 ++ (wsL_law_r27 ++ (wsL_law_r28 ++ (wsL_law_r29 ++ (wsL_law_r30 ++ (wsL_law_r31 ++ wsL_law_r32))))))))))))))))))))))))))))))) ++ wsX60 ++ wsX70 ++ wsX40 ++ wsX30 ++ wsX10 ++ wsX50 ++ wsX00 ++ wsX20 ++ ([] : List Cond)
abbrev vwCl : List vw_C := [(RX0, TX0, 3), (RX1, TX1, 12), (RX2, TX2, 6), (RX3, TX3, 4), (RX4, TX4, 8), (RX5, TX5, 2), (RX6, TX6, 9), (RX7, TX7, 19)]
end
section
/-! A layer over the kit: the memory of a world is a function of cell and place; a method is walked along a pure term in Option.
    wo G S M: the cells S.1 .. S.1 + S.2.1 - 1, each of its kind, holding M. Jg: 'if the pure rest answers z, the machine comes to Q'. -/
abbrev Mm : Type := (Nat → Nat → Int32) × (Nat → Nat → Int64)
/-- a field: none an int (or boolean), some none a long, some (some r) the cell r -/
abbrev Fk : Type := Option (Option Nat)
/-- a cell: ints in a row, an object (its kind, its fields), a row of cells -/
abbrev Sh : Type := Nat ⊕ ((Nat × List Fk) ⊕ (Nat × (Nat → Nat)))
/-- tables, addresses, the two array kinds, the two static rows -/
abbrev Gg : Type := va_G × (Nat → Nat) × (ClassId × ClassId) × (Nat × Nat)
abbrev Sg : Type := Nat × Nat × (Nat → Sh)
abbrev Cx : Type := Program × Launch × Env × Room × State × MethodId × Array Value × List Frame × Method × Code
abbrev Vx (μ : Type) : Type := (μ → va_W) × va_G × Nat × (Nat → Prop) × (State → Prop)
def fv (ad : Nat → Nat) (M : Mm) (k j : Nat) (f : Fk) : Value := match f with
  | none => .int (M.1 k j)
  | some none => .long (M.2 k j)
  | some (some r) => .ref (ad r)
def fvs (ad : Nat → Nat) (M : Mm) (k : Nat) : Nat → List Fk → List Value
  | _, [] => []
  | j, f :: fs => fv ad M k j f :: fvs ad M k (j + 1) fs
def cel (G : Gg) (M : Mm) (k : Nat) (h : Sh) : va_E := match h with
  | .inl n => .inl (G.2.2.1.1, n, .inl (M.1 k))
  | .inr (.inl o) => .inr (o.1, fvs G.2.1 M k 0 o.2)
  | .inr (.inr r) => .inl (G.2.2.1.2, r.1, .inr (.inr (.inr (.inr (fun j => some (G.2.1 (r.2 j)))))))
def wo (G : Gg) (S : Sg) (M : Mm) : va_W := (List.range S.2.1).map fun k => (G.2.1 (S.1 + k), cel G M (S.1 + k) (S.2.2 (S.1 + k)))
def Ao (G : Gg) (S : Sg) (sz : Nat) : Nat → Prop := fun q => (∃ k, S.1 ≤ k ∧ k < S.1 + S.2.1 ∧ q = G.2.1 k) ∨ sz ≤ q
def stA (M : Mm) (k : Nat) (f : Nat → Int32) : Mm := (fun a => if a = k then f else M.1 a, M.2)
def stI (M : Mm) (k j : Nat) (v : Int32) : Mm := stA M k (upd (M.1 k) j v)
def stL (M : Mm) (k j : Nat) (v : Int64) : Mm := (M.1, fun a => if a = k then vp_updL (M.2 k) j v else M.2 a)
theorem stA_same (M : Mm) (k : Nat) (f : Nat → Int32) : (stA M k f).1 k = f := by simp [stA]
theorem stA_ne (M : Mm) (k a : Nat) (f : Nat → Int32) (h : a ≠ k) : (stA M k f).1 a = M.1 a := by simp [stA, h]
theorem fvs_len (ad : Nat → Nat) (M : Mm) (k : Nat) : ∀ (fs : List Fk) (j : Nat), (fvs ad M k j fs).length = fs.length
  | [], _ => rfl
  | _ :: fs, j => by simp [fvs, fvs_len ad M k fs (j + 1)]
theorem fvs_get (ad : Nat → Nat) (M : Mm) (k : Nat) : ∀ (fs : List Fk) (j i : Nat) (f : Fk), fs[i]? = some f → (fvs ad M k j fs)[i]? = some (fv ad M k (j + i) f)
  | [], _, _, _, h => by simp at h
  | g :: fs, j, 0, f, h => by simp at h; subst h; simp [fvs]
  | g :: fs, j, i + 1, f, h => by
    simp at h
    simp only [fvs, List.getElem?_cons_succ]
    rw [fvs_get ad M k fs (j + 1) i f h]
    congr 2
    omega
theorem fvs_eq (ad : Nat → Nat) (M N : Mm) (k : Nat) : ∀ (fs : List Fk) (j : Nat), (∀ i, M.1 k i = N.1 k i) → (∀ i, M.2 k i = N.2 k i) → fvs ad M k j fs = fvs ad N k j fs
  | [], _, _, _ => rfl
  | f :: fs, j, h1, h2 => by
    simp only [fvs]
    rw [fvs_eq ad M N k fs (j + 1) h1 h2]
    congr 1
    rcases f with _ | _ | r
    · simp [fv, h1]
    · simp [fv, h2]
    · rfl
theorem cel_eq (G : Gg) (M N : Mm) (k : Nat) (h : Sh) (h1 : M.1 k = N.1 k) (h2 : M.2 k = N.2 k) : cel G M k h = cel G N k h := by
  rcases h with n | o | r
  · simp [cel, h1]
  · simp only [cel]; rw [fvs_eq G.2.1 M N k o.2 0 (fun i => by rw [h1]) (fun i => by rw [h2])]
  · rfl
theorem wo_len (G : Gg) (S : Sg) (M : Mm) : (wo G S M).length = S.2.1 := by simp [wo]
theorem wo_at (G : Gg) (S : Sg) (M : Mm) {k : Nat} (h1 : S.1 ≤ k) (h2 : k < S.1 + S.2.1) : (wo G S M)[k - S.1]? = some (G.2.1 k, cel G M k (S.2.2 k)) := by
  have h3 : k - S.1 < S.2.1 := by omega
  have h4 : S.1 + (k - S.1) = k := by omega
  simp [wo, List.getElem?_map, List.getElem?_range h3, h4]
theorem wo_get (G : Gg) (S : Sg) (M : Mm) {i : Nat} {q : Nat × va_E} (h : (wo G S M)[i]? = some q) : i < S.2.1 ∧ q = (G.2.1 (S.1 + i), cel G M (S.1 + i) (S.2.2 (S.1 + i))) := by
  have hl : i < S.2.1 := by
    have := (List.getElem?_eq_some_iff.mp h).1
    rwa [wo_len] at this
  have := wo_at G S M (k := S.1 + i) (by omega) (by omega)
  rw [show S.1 + i - S.1 = i by omega, h] at this
  exact ⟨hl, Option.some.inj this⟩
theorem wo_set (G : Gg) (S : Sg) (M N : Mm) {k : Nat} (h1 : S.1 ≤ k) (h2 : k < S.1 + S.2.1) {e : va_E} (he : cel G N k (S.2.2 k) = e) (ho : ∀ j, j ≠ k → M.1 j = N.1 j ∧ M.2 j = N.2 j) : (wo G S M).set (k - S.1) (G.2.1 k, e) = wo G S N := by
  apply List.ext_getElem?
  intro i
  by_cases hi : i = k - S.1
  · subst hi
    rw [wo_at G S N h1 h2, List.getElem?_set_self (by rw [wo_len]; omega), he]
  · rw [List.getElem?_set_ne (fun h => hi h.symm)]
    by_cases hl : i < S.2.1
    · have a := wo_at G S M (k := S.1 + i) (by omega) (by omega)
      have b := wo_at G S N (k := S.1 + i) (by omega) (by omega)
      rw [show S.1 + i - S.1 = i by omega] at a b
      rw [a, b]
      have hj := ho (S.1 + i) (by omega)
      rw [cel_eq G M N (S.1 + i) _ hj.1 hj.2]
    · rw [List.getElem?_eq_none (by rw [wo_len]; omega), List.getElem?_eq_none (by rw [wo_len]; omega)]
def tyG (G : Gg) : List (ClassId × FieldType) := [(G.2.2.1.1, .int), (G.2.2.1.2, .object RX4)]
def sX (j : Nat) : Int32 := if j = 0 then 1 else if j = 2 then -1 else 0
def sY (j : Nat) : Int32 := if j = 1 then 1 else if j = 3 then -1 else 0
/-- what stands outside the cells: the two rows of steps, a nest mate's link -/
def St (G : Gg) (A : Nat → Prop) (U : State) (H : Heap) : Prop :=
  va_Z RX3 "STEP_X" "[I" (.ref G.2.2.2.1) A U H ∧ va_Z RX3 "STEP_Y" "[I" (.ref G.2.2.2.2) A U H ∧ va_T .int G.2.2.2.1 4 (fun j => .int (sX j)) A U H ∧ va_T .int G.2.2.2.2 4 (fun j => .int (sY j)) A U H ∧ va_Nw (.methodLinkNest RX5 19 yX6_isWithin RX6) U
def Inj (G : Gg) : Prop := ∀ i j : Nat, i < 69 → j < 69 → G.2.1 i = G.2.1 j → i = j
def Pre (G : Gg) (S : Sg) (M : Mm) (U : State) : Prop := va_P G.1 vwCl (wo G S M) U.heap ∧ va_K G.1 vwCl (tyG G) U ∧ (Inj G ∧ S.1 + S.2.1 ≤ 69) ∧ St G (Ao G S U.heap.size) U U.heap
theorem wo_D (G : Gg) (S : Sg) (hi : Inj G) (hS : S.1 + S.2.1 ≤ 69) (M : Mm) {A : Nat → Prop} (hA : ∀ k, S.1 ≤ k → k < S.1 + S.2.1 → A (G.2.1 k)) : va_D A (wo G S M) := by
  refine ⟨fun i j p q hp hq h => ?_, fun k q hk => ?_⟩
  · obtain ⟨a1, a2⟩ := wo_get G S M hp
    obtain ⟨b1, b2⟩ := wo_get G S M hq
    subst a2; subst b2
    have := hi (S.1 + i) (S.1 + j) (by omega) (by omega) h
    omega
  · obtain ⟨a1, a2⟩ := wo_get G S M hk
    subst a2
    exact hA _ (by omega) (by omega)
def Wx (X : Cx) (H : Heap) (locs : List Loc) (Q : State → Prop) (g : JFrame) : Prop :=
  W X.1 X.2.1 X.2.2.1 X.2.2.2.1 X.2.2.2.2.1 X.2.2.2.2.2.1 X.2.2.2.2.2.2.1 X.2.2.2.2.2.2.2.1 X.2.2.2.2.2.2.2.2.1 X.2.2.2.2.2.2.2.2.2 H locs 0 0 Q g
abbrev xS (X : Cx) : State := X.2.2.2.2.1
abbrev xM (X : Cx) : MethodId := X.2.2.2.2.2.1
abbrev xR (X : Cx) : Room := X.2.2.2.1
abbrev xA (X : Cx) : Array Value := X.2.2.2.2.2.2.1
/-- the judgement: if the pure rest o answers z, the machine at pc, with the memory M, comes to the end -/
def Jg {ρ μ : Type} (X : Cx) (V : Vx μ) (z : ρ) (o : Option ρ) (M : μ) (pc : Nat) (lv : List (Nat × Value)) (st : List Value) : Prop :=
  o = some z → ∀ (H : Heap) (locs : List Loc) (ls : Array Slot), va_P V.2.1 vwCl (V.1 M) H → va_S V.2.2.2.1 (xS X).heap H locs → lv_has ls V.2.2.1 lv → Wx X H locs V.2.2.2.2 (F0 (xM X) pc ls st)
/-- what stands still while a method is walked -/
def Ok {μ : Type} (X : Cx) (V : Vx μ) (cc : ByteArray) (Ts : List Cond) (own : String) (rt : Option FieldType) (rm : Room) : Prop :=
  CallFix X.1 (xM X) X.2.2.2.2.2.2.2.2.2 cc V.2.2.1 (xS X) (xA X) Ts own ∧ X.2.2.2.2.2.2.2.2.1.sig.returnType = rt ∧ X.2.2.2.2.2.2.2.2.1.locks = false ∧ xR X = rm
/-- and of its world -/
def Wd (X : Cx) (V : Vx Mm) (G : Gg) (S : Sg) : Prop :=
  V.1 = wo G S ∧ V.2.1 = G.1 ∧ V.2.2.2.1 = Ao G S (xS X).heap.size ∧ va_K G.1 vwCl (tyG G) (xS X) ∧ (Inj G ∧ S.1 + S.2.1 ≤ 69) ∧ St G (Ao G S (xS X).heap.size) (xS X) (xS X).heap
def rd (M : Mm) (k n : Nat) (i : Int32) : Option Int32 := if i < 0 ∨ n ≤ i.toNatClampNeg then none else some (M.1 k i.toNatClampNeg)
def wr (M : Mm) (k n : Nat) (i v : Int32) : Option Mm := if i < 0 ∨ n ≤ i.toNatClampNeg then none else some (stI M k i.toNatClampNeg v)
def rdT (f : Nat → Int32) (n : Nat) (i : Int32) : Option Int32 := if i < 0 ∨ n ≤ i.toNatClampNeg then none else some (f i.toNatClampNeg)
def rdR (r : Nat → Nat) (n : Nat) (i : Int32) : Option Nat := if i < 0 ∨ n ≤ i.toNatClampNeg then none else some (r i.toNatClampNeg)
def ckZ (v : Int32) : Option Int32 := if v = 0 ∨ v = 1 then some v else none
def lt {α β : Type} (e : α) (k : α → β) : β := k e
def jn {α β : Type} (K : α) (b : α → β) : β := b K
def fu : Nat := 1000
end
section
/-! The rows of the layer: an instruction a row -/
section RowsA
variable {ρ μ : Type} {X : Cx} {V : Vx μ} {z : ρ} {o : Option ρ} {M : μ} {pc : Nat} {lv : List (Nat × Value)} {st : List Value} {cc : ByteArray} {Ts : List Cond} {own : String} {rt : Option FieldType} {rm : Room}
theorem j_none : Jg X V z (none : Option ρ) M pc lv st := fun h => by cases h
theorem j_sub (ks : List Nat) {lv' : List (Nat × Value)} (h : lv_pick lv ks = lv') (k : Jg X V z o M pc lv' st) : Jg X V z o M pc lv st :=
  fun ho H locs ls hP hS hl => k ho H locs ls hP hS (lv_sub hl ks h)
theorem j_let {α : Type} {a : α} {k : α → Option ρ} {f : α → Value} (h : ∀ x : α, Jg X V z (k x) M pc lv (f x :: st)) : Jg X V z (lt a k) M pc lv (f a :: st) := h a
theorem j_ite {c : Prop} {dc : Decidable c} {o1 o2 : Option ρ} (h1 : c → Jg X V z o1 M pc lv st) (h2 : ¬ c → Jg X V z o2 M pc lv st) : Jg X V z (@ite _ c dc o1 o2) M pc lv st := by
  by_cases h : c
  · rw [if_pos h]; exact h1 h
  · rw [if_neg h]; exact h2 h
theorem j_iconst (F : Ok X V cc Ts own rt rm) {n : Int} {v : Int32} (hdg : decode cc pc = .ok (.iconst n, 1)) (hv : Int32.ofInt n = v) (k : Jg X V z o M (pc + 1) lv (.int v :: st)) : Jg X V z o M pc lv (st) :=
  fun ho H locs ls hP hS hl => lv_iconst F.1.1 F.1.2.1 hdg hv (k ho H locs ls hP hS hl)
theorem j_bipush (F : Ok X V cc Ts own rt rm) {n : Int} {v : Int32} (hdg : decode cc pc = .ok (.bipush n, 2)) (hv : (Int8.ofInt n).toInt32 = v) (k : Jg X V z o M (pc + 2) lv (.int v :: st)) : Jg X V z o M pc lv (st) :=
  fun ho H locs ls hP hS hl => lv_bipush F.1.1 F.1.2.1 hdg hv (k ho H locs ls hP hS hl)
theorem j_sipush (F : Ok X V cc Ts own rt rm) {n : Int} {v : Int32} (hdg : decode cc pc = .ok (.sipush n, 3)) (hv : (Int16.ofInt n).toInt32 = v) (k : Jg X V z o M (pc + 3) lv (.int v :: st)) : Jg X V z o M pc lv (st) :=
  fun ho H locs ls hP hS hl => lv_sipush F.1.1 F.1.2.1 hdg hv (k ho H locs ls hP hS hl)
theorem j_ldcw (F : Ok X V cc Ts own rt rm) {index : Nat} {v : Int32} (hm : Cond.constant own index v ∈ Ts) (hdg : decode cc pc = .ok (.ldc_w index, 3)) (k : Jg X V z o M (pc + 3) lv (.int v :: st)) : Jg X V z o M pc lv (st) :=
  fun ho H locs ls hP hS hl => lv_ldcw F.1.1 F.1.2.1 F.1.2.2.2.1 (F.1.2.2.2.2 _ hm) hdg (k ho H locs ls hP hS hl)
theorem j_ldc (F : Ok X V cc Ts own rt rm) {index : Nat} {v : Int32} (hm : Cond.constant own index v ∈ Ts) (hdg : decode cc pc = .ok (.ldc index, 2)) (k : Jg X V z o M (pc + 2) lv (.int v :: st)) : Jg X V z o M pc lv (st) :=
  fun ho H locs ls hP hS hl => lv_ldc F.1.1 F.1.2.1 F.1.2.2.2.1 (F.1.2.2.2.2 _ hm) hdg (k ho H locs ls hP hS hl)
theorem j_ldc2 (F : Ok X V cc Ts own rt rm) {index : Nat} {v : Int64} (hm : Cond.constantLong own index v ∈ Ts) (hdg : decode cc pc = .ok (.ldc2_w index, 3)) (k : Jg X V z o M (pc + 3) lv (.long v :: st)) : Jg X V z o M pc lv (st) :=
  fun ho H locs ls hP hS hl => lv_ldc2 F.1.1 F.1.2.1 F.1.2.2.2.1 (F.1.2.2.2.2 _ hm) hdg (k ho H locs ls hP hS hl)
theorem j_iload_n (F : Ok X V cc Ts own rt rm) {k : Fin 4} {i : Nat} {x : Int32} (hdg : decode cc pc = .ok (.iload_n k, 1)) (hi : (k : Nat) = i) (n : Nat) (hn : lv[n]? = some (i, .int x)) (kk : Jg X V z o M (pc + 1) lv (.int x :: st)) : Jg X V z o M pc lv st :=
  fun ho H locs ls hP hS hl => lv_iload_n F.1.1 F.1.2.1 hdg hi (lv_at hl n hn) (kk ho H locs ls hP hS hl)
theorem j_aload_n (F : Ok X V cc Ts own rt rm) {k : Fin 4} {i : Nat} {x : Nat} (hdg : decode cc pc = .ok (.aload_n k, 1)) (hi : (k : Nat) = i) (n : Nat) (hn : lv[n]? = some (i, .ref x)) (kk : Jg X V z o M (pc + 1) lv (.ref x :: st)) : Jg X V z o M pc lv st :=
  fun ho H locs ls hP hS hl => lv_aload_n F.1.1 F.1.2.1 hdg hi (lv_at hl n hn) (kk ho H locs ls hP hS hl)
theorem j_lload_n (F : Ok X V cc Ts own rt rm) {k : Fin 4} {i : Nat} {x : Int64} (hdg : decode cc pc = .ok (.lload_n k, 1)) (hi : (k : Nat) = i) (n : Nat) (hn : lv[n]? = some (i, .long x)) (kk : Jg X V z o M (pc + 1) lv (.long x :: st)) : Jg X V z o M pc lv st :=
  fun ho H locs ls hP hS hl => lv_lload_n F.1.1 F.1.2.1 hdg hi (lv_at hl n hn) (kk ho H locs ls hP hS hl)
theorem j_iload (F : Ok X V cc Ts own rt rm) {i : Nat} {x : Int32} (hdg : decode cc pc = .ok (.iload i, 2)) (n : Nat) (hn : lv[n]? = some (i, .int x)) (kk : Jg X V z o M (pc + 2) lv (.int x :: st)) : Jg X V z o M pc lv st :=
  fun ho H locs ls hP hS hl => lv_iload F.1.1 F.1.2.1 hdg (lv_at hl n hn) (kk ho H locs ls hP hS hl)
theorem j_aload (F : Ok X V cc Ts own rt rm) {i : Nat} {x : Nat} (hdg : decode cc pc = .ok (.aload i, 2)) (n : Nat) (hn : lv[n]? = some (i, .ref x)) (kk : Jg X V z o M (pc + 2) lv (.ref x :: st)) : Jg X V z o M pc lv st :=
  fun ho H locs ls hP hS hl => lv_aload F.1.1 F.1.2.1 hdg (lv_at hl n hn) (kk ho H locs ls hP hS hl)
theorem j_lload (F : Ok X V cc Ts own rt rm) {i : Nat} {x : Int64} (hdg : decode cc pc = .ok (.lload i, 2)) (n : Nat) (hn : lv[n]? = some (i, .long x)) (kk : Jg X V z o M (pc + 2) lv (.long x :: st)) : Jg X V z o M pc lv st :=
  fun ho H locs ls hP hS hl => lv_lload F.1.1 F.1.2.1 hdg (lv_at hl n hn) (kk ho H locs ls hP hS hl)
theorem j_istore_n (F : Ok X V cc Ts own rt rm) {k : Fin 4} {i : Nat} {x : Int32} {lv' : List (Nat × Value)} (hdg : decode cc pc = .ok (.istore_n k, 1)) (hi : (k : Nat) = i) (hn : i < V.2.2.1) (hl' : (i, Value.int x) :: lv.filter (fun q => !(q.1 == i) && !(q.1 + 1 == i && q.2.category == 2)) = lv') (kk : Jg X V z o M (pc + 1) lv' st) : Jg X V z o M pc lv (.int x :: st) :=
  fun ho H locs ls hP hS hl => lv_istore_n F.1.1 F.1.2.1 hdg hi hl hn hl' (fun ls hl => kk ho H locs ls hP hS hl)
theorem j_istore (F : Ok X V cc Ts own rt rm) {i : Nat} {x : Int32} {lv' : List (Nat × Value)} (hdg : decode cc pc = .ok (.istore i, 2)) (hn : i < V.2.2.1) (hl' : (i, Value.int x) :: lv.filter (fun q => !(q.1 == i) && !(q.1 + 1 == i && q.2.category == 2)) = lv') (kk : Jg X V z o M (pc + 2) lv' st) : Jg X V z o M pc lv (.int x :: st) :=
  fun ho H locs ls hP hS hl => lv_istore F.1.1 F.1.2.1 hdg hl hn hl' (fun ls hl => kk ho H locs ls hP hS hl)
theorem j_astore_n (F : Ok X V cc Ts own rt rm) {k : Fin 4} {i : Nat} {x : Nat} {lv' : List (Nat × Value)} (hdg : decode cc pc = .ok (.astore_n k, 1)) (hi : (k : Nat) = i) (hn : i < V.2.2.1) (hl' : (i, Value.ref x) :: lv.filter (fun q => !(q.1 == i) && !(q.1 + 1 == i && q.2.category == 2)) = lv') (kk : Jg X V z o M (pc + 1) lv' st) : Jg X V z o M pc lv (.ref x :: st) :=
  fun ho H locs ls hP hS hl => lv_astore_n F.1.1 F.1.2.1 hdg hi hl hn hl' (fun ls hl => kk ho H locs ls hP hS hl)
theorem j_astore (F : Ok X V cc Ts own rt rm) {i : Nat} {x : Nat} {lv' : List (Nat × Value)} (hdg : decode cc pc = .ok (.astore i, 2)) (hn : i < V.2.2.1) (hl' : (i, Value.ref x) :: lv.filter (fun q => !(q.1 == i) && !(q.1 + 1 == i && q.2.category == 2)) = lv') (kk : Jg X V z o M (pc + 2) lv' st) : Jg X V z o M pc lv (.ref x :: st) :=
  fun ho H locs ls hP hS hl => lv_astore F.1.1 F.1.2.1 hdg hl hn hl' (fun ls hl => kk ho H locs ls hP hS hl)
theorem j_lstore_n (F : Ok X V cc Ts own rt rm) {k : Fin 4} {i : Nat} {x : Int64} {lv' : List (Nat × Value)} (hdg : decode cc pc = .ok (.lstore_n k, 1)) (hi : (k : Nat) = i) (hn : i + 1 < V.2.2.1) (hl' : (i, Value.long x) :: lv.filter (fun q => !(q.1 == i) && (!(q.1 == i + 1) && !(q.1 + 1 == i && q.2.category == 2))) = lv') (kk : Jg X V z o M (pc + 1) lv' st) : Jg X V z o M pc lv (.long x :: st) :=
  fun ho H locs ls hP hS hl => lv_lstore_n F.1.1 F.1.2.1 hdg hi hl hn hl' (fun ls hl => kk ho H locs ls hP hS hl)
theorem j_lstore (F : Ok X V cc Ts own rt rm) {i : Nat} {x : Int64} {lv' : List (Nat × Value)} (hdg : decode cc pc = .ok (.lstore i, 2)) (hn : i + 1 < V.2.2.1) (hl' : (i, Value.long x) :: lv.filter (fun q => !(q.1 == i) && (!(q.1 == i + 1) && !(q.1 + 1 == i && q.2.category == 2))) = lv') (kk : Jg X V z o M (pc + 2) lv' st) : Jg X V z o M pc lv (.long x :: st) :=
  fun ho H locs ls hP hS hl => lv_lstore F.1.1 F.1.2.1 hdg hl hn hl' (fun ls hl => kk ho H locs ls hP hS hl)
theorem j_iinc (F : Ok X V cc Ts own rt rm) {i : Nat} {n : Int} {x v : Int32} {lv' : List (Nat × Value)} (hdg : decode cc pc = .ok (.iinc i n, 3)) (k : Nat) (hk : lv[k]? = some (i, .int x)) (hv : x + Int32.ofInt n = v) (hn : i < V.2.2.1) (hl' : (i, Value.int v) :: lv.filter (fun q => !(q.1 == i) && !(q.1 + 1 == i && q.2.category == 2)) = lv') (kk : Jg X V z o M (pc + 3) lv' st) : Jg X V z o M pc lv st :=
  fun ho H locs ls hP hS hl => lv_iinc F.1.1 F.1.2.1 hdg hl hk hv hn hl' (fun ls hl => kk ho H locs ls hP hS hl)
theorem j_iadd (F : Ok X V cc Ts own rt rm) {x y : Int32} (hdg : decode cc pc = .ok (.iadd, 1)) (k : Jg X V z o M (pc + 1) lv (.int (x + y) :: st)) : Jg X V z o M pc lv (.int y :: .int x :: st) :=
  fun ho H locs ls hP hS hl => lv_iadd F.1.1 F.1.2.1 hdg (k ho H locs ls hP hS hl)
theorem j_isub (F : Ok X V cc Ts own rt rm) {x y : Int32} (hdg : decode cc pc = .ok (.isub, 1)) (k : Jg X V z o M (pc + 1) lv (.int (x - y) :: st)) : Jg X V z o M pc lv (.int y :: .int x :: st) :=
  fun ho H locs ls hP hS hl => lv_isub F.1.1 F.1.2.1 hdg (k ho H locs ls hP hS hl)
theorem j_imul (F : Ok X V cc Ts own rt rm) {x y : Int32} (hdg : decode cc pc = .ok (.imul, 1)) (k : Jg X V z o M (pc + 1) lv (.int (x * y) :: st)) : Jg X V z o M pc lv (.int y :: .int x :: st) :=
  fun ho H locs ls hP hS hl => lv_imul F.1.1 F.1.2.1 hdg (k ho H locs ls hP hS hl)
theorem j_iand (F : Ok X V cc Ts own rt rm) {x y : Int32} (hdg : decode cc pc = .ok (.iand, 1)) (k : Jg X V z o M (pc + 1) lv (.int (x &&& y) :: st)) : Jg X V z o M pc lv (.int y :: .int x :: st) :=
  fun ho H locs ls hP hS hl => lv_iand F.1.1 F.1.2.1 hdg (k ho H locs ls hP hS hl)
theorem j_ior (F : Ok X V cc Ts own rt rm) {x y : Int32} (hdg : decode cc pc = .ok (.ior, 1)) (k : Jg X V z o M (pc + 1) lv (.int (x ||| y) :: st)) : Jg X V z o M pc lv (.int y :: .int x :: st) :=
  fun ho H locs ls hP hS hl => lv_ior F.1.1 F.1.2.1 hdg (k ho H locs ls hP hS hl)
theorem j_ixor (F : Ok X V cc Ts own rt rm) {x y : Int32} (hdg : decode cc pc = .ok (.ixor, 1)) (k : Jg X V z o M (pc + 1) lv (.int (x ^^^ y) :: st)) : Jg X V z o M pc lv (.int y :: .int x :: st) :=
  fun ho H locs ls hP hS hl => lv_ixor F.1.1 F.1.2.1 hdg (k ho H locs ls hP hS hl)
theorem j_ishl (F : Ok X V cc Ts own rt rm) {x y : Int32} (hdg : decode cc pc = .ok (.ishl, 1)) (k : Jg X V z o M (pc + 1) lv (.int (x <<< (y &&& 31)) :: st)) : Jg X V z o M pc lv (.int y :: .int x :: st) :=
  fun ho H locs ls hP hS hl => lv_ishl F.1.1 F.1.2.1 hdg (k ho H locs ls hP hS hl)
theorem j_ishr (F : Ok X V cc Ts own rt rm) {x y : Int32} (hdg : decode cc pc = .ok (.ishr, 1)) (k : Jg X V z o M (pc + 1) lv (.int (x >>> (y &&& 31)) :: st)) : Jg X V z o M pc lv (.int y :: .int x :: st) :=
  fun ho H locs ls hP hS hl => lv_ishr F.1.1 F.1.2.1 hdg (k ho H locs ls hP hS hl)
theorem j_iushr (F : Ok X V cc Ts own rt rm) {x y v : Int32} (hv : (x.toUInt32 >>> (y.toUInt32 &&& Int32.toUInt32 31)).toInt32 = v) (hdg : decode cc pc = .ok (.iushr, 1)) (k : Jg X V z o M (pc + 1) lv (.int v :: st)) : Jg X V z o M pc lv (.int y :: .int x :: st) :=
  fun ho H locs ls hP hS hl => lv_iushr F.1.1 F.1.2.1 hdg hv (k ho H locs ls hP hS hl)
theorem j_idiv (F : Ok X V cc Ts own rt rm) {x y : Int32} (hne : ¬ y = 0) (hdg : decode cc pc = .ok (.idiv, 1)) (k : Jg X V z o M (pc + 1) lv (.int (x / y) :: st)) : Jg X V z o M pc lv (.int y :: .int x :: st) :=
  fun ho H locs ls hP hS hl => lv_idiv F.1.1 F.1.2.1 hdg hne (k ho H locs ls hP hS hl)
theorem j_irem (F : Ok X V cc Ts own rt rm) {x y : Int32} (hne : ¬ y = 0) (hdg : decode cc pc = .ok (.irem, 1)) (k : Jg X V z o M (pc + 1) lv (.int (x - x / y * y) :: st)) : Jg X V z o M pc lv (.int y :: .int x :: st) :=
  fun ho H locs ls hP hS hl => lv_irem F.1.1 F.1.2.1 hdg hne (k ho H locs ls hP hS hl)
theorem j_ineg (F : Ok X V cc Ts own rt rm) {x : Int32} (hdg : decode cc pc = .ok (.ineg, 1)) (k : Jg X V z o M (pc + 1) lv (.int (-x) :: st)) : Jg X V z o M pc lv (.int x :: st) :=
  fun ho H locs ls hP hS hl => lv_ineg F.1.1 F.1.2.1 hdg (k ho H locs ls hP hS hl)
theorem j_i2l (F : Ok X V cc Ts own rt rm) {x : Int32} (hdg : decode cc pc = .ok (.i2l, 1)) (k : Jg X V z o M (pc + 1) lv (.long x.toInt64 :: st)) : Jg X V z o M pc lv (.int x :: st) :=
  fun ho H locs ls hP hS hl => lv_i2l F.1.1 F.1.2.1 hdg rfl (k ho H locs ls hP hS hl)
theorem j_ladd (F : Ok X V cc Ts own rt rm) {x y : Int64} (hdg : decode cc pc = .ok (.ladd, 1)) (k : Jg X V z o M (pc + 1) lv (.long (x + y) :: st)) : Jg X V z o M pc lv (.long y :: .long x :: st) :=
  fun ho H locs ls hP hS hl => lv_ladd F.1.1 F.1.2.1 hdg (k ho H locs ls hP hS hl)
theorem j_lmul (F : Ok X V cc Ts own rt rm) {x y : Int64} (hdg : decode cc pc = .ok (.lmul, 1)) (k : Jg X V z o M (pc + 1) lv (.long (x * y) :: st)) : Jg X V z o M pc lv (.long y :: .long x :: st) :=
  fun ho H locs ls hP hS hl => lv_lmul F.1.1 F.1.2.1 hdg (k ho H locs ls hP hS hl)
theorem j_lcmp (F : Ok X V cc Ts own rt rm) {x y : Int64} (hdg : decode cc pc = .ok (.lcmp, 1)) (k : Jg X V z o M (pc + 1) lv (.int (lg_cmp x y) :: st)) : Jg X V z o M pc lv (.long y :: .long x :: st) :=
  fun ho H locs ls hP hS hl => W.lcmp F.1.1 F.1.2.1 hdg (k ho H locs ls hP hS hl)
theorem j_dup (F : Ok X V cc Ts own rt rm) {a : Value} (ha : a.category = 1) (hdg : decode cc pc = .ok (.dup, 1)) (k : Jg X V z o M (pc + 1) lv (a :: a :: st)) : Jg X V z o M pc lv (a :: st) :=
  fun ho H locs ls hP hS hl => lv_dup F.1.1 F.1.2.1 hdg ha (k ho H locs ls hP hS hl)
theorem j_pop (F : Ok X V cc Ts own rt rm) {a : Value} (ha : a.category = 1) (hdg : decode cc pc = .ok (.pop, 1)) (k : Jg X V z o M (pc + 1) lv (st)) : Jg X V z o M pc lv (a :: st) :=
  fun ho H locs ls hP hS hl => lv_pop F.1.1 F.1.2.1 hdg ha (k ho H locs ls hP hS hl)
theorem j_dup2 (F : Ok X V cc Ts own rt rm) {a b : Value} (ha : a.category = 1) (hb : b.category = 1) (hdg : decode cc pc = .ok (.dup2, 1)) (k : Jg X V z o M (pc + 1) lv (a :: b :: a :: b :: st)) : Jg X V z o M pc lv (a :: b :: st) :=
  fun ho H locs ls hP hS hl => lv_dup2_11 F.1.1 F.1.2.1 hdg ha hb (k ho H locs ls hP hS hl)
theorem j_goto (F : Ok X V cc Ts own rt rm) {off : Int} {tgt : Nat} (hdg : decode cc pc = .ok (.goto off, 3)) (ht : (pc : Int) + off = (tgt : Int)) (k : Jg X V z o M tgt lv st) : Jg X V z o M pc lv st :=
  fun ho H locs ls hP hS hl => lv_goto F.1.1 F.1.2.1 hdg ht (k ho H locs ls hP hS hl)
theorem j_icmp_eq (F : Ok X V cc Ts own rt rm) {x y : Int32} {off : Int} {tgt : Nat} {o1 o2 : Option ρ} {dc : Decidable (x = y)} (hdg : decode cc pc = .ok (.if_icmp .eq off, 3)) (ht : (pc : Int) + off = (tgt : Int)) (kt : Jg X V z o1 M tgt lv st) (kf : Jg X V z o2 M (pc + 3) lv st) : Jg X V z (@ite _ (x = y) dc o1 o2) M pc lv (.int y :: .int x :: st) :=
  fun ho H locs ls hP hS hl => lv_icmp_eq F.1.1 F.1.2.1 hdg ht (fun h => kt (((if_pos h).symm.trans ho)) H locs ls hP hS hl) (fun h => kf (((if_neg h).symm.trans ho)) H locs ls hP hS hl)
theorem j_if_eq (F : Ok X V cc Ts own rt rm) {x : Int32} {off : Int} {tgt : Nat} {o1 o2 : Option ρ} {dc : Decidable (x = 0)} (hdg : decode cc pc = .ok (.ifCond .eq off, 3)) (ht : (pc : Int) + off = (tgt : Int)) (kt : Jg X V z o1 M tgt lv st) (kf : Jg X V z o2 M (pc + 3) lv st) : Jg X V z (@ite _ (x = 0) dc o1 o2) M pc lv (.int x :: st) :=
  fun ho H locs ls hP hS hl => lv_if_eq F.1.1 F.1.2.1 hdg ht (fun h => kt (((if_pos h).symm.trans ho)) H locs ls hP hS hl) (fun h => kf (((if_neg h).symm.trans ho)) H locs ls hP hS hl)
theorem j_icmp_ne (F : Ok X V cc Ts own rt rm) {x y : Int32} {off : Int} {tgt : Nat} {o1 o2 : Option ρ} {dc : Decidable (x = y)} (hdg : decode cc pc = .ok (.if_icmp .ne off, 3)) (ht : (pc : Int) + off = (tgt : Int)) (kt : Jg X V z o2 M tgt lv st) (kf : Jg X V z o1 M (pc + 3) lv st) : Jg X V z (@ite _ (x = y) dc o1 o2) M pc lv (.int y :: .int x :: st) :=
  fun ho H locs ls hP hS hl => lv_icmp_ne F.1.1 F.1.2.1 hdg ht (fun h => kt (((if_neg h).symm.trans ho)) H locs ls hP hS hl) (fun h => kf (((if_pos h).symm.trans ho)) H locs ls hP hS hl)
theorem j_if_ne (F : Ok X V cc Ts own rt rm) {x : Int32} {off : Int} {tgt : Nat} {o1 o2 : Option ρ} {dc : Decidable (x = 0)} (hdg : decode cc pc = .ok (.ifCond .ne off, 3)) (ht : (pc : Int) + off = (tgt : Int)) (kt : Jg X V z o2 M tgt lv st) (kf : Jg X V z o1 M (pc + 3) lv st) : Jg X V z (@ite _ (x = 0) dc o1 o2) M pc lv (.int x :: st) :=
  fun ho H locs ls hP hS hl => lv_if_ne F.1.1 F.1.2.1 hdg ht (fun h => kt (((if_neg h).symm.trans ho)) H locs ls hP hS hl) (fun h => kf (((if_pos h).symm.trans ho)) H locs ls hP hS hl)
theorem j_icmp_lt (F : Ok X V cc Ts own rt rm) {x y : Int32} {off : Int} {tgt : Nat} {o1 o2 : Option ρ} {dc : Decidable (x < y)} (hdg : decode cc pc = .ok (.if_icmp .lt off, 3)) (ht : (pc : Int) + off = (tgt : Int)) (kt : Jg X V z o1 M tgt lv st) (kf : Jg X V z o2 M (pc + 3) lv st) : Jg X V z (@ite _ (x < y) dc o1 o2) M pc lv (.int y :: .int x :: st) :=
  fun ho H locs ls hP hS hl => lv_icmp_lt F.1.1 F.1.2.1 hdg ht (fun h => kt (((if_pos h).symm.trans ho)) H locs ls hP hS hl) (fun h => kf (((if_neg h).symm.trans ho)) H locs ls hP hS hl)
theorem j_if_lt (F : Ok X V cc Ts own rt rm) {x : Int32} {off : Int} {tgt : Nat} {o1 o2 : Option ρ} {dc : Decidable (x < 0)} (hdg : decode cc pc = .ok (.ifCond .lt off, 3)) (ht : (pc : Int) + off = (tgt : Int)) (kt : Jg X V z o1 M tgt lv st) (kf : Jg X V z o2 M (pc + 3) lv st) : Jg X V z (@ite _ (x < 0) dc o1 o2) M pc lv (.int x :: st) :=
  fun ho H locs ls hP hS hl => lv_if_lt F.1.1 F.1.2.1 hdg ht (fun h => kt (((if_pos h).symm.trans ho)) H locs ls hP hS hl) (fun h => kf (((if_neg h).symm.trans ho)) H locs ls hP hS hl)
theorem j_icmp_ge (F : Ok X V cc Ts own rt rm) {x y : Int32} {off : Int} {tgt : Nat} {o1 o2 : Option ρ} {dc : Decidable (y ≤ x)} (hdg : decode cc pc = .ok (.if_icmp .ge off, 3)) (ht : (pc : Int) + off = (tgt : Int)) (kt : Jg X V z o1 M tgt lv st) (kf : Jg X V z o2 M (pc + 3) lv st) : Jg X V z (@ite _ (y ≤ x) dc o1 o2) M pc lv (.int y :: .int x :: st) :=
  fun ho H locs ls hP hS hl => lv_icmp_ge F.1.1 F.1.2.1 hdg ht (fun h => kt (((if_pos h).symm.trans ho)) H locs ls hP hS hl) (fun h => kf (((if_neg h).symm.trans ho)) H locs ls hP hS hl)
theorem j_if_ge (F : Ok X V cc Ts own rt rm) {x : Int32} {off : Int} {tgt : Nat} {o1 o2 : Option ρ} {dc : Decidable (0 ≤ x)} (hdg : decode cc pc = .ok (.ifCond .ge off, 3)) (ht : (pc : Int) + off = (tgt : Int)) (kt : Jg X V z o1 M tgt lv st) (kf : Jg X V z o2 M (pc + 3) lv st) : Jg X V z (@ite _ (0 ≤ x) dc o1 o2) M pc lv (.int x :: st) :=
  fun ho H locs ls hP hS hl => lv_if_ge F.1.1 F.1.2.1 hdg ht (fun h => kt (((if_pos h).symm.trans ho)) H locs ls hP hS hl) (fun h => kf (((if_neg h).symm.trans ho)) H locs ls hP hS hl)
theorem j_icmp_gt (F : Ok X V cc Ts own rt rm) {x y : Int32} {off : Int} {tgt : Nat} {o1 o2 : Option ρ} {dc : Decidable (y < x)} (hdg : decode cc pc = .ok (.if_icmp .gt off, 3)) (ht : (pc : Int) + off = (tgt : Int)) (kt : Jg X V z o1 M tgt lv st) (kf : Jg X V z o2 M (pc + 3) lv st) : Jg X V z (@ite _ (y < x) dc o1 o2) M pc lv (.int y :: .int x :: st) :=
  fun ho H locs ls hP hS hl => lv_icmp_gt F.1.1 F.1.2.1 hdg ht (fun h => kt (((if_pos h).symm.trans ho)) H locs ls hP hS hl) (fun h => kf (((if_neg h).symm.trans ho)) H locs ls hP hS hl)
theorem j_if_gt (F : Ok X V cc Ts own rt rm) {x : Int32} {off : Int} {tgt : Nat} {o1 o2 : Option ρ} {dc : Decidable (0 < x)} (hdg : decode cc pc = .ok (.ifCond .gt off, 3)) (ht : (pc : Int) + off = (tgt : Int)) (kt : Jg X V z o1 M tgt lv st) (kf : Jg X V z o2 M (pc + 3) lv st) : Jg X V z (@ite _ (0 < x) dc o1 o2) M pc lv (.int x :: st) :=
  fun ho H locs ls hP hS hl => lv_if_gt F.1.1 F.1.2.1 hdg ht (fun h => kt (((if_pos h).symm.trans ho)) H locs ls hP hS hl) (fun h => kf (((if_neg h).symm.trans ho)) H locs ls hP hS hl)
theorem j_icmp_le (F : Ok X V cc Ts own rt rm) {x y : Int32} {off : Int} {tgt : Nat} {o1 o2 : Option ρ} {dc : Decidable (x ≤ y)} (hdg : decode cc pc = .ok (.if_icmp .le off, 3)) (ht : (pc : Int) + off = (tgt : Int)) (kt : Jg X V z o1 M tgt lv st) (kf : Jg X V z o2 M (pc + 3) lv st) : Jg X V z (@ite _ (x ≤ y) dc o1 o2) M pc lv (.int y :: .int x :: st) :=
  fun ho H locs ls hP hS hl => lv_icmp_le F.1.1 F.1.2.1 hdg ht (fun h => kt (((if_pos h).symm.trans ho)) H locs ls hP hS hl) (fun h => kf (((if_neg h).symm.trans ho)) H locs ls hP hS hl)
theorem j_if_le (F : Ok X V cc Ts own rt rm) {x : Int32} {off : Int} {tgt : Nat} {o1 o2 : Option ρ} {dc : Decidable (x ≤ 0)} (hdg : decode cc pc = .ok (.ifCond .le off, 3)) (ht : (pc : Int) + off = (tgt : Int)) (kt : Jg X V z o1 M tgt lv st) (kf : Jg X V z o2 M (pc + 3) lv st) : Jg X V z (@ite _ (x ≤ 0) dc o1 o2) M pc lv (.int x :: st) :=
  fun ho H locs ls hP hS hl => lv_if_le F.1.1 F.1.2.1 hdg ht (fun h => kt (((if_pos h).symm.trans ho)) H locs ls hP hS hl) (fun h => kf (((if_neg h).symm.trans ho)) H locs ls hP hS hl)
end RowsA
end
section
/-! Rows that look at the memory -/
def Ce (S : Sg) (k : Nat) (h : Sh) : Prop := S.1 ≤ k ∧ k < S.1 + S.2.1 ∧ S.2.2 k = h
/-- a field that may be read: its kind's table, its place, the link -/
def Fl (Ts : List Cond) (own : String) (index ci j : Nat) : Prop := ∃ (C : String) (T : u_T) (N : Nat), vwCl[ci]? = some (C, T, N) ∧ j < N ∧ (∀ w ∈ u_ws C T N, w ∈ Ts) ∧ Cond.fieldLink own index (T j).1 (T j).2.1 (T j).2.2.1 ∈ Ts
/-- a field that may be written, of type ty -/
def Fp (Ts : List Cond) (own : String) (index ci j : Nat) (ty : FieldType) : Prop := ∃ (C : String) (T : u_T) (N : Nat) (t0 : Nat → FieldType), vwCl[ci]? = some (C, T, N) ∧ j < N ∧ (∀ w ∈ u_ws C T N, w ∈ Ts) ∧ Cond.fieldLink own index (T j).1 (T j).2.1 (T j).2.2.1 ∈ Ts ∧ (∀ k, k < N → parseFieldDescriptor (T k).2.2.1 = some (t0 k)) ∧ (∀ a, a < N → ∀ b, b < N → a ≠ b → (T a).2.1 ≠ (T b).2.1) ∧ (T j).2.2.2 = false ∧ t0 j = ty
theorem Wd.P {X : Cx} {V : Vx Mm} {G : Gg} {S : Sg} (D : Wd X V G S) {M : Mm} {H : Heap} (h : va_P V.2.1 vwCl (V.1 M) H) : va_P G.1 vwCl (wo G S M) H := by rw [← D.1, ← D.2.1]; exact h
theorem Wd.P' {X : Cx} {V : Vx Mm} {G : Gg} {S : Sg} (D : Wd X V G S) {M : Mm} {H : Heap} (h : va_P G.1 vwCl (wo G S M) H) : va_P V.2.1 vwCl (V.1 M) H := by rw [D.1, D.2.1]; exact h
theorem Wd.dj {X : Cx} {V : Vx Mm} {G : Gg} {S : Sg} (D : Wd X V G S) (M : Mm) : va_D V.2.2.2.1 (wo G S M) := wo_D G S D.2.2.2.2.1.1 D.2.2.2.2.1.2 M (fun k h1 h2 => by rw [D.2.2.1]; exact Or.inl ⟨k, h1, h2, rfl⟩)
section RowsB
variable {ρ : Type} {X : Cx} {V : Vx Mm} {z : ρ} {o : Option ρ} {M : Mm} {pc : Nat} {lv : List (Nat × Value)} {st : List Value} {cc : ByteArray} {Ts : List Cond} {own : String} {rt : Option FieldType} {rm : Room} {G : Gg} {S : Sg}
theorem j_iald (F : Ok X V cc Ts own rt rm) (D : Wd X V G S) {k n : Nat} (c : Ce S k (.inl n)) {i : Int32} {kk : Int32 → Option ρ} (hdg : decode cc pc = .ok (.iaload, 1)) (h : ∀ v, Jg X V z (kk v) M (pc + 1) lv (.int v :: st)) : Jg X V z ((rd M k n i).bind kk) M pc lv (.int i :: .ref (G.2.1 k) :: st) := by
  intro ho H locs ls hP hS hl
  unfold rd at ho
  split at ho
  · cases ho
  · rename_i hin
    have ha := wo_at G S M c.1 c.2.1
    rw [c.2.2] at ha
    exact va_iald F.1.1 F.1.2.1 D.2.2.2.1 (D.P hP) (k - S.1) 0 ha rfl hin hdg (h _ ho H locs ls hP hS hl)
theorem j_iast (F : Ok X V cc Ts own rt rm) (D : Wd X V G S) {k n : Nat} (c : Ce S k (.inl n)) {i x : Int32} {kk : Mm → Option ρ} (hdg : decode cc pc = .ok (.iastore, 1)) (h : ∀ N, Jg X V z (kk N) N (pc + 1) lv st) : Jg X V z ((wr M k n i x).bind kk) M pc lv (.int x :: .int i :: .ref (G.2.1 k) :: st) := by
  intro ho H locs ls hP hS hl
  unfold wr at ho
  split at ho
  · cases ho
  · rename_i hin
    have ha := wo_at G S M c.1 c.2.1
    rw [c.2.2] at ha
    refine va_iast F.1.1 F.1.2.1 D.2.2.2.1 (D.P hP) (D.dj M) hS (k - S.1) 0 ha rfl hin hdg (fun H1 locs1 hP1 _ hS1 => h _ ho H1 locs1 ls (D.P' ?_) hS1 hl)
    rw [wo_set G S M (stI M k i.toNatClampNeg x) c.1 c.2.1 (by rw [c.2.2]; simp [cel, stI, stA]) (fun j hj => by simp [stI, stA, hj])] at hP1
    exact hP1
theorem j_geti (F : Ok X V cc Ts own rt rm) (D : Wd X V G S) {k ci : Nat} {fs : List Fk} (c : Ce S k (.inr (.inl (ci, fs)))) {index j : Nat} (L : Fl Ts own index ci j) (hf : fs[j]? = some none) (hdg : decode cc pc = .ok (.getfield index, 3)) (h : Jg X V z o M (pc + 3) lv (.int (M.1 k j) :: st)) : Jg X V z o M pc lv (.ref (G.2.1 k) :: st) := by
  intro ho H locs ls hP hS hl
  have ha := wo_at G S M c.1 c.2.1
  rw [c.2.2] at ha
  obtain ⟨C, T, N, hc, hj, hin, hm⟩ := L
  exact va_get F.1.1 F.1.2.1 F.1.2.2.2.2 hin F.1.2.2.2.1 D.2.2.2.1 (D.P hP) (k - S.1) ha hc j hj (F.1.2.2.2.2 _ hm) (fun _ h => h) (v := .int (M.1 k j)) (by rw [fvs_get _ _ _ _ _ _ _ hf]; simp [fv]) hdg (h ho H locs ls hP hS hl)
theorem j_getl (F : Ok X V cc Ts own rt rm) (D : Wd X V G S) {k ci : Nat} {fs : List Fk} (c : Ce S k (.inr (.inl (ci, fs)))) {index j : Nat} (L : Fl Ts own index ci j) (hf : fs[j]? = some (some none)) (hdg : decode cc pc = .ok (.getfield index, 3)) (h : Jg X V z o M (pc + 3) lv (.long (M.2 k j) :: st)) : Jg X V z o M pc lv (.ref (G.2.1 k) :: st) := by
  intro ho H locs ls hP hS hl
  have ha := wo_at G S M c.1 c.2.1
  rw [c.2.2] at ha
  obtain ⟨C, T, N, hc, hj, hin, hm⟩ := L
  exact va_get F.1.1 F.1.2.1 F.1.2.2.2.2 hin F.1.2.2.2.1 D.2.2.2.1 (D.P hP) (k - S.1) ha hc j hj (F.1.2.2.2.2 _ hm) (fun _ h => h) (v := .long (M.2 k j)) (by rw [fvs_get _ _ _ _ _ _ _ hf]; simp [fv]) hdg (h ho H locs ls hP hS hl)
theorem j_getr (F : Ok X V cc Ts own rt rm) (D : Wd X V G S) {k ci r : Nat} {fs : List Fk} (c : Ce S k (.inr (.inl (ci, fs)))) {index j : Nat} (L : Fl Ts own index ci j) (hf : fs[j]? = some (some (some r))) (hdg : decode cc pc = .ok (.getfield index, 3)) (h : Jg X V z o M (pc + 3) lv (.ref (G.2.1 r) :: st)) : Jg X V z o M pc lv (.ref (G.2.1 k) :: st) := by
  intro ho H locs ls hP hS hl
  have ha := wo_at G S M c.1 c.2.1
  rw [c.2.2] at ha
  obtain ⟨C, T, N, hc, hj, hin, hm⟩ := L
  exact va_get F.1.1 F.1.2.1 F.1.2.2.2.2 hin F.1.2.2.2.1 D.2.2.2.1 (D.P hP) (k - S.1) ha hc j hj (F.1.2.2.2.2 _ hm) (fun _ h => h) (v := .ref (G.2.1 r)) (by rw [fvs_get _ _ _ _ _ _ _ hf]; simp [fv]) hdg (h ho H locs ls hP hS hl)
theorem fvs_setI (ad : Nat → Nat) (M : Mm) (k jj : Nat) (v : Int32) : ∀ (fs : List Fk) (b i : Nat), fs[i]? = some none → b + i = jj → (fvs ad M k b fs).set i (.int v) = fvs ad (stI M k jj v) k b fs
  | [], _, _, h, _ => by simp at h
  | g :: fs, b, 0, h, hb => by
    simp at h; subst h
    have hb : b = jj := by omega
    subst hb
    simp only [fvs, List.set_cons_zero]
    refine List.cons_eq_cons.mpr ⟨by simp [fv, stI, stA, upd], ?_⟩
    exact fvs_tail ad M k b v fs (b + 1) (by omega)
  | g :: fs, b, i + 1, h, hb => by
    simp at h
    simp only [fvs, List.set_cons_succ]
    rw [fvs_setI ad M k jj v fs (b + 1) i h (by omega)]
    refine List.cons_eq_cons.mpr ⟨?_, rfl⟩
    rcases g with _ | _ | r
    · have : b ≠ jj := by omega
      simp [fv, stI, stA, upd, this]
    · rfl
    · rfl
where
  fvs_tail (ad : Nat → Nat) (M : Mm) (k jj : Nat) (v : Int32) : ∀ (fs : List Fk) (b : Nat), jj < b → fvs ad M k b fs = fvs ad (stI M k jj v) k b fs
  | [], _, _ => rfl
  | g :: fs, b, hb => by
    simp only [fvs]
    rw [fvs_tail ad M k jj v fs (b + 1) (by omega)]
    refine List.cons_eq_cons.mpr ⟨?_, rfl⟩
    rcases g with _ | _ | r
    · have : b ≠ jj := by omega
      simp [fv, stI, stA, upd, this]
    · rfl
    · rfl
theorem fvs_setL (ad : Nat → Nat) (M : Mm) (k jj : Nat) (v : Int64) : ∀ (fs : List Fk) (b i : Nat), fs[i]? = some (some none) → b + i = jj → (fvs ad M k b fs).set i (.long v) = fvs ad (stL M k jj v) k b fs
  | [], _, _, h, _ => by simp at h
  | g :: fs, b, 0, h, hb => by
    simp at h; subst h
    have hb : b = jj := by omega
    subst hb
    simp only [fvs, List.set_cons_zero]
    refine List.cons_eq_cons.mpr ⟨by simp [fv, stL, vp_updL], ?_⟩
    exact fvs_tail ad M k b v fs (b + 1) (by omega)
  | g :: fs, b, i + 1, h, hb => by
    simp at h
    simp only [fvs, List.set_cons_succ]
    rw [fvs_setL ad M k jj v fs (b + 1) i h (by omega)]
    refine List.cons_eq_cons.mpr ⟨?_, rfl⟩
    rcases g with _ | _ | r
    · rfl
    · have : b ≠ jj := by omega
      simp [fv, stL, vp_updL, this]
    · rfl
where
  fvs_tail (ad : Nat → Nat) (M : Mm) (k jj : Nat) (v : Int64) : ∀ (fs : List Fk) (b : Nat), jj < b → fvs ad M k b fs = fvs ad (stL M k jj v) k b fs
  | [], _, _ => rfl
  | g :: fs, b, hb => by
    simp only [fvs]
    rw [fvs_tail ad M k jj v fs (b + 1) (by omega)]
    refine List.cons_eq_cons.mpr ⟨?_, rfl⟩
    rcases g with _ | _ | r
    · rfl
    · have : b ≠ jj := by omega
      simp [fv, stL, vp_updL, this]
    · rfl
theorem j_puti (F : Ok X V cc Ts own rt rm) (D : Wd X V G S) {k ci : Nat} {fs : List Fk} (c : Ce S k (.inr (.inl (ci, fs)))) {index j : Nat} {ty : FieldType} {x : Int32} (L : Fp Ts own index ci j ty) (hf : fs[j]? = some none) (hn : narrow ty (.int x) = .int x) (hfit : fits ty (.int x) = true) (hdg : decode cc pc = .ok (.putfield index, 3)) (h : Jg X V z o (stI M k j x) (pc + 3) lv st) : Jg X V z o M pc lv (.int x :: .ref (G.2.1 k) :: st) := by
  intro ho H locs ls hP hS hl
  have ha := wo_at G S M c.1 c.2.1
  rw [c.2.2] at ha
  obtain ⟨C, T, N, t0, hc, hj, hin, hm, ht, hnm, hfin, hty⟩ := L
  have hlen : j < (fvs G.2.1 M k 0 fs).length := by rw [fvs_len]; exact (List.getElem?_eq_some_iff.mp hf).1
  refine va_put F.1.1 F.1.2.1 F.1.2.2.2.2 hin t0 ht hnm F.1.2.2.2.1 D.2.2.2.1 (D.P hP) (D.dj M) hS (k - S.1) ha hc j hj (F.1.2.2.2.2 _ hm) (fun _ h => h) hfin (v := .int x) (ht j hj) (by rw [hty]; exact hn) (by rw [hty]; exact hfit) hlen hdg (fun H1 locs1 hP1 _ hS1 => h ho H1 locs1 ls (D.P' ?_) hS1 hl)
  rw [wo_set G S M (stI M k j x) c.1 c.2.1 (by rw [c.2.2]; simp only [cel]; rw [fvs_setI G.2.1 M k j x fs 0 j hf (by omega)]) (fun i hi => by simp [stI, stA, hi])] at hP1
  exact hP1
theorem j_putl (F : Ok X V cc Ts own rt rm) (D : Wd X V G S) {k ci : Nat} {fs : List Fk} (c : Ce S k (.inr (.inl (ci, fs)))) {index j : Nat} {x : Int64} (L : Fp Ts own index ci j .long) (hf : fs[j]? = some (some none)) (hdg : decode cc pc = .ok (.putfield index, 3)) (h : Jg X V z o (stL M k j x) (pc + 3) lv st) : Jg X V z o M pc lv (.long x :: .ref (G.2.1 k) :: st) := by
  intro ho H locs ls hP hS hl
  have ha := wo_at G S M c.1 c.2.1
  rw [c.2.2] at ha
  obtain ⟨C, T, N, t0, hc, hj, hin, hm, ht, hnm, hfin, hty⟩ := L
  have hlen : j < (fvs G.2.1 M k 0 fs).length := by rw [fvs_len]; exact (List.getElem?_eq_some_iff.mp hf).1
  refine va_put F.1.1 F.1.2.1 F.1.2.2.2.2 hin t0 ht hnm F.1.2.2.2.1 D.2.2.2.1 (D.P hP) (D.dj M) hS (k - S.1) ha hc j hj (F.1.2.2.2.2 _ hm) (fun _ h => h) hfin (v := .long x) (ht j hj) (by rw [hty]; rfl) (by rw [hty]; rfl) hlen hdg (fun H1 locs1 hP1 _ hS1 => h ho H1 locs1 ls (D.P' ?_) hS1 hl)
  rw [wo_set G S M (stL M k j x) c.1 c.2.1 (by rw [c.2.2]; simp only [cel]; rw [fvs_setL G.2.1 M k j x fs 0 j hf (by omega)]) (fun i hi => by simp [stL, hi])] at hP1
  exact hP1
theorem j_aald (F : Ok X V cc Ts own rt rm) (D : Wd X V G S) {k n : Nat} {r : Nat → Nat} (c : Ce S k (.inr (.inr (n, r)))) {i : Int32} {kk : Nat → Option ρ} (hdg : decode cc pc = .ok (.aaload, 1)) (h : ∀ j, j < n → Jg X V z (kk (r j)) M (pc + 1) lv (.ref (G.2.1 (r j)) :: st)) : Jg X V z ((rdR r n i).bind kk) M pc lv (.int i :: .ref (G.2.1 k) :: st) := by
  intro ho H locs ls hP hS hl
  unfold rdR at ho
  split at ho
  · cases ho
  · rename_i hin
    have ha := wo_at G S M c.1 c.2.1
    rw [c.2.2] at ha
    have hlt : i.toNatClampNeg < n := Nat.not_le.mp fun q => hin (Or.inr q)
    exact va_aldq F.1.1 F.1.2.1 D.2.2.2.1 (D.P hP) (k - S.1) 1 ha rfl hin hdg (h _ hlt ho H locs ls hP hS hl)
theorem j_alen (F : Ok X V cc Ts own rt rm) (D : Wd X V G S) {k n : Nat} (c : Ce S k (.inl n)) {v : Int32} (hv : Int32.ofNat n = v) (hdg : decode cc pc = .ok (.arraylength, 1)) (h : Jg X V z o M (pc + 1) lv (.int v :: st)) : Jg X V z o M pc lv (.ref (G.2.1 k) :: st) := by
  intro ho H locs ls hP hS hl
  have ha := wo_at G S M c.1 c.2.1
  rw [c.2.2] at ha
  exact va_alen F.1.1 F.1.2.1 D.2.2.2.1 (D.P hP) (k - S.1) 0 ha rfl hv hdg (h ho H locs ls hP hS hl)
theorem j_getX (F : Ok X V cc Ts own rt rm) (D : Wd X V G S) {index : Nat} (hm : Cond.fieldLink own index RX3 "STEP_X" "[I" ∈ Ts) (hdg : decode cc pc = .ok (.getstatic index, 3)) (h : Jg X V z o M (pc + 3) lv (.ref G.2.2.2.1 :: st)) : Jg X V z o M pc lv st := by
  intro ho H locs ls hP hS hl
  have hS' := hS
  rw [D.2.2.1] at hS'
  exact va_gets F.1.1 F.1.2.1 D.2.2.2.2.2.1 hS' F.1.2.2.2.1 (F.1.2.2.2.2 _ hm) (fun _ h => h) hdg (h ho H locs ls hP hS hl)
theorem j_getY (F : Ok X V cc Ts own rt rm) (D : Wd X V G S) {index : Nat} (hm : Cond.fieldLink own index RX3 "STEP_Y" "[I" ∈ Ts) (hdg : decode cc pc = .ok (.getstatic index, 3)) (h : Jg X V z o M (pc + 3) lv (.ref G.2.2.2.2 :: st)) : Jg X V z o M pc lv st := by
  intro ho H locs ls hP hS hl
  have hS' := hS
  rw [D.2.2.1] at hS'
  exact va_gets F.1.1 F.1.2.1 D.2.2.2.2.2.2.1 hS' F.1.2.2.2.1 (F.1.2.2.2.2 _ hm) (fun _ h => h) hdg (h ho H locs ls hP hS hl)
theorem j_taldX (F : Ok X V cc Ts own rt rm) (D : Wd X V G S) {i : Int32} {kk : Int32 → Option ρ} (hdg : decode cc pc = .ok (.iaload, 1)) (h : ∀ v, Jg X V z (kk v) M (pc + 1) lv (.int v :: st)) : Jg X V z ((rdT sX 4 i).bind kk) M pc lv (.int i :: .ref G.2.2.2.1 :: st) := by
  intro ho H locs ls hP hS hl
  have hS' := hS
  rw [D.2.2.1] at hS'
  unfold rdT at ho
  split at ho
  · cases ho
  · rename_i hin
    exact va_ti F.1.1 F.1.2.1 D.2.2.2.2.2.2.2.1 hS' hin rfl hdg (h _ ho H locs ls hP hS hl)
theorem j_taldY (F : Ok X V cc Ts own rt rm) (D : Wd X V G S) {i : Int32} {kk : Int32 → Option ρ} (hdg : decode cc pc = .ok (.iaload, 1)) (h : ∀ v, Jg X V z (kk v) M (pc + 1) lv (.int v :: st)) : Jg X V z ((rdT sY 4 i).bind kk) M pc lv (.int i :: .ref G.2.2.2.2 :: st) := by
  intro ho H locs ls hP hS hl
  have hS' := hS
  rw [D.2.2.1] at hS'
  unfold rdT at ho
  split at ho
  · cases ho
  · rename_i hin
    exact va_ti F.1.1 F.1.2.1 D.2.2.2.2.2.2.2.2.1 hS' hin rfl hdg (h _ ho H locs ls hP hS hl)
end RowsB
end
section
/-! Contracts over a world, their start and end, calls -/
def Ci (l : Launch) (G : Gg) (S : Sg) (y : MethodName) (ws : List Cond) (rm : Room) (av : List Value) (o : Mm → Option (Int32 × Mm)) : Prop :=
  ∀ (M : Mm) (z : Int32 × Mm) (sz : Nat), o M = some z → Met l y ws rm (va_Pc av (fun U => U.heap.size = sz ∧ Pre G S M U)) (va_Qi (fun r u => (r, u) = z) (fun u t => va_P G.1 vwCl (wo G S u) t.heap) (Ao G S sz)) 0 0 (Ao G S sz)
def Cv (l : Launch) (G : Gg) (S : Sg) (y : MethodName) (ws : List Cond) (rm : Room) (av : List Value) (o : Mm → Option (Unit × Mm)) : Prop :=
  ∀ (M : Mm) (z : Unit × Mm) (sz : Nat), o M = some z → Met l y ws rm (va_Pc av (fun U => U.heap.size = sz ∧ Pre G S M U)) (va_Qv (fun u => u = z.2) (fun u t => va_P G.1 vwCl (wo G S u) t.heap) (Ao G S sz)) 0 0 (Ao G S sz)
def Cl (l : Launch) (G : Gg) (S : Sg) (y : MethodName) (ws : List Cond) (rm : Room) (av : List Value) (o : Mm → Option (Int64 × Mm)) : Prop :=
  ∀ (M : Mm) (z : Int64 × Mm) (sz : Nat), o M = some z → Met l y ws rm (va_Pc av (fun U => U.heap.size = sz ∧ Pre G S M U)) (va_Ql (fun r u => (r, u) = z) (fun u t => va_P G.1 vwCl (wo G S u) t.heap) (Ao G S sz)) 0 0 (Ao G S sz)
abbrev xB (X : Cx) : List Frame := X.2.2.2.2.2.2.2.1
def Endi (X : Cx) (V : Vx Mm) (G : Gg) (S : Sg) (z : Int32 × Mm) : Prop := V.2.2.2.2 = MQ (xB X) (va_Qi (fun r u => (r, u) = z) (fun u t => va_P G.1 vwCl (wo G S u) t.heap) (Ao G S (xS X).heap.size)) (xA X) (xS X) 0 0 (Ao G S (xS X).heap.size)
def Endv (X : Cx) (V : Vx Mm) (G : Gg) (S : Sg) (z : Unit × Mm) : Prop := V.2.2.2.2 = MQ (xB X) (va_Qv (fun u => u = z.2) (fun u t => va_P G.1 vwCl (wo G S u) t.heap) (Ao G S (xS X).heap.size)) (xA X) (xS X) 0 0 (Ao G S (xS X).heap.size)
def Endl (X : Cx) (V : Vx Mm) (G : Gg) (S : Sg) (z : Int64 × Mm) : Prop := V.2.2.2.2 = MQ (xB X) (va_Ql (fun r u => (r, u) = z) (fun u t => va_P G.1 vwCl (wo G S u) t.heap) (Ao G S (xS X).heap.size)) (xA X) (xS X) 0 0 (Ao G S (xS X).heap.size)
/-- what a callee's words are, and how many arguments it takes -/
def Kc (y : MethodName) (bytes : ByteArray) (maxL : Nat) (ret : Option FieldType) (ws : List Cond) (n : Nat) : Prop := (∃ ws', ws = Cond.code y bytes maxL ret :: ws') ∧ y.cls ≠ "java/lang/invoke/MethodHandle" ∧ y.cls ≠ "java/lang/invoke/VarHandle" ∧ (parseMethodDescriptor y.desc).map (fun d => d.parameters.length) = some n
theorem St.moved {G : Gg} {A : Nat → Prop} {u U : State} {H : Heap} (hvm : u.vm.Alike U.vm) (hn : va_Nw (.methodLinkNest RX5 19 yX6_isWithin RX6) U) (h : St G A u H) : St G A U H := ⟨va_Z.moved hvm h.1, va_Z.moved hvm h.2.1, va_T.moved hvm h.2.2.1, va_T.moved hvm h.2.2.2.1, hn⟩
theorem St.kept {G : Gg} {A : Nat → Prop} {U : State} {H H1 : Heap} (h : St G A U H) (hq : ∀ a : Nat, a < H.size → ¬ A a → H1[a]? = H[a]?) : St G A U H1 := ⟨h.1.kept hq, h.2.1.kept hq, h.2.2.1.kept hq, h.2.2.2.1.kept hq, h.2.2.2.2⟩
theorem St.narrow {G : Gg} {A B : Nat → Prop} {U : State} {H : Heap} (h : St G A U H) (hAB : ∀ q, B q → A q) : St G B U H := ⟨h.1.narrow hAB, h.2.1.narrow hAB, h.2.2.1.narrow hAB, h.2.2.2.1.narrow hAB, h.2.2.2.2⟩
theorem pre_blind (G : Gg) (S : Sg) (M : Mm) (av : List Value) (sz : Nat) : FrameBlind (va_Pc av (fun U => U.heap.size = sz ∧ Pre G S M U)) := by
  intro a U g mk q
  obtain ⟨q0, q1, qP, qK, qI, qS⟩ := q
  exact ⟨q0, q1, qP, va_K.moved (u := U) (U := U.calling g mk a) (Vm.Alike.refl U.vm) qK, qI, St.moved (u := U) (U := U.calling g mk a) (Vm.Alike.refl U.vm) (va_Nw.same (u := U) rfl rfl qS.2.2.2.2) qS⟩
theorem pre_at {X : Cx} {V : Vx Mm} {G : Gg} {S : Sg} (D : Wd X V G S) {M : Mm} {H : Heap} {locs : List Loc} (hP : va_P V.2.1 vwCl (V.1 M) H) (hS : va_S V.2.2.2.1 (xS X).heap H locs) (av : List Value) : ∀ U : State, U.heap = H → (xS X).WarmedH U.vm → va_Pc av (fun U => U.heap.size = H.size ∧ Pre G S M U) av.toArray U := by
  intro U hU hW
  have hS' := hS
  rw [D.2.2.1] at hS'
  subst hU
  refine ⟨rfl, rfl, D.P hP, va_K.moved hW.alike D.2.2.2.1, D.2.2.2.2.1, ?_⟩
  refine St.narrow (St.moved hW.alike (va_Nw.warmM hW D.2.2.2.2.2.2.2.2.2) (D.2.2.2.2.2.kept (fun a h1 h2 => hS'.2.1 a h1 h2))) (fun q h => ?_)
  rcases h with h | h
  · exact Or.inl h
  · exact Or.inr (Nat.le_trans hS'.1 h)
theorem Ao_sub {X : Cx} {V : Vx Mm} {G : Gg} {S : Sg} (D : Wd X V G S) {H : Heap} {locs : List Loc} (hS : va_S V.2.2.2.1 (xS X).heap H locs) : ∀ q, Ao G S H.size q → V.2.2.2.1 q := by
  intro q h
  rw [D.2.2.1] at hS ⊢
  rcases h with h | h
  · exact Or.inl h
  · exact Or.inr (Nat.le_trans hS.1 h)
theorem Ci.intro {l : Launch} {G : Gg} {S : Sg} {y : MethodName} {ws : List Cond} {rm : Room} {av : List Value} {o : Mm → Option (Int32 × Mm)} {cc : ByteArray} {maxL n : Nat} {ty : FieldType} (own : String) (hown : y.cls = own) (hy : plainName y.cls = true) (hk : Kc y cc maxL (some ty) ws n) (hlen : (lg_sl av).length ≤ maxL) {lv : List (Nat × Value)} (hlv : lv_args 0 av = lv)
    (body : ∀ (X : Cx) (V : Vx Mm) (M : Mm) (z : Int32 × Mm), Ok X V cc ws own (some ty) rm → Wd X V G S → X.2.1 = l → maxL = V.2.2.1 → Endi X V G S z → Jg X V z (o M) M 0 lv []) : Ci l G S y ws rm av o := by
  intro M z sz ho
  obtain ⟨⟨ws', hw⟩, -⟩ := hk
  refine Met.ofW (cc := cc) (maxL := maxL) (ret := some ty) hy hw ?_
  intro p e s m args below meth c s₁ B hml hv
  obtain ⟨rfl, hsz, hP, hK, hI, hSt⟩ := hv
  subst hsz
  have hl := lv_entry av (n := maxL) hlen
  rw [lg_entry_eq]
  generalize (lg_sl av ++ List.replicate (maxL - (lg_sl av).length) Slot.unset).toArray = ls at hl ⊢
  rw [hlv] at hl
  exact body (p, l, e, (headSpec ws rm).room, s, m, av.toArray, below, meth, c) (wo G S, G.1, maxL, Ao G S s.heap.size, _) M z ⟨⟨B.exec, B.bytes, hml, by rw [← hown]; exact findClass_of_methodNamed B.named, atoms_spec (ws := ws) B.pre⟩, B.returns, B.notSynchronized, rfl⟩ ⟨rfl, rfl, rfl, hK, hI, hSt⟩ rfl rfl rfl ho s.heap [] ls hP va_S.rf hl
theorem Cv.intro {l : Launch} {G : Gg} {S : Sg} {y : MethodName} {ws : List Cond} {rm : Room} {av : List Value} {o : Mm → Option (Unit × Mm)} {cc : ByteArray} {maxL n : Nat} (own : String) (hown : y.cls = own) (hy : plainName y.cls = true) (hk : Kc y cc maxL none ws n) (hlen : (lg_sl av).length ≤ maxL) {lv : List (Nat × Value)} (hlv : lv_args 0 av = lv)
    (body : ∀ (X : Cx) (V : Vx Mm) (M : Mm) (z : Unit × Mm), Ok X V cc ws own none rm → Wd X V G S → X.2.1 = l → maxL = V.2.2.1 → Endv X V G S z → Jg X V z (o M) M 0 lv []) : Cv l G S y ws rm av o := by
  intro M z sz ho
  obtain ⟨⟨ws', hw⟩, -⟩ := hk
  refine Met.ofW (cc := cc) (maxL := maxL) (ret := none) hy hw ?_
  intro p e s m args below meth c s₁ B hml hv
  obtain ⟨rfl, hsz, hP, hK, hI, hSt⟩ := hv
  subst hsz
  have hl := lv_entry av (n := maxL) hlen
  rw [lg_entry_eq]
  generalize (lg_sl av ++ List.replicate (maxL - (lg_sl av).length) Slot.unset).toArray = ls at hl ⊢
  rw [hlv] at hl
  exact body (p, l, e, (headSpec ws rm).room, s, m, av.toArray, below, meth, c) (wo G S, G.1, maxL, Ao G S s.heap.size, _) M z ⟨⟨B.exec, B.bytes, hml, by rw [← hown]; exact findClass_of_methodNamed B.named, atoms_spec (ws := ws) B.pre⟩, B.returns, B.notSynchronized, rfl⟩ ⟨rfl, rfl, rfl, hK, hI, hSt⟩ rfl rfl rfl ho s.heap [] ls hP va_S.rf hl
theorem Cl.intro {l : Launch} {G : Gg} {S : Sg} {y : MethodName} {ws : List Cond} {rm : Room} {av : List Value} {o : Mm → Option (Int64 × Mm)} {cc : ByteArray} {maxL n : Nat} (own : String) (hown : y.cls = own) (hy : plainName y.cls = true) (hk : Kc y cc maxL (some .long) ws n) (hlen : (lg_sl av).length ≤ maxL) {lv : List (Nat × Value)} (hlv : lv_args 0 av = lv)
    (body : ∀ (X : Cx) (V : Vx Mm) (M : Mm) (z : Int64 × Mm), Ok X V cc ws own (some .long) rm → Wd X V G S → X.2.1 = l → maxL = V.2.2.1 → Endl X V G S z → Jg X V z (o M) M 0 lv []) : Cl l G S y ws rm av o := by
  intro M z sz ho
  obtain ⟨⟨ws', hw⟩, -⟩ := hk
  refine Met.ofW (cc := cc) (maxL := maxL) (ret := some .long) hy hw ?_
  intro p e s m args below meth c s₁ B hml hv
  obtain ⟨rfl, hsz, hP, hK, hI, hSt⟩ := hv
  subst hsz
  have hl := lv_entry av (n := maxL) hlen
  rw [lg_entry_eq]
  generalize (lg_sl av ++ List.replicate (maxL - (lg_sl av).length) Slot.unset).toArray = ls at hl ⊢
  rw [hlv] at hl
  exact body (p, l, e, (headSpec ws rm).room, s, m, av.toArray, below, meth, c) (wo G S, G.1, maxL, Ao G S s.heap.size, _) M z ⟨⟨B.exec, B.bytes, hml, by rw [← hown]; exact findClass_of_methodNamed B.named, atoms_spec (ws := ws) B.pre⟩, B.returns, B.notSynchronized, rfl⟩ ⟨rfl, rfl, rfl, hK, hI, hSt⟩ rfl rfl rfl ho s.heap [] ls hP va_S.rf hl
def mn (x y : Int32) : Int32 := if y < x then y else x
def mx (x y : Int32) : Int32 := if x < y then y else x
def cpy (M : Mm) (k0 n0 k1 n1 : Nat) (sp dp n : Int32) : Option Mm := if sp < 0 ∨ dp < 0 ∨ n < 0 ∨ n0 < sp.toNatClampNeg + n.toNatClampNeg ∨ n1 < dp.toNatClampNeg + n.toNatClampNeg then none else some (stA M k1 (va_cpy (M.1 k0) (M.1 k1) sp.toNatClampNeg dp.toNatClampNeg n.toNatClampNeg))
section RowsC
variable {ρ : Type} {X : Cx} {V : Vx Mm} {z : ρ} {o : Option ρ} {M : Mm} {pc : Nat} {lv : List (Nat × Value)} {st st0 : List Value} {cc : ByteArray} {Ts : List Cond} {own : String} {rt : Option FieldType} {rm : Room} {G : Gg} {S : Sg}
theorem j_iret {z : Int32 × Mm} {ty : FieldType} {r : Int32} (F : Ok X V cc Ts own (some ty) rm) (D : Wd X V G S) (E : Endi X V G S z) (hn : narrow ty (.int r) = .int r) (hdg : decode cc pc = .ok (.ireturn, 1)) : Jg X V z (some (r, M)) M pc lv [.int r] := by
  intro ho H locs ls hP hS hl
  cases ho
  have hS' := hS
  rw [D.2.2.1] at hS'
  unfold Wx
  rw [E]
  exact W.zret F.1.1 F.1.2.1 F.2.1 hn (fun t ht hW => ⟨⟨r, M, rfl, rfl, by show va_P _ _ _ t.heap; rw [ht]; exact D.P hP⟩, hS'.F ht⟩) hS'.2.2 hdg F.2.2.1
theorem j_zret {z : Int32 × Mm} {r : Int32} (F : Ok X V cc Ts own (some .boolean) rm) (D : Wd X V G S) (E : Endi X V G S z) (hdg : decode cc pc = .ok (.ireturn, 1)) : Jg X V z ((ckZ r).bind (fun r => some (r, M))) M pc lv [.int r] := by
  unfold ckZ
  by_cases h : r = 0 ∨ r = 1
  · rw [if_pos h]
    refine j_iret F D E ?_ hdg
    rcases h with h | h <;> subst h <;> rfl
  · rw [if_neg h]; exact j_none
theorem j_vret {z : Unit × Mm} (F : Ok X V cc Ts own none rm) (D : Wd X V G S) (E : Endv X V G S z) (hdg : decode cc pc = .ok (.return_, 1)) : Jg X V z (some ((), M)) M pc lv [] := by
  intro ho H locs ls hP hS hl
  cases ho
  have hS' := hS
  rw [D.2.2.1] at hS'
  unfold Wx
  rw [E]
  exact W.vret F.1.1 F.1.2.1 F.2.1 (fun t ht hW => ⟨⟨M, rfl, rfl, by show va_P _ _ _ t.heap; rw [ht]; exact D.P hP⟩, hS'.F ht⟩) hS'.2.2 hdg F.2.2.1
theorem j_lret {z : Int64 × Mm} {r : Int64} (F : Ok X V cc Ts own (some .long) rm) (D : Wd X V G S) (E : Endl X V G S z) (hdg : decode cc pc = .ok (.lreturn, 1)) : Jg X V z (some (r, M)) M pc lv [.long r] := by
  intro ho H locs ls hP hS hl
  cases ho
  have hS' := hS
  rw [D.2.2.1] at hS'
  unfold Wx
  rw [E]
  exact W.lret F.1.1 F.1.2.1 F.2.1 (fun t ht hW => ⟨⟨r, M, rfl, rfl, by show va_P _ _ _ t.heap; rw [ht]; exact D.P hP⟩, hS'.F ht⟩) hS'.2.2 hdg F.2.2.1
theorem bind_some' {α β : Type} {a : Option α} {f : α → Option β} {b : β} (h : a.bind f = some b) : ∃ x, a = some x ∧ f x = some b := by
  cases a with
  | none => cases h
  | some x => exact ⟨x, rfl, h⟩
theorem j_callVi (F : Ok X V cc Ts own rt rm) (D : Wd X V G S) {l : Launch} (hl : X.2.1 = l) {y : MethodName} {ws : List Cond} {rmc : Room} {k ci : Nat} {fs : List Fk} {As : List Value} {g : Mm → Option (Int32 × Mm)} (C : Ci l G S y ws rmc (.ref (G.2.1 k) :: As) g) (c : Ce S k (.inr (.inl (ci, fs)))) {Cn : String} {T : u_T} {N : Nat} (hcl : vwCl[ci]? = some (Cn, T, N)) {bytes : ByteArray} {maxL n index : Nat} {ret : Option FieldType} (K : Kc y bytes maxL ret ws n) (hy : y.cls = Cn) (hT : GoodIn Ts (wsV own index Cn y ws)) (hc0 : rmc.cells = 0 ∧ rmc.slots = 0) (hR : rmc.frames + 1 ≤ rm.frames ∧ 8 + (maxL + 11) + rmc.locals ≤ rm.locals) (hn : As.length = n) (hst : (st.map fun v => v.category).sum ≤ 8) (hs : st0 = As.reverse ++ .ref (G.2.1 k) :: st) (hdg : decode cc pc = .ok (.invokevirtual index, 3)) {kk : Int32 × Mm → Option ρ} (h : ∀ w, Jg X V z (kk w) w.2 (pc + 3) lv (.int w.1 :: st)) : Jg X V z ((g M).bind kk) M pc lv st0 := by
  intro ho H locs ls hP hS hll
  subst hl
  obtain ⟨w, hg, hk⟩ := bind_some' ho
  obtain ⟨⟨ws', hw⟩, hd⟩ := K
  have ha := wo_at G S M c.1 c.2.1
  rw [c.2.2] at ha
  have hPP := D.P hP
  refine va_calli (va_runV (As := As) (rest := st) F.1 (C M w H.size hg) (cwV (ret := ret) n F.1.2.2.2.2 hT hw hc0.1 hc0.2 ⟨hy, hd⟩ (by rw [show X.2.2.2.1 = rm from F.2.2.2]; exact hR)) ⟨pre_blind G S M _ _, va_recv D.2.2.2.1 hPP hcl ha, pre_at D hP hS _⟩ rfl hn hll.1 hs (lv_room hst) hdg ⟨Nat.zero_le _, Nat.zero_le _⟩) hS (fun q _ h => Ao_sub D hS q h) (Ao_sub D hS) (fun r u t H1 locs1 ht hvm hp hB hz hk1 hS1 => ?_)
  subst hp
  rw [ht] at hB
  exact h (r, u) hk H1 locs1 ls (D.P' hB) hS1 hll
theorem j_callVv (F : Ok X V cc Ts own rt rm) (D : Wd X V G S) {l : Launch} (hl : X.2.1 = l) {y : MethodName} {ws : List Cond} {rmc : Room} {k ci : Nat} {fs : List Fk} {As : List Value} {g : Mm → Option (Unit × Mm)} (C : Cv l G S y ws rmc (.ref (G.2.1 k) :: As) g) (c : Ce S k (.inr (.inl (ci, fs)))) {Cn : String} {T : u_T} {N : Nat} (hcl : vwCl[ci]? = some (Cn, T, N)) {bytes : ByteArray} {maxL n index : Nat} {ret : Option FieldType} (K : Kc y bytes maxL ret ws n) (hy : y.cls = Cn) (hT : GoodIn Ts (wsV own index Cn y ws)) (hc0 : rmc.cells = 0 ∧ rmc.slots = 0) (hR : rmc.frames + 1 ≤ rm.frames ∧ 8 + (maxL + 11) + rmc.locals ≤ rm.locals) (hn : As.length = n) (hst : (st.map fun v => v.category).sum ≤ 8) (hs : st0 = As.reverse ++ .ref (G.2.1 k) :: st) (hdg : decode cc pc = .ok (.invokevirtual index, 3)) {kk : Unit × Mm → Option ρ} (h : ∀ w, Jg X V z (kk w) w.2 (pc + 3) lv st) : Jg X V z ((g M).bind kk) M pc lv st0 := by
  intro ho H locs ls hP hS hll
  subst hl
  obtain ⟨w, hg, hk⟩ := bind_some' ho
  obtain ⟨⟨ws', hw⟩, hd⟩ := K
  have ha := wo_at G S M c.1 c.2.1
  rw [c.2.2] at ha
  have hPP := D.P hP
  refine va_callv (va_runV (As := As) (rest := st) F.1 (C M w H.size hg) (cwV (ret := ret) n F.1.2.2.2.2 hT hw hc0.1 hc0.2 ⟨hy, hd⟩ (by rw [show X.2.2.2.1 = rm from F.2.2.2]; exact hR)) ⟨pre_blind G S M _ _, va_recv D.2.2.2.1 hPP hcl ha, pre_at D hP hS _⟩ rfl hn hll.1 hs (lv_room hst) hdg ⟨Nat.zero_le _, Nat.zero_le _⟩) hS (fun q _ h => Ao_sub D hS q h) (Ao_sub D hS) (fun u t H1 locs1 ht hvm hp hB hz hk1 hS1 => ?_)
  subst hp
  rw [ht] at hB
  exact h w hk H1 locs1 ls (D.P' hB) hS1 hll
theorem j_callSi (F : Ok X V cc Ts own rt rm) (D : Wd X V G S) {l : Launch} (hl : X.2.1 = l) {y : MethodName} {ws : List Cond} {rmc : Room} {As : List Value} {g : Mm → Option (Int32 × Mm)} (C : Ci l G S y ws rmc As g) {bytes : ByteArray} {maxL n index : Nat} {ret : Option FieldType} (K : Kc y bytes maxL ret ws n) (hT : GoodIn Ts (va_wsS own index y ws)) (hc0 : rmc.cells = 0 ∧ rmc.slots = 0) (hR : rmc.frames + 1 ≤ rm.frames ∧ 8 + (maxL + 11) + rmc.locals ≤ rm.locals) (hn : As.length = n) (hst : (st.map fun v => v.category).sum ≤ 8) (hs : st0 = As.reverse ++ st) (hdg : decode cc pc = .ok (.invokestatic index, 3)) {kk : Int32 × Mm → Option ρ} (h : ∀ w, Jg X V z (kk w) w.2 (pc + 3) lv (.int w.1 :: st)) : Jg X V z ((g M).bind kk) M pc lv st0 := by
  intro ho H locs ls hP hS hll
  subst hl
  obtain ⟨w, hg, hk⟩ := bind_some' ho
  obtain ⟨⟨ws', hw⟩, hd⟩ := K
  refine va_calli (va_runS (As := As) (rest := st) F.1 (C M w H.size hg) (va_cwS (ret := ret) n F.1.2.2.2.2 hT hw hc0.1 hc0.2 hd (by rw [show X.2.2.2.1 = rm from F.2.2.2]; exact hR)) ⟨pre_blind G S M _ _, pre_at D hP hS _⟩ rfl hn hll.1 hs (lv_room hst) hdg ⟨Nat.zero_le _, Nat.zero_le _⟩) hS (fun q _ h => Ao_sub D hS q h) (Ao_sub D hS) (fun r u t H1 locs1 ht hvm hp hB hz hk1 hS1 => ?_)
  subst hp
  rw [ht] at hB
  exact h (r, u) hk H1 locs1 ls (D.P' hB) hS1 hll
theorem j_callSv (F : Ok X V cc Ts own rt rm) (D : Wd X V G S) {l : Launch} (hl : X.2.1 = l) {y : MethodName} {ws : List Cond} {rmc : Room} {As : List Value} {g : Mm → Option (Unit × Mm)} (C : Cv l G S y ws rmc As g) {bytes : ByteArray} {maxL n index : Nat} {ret : Option FieldType} (K : Kc y bytes maxL ret ws n) (hT : GoodIn Ts (va_wsS own index y ws)) (hc0 : rmc.cells = 0 ∧ rmc.slots = 0) (hR : rmc.frames + 1 ≤ rm.frames ∧ 8 + (maxL + 11) + rmc.locals ≤ rm.locals) (hn : As.length = n) (hst : (st.map fun v => v.category).sum ≤ 8) (hs : st0 = As.reverse ++ st) (hdg : decode cc pc = .ok (.invokestatic index, 3)) {kk : Unit × Mm → Option ρ} (h : ∀ w, Jg X V z (kk w) w.2 (pc + 3) lv st) : Jg X V z ((g M).bind kk) M pc lv st0 := by
  intro ho H locs ls hP hS hll
  subst hl
  obtain ⟨w, hg, hk⟩ := bind_some' ho
  obtain ⟨⟨ws', hw⟩, hd⟩ := K
  refine va_callv (va_runS (As := As) (rest := st) F.1 (C M w H.size hg) (va_cwS (ret := ret) n F.1.2.2.2.2 hT hw hc0.1 hc0.2 hd (by rw [show X.2.2.2.1 = rm from F.2.2.2]; exact hR)) ⟨pre_blind G S M _ _, pre_at D hP hS _⟩ rfl hn hll.1 hs (lv_room hst) hdg ⟨Nat.zero_le _, Nat.zero_le _⟩) hS (fun q _ h => Ao_sub D hS q h) (Ao_sub D hS) (fun u t H1 locs1 ht hvm hp hB hz hk1 hS1 => ?_)
  subst hp
  rw [ht] at hB
  exact h w hk H1 locs1 ls (D.P' hB) hS1 hll
/-- the one call of a nest mate's static method: Worker to isWithin -/
theorem j_callNi (F : Ok X V cc Ts RX5 rt rm) (D : Wd X V G S) {l : Launch} (hl : X.2.1 = l) {ws : List Cond} {rmc : Room} {As : List Value} {g : Mm → Option (Int32 × Mm)} (C : Ci l G S yX6_isWithin ws rmc As g) {bytes : ByteArray} {maxL n : Nat} {ret : Option FieldType} (K : Kc yX6_isWithin bytes maxL ret ws n) (hT : GoodIn Ts ws) (hm1 : Cond.static yX6_isWithin ∈ Ts) (hm2 : Cond.initialized RX6 ∈ Ts) (hc0 : rmc.cells = 0 ∧ rmc.slots = 0) (hR : rmc.frames + 1 ≤ rm.frames ∧ 8 + (maxL + 11) + rmc.locals ≤ rm.locals) (hn : As.length = n) (hst : (st.map fun v => v.category).sum ≤ 8) (hs : st0 = As.reverse ++ st) (hdg : decode cc pc = .ok (.invokestatic 19, 3)) {kk : Int32 × Mm → Option ρ} (h : ∀ w, Jg X V z (kk w) w.2 (pc + 3) lv (.int w.1 :: st)) : Jg X V z ((g M).bind kk) M pc lv st0 := by
  intro ho H locs ls hP hS hll
  subst hl
  obtain ⟨w, hg, hk⟩ := bind_some' ho
  obtain ⟨⟨ws', hw⟩, hd⟩ := K
  refine va_calli (va_runSN (As := As) (rest := st) F.1 (C M w H.size hg) ⟨va_cnB (ret := ret) (host := RX6) n F.1.2.2.2.2 hT hw hc0.1 hc0.2 D.2.2.2.2.2.2.2.2.2 (F.1.2.2.2.2 _ hm2) hd (by rw [show X.2.2.2.1 = rm from F.2.2.2]; exact hR), F.1.2.2.2.2 _ hm1, trivial⟩ ⟨pre_blind G S M _ _, pre_at D hP hS _⟩ rfl hn hll.1 hs (lv_room hst) hdg ⟨Nat.zero_le _, Nat.zero_le _⟩) hS (fun q _ h => Ao_sub D hS q h) (Ao_sub D hS) (fun r u t H1 locs1 ht hvm hp hB hz hk1 hS1 => ?_)
  subst hp
  rw [ht] at hB
  exact h (r, u) hk H1 locs1 ls (D.P' hB) hS1 hll
theorem j_min (F : Ok X V cc Ts own rt rm) {x y : Int32} {index : Nat} (m1 : Cond.methodLink own index Lib.Math.min.name ∈ Ts) (m2 : Cond.static Lib.Math.min.name ∈ Ts) (m3 : Cond.initialized "java/lang/Math" ∈ Ts) (m4 : Cond.code Lib.Math.min.name Lib.Math.min.code 2 (some .int) ∈ Ts) (hR : 1 ≤ rm.frames ∧ (st.map fun v => v.category).sum + 13 ≤ rm.locals) (hdg : decode cc pc = .ok (.invokestatic index, 3)) (h : Jg X V z o M (pc + 3) lv (.int (mn x y) :: st)) : Jg X V z o M pc lv (.int y :: .int x :: st) :=
  fun ho H locs ls hP hS hl => va_mmin F.1.1 F.1.2.1 (F.1.2.2.1.trans hl.1.symm) F.1.2.2.2.1 (F.1.2.2.2.2 _ m1) (F.1.2.2.2.2 _ m2) (F.1.2.2.2.2 _ m3) (F.1.2.2.2.2 _ m4) (by rw [show X.2.2.2.1 = rm from F.2.2.2]; exact hR.1) (by rw [show X.2.2.2.1 = rm from F.2.2.2]; exact hR.2) (Nat.zero_le _) (Nat.zero_le _) hdg (h ho H locs ls hP hS hl)
theorem j_max (F : Ok X V cc Ts own rt rm) {x y : Int32} {index : Nat} (m1 : Cond.methodLink own index Lib.Math.max.name ∈ Ts) (m2 : Cond.static Lib.Math.max.name ∈ Ts) (m3 : Cond.initialized "java/lang/Math" ∈ Ts) (m4 : Cond.code Lib.Math.max.name Lib.Math.max.code 2 (some .int) ∈ Ts) (hR : 1 ≤ rm.frames ∧ (st.map fun v => v.category).sum + 13 ≤ rm.locals) (hdg : decode cc pc = .ok (.invokestatic index, 3)) (h : Jg X V z o M (pc + 3) lv (.int (mx x y) :: st)) : Jg X V z o M pc lv (.int y :: .int x :: st) :=
  fun ho H locs ls hP hS hl => va_mmax F.1.1 F.1.2.1 (F.1.2.2.1.trans hl.1.symm) F.1.2.2.2.1 (F.1.2.2.2.2 _ m1) (F.1.2.2.2.2 _ m2) (F.1.2.2.2.2 _ m3) (F.1.2.2.2.2 _ m4) (by rw [show X.2.2.2.1 = rm from F.2.2.2]; exact hR.1) (by rw [show X.2.2.2.1 = rm from F.2.2.2]; exact hR.2) (Nat.zero_le _) (Nat.zero_le _) hdg (h ho H locs ls hP hS hl)
theorem j_copy (F : Ok X V cc Ts own rt rm) (D : Wd X V G S) {k0 n0 k1 n1 : Nat} (c0 : Ce S k0 (.inl n0)) (c1 : Ce S k1 (.inl n1)) {sp dp n : Int32} {index : Nat} (m1 : Cond.methodLink own index arraycopyName ∈ Ts) (m2 : Cond.native arraycopyName ∈ Ts) (m3 : Cond.static arraycopyName ∈ Ts) (m4 : Cond.initialized "java/lang/System" ∈ Ts) (hR : 1 ≤ rm.frames ∧ (st.map fun v => v.category).sum + (nativeFrameWords "java/lang/System" "arraycopy" 5 + 11) ≤ rm.locals) (hdg : decode cc pc = .ok (.invokestatic index, 3)) {kk : Mm → Option ρ} (h : ∀ N, Jg X V z (kk N) N (pc + 3) lv st) : Jg X V z ((cpy M k0 n0 k1 n1 sp dp n).bind kk) M pc lv (.int n :: .int dp :: .ref (G.2.1 k1) :: .int sp :: .ref (G.2.1 k0) :: st) := by
  intro ho H locs ls hP hS hl
  unfold cpy at ho
  split at ho
  · cases ho
  · rename_i hin
    have ha := wo_at G S M c0.1 c0.2.1
    rw [c0.2.2] at ha
    have hb := wo_at G S M c1.1 c1.2.1
    rw [c1.2.2] at hb
    refine va_copyi F.1.1 F.1.2.1 (F.1.2.2.1.trans hl.1.symm) F.1.2.2.2.1 (F.1.2.2.2.2 _ m1) (F.1.2.2.2.2 _ m2) (F.1.2.2.2.2 _ m3) (F.1.2.2.2.2 _ m4) D.2.2.2.1 (D.P hP) (D.dj M) hS (k0 - S.1) (k1 - S.1) 0 0 ha hb (ty := .int) rfl rfl rfl (fun q => hin (Or.inl q)) (fun q => hin (Or.inr (Or.inl q))) (fun q => hin (Or.inr (Or.inr (Or.inl q)))) (Nat.not_lt.mp fun q => hin (Or.inr (Or.inr (Or.inr (Or.inl q))))) (Nat.not_lt.mp fun q => hin (Or.inr (Or.inr (Or.inr (Or.inr q))))) (fun i hi => rfl) (by rw [show X.2.2.2.1 = rm from F.2.2.2]; exact hR.1) (by rw [show X.2.2.2.1 = rm from F.2.2.2]; exact hR.2) hdg (fun H1 locs1 hP1 _ hS1 => h _ ho H1 locs1 ls (D.P' ?_) hS1 hl)
    rw [wo_set G S M (stA M k1 (va_cpy (M.1 k0) (M.1 k1) sp.toNatClampNeg dp.toNatClampNeg n.toNatClampNeg)) c1.1 c1.2.1 (by rw [c1.2.2]; simp [cel, stA]) (fun j hj => by simp [stA, hj])] at hP1
    exact hP1
end RowsC
/-- where a table goes -/
def tsw (pc : Nat) (dflt lo hi : Int) (offs : Array Int) (x : Int32) : Int := (pc : Int) + (if x.toInt < lo ∨ hi < x.toInt then dflt else offs.getD (x.toInt - lo).toNat 0)
theorem tsw_d {pc : Nat} {dflt lo hi : Int} {offs : Array Int} {x : Int32} (cs : List Int) (hs : hi - lo + 1 ≤ offs.size) (hall : ∀ i, i < offs.size → (lo + (i : Int) ∈ cs ∨ offs.getD i 0 = dflt)) (hx : x.toInt ∉ cs) : tsw pc dflt lo hi offs x = (pc : Int) + dflt := by
  unfold tsw
  by_cases h : x.toInt < lo ∨ hi < x.toInt
  · rw [if_pos h]
  · rw [if_neg h]
    have h1 : lo ≤ x.toInt := Int.not_lt.mp fun q => h (Or.inl q)
    have h2 : x.toInt ≤ hi := Int.not_lt.mp fun q => h (Or.inr q)
    rcases hall (x.toInt - lo).toNat (by omega) with h3 | h3
    · rw [show lo + ((x.toInt - lo).toNat : Int) = x.toInt by omega] at h3
      exact absurd h3 hx
    · rw [h3]
theorem j_tsw {ρ μ : Type} {X : Cx} {V : Vx μ} {z : ρ} {o : Option ρ} {M : μ} {pc : Nat} {lv : List (Nat × Value)} {st : List Value} {cc : ByteArray} {Ts : List Cond} {own : String} {rt : Option FieldType} {rm : Room} (F : Ok X V cc Ts own rt rm) {dflt lo hi : Int} {offs : Array Int} {len : Nat} {x : Int32} (hdg : decode cc pc = .ok (.tableswitch dflt lo hi offs, len)) (hs : hi - lo + 1 ≤ offs.size) (tgt : Nat) (ht : tsw pc dflt lo hi offs x = tgt) (k : Jg X V z o M tgt lv st) : Jg X V z o M pc lv (.int x :: st) := by
  intro ho H locs ls hP hS hl
  unfold tsw at ht
  by_cases h : x.toInt < lo ∨ hi < x.toInt
  · rw [if_pos h] at ht
    exact lv_tableOut F.1.1 F.1.2.1 hdg h ht (k ho H locs ls hP hS hl)
  · rw [if_neg h] at ht
    have h1 : ¬ x.toInt < lo := fun q => h (Or.inl q)
    have h2 : ¬ hi < x.toInt := fun q => h (Or.inr q)
    have h3 : (x.toInt - lo).toNat < offs.size := by omega
    refine lv_tableIn F.1.1 F.1.2.1 hdg h1 h2 (off := offs.getD (x.toInt - lo).toNat 0) ?_ ht (k ho H locs ls hP hS hl)
    rw [Array.getD_eq_getD_getElem?, Array.getElem?_eq_getElem h3]
    rfl
theorem toInt_ne {x c : Int32} {i : Int} (hc : c.toInt = i) (h : ¬ x = c) : ¬ x.toInt = i := fun q => h (Int32.toInt_inj.mp (q.trans hc.symm))
theorem j_letM {ρ μ : Type} {X : Cx} {V : Vx μ} {z : ρ} {pc : Nat} {lv : List (Nat × Value)} {st : List Value} {a : μ} {k : μ → Option ρ} (h : ∀ x : μ, Jg X V z (k x) x pc lv st) : Jg X V z (lt a k) a pc lv st := h a
theorem j_jn {ρ μ α : Type} {X : Cx} {V : Vx μ} {z : ρ} {M : μ} {pc : Nat} {lv : List (Nat × Value)} {st : List Value} {K : α} {b : α → Option ρ} {P : α → Prop} (h1 : P K) (h2 : ∀ K, P K → Jg X V z (b K) M pc lv st) : Jg X V z (jn K b) M pc lv st := h2 K h1
def ush (x y : Int32) : Int32 := (x.toUInt32 >>> (y.toUInt32 &&& Int32.toUInt32 31)).toInt32
end
section
theorem inJ10 : ∀ w ∈ wsJ100, w ∈ lw_tbl := by decide +kernel
theorem inJ7 : ∀ w ∈ wsJ70, w ∈ lw_tbl := by decide +kernel
set_option maxRecDepth 20000 in
theorem ggX0_init_X4_init : GoodIn wsX0_init wsX4_init := goodIn_r _ [12, 13, 2, 3, 14, 15, 16, 17, 18, 19, 20, 21, 22, 26, 27, 28, 29, 30, 31, 32, 33] (by decide +kernel) (by decide +kernel)
set_option maxRecDepth 20000 in
theorem gX0_init_X4_init : GoodIn wsX0_init (wsX4_init) := ggX0_init_X4_init
theorem dX0_init_0 : decode cX0_init 0 = .ok (.aload_n 0, 1) := by decide +kernel
theorem dX0_init_1 : decode cX0_init 1 = .ok (.invokespecial 3, 3) := by decide +kernel
theorem dX0_init_4 : decode cX0_init 4 = .ok (.aload_n 0, 1) := by decide +kernel
theorem dX0_init_5 : decode cX0_init 5 = .ok (.bipush 6, 2) := by decide +kernel
theorem dX0_init_7 : decode cX0_init 7 = .ok (.anewarray 11, 3) := by decide +kernel
theorem dX0_init_10 : decode cX0_init 10 = .ok (.putfield 13, 3) := by decide +kernel
theorem dX0_init_13 : decode cX0_init 13 = .ok (.iconst 0, 1) := by decide +kernel
theorem dX0_init_14 : decode cX0_init 14 = .ok (.istore_n 1, 1) := by decide +kernel
theorem dX0_init_15 : decode cX0_init 15 = .ok (.iload_n 1, 1) := by decide +kernel
theorem dX0_init_16 : decode cX0_init 16 = .ok (.bipush 6, 2) := by decide +kernel
theorem dX0_init_18 : decode cX0_init 18 = .ok (.if_icmp .ge 22, 3) := by decide +kernel
theorem dX0_init_21 : decode cX0_init 21 = .ok (.aload_n 0, 1) := by decide +kernel
theorem dX0_init_22 : decode cX0_init 22 = .ok (.getfield 13, 3) := by decide +kernel
theorem dX0_init_25 : decode cX0_init 25 = .ok (.iload_n 1, 1) := by decide +kernel
theorem dX0_init_26 : decode cX0_init 26 = .ok (.new 11, 3) := by decide +kernel
theorem dX0_init_29 : decode cX0_init 29 = .ok (.dup, 1) := by decide +kernel
theorem dX0_init_30 : decode cX0_init 30 = .ok (.invokespecial 17, 3) := by decide +kernel
theorem dX0_init_33 : decode cX0_init 33 = .ok (.aastore, 1) := by decide +kernel
theorem dX0_init_34 : decode cX0_init 34 = .ok (.iinc 1 1, 3) := by decide +kernel
theorem dX0_init_37 : decode cX0_init 37 = .ok (.goto (-22), 3) := by decide +kernel
theorem dX0_init_40 : decode cX0_init 40 = .ok (.aload_n 0, 1) := by decide +kernel
theorem dX0_init_41 : decode cX0_init 41 = .ok (.iconst 0, 1) := by decide +kernel
theorem dX0_init_42 : decode cX0_init 42 = .ok (.putfield 18, 3) := by decide +kernel
theorem dX0_init_45 : decode cX0_init 45 = .ok (.aload_n 0, 1) := by decide +kernel
theorem dX0_init_46 : decode cX0_init 46 = .ok (.iconst 0, 1) := by decide +kernel
theorem dX0_init_47 : decode cX0_init 47 = .ok (.putfield 22, 3) := by decide +kernel
theorem dX0_init_50 : decode cX0_init 50 = .ok (.return_, 1) := by decide +kernel
set_option maxRecDepth 20000 in
theorem ggX0_stage_X4_copyFrom : GoodIn wsX0_stage wsX4_copyFrom := goodIn_r _ [7, 8, 9, 10, 11, 12, 13, 14, 15, 16, 17, 18, 19, 23, 24, 25, 26, 27, 28, 29, 30] (by decide +kernel) (by decide +kernel)
set_option maxRecDepth 20000 in
theorem gX0_stage_X4_copyFrom : GoodIn wsX0_stage (wsV RX0 25 RX4 yX4_copyFrom wsX4_copyFrom) := goodIn_app (goodIn_of _ (by decide +kernel)) ggX0_stage_X4_copyFrom
theorem dX0_stage_0 : decode cX0_stage 0 = .ok (.aload_n 0, 1) := by decide +kernel
theorem dX0_stage_1 : decode cX0_stage 1 = .ok (.getfield 13, 3) := by decide +kernel
theorem dX0_stage_4 : decode cX0_stage 4 = .ok (.aload_n 0, 1) := by decide +kernel
theorem dX0_stage_5 : decode cX0_stage 5 = .ok (.getfield 18, 3) := by decide +kernel
theorem dX0_stage_8 : decode cX0_stage 8 = .ok (.aaload, 1) := by decide +kernel
theorem dX0_stage_9 : decode cX0_stage 9 = .ok (.aload_n 1, 1) := by decide +kernel
theorem dX0_stage_10 : decode cX0_stage 10 = .ok (.invokevirtual 25, 3) := by decide +kernel
theorem dX0_stage_13 : decode cX0_stage 13 = .ok (.return_, 1) := by decide +kernel
theorem dX0_keepStaged_0 : decode cX0_keepStaged 0 = .ok (.aload_n 0, 1) := by decide +kernel
theorem dX0_keepStaged_1 : decode cX0_keepStaged 1 = .ok (.aload_n 0, 1) := by decide +kernel
theorem dX0_keepStaged_2 : decode cX0_keepStaged 2 = .ok (.getfield 18, 3) := by decide +kernel
theorem dX0_keepStaged_5 : decode cX0_keepStaged 5 = .ok (.iconst 1, 1) := by decide +kernel
theorem dX0_keepStaged_6 : decode cX0_keepStaged 6 = .ok (.iadd, 1) := by decide +kernel
theorem dX0_keepStaged_7 : decode cX0_keepStaged 7 = .ok (.bipush 6, 2) := by decide +kernel
theorem dX0_keepStaged_9 : decode cX0_keepStaged 9 = .ok (.irem, 1) := by decide +kernel
theorem dX0_keepStaged_10 : decode cX0_keepStaged 10 = .ok (.putfield 18, 3) := by decide +kernel
theorem dX0_keepStaged_13 : decode cX0_keepStaged 13 = .ok (.aload_n 0, 1) := by decide +kernel
theorem dX0_keepStaged_14 : decode cX0_keepStaged 14 = .ok (.aload_n 0, 1) := by decide +kernel
theorem dX0_keepStaged_15 : decode cX0_keepStaged 15 = .ok (.getfield 22, 3) := by decide +kernel
theorem dX0_keepStaged_18 : decode cX0_keepStaged 18 = .ok (.iconst 1, 1) := by decide +kernel
theorem dX0_keepStaged_19 : decode cX0_keepStaged 19 = .ok (.iadd, 1) := by decide +kernel
theorem dX0_keepStaged_20 : decode cX0_keepStaged 20 = .ok (.iconst 5, 1) := by decide +kernel
theorem dX0_keepStaged_21 : decode cX0_keepStaged 21 = .ok (.invokestatic 29, 3) := by decide +kernel
theorem dX0_keepStaged_24 : decode cX0_keepStaged 24 = .ok (.putfield 22, 3) := by decide +kernel
theorem dX0_keepStaged_27 : decode cX0_keepStaged 27 = .ok (.return_, 1) := by decide +kernel
set_option maxRecDepth 20000 in
theorem ggX0_restoreStaged_X4_copyFrom : GoodIn wsX0_restoreStaged wsX4_copyFrom := goodIn_r _ [7, 8, 9, 10, 11, 12, 13, 14, 15, 16, 17, 18, 19, 23, 24, 25, 26, 27, 28, 29, 30] (by decide +kernel) (by decide +kernel)
set_option maxRecDepth 20000 in
theorem gX0_restoreStaged_X4_copyFrom : GoodIn wsX0_restoreStaged (wsV RX0 25 RX4 yX4_copyFrom wsX4_copyFrom) := goodIn_app (goodIn_of _ (by decide +kernel)) ggX0_restoreStaged_X4_copyFrom
theorem dX0_restoreStaged_0 : decode cX0_restoreStaged 0 = .ok (.aload_n 1, 1) := by decide +kernel
theorem dX0_restoreStaged_1 : decode cX0_restoreStaged 1 = .ok (.aload_n 0, 1) := by decide +kernel
theorem dX0_restoreStaged_2 : decode cX0_restoreStaged 2 = .ok (.getfield 13, 3) := by decide +kernel
theorem dX0_restoreStaged_5 : decode cX0_restoreStaged 5 = .ok (.aload_n 0, 1) := by decide +kernel
theorem dX0_restoreStaged_6 : decode cX0_restoreStaged 6 = .ok (.getfield 18, 3) := by decide +kernel
theorem dX0_restoreStaged_9 : decode cX0_restoreStaged 9 = .ok (.aaload, 1) := by decide +kernel
theorem dX0_restoreStaged_10 : decode cX0_restoreStaged 10 = .ok (.invokevirtual 25, 3) := by decide +kernel
theorem dX0_restoreStaged_13 : decode cX0_restoreStaged 13 = .ok (.return_, 1) := by decide +kernel
set_option maxRecDepth 20000 in
theorem ggX0_restoreLast_X4_copyFrom : GoodIn wsX0_restoreLast wsX4_copyFrom := goodIn_r _ [8, 9, 10, 11, 12, 13, 14, 15, 16, 17, 18, 19, 20, 24, 25, 26, 27, 28, 29, 30, 31] (by decide +kernel) (by decide +kernel)
set_option maxRecDepth 20000 in
theorem gX0_restoreLast_X4_copyFrom : GoodIn wsX0_restoreLast (wsV RX0 25 RX4 yX4_copyFrom wsX4_copyFrom) := goodIn_app (goodIn_of _ (by decide +kernel)) ggX0_restoreLast_X4_copyFrom
theorem dX0_restoreLast_0 : decode cX0_restoreLast 0 = .ok (.aload_n 0, 1) := by decide +kernel
theorem dX0_restoreLast_1 : decode cX0_restoreLast 1 = .ok (.aload_n 0, 1) := by decide +kernel
theorem dX0_restoreLast_2 : decode cX0_restoreLast 2 = .ok (.getfield 18, 3) := by decide +kernel
theorem dX0_restoreLast_5 : decode cX0_restoreLast 5 = .ok (.bipush 6, 2) := by decide +kernel
theorem dX0_restoreLast_7 : decode cX0_restoreLast 7 = .ok (.iadd, 1) := by decide +kernel
theorem dX0_restoreLast_8 : decode cX0_restoreLast 8 = .ok (.iconst 1, 1) := by decide +kernel
theorem dX0_restoreLast_9 : decode cX0_restoreLast 9 = .ok (.isub, 1) := by decide +kernel
theorem dX0_restoreLast_10 : decode cX0_restoreLast 10 = .ok (.bipush 6, 2) := by decide +kernel
theorem dX0_restoreLast_12 : decode cX0_restoreLast 12 = .ok (.irem, 1) := by decide +kernel
theorem dX0_restoreLast_13 : decode cX0_restoreLast 13 = .ok (.putfield 18, 3) := by decide +kernel
theorem dX0_restoreLast_16 : decode cX0_restoreLast 16 = .ok (.aload_n 0, 1) := by decide +kernel
theorem dX0_restoreLast_17 : decode cX0_restoreLast 17 = .ok (.dup, 1) := by decide +kernel
theorem dX0_restoreLast_18 : decode cX0_restoreLast 18 = .ok (.getfield 22, 3) := by decide +kernel
theorem dX0_restoreLast_21 : decode cX0_restoreLast 21 = .ok (.iconst 1, 1) := by decide +kernel
theorem dX0_restoreLast_22 : decode cX0_restoreLast 22 = .ok (.isub, 1) := by decide +kernel
theorem dX0_restoreLast_23 : decode cX0_restoreLast 23 = .ok (.putfield 22, 3) := by decide +kernel
theorem dX0_restoreLast_26 : decode cX0_restoreLast 26 = .ok (.aload_n 1, 1) := by decide +kernel
theorem dX0_restoreLast_27 : decode cX0_restoreLast 27 = .ok (.aload_n 0, 1) := by decide +kernel
theorem dX0_restoreLast_28 : decode cX0_restoreLast 28 = .ok (.getfield 13, 3) := by decide +kernel
theorem dX0_restoreLast_31 : decode cX0_restoreLast 31 = .ok (.aload_n 0, 1) := by decide +kernel
theorem dX0_restoreLast_32 : decode cX0_restoreLast 32 = .ok (.getfield 18, 3) := by decide +kernel
theorem dX0_restoreLast_35 : decode cX0_restoreLast 35 = .ok (.aaload, 1) := by decide +kernel
theorem dX0_restoreLast_36 : decode cX0_restoreLast 36 = .ok (.invokevirtual 25, 3) := by decide +kernel
theorem dX0_restoreLast_39 : decode cX0_restoreLast 39 = .ok (.return_, 1) := by decide +kernel
set_option maxRecDepth 20000 in
theorem ggX1_init_J7_fill_53178 : GoodIn wsX1_init wsJ7_fill_53178 := goodIn_r _ [20] (by decide +kernel) (by decide +kernel)
set_option maxRecDepth 20000 in
theorem gX1_init_J7_fill_53178 : GoodIn wsX1_init (va_wsS RX1 38 yJ7_fill_53178 wsJ7_fill_53178) := goodIn_app (goodIn_of _ (by decide +kernel)) ggX1_init_J7_fill_53178
theorem dX1_init_0 : decode cX1_init 0 = .ok (.aload_n 0, 1) := by decide +kernel
theorem dX1_init_1 : decode cX1_init 1 = .ok (.invokespecial 3, 3) := by decide +kernel
theorem dX1_init_4 : decode cX1_init 4 = .ok (.aload_n 0, 1) := by decide +kernel
theorem dX1_init_5 : decode cX1_init 5 = .ok (.bipush 64, 2) := by decide +kernel
theorem dX1_init_7 : decode cX1_init 7 = .ok (.newarray .int, 2) := by decide +kernel
theorem dX1_init_9 : decode cX1_init 9 = .ok (.putfield 9, 3) := by decide +kernel
theorem dX1_init_12 : decode cX1_init 12 = .ok (.aload_n 0, 1) := by decide +kernel
theorem dX1_init_13 : decode cX1_init 13 = .ok (.bipush 64, 2) := by decide +kernel
theorem dX1_init_15 : decode cX1_init 15 = .ok (.newarray .int, 2) := by decide +kernel
theorem dX1_init_17 : decode cX1_init 17 = .ok (.putfield 15, 3) := by decide +kernel
theorem dX1_init_20 : decode cX1_init 20 = .ok (.aload_n 0, 1) := by decide +kernel
theorem dX1_init_21 : decode cX1_init 21 = .ok (.bipush 64, 2) := by decide +kernel
theorem dX1_init_23 : decode cX1_init 23 = .ok (.newarray .int, 2) := by decide +kernel
theorem dX1_init_25 : decode cX1_init 25 = .ok (.putfield 18, 3) := by decide +kernel
theorem dX1_init_28 : decode cX1_init 28 = .ok (.aload_n 0, 1) := by decide +kernel
theorem dX1_init_29 : decode cX1_init 29 = .ok (.sipush 256, 3) := by decide +kernel
theorem dX1_init_32 : decode cX1_init 32 = .ok (.newarray .int, 2) := by decide +kernel
theorem dX1_init_34 : decode cX1_init 34 = .ok (.putfield 21, 3) := by decide +kernel
theorem dX1_init_37 : decode cX1_init 37 = .ok (.aload_n 0, 1) := by decide +kernel
theorem dX1_init_38 : decode cX1_init 38 = .ok (.bipush 6, 2) := by decide +kernel
theorem dX1_init_40 : decode cX1_init 40 = .ok (.newarray .int, 2) := by decide +kernel
theorem dX1_init_42 : decode cX1_init 42 = .ok (.putfield 24, 3) := by decide +kernel
theorem dX1_init_45 : decode cX1_init 45 = .ok (.aload_n 0, 1) := by decide +kernel
theorem dX1_init_46 : decode cX1_init 46 = .ok (.bipush 6, 2) := by decide +kernel
theorem dX1_init_48 : decode cX1_init 48 = .ok (.newarray .int, 2) := by decide +kernel
theorem dX1_init_50 : decode cX1_init 50 = .ok (.putfield 27, 3) := by decide +kernel
theorem dX1_init_53 : decode cX1_init 53 = .ok (.aload_n 0, 1) := by decide +kernel
theorem dX1_init_54 : decode cX1_init 54 = .ok (.aload_n 1, 1) := by decide +kernel
theorem dX1_init_55 : decode cX1_init 55 = .ok (.putfield 30, 3) := by decide +kernel
theorem dX1_init_58 : decode cX1_init 58 = .ok (.aload_n 0, 1) := by decide +kernel
theorem dX1_init_59 : decode cX1_init 59 = .ok (.aload_n 2, 1) := by decide +kernel
theorem dX1_init_60 : decode cX1_init 60 = .ok (.putfield 34, 3) := by decide +kernel
theorem dX1_init_63 : decode cX1_init 63 = .ok (.aload_n 0, 1) := by decide +kernel
theorem dX1_init_64 : decode cX1_init 64 = .ok (.getfield 9, 3) := by decide +kernel
theorem dX1_init_67 : decode cX1_init 67 = .ok (.iconst (-1), 1) := by decide +kernel
theorem dX1_init_68 : decode cX1_init 68 = .ok (.invokestatic 38, 3) := by decide +kernel
theorem dX1_init_71 : decode cX1_init 71 = .ok (.aload_n 0, 1) := by decide +kernel
theorem dX1_init_72 : decode cX1_init 72 = .ok (.getfield 15, 3) := by decide +kernel
theorem dX1_init_75 : decode cX1_init 75 = .ok (.iconst (-1), 1) := by decide +kernel
theorem dX1_init_76 : decode cX1_init 76 = .ok (.invokestatic 38, 3) := by decide +kernel
theorem dX1_init_79 : decode cX1_init 79 = .ok (.aload_n 0, 1) := by decide +kernel
theorem dX1_init_80 : decode cX1_init 80 = .ok (.iconst 0, 1) := by decide +kernel
theorem dX1_init_81 : decode cX1_init 81 = .ok (.putfield 44, 3) := by decide +kernel
theorem dX1_init_84 : decode cX1_init 84 = .ok (.aload_n 0, 1) := by decide +kernel
theorem dX1_init_85 : decode cX1_init 85 = .ok (.iconst 0, 1) := by decide +kernel
theorem dX1_init_86 : decode cX1_init 86 = .ok (.putfield 48, 3) := by decide +kernel
theorem dX1_init_89 : decode cX1_init 89 = .ok (.aload_n 0, 1) := by decide +kernel
theorem dX1_init_90 : decode cX1_init 90 = .ok (.iconst 0, 1) := by decide +kernel
theorem dX1_init_91 : decode cX1_init 91 = .ok (.putfield 52, 3) := by decide +kernel
theorem dX1_init_94 : decode cX1_init 94 = .ok (.aload_n 0, 1) := by decide +kernel
theorem dX1_init_95 : decode cX1_init 95 = .ok (.iconst 0, 1) := by decide +kernel
theorem dX1_init_96 : decode cX1_init 96 = .ok (.putfield 55, 3) := by decide +kernel
theorem dX1_init_99 : decode cX1_init 99 = .ok (.return_, 1) := by decide +kernel
set_option maxRecDepth 20000 in
theorem ggX1_forget_J7_fill_53178 : GoodIn wsX1_forget wsJ7_fill_53178 := goodIn_r _ [7] (by decide +kernel) (by decide +kernel)
set_option maxRecDepth 20000 in
theorem gX1_forget_J7_fill_53178 : GoodIn wsX1_forget (va_wsS RX1 38 yJ7_fill_53178 wsJ7_fill_53178) := goodIn_app (goodIn_of _ (by decide +kernel)) ggX1_forget_J7_fill_53178
theorem dX1_forget_0 : decode cX1_forget 0 = .ok (.aload_n 0, 1) := by decide +kernel
theorem dX1_forget_1 : decode cX1_forget 1 = .ok (.getfield 9, 3) := by decide +kernel
theorem dX1_forget_4 : decode cX1_forget 4 = .ok (.iconst (-1), 1) := by decide +kernel
theorem dX1_forget_5 : decode cX1_forget 5 = .ok (.invokestatic 38, 3) := by decide +kernel
theorem dX1_forget_8 : decode cX1_forget 8 = .ok (.aload_n 0, 1) := by decide +kernel
theorem dX1_forget_9 : decode cX1_forget 9 = .ok (.getfield 15, 3) := by decide +kernel
theorem dX1_forget_12 : decode cX1_forget 12 = .ok (.iconst (-1), 1) := by decide +kernel
theorem dX1_forget_13 : decode cX1_forget 13 = .ok (.invokestatic 38, 3) := by decide +kernel
theorem dX1_forget_16 : decode cX1_forget 16 = .ok (.aload_n 0, 1) := by decide +kernel
theorem dX1_forget_17 : decode cX1_forget 17 = .ok (.iconst 0, 1) := by decide +kernel
theorem dX1_forget_18 : decode cX1_forget 18 = .ok (.putfield 44, 3) := by decide +kernel
theorem dX1_forget_21 : decode cX1_forget 21 = .ok (.return_, 1) := by decide +kernel
set_option maxRecDepth 20000 in
theorem ggX1_hitOf_X3_trace : GoodIn wsX1_hitOf wsX3_trace := goodIn_r _ [7, 8, 9, 10, 11, 12, 13, 14, 15, 16, 55, 56, 57, 58, 59, 60, 61, 62, 63, 64, 65, 66] (by decide +kernel) (by decide +kernel)
set_option maxRecDepth 20000 in
theorem gX1_hitOf_X3_trace : GoodIn wsX1_hitOf (wsV RX1 58 RX3 yX3_trace wsX3_trace) := goodIn_app (goodIn_of _ (by decide +kernel)) ggX1_hitOf_X3_trace
set_option maxRecDepth 20000 in
theorem ggX1_hitOf_X3_pressHit : GoodIn wsX1_hitOf wsX3_pressHit := goodIn_r _ [20, 16, 13, 10, 15, 9, 11, 14, 21, 22, 23, 24, 25, 26, 27, 28, 6, 29, 55, 56, 57, 58, 59, 60, 61, 62, 63, 64, 65, 66] (by decide +kernel) (by decide +kernel)
set_option maxRecDepth 20000 in
theorem gX1_hitOf_X3_pressHit : GoodIn wsX1_hitOf (wsV RX1 64 RX3 yX3_pressHit wsX3_pressHit) := goodIn_app (goodIn_of _ (by decide +kernel)) ggX1_hitOf_X3_pressHit
set_option maxRecDepth 20000 in
theorem ggX1_hitOf_X1_crossesAt : GoodIn wsX1_hitOf wsX1_crossesAt := goodIn_r _ [34, 35, 1, 2, 3, 4, 5, 6, 7, 8, 9, 10, 11, 12, 13, 14, 15, 16, 36, 37, 38, 39, 21, 22, 23, 24, 40, 41, 42, 27, 28, 29, 43, 44, 45, 46, 47, 48, 49, 50, 51, 52, 53, 54, 55, 56, 57, 58, 59, 60, 61, 62, 63, 64, 65, 66] (by decide +kernel) (by decide +kernel)
set_option maxRecDepth 20000 in
theorem gX1_hitOf_X1_crossesAt : GoodIn wsX1_hitOf (wsV RX1 68 RX1 yX1_crossesAt wsX1_crossesAt) := goodIn_app (goodIn_of _ (by decide +kernel)) ggX1_hitOf_X1_crossesAt
theorem dX1_hitOf_0 : decode cX1_hitOf 0 = .ok (.aload_n 0, 1) := by decide +kernel
theorem dX1_hitOf_1 : decode cX1_hitOf 1 = .ok (.getfield 34, 3) := by decide +kernel
theorem dX1_hitOf_4 : decode cX1_hitOf 4 = .ok (.aload_n 0, 1) := by decide +kernel
theorem dX1_hitOf_5 : decode cX1_hitOf 5 = .ok (.getfield 30, 3) := by decide +kernel
theorem dX1_hitOf_8 : decode cX1_hitOf 8 = .ok (.iload_n 1, 1) := by decide +kernel
theorem dX1_hitOf_9 : decode cX1_hitOf 9 = .ok (.invokevirtual 58, 3) := by decide +kernel
theorem dX1_hitOf_12 : decode cX1_hitOf 12 = .ok (.aload_n 0, 1) := by decide +kernel
theorem dX1_hitOf_13 : decode cX1_hitOf 13 = .ok (.getfield 34, 3) := by decide +kernel
theorem dX1_hitOf_16 : decode cX1_hitOf 16 = .ok (.aload_n 0, 1) := by decide +kernel
theorem dX1_hitOf_17 : decode cX1_hitOf 17 = .ok (.getfield 30, 3) := by decide +kernel
theorem dX1_hitOf_20 : decode cX1_hitOf 20 = .ok (.iload_n 2, 1) := by decide +kernel
theorem dX1_hitOf_21 : decode cX1_hitOf 21 = .ok (.invokevirtual 64, 3) := by decide +kernel
theorem dX1_hitOf_24 : decode cX1_hitOf 24 = .ok (.istore_n 3, 1) := by decide +kernel
theorem dX1_hitOf_25 : decode cX1_hitOf 25 = .ok (.iload_n 3, 1) := by decide +kernel
theorem dX1_hitOf_26 : decode cX1_hitOf 26 = .ok (.ifCond .eq 5, 3) := by decide +kernel
theorem dX1_hitOf_29 : decode cX1_hitOf 29 = .ok (.iload_n 3, 1) := by decide +kernel
theorem dX1_hitOf_30 : decode cX1_hitOf 30 = .ok (.ireturn, 1) := by decide +kernel
theorem dX1_hitOf_31 : decode cX1_hitOf 31 = .ok (.aload_n 0, 1) := by decide +kernel
theorem dX1_hitOf_32 : decode cX1_hitOf 32 = .ok (.iload_n 1, 1) := by decide +kernel
theorem dX1_hitOf_33 : decode cX1_hitOf 33 = .ok (.iconst 1, 1) := by decide +kernel
theorem dX1_hitOf_34 : decode cX1_hitOf 34 = .ok (.iload_n 2, 1) := by decide +kernel
theorem dX1_hitOf_35 : decode cX1_hitOf 35 = .ok (.ishl, 1) := by decide +kernel
theorem dX1_hitOf_36 : decode cX1_hitOf 36 = .ok (.ior, 1) := by decide +kernel
theorem dX1_hitOf_37 : decode cX1_hitOf 37 = .ok (.invokevirtual 68, 3) := by decide +kernel
theorem dX1_hitOf_40 : decode cX1_hitOf 40 = .ok (.ifCond .eq 7, 3) := by decide +kernel
theorem dX1_hitOf_43 : decode cX1_hitOf 43 = .ok (.iconst 3, 1) := by decide +kernel
theorem dX1_hitOf_44 : decode cX1_hitOf 44 = .ok (.goto 4, 3) := by decide +kernel
theorem dX1_hitOf_47 : decode cX1_hitOf 47 = .ok (.iconst 0, 1) := by decide +kernel
theorem dX1_hitOf_48 : decode cX1_hitOf 48 = .ok (.ireturn, 1) := by decide +kernel
set_option maxRecDepth 20000 in
theorem ggX1_freeAt_X3_trace : GoodIn wsX1_freeAt wsX3_trace := goodIn_r _ [9, 10, 11, 12, 13, 14, 15, 16, 17, 18, 57, 58, 59, 60, 61, 62, 63, 64, 65, 66, 67, 68] (by decide +kernel) (by decide +kernel)
set_option maxRecDepth 20000 in
theorem gX1_freeAt_X3_trace : GoodIn wsX1_freeAt (wsV RX1 58 RX3 yX3_trace wsX3_trace) := goodIn_app (goodIn_of _ (by decide +kernel)) ggX1_freeAt_X3_trace
set_option maxRecDepth 20000 in
theorem ggX1_freeAt_X3_pressHit : GoodIn wsX1_freeAt wsX3_pressHit := goodIn_r _ [22, 18, 15, 12, 17, 11, 13, 16, 23, 24, 25, 26, 27, 28, 29, 30, 8, 31, 57, 58, 59, 60, 61, 62, 63, 64, 65, 66, 67, 68] (by decide +kernel) (by decide +kernel)
set_option maxRecDepth 20000 in
theorem gX1_freeAt_X3_pressHit : GoodIn wsX1_freeAt (wsV RX1 64 RX3 yX3_pressHit wsX3_pressHit) := goodIn_app (goodIn_of _ (by decide +kernel)) ggX1_freeAt_X3_pressHit
set_option maxRecDepth 20000 in
theorem ggX1_freeAt_X1_crossesAt : GoodIn wsX1_freeAt wsX1_crossesAt := goodIn_r _ [36, 37, 2, 3, 5, 6, 7, 8, 9, 10, 11, 12, 13, 14, 15, 16, 17, 18, 38, 39, 40, 41, 23, 24, 25, 26, 42, 43, 44, 29, 30, 31, 45, 46, 47, 48, 49, 50, 51, 52, 53, 54, 55, 56, 57, 58, 59, 60, 61, 62, 63, 64, 65, 66, 67, 68] (by decide +kernel) (by decide +kernel)
set_option maxRecDepth 20000 in
theorem gX1_freeAt_X1_crossesAt : GoodIn wsX1_freeAt (wsV RX1 68 RX1 yX1_crossesAt wsX1_crossesAt) := goodIn_app (goodIn_of _ (by decide +kernel)) ggX1_freeAt_X1_crossesAt
theorem dX1_freeAt_0 : decode cX1_freeAt 0 = .ok (.aload_n 0, 1) := by decide +kernel
theorem dX1_freeAt_1 : decode cX1_freeAt 1 = .ok (.getfield 9, 3) := by decide +kernel
theorem dX1_freeAt_4 : decode cX1_freeAt 4 = .ok (.iload_n 1, 1) := by decide +kernel
theorem dX1_freeAt_5 : decode cX1_freeAt 5 = .ok (.iaload, 1) := by decide +kernel
theorem dX1_freeAt_6 : decode cX1_freeAt 6 = .ok (.iconst (-1), 1) := by decide +kernel
theorem dX1_freeAt_7 : decode cX1_freeAt 7 = .ok (.if_icmp .eq 10, 3) := by decide +kernel
theorem dX1_freeAt_10 : decode cX1_freeAt 10 = .ok (.aload_n 0, 1) := by decide +kernel
theorem dX1_freeAt_11 : decode cX1_freeAt 11 = .ok (.getfield 9, 3) := by decide +kernel
theorem dX1_freeAt_14 : decode cX1_freeAt 14 = .ok (.iload_n 1, 1) := by decide +kernel
theorem dX1_freeAt_15 : decode cX1_freeAt 15 = .ok (.iaload, 1) := by decide +kernel
theorem dX1_freeAt_16 : decode cX1_freeAt 16 = .ok (.ireturn, 1) := by decide +kernel
theorem dX1_freeAt_17 : decode cX1_freeAt 17 = .ok (.iconst 0, 1) := by decide +kernel
theorem dX1_freeAt_18 : decode cX1_freeAt 18 = .ok (.istore_n 2, 1) := by decide +kernel
theorem dX1_freeAt_19 : decode cX1_freeAt 19 = .ok (.aload_n 0, 1) := by decide +kernel
theorem dX1_freeAt_20 : decode cX1_freeAt 20 = .ok (.getfield 34, 3) := by decide +kernel
theorem dX1_freeAt_23 : decode cX1_freeAt 23 = .ok (.aload_n 0, 1) := by decide +kernel
theorem dX1_freeAt_24 : decode cX1_freeAt 24 = .ok (.getfield 30, 3) := by decide +kernel
theorem dX1_freeAt_27 : decode cX1_freeAt 27 = .ok (.iload_n 1, 1) := by decide +kernel
theorem dX1_freeAt_28 : decode cX1_freeAt 28 = .ok (.invokevirtual 58, 3) := by decide +kernel
theorem dX1_freeAt_31 : decode cX1_freeAt 31 = .ok (.iconst 0, 1) := by decide +kernel
theorem dX1_freeAt_32 : decode cX1_freeAt 32 = .ok (.istore_n 3, 1) := by decide +kernel
theorem dX1_freeAt_33 : decode cX1_freeAt 33 = .ok (.iload_n 3, 1) := by decide +kernel
theorem dX1_freeAt_34 : decode cX1_freeAt 34 = .ok (.aload_n 0, 1) := by decide +kernel
theorem dX1_freeAt_35 : decode cX1_freeAt 35 = .ok (.getfield 30, 3) := by decide +kernel
theorem dX1_freeAt_38 : decode cX1_freeAt 38 = .ok (.getfield 72, 3) := by decide +kernel
theorem dX1_freeAt_41 : decode cX1_freeAt 41 = .ok (.if_icmp .ge 38, 3) := by decide +kernel
theorem dX1_freeAt_44 : decode cX1_freeAt 44 = .ok (.iload_n 1, 1) := by decide +kernel
theorem dX1_freeAt_45 : decode cX1_freeAt 45 = .ok (.iload_n 3, 1) := by decide +kernel
theorem dX1_freeAt_46 : decode cX1_freeAt 46 = .ok (.ishr, 1) := by decide +kernel
theorem dX1_freeAt_47 : decode cX1_freeAt 47 = .ok (.iconst 1, 1) := by decide +kernel
theorem dX1_freeAt_48 : decode cX1_freeAt 48 = .ok (.iand, 1) := by decide +kernel
theorem dX1_freeAt_49 : decode cX1_freeAt 49 = .ok (.ifCond .ne 24, 3) := by decide +kernel
theorem dX1_freeAt_52 : decode cX1_freeAt 52 = .ok (.aload_n 0, 1) := by decide +kernel
theorem dX1_freeAt_53 : decode cX1_freeAt 53 = .ok (.getfield 34, 3) := by decide +kernel
theorem dX1_freeAt_56 : decode cX1_freeAt 56 = .ok (.aload_n 0, 1) := by decide +kernel
theorem dX1_freeAt_57 : decode cX1_freeAt 57 = .ok (.getfield 30, 3) := by decide +kernel
theorem dX1_freeAt_60 : decode cX1_freeAt 60 = .ok (.iload_n 3, 1) := by decide +kernel
theorem dX1_freeAt_61 : decode cX1_freeAt 61 = .ok (.invokevirtual 64, 3) := by decide +kernel
theorem dX1_freeAt_64 : decode cX1_freeAt 64 = .ok (.ifCond .ne 9, 3) := by decide +kernel
theorem dX1_freeAt_67 : decode cX1_freeAt 67 = .ok (.iload_n 2, 1) := by decide +kernel
theorem dX1_freeAt_68 : decode cX1_freeAt 68 = .ok (.iconst 1, 1) := by decide +kernel
theorem dX1_freeAt_69 : decode cX1_freeAt 69 = .ok (.iload_n 3, 1) := by decide +kernel
theorem dX1_freeAt_70 : decode cX1_freeAt 70 = .ok (.ishl, 1) := by decide +kernel
theorem dX1_freeAt_71 : decode cX1_freeAt 71 = .ok (.ior, 1) := by decide +kernel
theorem dX1_freeAt_72 : decode cX1_freeAt 72 = .ok (.istore_n 2, 1) := by decide +kernel
theorem dX1_freeAt_73 : decode cX1_freeAt 73 = .ok (.iinc 3 1, 3) := by decide +kernel
theorem dX1_freeAt_76 : decode cX1_freeAt 76 = .ok (.goto (-43), 3) := by decide +kernel
theorem dX1_freeAt_79 : decode cX1_freeAt 79 = .ok (.iconst 0, 1) := by decide +kernel
theorem dX1_freeAt_80 : decode cX1_freeAt 80 = .ok (.istore_n 3, 1) := by decide +kernel
theorem dX1_freeAt_81 : decode cX1_freeAt 81 = .ok (.iload_n 3, 1) := by decide +kernel
theorem dX1_freeAt_82 : decode cX1_freeAt 82 = .ok (.aload_n 0, 1) := by decide +kernel
theorem dX1_freeAt_83 : decode cX1_freeAt 83 = .ok (.getfield 30, 3) := by decide +kernel
theorem dX1_freeAt_86 : decode cX1_freeAt 86 = .ok (.getfield 72, 3) := by decide +kernel
theorem dX1_freeAt_89 : decode cX1_freeAt 89 = .ok (.if_icmp .ge 36, 3) := by decide +kernel
theorem dX1_freeAt_92 : decode cX1_freeAt 92 = .ok (.iload_n 2, 1) := by decide +kernel
theorem dX1_freeAt_93 : decode cX1_freeAt 93 = .ok (.iload_n 3, 1) := by decide +kernel
theorem dX1_freeAt_94 : decode cX1_freeAt 94 = .ok (.ishr, 1) := by decide +kernel
theorem dX1_freeAt_95 : decode cX1_freeAt 95 = .ok (.iconst 1, 1) := by decide +kernel
theorem dX1_freeAt_96 : decode cX1_freeAt 96 = .ok (.iand, 1) := by decide +kernel
theorem dX1_freeAt_97 : decode cX1_freeAt 97 = .ok (.iconst 1, 1) := by decide +kernel
theorem dX1_freeAt_98 : decode cX1_freeAt 98 = .ok (.if_icmp .ne 21, 3) := by decide +kernel
theorem dX1_freeAt_101 : decode cX1_freeAt 101 = .ok (.aload_n 0, 1) := by decide +kernel
theorem dX1_freeAt_102 : decode cX1_freeAt 102 = .ok (.iload_n 1, 1) := by decide +kernel
theorem dX1_freeAt_103 : decode cX1_freeAt 103 = .ok (.iconst 1, 1) := by decide +kernel
theorem dX1_freeAt_104 : decode cX1_freeAt 104 = .ok (.iload_n 3, 1) := by decide +kernel
theorem dX1_freeAt_105 : decode cX1_freeAt 105 = .ok (.ishl, 1) := by decide +kernel
theorem dX1_freeAt_106 : decode cX1_freeAt 106 = .ok (.ior, 1) := by decide +kernel
theorem dX1_freeAt_107 : decode cX1_freeAt 107 = .ok (.invokevirtual 68, 3) := by decide +kernel
theorem dX1_freeAt_110 : decode cX1_freeAt 110 = .ok (.ifCond .eq 9, 3) := by decide +kernel
theorem dX1_freeAt_113 : decode cX1_freeAt 113 = .ok (.iload_n 2, 1) := by decide +kernel
theorem dX1_freeAt_114 : decode cX1_freeAt 114 = .ok (.iconst 1, 1) := by decide +kernel
theorem dX1_freeAt_115 : decode cX1_freeAt 115 = .ok (.iload_n 3, 1) := by decide +kernel
theorem dX1_freeAt_116 : decode cX1_freeAt 116 = .ok (.ishl, 1) := by decide +kernel
theorem dX1_freeAt_117 : decode cX1_freeAt 117 = .ok (.isub, 1) := by decide +kernel
theorem dX1_freeAt_118 : decode cX1_freeAt 118 = .ok (.istore_n 2, 1) := by decide +kernel
theorem dX1_freeAt_119 : decode cX1_freeAt 119 = .ok (.iinc 3 1, 3) := by decide +kernel
theorem dX1_freeAt_122 : decode cX1_freeAt 122 = .ok (.goto (-41), 3) := by decide +kernel
theorem dX1_freeAt_125 : decode cX1_freeAt 125 = .ok (.aload_n 0, 1) := by decide +kernel
theorem dX1_freeAt_126 : decode cX1_freeAt 126 = .ok (.getfield 9, 3) := by decide +kernel
theorem dX1_freeAt_129 : decode cX1_freeAt 129 = .ok (.iload_n 1, 1) := by decide +kernel
theorem dX1_freeAt_130 : decode cX1_freeAt 130 = .ok (.iload_n 2, 1) := by decide +kernel
theorem dX1_freeAt_131 : decode cX1_freeAt 131 = .ok (.iastore, 1) := by decide +kernel
theorem dX1_freeAt_132 : decode cX1_freeAt 132 = .ok (.iload_n 2, 1) := by decide +kernel
theorem dX1_freeAt_133 : decode cX1_freeAt 133 = .ok (.ireturn, 1) := by decide +kernel
set_option maxRecDepth 20000 in
theorem ggX1_crossesAt_X3_trace : GoodIn wsX1_crossesAt wsX3_trace := goodIn_r _ [8, 9, 10, 11, 12, 13, 14, 15, 16, 17, 44, 45, 46, 47, 48, 49, 50, 51, 52, 53, 54, 55] (by decide +kernel) (by decide +kernel)
set_option maxRecDepth 20000 in
theorem gX1_crossesAt_X3_trace : GoodIn wsX1_crossesAt (wsV RX1 58 RX3 yX3_trace wsX3_trace) := goodIn_app (goodIn_of _ (by decide +kernel)) ggX1_crossesAt_X3_trace
set_option maxRecDepth 20000 in
theorem ggX1_crossesAt_X3_crossesItself : GoodIn wsX1_crossesAt wsX3_crossesItself := goodIn_r _ [21, 10, 12, 22, 23, 24, 25, 26, 27, 28, 15, 29, 30, 7, 31, 52, 53, 54, 55] (by decide +kernel) (by decide +kernel)
set_option maxRecDepth 20000 in
theorem gX1_crossesAt_X3_crossesItself : GoodIn wsX1_crossesAt (wsV RX1 77 RX3 yX3_crossesItself wsX3_crossesItself) := goodIn_app (goodIn_of _ (by decide +kernel)) ggX1_crossesAt_X3_crossesItself
theorem dX1_crossesAt_0 : decode cX1_crossesAt 0 = .ok (.aload_n 0, 1) := by decide +kernel
theorem dX1_crossesAt_1 : decode cX1_crossesAt 1 = .ok (.getfield 15, 3) := by decide +kernel
theorem dX1_crossesAt_4 : decode cX1_crossesAt 4 = .ok (.iload_n 1, 1) := by decide +kernel
theorem dX1_crossesAt_5 : decode cX1_crossesAt 5 = .ok (.iaload, 1) := by decide +kernel
theorem dX1_crossesAt_6 : decode cX1_crossesAt 6 = .ok (.iconst (-1), 1) := by decide +kernel
theorem dX1_crossesAt_7 : decode cX1_crossesAt 7 = .ok (.if_icmp .ne 36, 3) := by decide +kernel
theorem dX1_crossesAt_10 : decode cX1_crossesAt 10 = .ok (.aload_n 0, 1) := by decide +kernel
theorem dX1_crossesAt_11 : decode cX1_crossesAt 11 = .ok (.getfield 34, 3) := by decide +kernel
theorem dX1_crossesAt_14 : decode cX1_crossesAt 14 = .ok (.aload_n 0, 1) := by decide +kernel
theorem dX1_crossesAt_15 : decode cX1_crossesAt 15 = .ok (.getfield 30, 3) := by decide +kernel
theorem dX1_crossesAt_18 : decode cX1_crossesAt 18 = .ok (.iload_n 1, 1) := by decide +kernel
theorem dX1_crossesAt_19 : decode cX1_crossesAt 19 = .ok (.invokevirtual 58, 3) := by decide +kernel
theorem dX1_crossesAt_22 : decode cX1_crossesAt 22 = .ok (.aload_n 0, 1) := by decide +kernel
theorem dX1_crossesAt_23 : decode cX1_crossesAt 23 = .ok (.getfield 15, 3) := by decide +kernel
theorem dX1_crossesAt_26 : decode cX1_crossesAt 26 = .ok (.iload_n 1, 1) := by decide +kernel
theorem dX1_crossesAt_27 : decode cX1_crossesAt 27 = .ok (.aload_n 0, 1) := by decide +kernel
theorem dX1_crossesAt_28 : decode cX1_crossesAt 28 = .ok (.getfield 34, 3) := by decide +kernel
theorem dX1_crossesAt_31 : decode cX1_crossesAt 31 = .ok (.invokevirtual 77, 3) := by decide +kernel
theorem dX1_crossesAt_34 : decode cX1_crossesAt 34 = .ok (.ifCond .eq 7, 3) := by decide +kernel
theorem dX1_crossesAt_37 : decode cX1_crossesAt 37 = .ok (.iconst 1, 1) := by decide +kernel
theorem dX1_crossesAt_38 : decode cX1_crossesAt 38 = .ok (.goto 4, 3) := by decide +kernel
theorem dX1_crossesAt_41 : decode cX1_crossesAt 41 = .ok (.iconst 0, 1) := by decide +kernel
theorem dX1_crossesAt_42 : decode cX1_crossesAt 42 = .ok (.iastore, 1) := by decide +kernel
theorem dX1_crossesAt_43 : decode cX1_crossesAt 43 = .ok (.aload_n 0, 1) := by decide +kernel
theorem dX1_crossesAt_44 : decode cX1_crossesAt 44 = .ok (.getfield 15, 3) := by decide +kernel
theorem dX1_crossesAt_47 : decode cX1_crossesAt 47 = .ok (.iload_n 1, 1) := by decide +kernel
theorem dX1_crossesAt_48 : decode cX1_crossesAt 48 = .ok (.iaload, 1) := by decide +kernel
theorem dX1_crossesAt_49 : decode cX1_crossesAt 49 = .ok (.iconst 1, 1) := by decide +kernel
theorem dX1_crossesAt_50 : decode cX1_crossesAt 50 = .ok (.if_icmp .ne 7, 3) := by decide +kernel
theorem dX1_crossesAt_53 : decode cX1_crossesAt 53 = .ok (.iconst 1, 1) := by decide +kernel
theorem dX1_crossesAt_54 : decode cX1_crossesAt 54 = .ok (.goto 4, 3) := by decide +kernel
theorem dX1_crossesAt_57 : decode cX1_crossesAt 57 = .ok (.iconst 0, 1) := by decide +kernel
theorem dX1_crossesAt_58 : decode cX1_crossesAt 58 = .ok (.ireturn, 1) := by decide +kernel
set_option maxRecDepth 20000 in
theorem ggX1_pathsFrom_X4_allBends : GoodIn wsX1_pathsFrom wsX4_allBends := goodIn_r _ [8, 9, 72, 73, 74, 75, 76, 77, 78, 79] (by decide +kernel) (by decide +kernel)
set_option maxRecDepth 20000 in
theorem gX1_pathsFrom_X4_allBends : GoodIn wsX1_pathsFrom (wsV RX1 81 RX4 yX4_allBends wsX4_allBends) := goodIn_app (goodIn_of _ (by decide +kernel)) ggX1_pathsFrom_X4_allBends
set_option maxRecDepth 20000 in
theorem ggX1_pathsFrom_J7_fill_53178 : GoodIn wsX1_pathsFrom wsJ7_fill_53178 := goodIn_r _ [13] (by decide +kernel) (by decide +kernel)
set_option maxRecDepth 20000 in
theorem gX1_pathsFrom_J7_fill_53178 : GoodIn wsX1_pathsFrom (va_wsS RX1 38 yJ7_fill_53178 wsJ7_fill_53178) := goodIn_app (goodIn_of _ (by decide +kernel)) ggX1_pathsFrom_J7_fill_53178
set_option maxRecDepth 20000 in
theorem ggX1_pathsFrom_X1_freeAt : GoodIn wsX1_pathsFrom wsX1_freeAt := goodIn_r _ [18, 19, 20, 1, 3, 21, 22, 23, 24, 25, 26, 27, 28, 29, 30, 31, 32, 33, 34, 35, 36, 37, 38, 39, 40, 41, 42, 43, 44, 45, 46, 47, 48, 49, 50, 17, 51, 52, 53, 54, 55, 56, 57, 58, 59, 60, 61, 62, 63, 64, 65, 66, 67, 68, 69, 70, 71, 72, 73, 74, 75, 76, 77, 78, 79, 80, 81, 82, 83] (by decide +kernel) (by decide +kernel)
set_option maxRecDepth 20000 in
theorem gX1_pathsFrom_X1_freeAt : GoodIn wsX1_pathsFrom (wsV RX1 85 RX1 yX1_freeAt wsX1_freeAt) := goodIn_app (goodIn_of _ (by decide +kernel)) ggX1_pathsFrom_X1_freeAt
theorem dX1_pathsFrom_0 : decode cX1_pathsFrom 0 = .ok (.aload_n 0, 1) := by decide +kernel
theorem dX1_pathsFrom_1 : decode cX1_pathsFrom 1 = .ok (.getfield 30, 3) := by decide +kernel
theorem dX1_pathsFrom_4 : decode cX1_pathsFrom 4 = .ok (.invokevirtual 81, 3) := by decide +kernel
theorem dX1_pathsFrom_7 : decode cX1_pathsFrom 7 = .ok (.istore_n 2, 1) := by decide +kernel
theorem dX1_pathsFrom_8 : decode cX1_pathsFrom 8 = .ok (.aload_n 0, 1) := by decide +kernel
theorem dX1_pathsFrom_9 : decode cX1_pathsFrom 9 = .ok (.getfield 18, 3) := by decide +kernel
theorem dX1_pathsFrom_12 : decode cX1_pathsFrom 12 = .ok (.iconst 0, 1) := by decide +kernel
theorem dX1_pathsFrom_13 : decode cX1_pathsFrom 13 = .ok (.invokestatic 38, 3) := by decide +kernel
theorem dX1_pathsFrom_16 : decode cX1_pathsFrom 16 = .ok (.aload_n 0, 1) := by decide +kernel
theorem dX1_pathsFrom_17 : decode cX1_pathsFrom 17 = .ok (.getfield 18, 3) := by decide +kernel
theorem dX1_pathsFrom_20 : decode cX1_pathsFrom 20 = .ok (.iload_n 1, 1) := by decide +kernel
theorem dX1_pathsFrom_21 : decode cX1_pathsFrom 21 = .ok (.iconst 1, 1) := by decide +kernel
theorem dX1_pathsFrom_22 : decode cX1_pathsFrom 22 = .ok (.iastore, 1) := by decide +kernel
theorem dX1_pathsFrom_23 : decode cX1_pathsFrom 23 = .ok (.iload_n 1, 1) := by decide +kernel
theorem dX1_pathsFrom_24 : decode cX1_pathsFrom 24 = .ok (.istore_n 3, 1) := by decide +kernel
theorem dX1_pathsFrom_25 : decode cX1_pathsFrom 25 = .ok (.iload_n 3, 1) := by decide +kernel
theorem dX1_pathsFrom_26 : decode cX1_pathsFrom 26 = .ok (.iload_n 2, 1) := by decide +kernel
theorem dX1_pathsFrom_27 : decode cX1_pathsFrom 27 = .ok (.if_icmp .ge 80, 3) := by decide +kernel
theorem dX1_pathsFrom_30 : decode cX1_pathsFrom 30 = .ok (.aload_n 0, 1) := by decide +kernel
theorem dX1_pathsFrom_31 : decode cX1_pathsFrom 31 = .ok (.getfield 18, 3) := by decide +kernel
theorem dX1_pathsFrom_34 : decode cX1_pathsFrom 34 = .ok (.iload_n 3, 1) := by decide +kernel
theorem dX1_pathsFrom_35 : decode cX1_pathsFrom 35 = .ok (.iaload, 1) := by decide +kernel
theorem dX1_pathsFrom_36 : decode cX1_pathsFrom 36 = .ok (.ifCond .ne 6, 3) := by decide +kernel
theorem dX1_pathsFrom_39 : decode cX1_pathsFrom 39 = .ok (.goto 62, 3) := by decide +kernel
theorem dX1_pathsFrom_42 : decode cX1_pathsFrom 42 = .ok (.aload_n 0, 1) := by decide +kernel
theorem dX1_pathsFrom_43 : decode cX1_pathsFrom 43 = .ok (.iload_n 3, 1) := by decide +kernel
theorem dX1_pathsFrom_44 : decode cX1_pathsFrom 44 = .ok (.invokevirtual 85, 3) := by decide +kernel
theorem dX1_pathsFrom_47 : decode cX1_pathsFrom 47 = .ok (.istore 4, 2) := by decide +kernel
theorem dX1_pathsFrom_49 : decode cX1_pathsFrom 49 = .ok (.iconst 0, 1) := by decide +kernel
theorem dX1_pathsFrom_50 : decode cX1_pathsFrom 50 = .ok (.istore 5, 2) := by decide +kernel
theorem dX1_pathsFrom_52 : decode cX1_pathsFrom 52 = .ok (.iload 5, 2) := by decide +kernel
theorem dX1_pathsFrom_54 : decode cX1_pathsFrom 54 = .ok (.aload_n 0, 1) := by decide +kernel
theorem dX1_pathsFrom_55 : decode cX1_pathsFrom 55 = .ok (.getfield 30, 3) := by decide +kernel
theorem dX1_pathsFrom_58 : decode cX1_pathsFrom 58 = .ok (.getfield 72, 3) := by decide +kernel
theorem dX1_pathsFrom_61 : decode cX1_pathsFrom 61 = .ok (.if_icmp .ge 40, 3) := by decide +kernel
theorem dX1_pathsFrom_64 : decode cX1_pathsFrom 64 = .ok (.iload 4, 2) := by decide +kernel
theorem dX1_pathsFrom_66 : decode cX1_pathsFrom 66 = .ok (.iload 5, 2) := by decide +kernel
theorem dX1_pathsFrom_68 : decode cX1_pathsFrom 68 = .ok (.ishr, 1) := by decide +kernel
theorem dX1_pathsFrom_69 : decode cX1_pathsFrom 69 = .ok (.iconst 1, 1) := by decide +kernel
theorem dX1_pathsFrom_70 : decode cX1_pathsFrom 70 = .ok (.iand, 1) := by decide +kernel
theorem dX1_pathsFrom_71 : decode cX1_pathsFrom 71 = .ok (.iconst 1, 1) := by decide +kernel
theorem dX1_pathsFrom_72 : decode cX1_pathsFrom 72 = .ok (.if_icmp .ne 23, 3) := by decide +kernel
theorem dX1_pathsFrom_75 : decode cX1_pathsFrom 75 = .ok (.aload_n 0, 1) := by decide +kernel
theorem dX1_pathsFrom_76 : decode cX1_pathsFrom 76 = .ok (.getfield 18, 3) := by decide +kernel
theorem dX1_pathsFrom_79 : decode cX1_pathsFrom 79 = .ok (.iload_n 3, 1) := by decide +kernel
theorem dX1_pathsFrom_80 : decode cX1_pathsFrom 80 = .ok (.iconst 1, 1) := by decide +kernel
theorem dX1_pathsFrom_81 : decode cX1_pathsFrom 81 = .ok (.iload 5, 2) := by decide +kernel
theorem dX1_pathsFrom_83 : decode cX1_pathsFrom 83 = .ok (.ishl, 1) := by decide +kernel
theorem dX1_pathsFrom_84 : decode cX1_pathsFrom 84 = .ok (.ior, 1) := by decide +kernel
theorem dX1_pathsFrom_85 : decode cX1_pathsFrom 85 = .ok (.dup2, 1) := by decide +kernel
theorem dX1_pathsFrom_86 : decode cX1_pathsFrom 86 = .ok (.iaload, 1) := by decide +kernel
theorem dX1_pathsFrom_87 : decode cX1_pathsFrom 87 = .ok (.aload_n 0, 1) := by decide +kernel
theorem dX1_pathsFrom_88 : decode cX1_pathsFrom 88 = .ok (.getfield 18, 3) := by decide +kernel
theorem dX1_pathsFrom_91 : decode cX1_pathsFrom 91 = .ok (.iload_n 3, 1) := by decide +kernel
theorem dX1_pathsFrom_92 : decode cX1_pathsFrom 92 = .ok (.iaload, 1) := by decide +kernel
theorem dX1_pathsFrom_93 : decode cX1_pathsFrom 93 = .ok (.iadd, 1) := by decide +kernel
theorem dX1_pathsFrom_94 : decode cX1_pathsFrom 94 = .ok (.iastore, 1) := by decide +kernel
theorem dX1_pathsFrom_95 : decode cX1_pathsFrom 95 = .ok (.iinc 5 1, 3) := by decide +kernel
theorem dX1_pathsFrom_98 : decode cX1_pathsFrom 98 = .ok (.goto (-46), 3) := by decide +kernel
theorem dX1_pathsFrom_101 : decode cX1_pathsFrom 101 = .ok (.iinc 3 1, 3) := by decide +kernel
theorem dX1_pathsFrom_104 : decode cX1_pathsFrom 104 = .ok (.goto (-79), 3) := by decide +kernel
theorem dX1_pathsFrom_107 : decode cX1_pathsFrom 107 = .ok (.aload_n 0, 1) := by decide +kernel
theorem dX1_pathsFrom_108 : decode cX1_pathsFrom 108 = .ok (.getfield 18, 3) := by decide +kernel
theorem dX1_pathsFrom_111 : decode cX1_pathsFrom 111 = .ok (.iload_n 2, 1) := by decide +kernel
theorem dX1_pathsFrom_112 : decode cX1_pathsFrom 112 = .ok (.iaload, 1) := by decide +kernel
theorem dX1_pathsFrom_113 : decode cX1_pathsFrom 113 = .ok (.ireturn, 1) := by decide +kernel
set_option maxRecDepth 20000 in
theorem ggX1_plan_X1_pathsFrom : GoodIn wsX1_plan wsX1_pathsFrom := goodIn_r _ [11, 12, 13, 14, 15, 16, 17, 18, 19, 20, 21, 22, 23, 24, 25, 26, 27, 10, 28, 29, 30, 31, 32, 33, 34, 35, 36, 37, 38, 39, 40, 41, 42, 43, 44, 45, 46, 47, 48, 49, 50, 51, 52, 53, 54, 55, 56, 57, 58, 59, 60, 61, 62, 63, 64, 65, 66, 67, 68, 69, 96, 97, 98, 99, 100, 101, 102, 103, 104, 105, 106, 107, 108, 109, 110, 111, 112, 113, 114, 115, 116, 117, 118, 119] (by decide +kernel) (by decide +kernel)
set_option maxRecDepth 20000 in
theorem gX1_plan_X1_pathsFrom : GoodIn wsX1_plan (wsV RX1 89 RX1 yX1_pathsFrom wsX1_pathsFrom) := goodIn_app (goodIn_of _ (by decide +kernel)) ggX1_plan_X1_pathsFrom
set_option maxRecDepth 20000 in
theorem ggX1_plan_J7_fill_53178 : GoodIn wsX1_plan wsJ7_fill_53178 := goodIn_r _ [24] (by decide +kernel) (by decide +kernel)
set_option maxRecDepth 20000 in
theorem gX1_plan_J7_fill_53178 : GoodIn wsX1_plan (va_wsS RX1 38 yJ7_fill_53178 wsJ7_fill_53178) := goodIn_app (goodIn_of _ (by decide +kernel)) ggX1_plan_J7_fill_53178
set_option maxRecDepth 20000 in
theorem ggX1_plan_X1_findFewest : GoodIn wsX1_plan wsX1_findFewest := goodIn_r _ [73, 12, 74, 13, 15, 16, 17, 18, 19, 20, 21, 22, 23, 24, 75, 76, 77, 10, 78, 29, 14, 79, 50, 51, 52, 80, 81, 82, 83, 84, 85, 86, 87, 96, 97, 98, 99, 100, 101, 102, 103, 104, 105, 106, 107, 108, 109, 110, 111, 112, 113, 114, 115] (by decide +kernel) (by decide +kernel)
set_option maxRecDepth 20000 in
theorem gX1_plan_X1_findFewest : GoodIn wsX1_plan (wsV RX1 92 RX1 yX1_findFewest wsX1_findFewest) := goodIn_app (goodIn_of _ (by decide +kernel)) ggX1_plan_X1_findFewest
set_option maxRecDepth 20000 in
theorem ggX1_plan_X1_walk : GoodIn wsX1_plan wsX1_walk := goodIn_r _ [91, 12, 14, 74, 84, 92, 93, 94, 10, 95, 29, 80, 81, 82, 83, 85, 86, 87, 96, 97, 98, 99, 100, 101, 102, 103, 104, 105, 106, 107, 108, 109, 110, 111, 112, 113, 114, 115] (by decide +kernel) (by decide +kernel)
set_option maxRecDepth 20000 in
theorem gX1_plan_X1_walk : GoodIn wsX1_plan (wsV RX1 95 RX1 yX1_walk wsX1_walk) := goodIn_app (goodIn_of _ (by decide +kernel)) ggX1_plan_X1_walk
theorem dX1_plan_0 : decode cX1_plan 0 = .ok (.aload_n 0, 1) := by decide +kernel
theorem dX1_plan_1 : decode cX1_plan 1 = .ok (.getfield 44, 3) := by decide +kernel
theorem dX1_plan_4 : decode cX1_plan 4 = .ok (.ifCond .eq 4, 3) := by decide +kernel
theorem dX1_plan_7 : decode cX1_plan 7 = .ok (.return_, 1) := by decide +kernel
theorem dX1_plan_8 : decode cX1_plan 8 = .ok (.aload_n 0, 1) := by decide +kernel
theorem dX1_plan_9 : decode cX1_plan 9 = .ok (.iconst 1, 1) := by decide +kernel
theorem dX1_plan_10 : decode cX1_plan 10 = .ok (.putfield 44, 3) := by decide +kernel
theorem dX1_plan_13 : decode cX1_plan 13 = .ok (.aload_n 0, 1) := by decide +kernel
theorem dX1_plan_14 : decode cX1_plan 14 = .ok (.aload_n 0, 1) := by decide +kernel
theorem dX1_plan_15 : decode cX1_plan 15 = .ok (.iconst 0, 1) := by decide +kernel
theorem dX1_plan_16 : decode cX1_plan 16 = .ok (.invokevirtual 89, 3) := by decide +kernel
theorem dX1_plan_19 : decode cX1_plan 19 = .ok (.putfield 48, 3) := by decide +kernel
theorem dX1_plan_22 : decode cX1_plan 22 = .ok (.aload_n 0, 1) := by decide +kernel
theorem dX1_plan_23 : decode cX1_plan 23 = .ok (.getfield 48, 3) := by decide +kernel
theorem dX1_plan_26 : decode cX1_plan 26 = .ok (.ifCond .ne 38, 3) := by decide +kernel
theorem dX1_plan_29 : decode cX1_plan 29 = .ok (.aload_n 0, 1) := by decide +kernel
theorem dX1_plan_30 : decode cX1_plan 30 = .ok (.getfield 24, 3) := by decide +kernel
theorem dX1_plan_33 : decode cX1_plan 33 = .ok (.sipush (-1000), 3) := by decide +kernel
theorem dX1_plan_36 : decode cX1_plan 36 = .ok (.invokestatic 38, 3) := by decide +kernel
theorem dX1_plan_39 : decode cX1_plan 39 = .ok (.aload_n 0, 1) := by decide +kernel
theorem dX1_plan_40 : decode cX1_plan 40 = .ok (.getfield 27, 3) := by decide +kernel
theorem dX1_plan_43 : decode cX1_plan 43 = .ok (.sipush (-1000), 3) := by decide +kernel
theorem dX1_plan_46 : decode cX1_plan 46 = .ok (.invokestatic 38, 3) := by decide +kernel
theorem dX1_plan_49 : decode cX1_plan 49 = .ok (.aload_n 0, 1) := by decide +kernel
theorem dX1_plan_50 : decode cX1_plan 50 = .ok (.sipush (-1000), 3) := by decide +kernel
theorem dX1_plan_53 : decode cX1_plan 53 = .ok (.putfield 52, 3) := by decide +kernel
theorem dX1_plan_56 : decode cX1_plan 56 = .ok (.aload_n 0, 1) := by decide +kernel
theorem dX1_plan_57 : decode cX1_plan 57 = .ok (.sipush (-1000), 3) := by decide +kernel
theorem dX1_plan_60 : decode cX1_plan 60 = .ok (.putfield 55, 3) := by decide +kernel
theorem dX1_plan_63 : decode cX1_plan 63 = .ok (.return_, 1) := by decide +kernel
theorem dX1_plan_64 : decode cX1_plan 64 = .ok (.aload_n 0, 1) := by decide +kernel
theorem dX1_plan_65 : decode cX1_plan 65 = .ok (.invokevirtual 92, 3) := by decide +kernel
theorem dX1_plan_68 : decode cX1_plan 68 = .ok (.aload_n 0, 1) := by decide +kernel
theorem dX1_plan_69 : decode cX1_plan 69 = .ok (.aload_n 0, 1) := by decide +kernel
theorem dX1_plan_70 : decode cX1_plan 70 = .ok (.aload_n 0, 1) := by decide +kernel
theorem dX1_plan_71 : decode cX1_plan 71 = .ok (.getfield 24, 3) := by decide +kernel
theorem dX1_plan_74 : decode cX1_plan 74 = .ok (.iconst 0, 1) := by decide +kernel
theorem dX1_plan_75 : decode cX1_plan 75 = .ok (.invokevirtual 95, 3) := by decide +kernel
theorem dX1_plan_78 : decode cX1_plan 78 = .ok (.putfield 52, 3) := by decide +kernel
theorem dX1_plan_81 : decode cX1_plan 81 = .ok (.aload_n 0, 1) := by decide +kernel
theorem dX1_plan_82 : decode cX1_plan 82 = .ok (.aload_n 0, 1) := by decide +kernel
theorem dX1_plan_83 : decode cX1_plan 83 = .ok (.aload_n 0, 1) := by decide +kernel
theorem dX1_plan_84 : decode cX1_plan 84 = .ok (.getfield 27, 3) := by decide +kernel
theorem dX1_plan_87 : decode cX1_plan 87 = .ok (.iconst 1, 1) := by decide +kernel
theorem dX1_plan_88 : decode cX1_plan 88 = .ok (.invokevirtual 95, 3) := by decide +kernel
theorem dX1_plan_91 : decode cX1_plan 91 = .ok (.putfield 55, 3) := by decide +kernel
theorem dX1_plan_94 : decode cX1_plan 94 = .ok (.return_, 1) := by decide +kernel
set_option maxRecDepth 20000 in
theorem ggX1_findFewest_X4_allBends : GoodIn wsX1_findFewest wsX4_allBends := goodIn_r _ [8, 9, 45, 46, 47, 48, 49, 50, 51, 52] (by decide +kernel) (by decide +kernel)
set_option maxRecDepth 20000 in
theorem gX1_findFewest_X4_allBends : GoodIn wsX1_findFewest (wsV RX1 81 RX4 yX4_allBends wsX4_allBends) := goodIn_app (goodIn_of _ (by decide +kernel)) ggX1_findFewest_X4_allBends
set_option maxRecDepth 20000 in
theorem ggX1_findFewest_J7_fill_53178 : GoodIn wsX1_findFewest wsJ7_fill_53178 := goodIn_r _ [13] (by decide +kernel) (by decide +kernel)
set_option maxRecDepth 20000 in
theorem gX1_findFewest_J7_fill_53178 : GoodIn wsX1_findFewest (va_wsS RX1 38 yJ7_fill_53178 wsJ7_fill_53178) := goodIn_app (goodIn_of _ (by decide +kernel)) ggX1_findFewest_J7_fill_53178
set_option maxRecDepth 20000 in
theorem ggX1_findFewest_X1_fewestFrom : GoodIn wsX1_findFewest wsX1_fewestFrom := goodIn_r _ [18, 19, 1, 20, 21, 22, 23, 24, 25, 26, 27, 17, 28, 29, 2, 30, 31, 32, 33, 34, 35, 36, 37, 38, 39, 40, 41, 42, 43, 44, 45, 46, 47, 48, 49, 50, 51, 52] (by decide +kernel) (by decide +kernel)
set_option maxRecDepth 20000 in
theorem gX1_findFewest_X1_fewestFrom : GoodIn wsX1_findFewest (wsV RX1 99 RX1 yX1_fewestFrom wsX1_fewestFrom) := goodIn_app (goodIn_of _ (by decide +kernel)) ggX1_findFewest_X1_fewestFrom
theorem dX1_findFewest_0 : decode cX1_findFewest 0 = .ok (.aload_n 0, 1) := by decide +kernel
theorem dX1_findFewest_1 : decode cX1_findFewest 1 = .ok (.getfield 30, 3) := by decide +kernel
theorem dX1_findFewest_4 : decode cX1_findFewest 4 = .ok (.invokevirtual 81, 3) := by decide +kernel
theorem dX1_findFewest_7 : decode cX1_findFewest 7 = .ok (.istore_n 1, 1) := by decide +kernel
theorem dX1_findFewest_8 : decode cX1_findFewest 8 = .ok (.aload_n 0, 1) := by decide +kernel
theorem dX1_findFewest_9 : decode cX1_findFewest 9 = .ok (.getfield 21, 3) := by decide +kernel
theorem dX1_findFewest_12 : decode cX1_findFewest 12 = .ok (.sipush 1000, 3) := by decide +kernel
theorem dX1_findFewest_15 : decode cX1_findFewest 15 = .ok (.invokestatic 38, 3) := by decide +kernel
theorem dX1_findFewest_18 : decode cX1_findFewest 18 = .ok (.iconst 0, 1) := by decide +kernel
theorem dX1_findFewest_19 : decode cX1_findFewest 19 = .ok (.istore_n 2, 1) := by decide +kernel
theorem dX1_findFewest_20 : decode cX1_findFewest 20 = .ok (.iload_n 2, 1) := by decide +kernel
theorem dX1_findFewest_21 : decode cX1_findFewest 21 = .ok (.iconst 4, 1) := by decide +kernel
theorem dX1_findFewest_22 : decode cX1_findFewest 22 = .ok (.if_icmp .ge 20, 3) := by decide +kernel
theorem dX1_findFewest_25 : decode cX1_findFewest 25 = .ok (.aload_n 0, 1) := by decide +kernel
theorem dX1_findFewest_26 : decode cX1_findFewest 26 = .ok (.getfield 21, 3) := by decide +kernel
theorem dX1_findFewest_29 : decode cX1_findFewest 29 = .ok (.iload_n 1, 1) := by decide +kernel
theorem dX1_findFewest_30 : decode cX1_findFewest 30 = .ok (.iconst 4, 1) := by decide +kernel
theorem dX1_findFewest_31 : decode cX1_findFewest 31 = .ok (.imul, 1) := by decide +kernel
theorem dX1_findFewest_32 : decode cX1_findFewest 32 = .ok (.iload_n 2, 1) := by decide +kernel
theorem dX1_findFewest_33 : decode cX1_findFewest 33 = .ok (.iadd, 1) := by decide +kernel
theorem dX1_findFewest_34 : decode cX1_findFewest 34 = .ok (.iconst 0, 1) := by decide +kernel
theorem dX1_findFewest_35 : decode cX1_findFewest 35 = .ok (.iastore, 1) := by decide +kernel
theorem dX1_findFewest_36 : decode cX1_findFewest 36 = .ok (.iinc 2 1, 3) := by decide +kernel
theorem dX1_findFewest_39 : decode cX1_findFewest 39 = .ok (.goto (-19), 3) := by decide +kernel
theorem dX1_findFewest_42 : decode cX1_findFewest 42 = .ok (.iload_n 1, 1) := by decide +kernel
theorem dX1_findFewest_43 : decode cX1_findFewest 43 = .ok (.iconst 1, 1) := by decide +kernel
theorem dX1_findFewest_44 : decode cX1_findFewest 44 = .ok (.isub, 1) := by decide +kernel
theorem dX1_findFewest_45 : decode cX1_findFewest 45 = .ok (.istore_n 2, 1) := by decide +kernel
theorem dX1_findFewest_46 : decode cX1_findFewest 46 = .ok (.iload_n 2, 1) := by decide +kernel
theorem dX1_findFewest_47 : decode cX1_findFewest 47 = .ok (.ifCond .lt 47, 3) := by decide +kernel
theorem dX1_findFewest_50 : decode cX1_findFewest 50 = .ok (.iconst 0, 1) := by decide +kernel
theorem dX1_findFewest_51 : decode cX1_findFewest 51 = .ok (.istore_n 3, 1) := by decide +kernel
theorem dX1_findFewest_52 : decode cX1_findFewest 52 = .ok (.iload_n 3, 1) := by decide +kernel
theorem dX1_findFewest_53 : decode cX1_findFewest 53 = .ok (.iconst 4, 1) := by decide +kernel
theorem dX1_findFewest_54 : decode cX1_findFewest 54 = .ok (.if_icmp .ge 34, 3) := by decide +kernel
theorem dX1_findFewest_57 : decode cX1_findFewest 57 = .ok (.aload_n 0, 1) := by decide +kernel
theorem dX1_findFewest_58 : decode cX1_findFewest 58 = .ok (.getfield 18, 3) := by decide +kernel
theorem dX1_findFewest_61 : decode cX1_findFewest 61 = .ok (.iload_n 2, 1) := by decide +kernel
theorem dX1_findFewest_62 : decode cX1_findFewest 62 = .ok (.iaload, 1) := by decide +kernel
theorem dX1_findFewest_63 : decode cX1_findFewest 63 = .ok (.ifCond .le 25, 3) := by decide +kernel
theorem dX1_findFewest_66 : decode cX1_findFewest 66 = .ok (.aload_n 0, 1) := by decide +kernel
theorem dX1_findFewest_67 : decode cX1_findFewest 67 = .ok (.getfield 21, 3) := by decide +kernel
theorem dX1_findFewest_70 : decode cX1_findFewest 70 = .ok (.iload_n 2, 1) := by decide +kernel
theorem dX1_findFewest_71 : decode cX1_findFewest 71 = .ok (.iconst 4, 1) := by decide +kernel
theorem dX1_findFewest_72 : decode cX1_findFewest 72 = .ok (.imul, 1) := by decide +kernel
theorem dX1_findFewest_73 : decode cX1_findFewest 73 = .ok (.iload_n 3, 1) := by decide +kernel
theorem dX1_findFewest_74 : decode cX1_findFewest 74 = .ok (.iadd, 1) := by decide +kernel
theorem dX1_findFewest_75 : decode cX1_findFewest 75 = .ok (.aload_n 0, 1) := by decide +kernel
theorem dX1_findFewest_76 : decode cX1_findFewest 76 = .ok (.iload_n 2, 1) := by decide +kernel
theorem dX1_findFewest_77 : decode cX1_findFewest 77 = .ok (.iload_n 3, 1) := by decide +kernel
theorem dX1_findFewest_78 : decode cX1_findFewest 78 = .ok (.invokevirtual 99, 3) := by decide +kernel
theorem dX1_findFewest_81 : decode cX1_findFewest 81 = .ok (.iastore, 1) := by decide +kernel
theorem dX1_findFewest_82 : decode cX1_findFewest 82 = .ok (.iinc 3 1, 3) := by decide +kernel
theorem dX1_findFewest_85 : decode cX1_findFewest 85 = .ok (.goto (-33), 3) := by decide +kernel
theorem dX1_findFewest_88 : decode cX1_findFewest 88 = .ok (.iinc 2 (-1), 3) := by decide +kernel
theorem dX1_findFewest_91 : decode cX1_findFewest 91 = .ok (.goto (-45), 3) := by decide +kernel
theorem dX1_findFewest_94 : decode cX1_findFewest 94 = .ok (.return_, 1) := by decide +kernel
set_option maxRecDepth 20000 in
theorem ggX1_fewestFrom_X1_changesBy : GoodIn wsX1_fewestFrom wsX1_changesBy := goodIn_r _ [12, 2, 13, 14, 15, 16, 11, 17, 18, 19, 20, 21, 22, 23, 24, 25, 26, 27, 28, 29, 30, 31, 32, 33, 34, 35, 36, 37] (by decide +kernel) (by decide +kernel)
set_option maxRecDepth 20000 in
theorem gX1_fewestFrom_X1_changesBy : GoodIn wsX1_fewestFrom (wsV RX1 103 RX1 yX1_changesBy wsX1_changesBy) := goodIn_app (goodIn_of _ (by decide +kernel)) ggX1_fewestFrom_X1_changesBy
theorem dX1_fewestFrom_0 : decode cX1_fewestFrom 0 = .ok (.aload_n 0, 1) := by decide +kernel
theorem dX1_fewestFrom_1 : decode cX1_fewestFrom 1 = .ok (.getfield 9, 3) := by decide +kernel
theorem dX1_fewestFrom_4 : decode cX1_fewestFrom 4 = .ok (.iload_n 1, 1) := by decide +kernel
theorem dX1_fewestFrom_5 : decode cX1_fewestFrom 5 = .ok (.iaload, 1) := by decide +kernel
theorem dX1_fewestFrom_6 : decode cX1_fewestFrom 6 = .ok (.istore_n 3, 1) := by decide +kernel
theorem dX1_fewestFrom_7 : decode cX1_fewestFrom 7 = .ok (.sipush 1000, 3) := by decide +kernel
theorem dX1_fewestFrom_10 : decode cX1_fewestFrom 10 = .ok (.istore 4, 2) := by decide +kernel
theorem dX1_fewestFrom_12 : decode cX1_fewestFrom 12 = .ok (.iconst 0, 1) := by decide +kernel
theorem dX1_fewestFrom_13 : decode cX1_fewestFrom 13 = .ok (.istore 5, 2) := by decide +kernel
theorem dX1_fewestFrom_15 : decode cX1_fewestFrom 15 = .ok (.iload 5, 2) := by decide +kernel
theorem dX1_fewestFrom_17 : decode cX1_fewestFrom 17 = .ok (.aload_n 0, 1) := by decide +kernel
theorem dX1_fewestFrom_18 : decode cX1_fewestFrom 18 = .ok (.getfield 30, 3) := by decide +kernel
theorem dX1_fewestFrom_21 : decode cX1_fewestFrom 21 = .ok (.getfield 72, 3) := by decide +kernel
theorem dX1_fewestFrom_24 : decode cX1_fewestFrom 24 = .ok (.if_icmp .ge 34, 3) := by decide +kernel
theorem dX1_fewestFrom_27 : decode cX1_fewestFrom 27 = .ok (.iload_n 3, 1) := by decide +kernel
theorem dX1_fewestFrom_28 : decode cX1_fewestFrom 28 = .ok (.iload 5, 2) := by decide +kernel
theorem dX1_fewestFrom_30 : decode cX1_fewestFrom 30 = .ok (.ishr, 1) := by decide +kernel
theorem dX1_fewestFrom_31 : decode cX1_fewestFrom 31 = .ok (.iconst 1, 1) := by decide +kernel
theorem dX1_fewestFrom_32 : decode cX1_fewestFrom 32 = .ok (.iand, 1) := by decide +kernel
theorem dX1_fewestFrom_33 : decode cX1_fewestFrom 33 = .ok (.iconst 1, 1) := by decide +kernel
theorem dX1_fewestFrom_34 : decode cX1_fewestFrom 34 = .ok (.if_icmp .ne 18, 3) := by decide +kernel
theorem dX1_fewestFrom_37 : decode cX1_fewestFrom 37 = .ok (.iload 4, 2) := by decide +kernel
theorem dX1_fewestFrom_39 : decode cX1_fewestFrom 39 = .ok (.aload_n 0, 1) := by decide +kernel
theorem dX1_fewestFrom_40 : decode cX1_fewestFrom 40 = .ok (.iload_n 1, 1) := by decide +kernel
theorem dX1_fewestFrom_41 : decode cX1_fewestFrom 41 = .ok (.iload_n 2, 1) := by decide +kernel
theorem dX1_fewestFrom_42 : decode cX1_fewestFrom 42 = .ok (.iload 5, 2) := by decide +kernel
theorem dX1_fewestFrom_44 : decode cX1_fewestFrom 44 = .ok (.invokevirtual 103, 3) := by decide +kernel
theorem dX1_fewestFrom_47 : decode cX1_fewestFrom 47 = .ok (.invokestatic 107, 3) := by decide +kernel
theorem dX1_fewestFrom_50 : decode cX1_fewestFrom 50 = .ok (.istore 4, 2) := by decide +kernel
theorem dX1_fewestFrom_52 : decode cX1_fewestFrom 52 = .ok (.iinc 5 1, 3) := by decide +kernel
theorem dX1_fewestFrom_55 : decode cX1_fewestFrom 55 = .ok (.goto (-40), 3) := by decide +kernel
theorem dX1_fewestFrom_58 : decode cX1_fewestFrom 58 = .ok (.iload 4, 2) := by decide +kernel
theorem dX1_fewestFrom_60 : decode cX1_fewestFrom 60 = .ok (.ireturn, 1) := by decide +kernel
set_option maxRecDepth 20000 in
theorem ggX1_changesBy_X1_changeTo : GoodIn wsX1_changesBy wsX1_changeTo := goodIn_r _ [7] (by decide +kernel) (by decide +kernel)
set_option maxRecDepth 20000 in
theorem gX1_changesBy_X1_changeTo : GoodIn wsX1_changesBy (va_wsS RX1 115 yX1_changeTo wsX1_changeTo) := goodIn_app (goodIn_of _ (by decide +kernel)) ggX1_changesBy_X1_changeTo
theorem dX1_changesBy_0 : decode cX1_changesBy 0 = .ok (.aload_n 0, 1) := by decide +kernel
theorem dX1_changesBy_1 : decode cX1_changesBy 1 = .ok (.getfield 30, 3) := by decide +kernel
theorem dX1_changesBy_4 : decode cX1_changesBy 4 = .ok (.getfield 112, 3) := by decide +kernel
theorem dX1_changesBy_7 : decode cX1_changesBy 7 = .ok (.iload_n 3, 1) := by decide +kernel
theorem dX1_changesBy_8 : decode cX1_changesBy 8 = .ok (.iaload, 1) := by decide +kernel
theorem dX1_changesBy_9 : decode cX1_changesBy 9 = .ok (.istore 4, 2) := by decide +kernel
theorem dX1_changesBy_11 : decode cX1_changesBy 11 = .ok (.iload_n 2, 1) := by decide +kernel
theorem dX1_changesBy_12 : decode cX1_changesBy 12 = .ok (.iload 4, 2) := by decide +kernel
theorem dX1_changesBy_14 : decode cX1_changesBy 14 = .ok (.invokestatic 115, 3) := by decide +kernel
theorem dX1_changesBy_17 : decode cX1_changesBy 17 = .ok (.aload_n 0, 1) := by decide +kernel
theorem dX1_changesBy_18 : decode cX1_changesBy 18 = .ok (.getfield 21, 3) := by decide +kernel
theorem dX1_changesBy_21 : decode cX1_changesBy 21 = .ok (.iload_n 1, 1) := by decide +kernel
theorem dX1_changesBy_22 : decode cX1_changesBy 22 = .ok (.iconst 1, 1) := by decide +kernel
theorem dX1_changesBy_23 : decode cX1_changesBy 23 = .ok (.iload_n 3, 1) := by decide +kernel
theorem dX1_changesBy_24 : decode cX1_changesBy 24 = .ok (.ishl, 1) := by decide +kernel
theorem dX1_changesBy_25 : decode cX1_changesBy 25 = .ok (.ior, 1) := by decide +kernel
theorem dX1_changesBy_26 : decode cX1_changesBy 26 = .ok (.iconst 4, 1) := by decide +kernel
theorem dX1_changesBy_27 : decode cX1_changesBy 27 = .ok (.imul, 1) := by decide +kernel
theorem dX1_changesBy_28 : decode cX1_changesBy 28 = .ok (.iload 4, 2) := by decide +kernel
theorem dX1_changesBy_30 : decode cX1_changesBy 30 = .ok (.iadd, 1) := by decide +kernel
theorem dX1_changesBy_31 : decode cX1_changesBy 31 = .ok (.iaload, 1) := by decide +kernel
theorem dX1_changesBy_32 : decode cX1_changesBy 32 = .ok (.iadd, 1) := by decide +kernel
theorem dX1_changesBy_33 : decode cX1_changesBy 33 = .ok (.ireturn, 1) := by decide +kernel
theorem dX1_changeTo_0 : decode cX1_changeTo 0 = .ok (.iload_n 0, 1) := by decide +kernel
theorem dX1_changeTo_1 : decode cX1_changeTo 1 = .ok (.iconst 3, 1) := by decide +kernel
theorem dX1_changeTo_2 : decode cX1_changeTo 2 = .ok (.if_icmp .eq 8, 3) := by decide +kernel
theorem dX1_changeTo_5 : decode cX1_changeTo 5 = .ok (.iload_n 0, 1) := by decide +kernel
theorem dX1_changeTo_6 : decode cX1_changeTo 6 = .ok (.iload_n 1, 1) := by decide +kernel
theorem dX1_changeTo_7 : decode cX1_changeTo 7 = .ok (.if_icmp .ne 7, 3) := by decide +kernel
theorem dX1_changeTo_10 : decode cX1_changeTo 10 = .ok (.iconst 0, 1) := by decide +kernel
theorem dX1_changeTo_11 : decode cX1_changeTo 11 = .ok (.goto 4, 3) := by decide +kernel
theorem dX1_changeTo_14 : decode cX1_changeTo 14 = .ok (.iconst 1, 1) := by decide +kernel
theorem dX1_changeTo_15 : decode cX1_changeTo 15 = .ok (.ireturn, 1) := by decide +kernel
set_option maxRecDepth 20000 in
theorem ggX1_walk_X1_leastWithin : GoodIn wsX1_walk wsX1_leastWithin := goodIn_r _ [9, 10, 1, 2, 11, 12, 13, 8, 14, 4, 3, 15, 16, 17, 18, 19, 20, 21, 22, 23, 24, 25, 26, 27, 28, 29, 30, 31, 32, 33, 34, 35, 36, 37] (by decide +kernel) (by decide +kernel)
set_option maxRecDepth 20000 in
theorem gX1_walk_X1_leastWithin : GoodIn wsX1_walk (wsV RX1 118 RX1 yX1_leastWithin wsX1_leastWithin) := goodIn_app (goodIn_of _ (by decide +kernel)) ggX1_walk_X1_leastWithin
set_option maxRecDepth 20000 in
theorem ggX1_walk_X1_changeTo : GoodIn wsX1_walk wsX1_changeTo := goodIn_r _ [17] (by decide +kernel) (by decide +kernel)
set_option maxRecDepth 20000 in
theorem gX1_walk_X1_changeTo : GoodIn wsX1_walk (va_wsS RX1 115 yX1_changeTo wsX1_changeTo) := goodIn_app (goodIn_of _ (by decide +kernel)) ggX1_walk_X1_changeTo
theorem dX1_walk_0 : decode cX1_walk 0 = .ok (.iconst 0, 1) := by decide +kernel
theorem dX1_walk_1 : decode cX1_walk 1 = .ok (.istore_n 3, 1) := by decide +kernel
theorem dX1_walk_2 : decode cX1_walk 2 = .ok (.iconst 3, 1) := by decide +kernel
theorem dX1_walk_3 : decode cX1_walk 3 = .ok (.istore 4, 2) := by decide +kernel
theorem dX1_walk_5 : decode cX1_walk 5 = .ok (.iconst 0, 1) := by decide +kernel
theorem dX1_walk_6 : decode cX1_walk 6 = .ok (.istore 5, 2) := by decide +kernel
theorem dX1_walk_8 : decode cX1_walk 8 = .ok (.iconst 0, 1) := by decide +kernel
theorem dX1_walk_9 : decode cX1_walk 9 = .ok (.istore 6, 2) := by decide +kernel
theorem dX1_walk_11 : decode cX1_walk 11 = .ok (.iload 6, 2) := by decide +kernel
theorem dX1_walk_13 : decode cX1_walk 13 = .ok (.aload_n 0, 1) := by decide +kernel
theorem dX1_walk_14 : decode cX1_walk 14 = .ok (.getfield 30, 3) := by decide +kernel
theorem dX1_walk_17 : decode cX1_walk 17 = .ok (.getfield 72, 3) := by decide +kernel
theorem dX1_walk_20 : decode cX1_walk 20 = .ok (.if_icmp .ge 88, 3) := by decide +kernel
theorem dX1_walk_23 : decode cX1_walk 23 = .ok (.iload_n 2, 1) := by decide +kernel
theorem dX1_walk_24 : decode cX1_walk 24 = .ok (.ifCond .eq 17, 3) := by decide +kernel
theorem dX1_walk_27 : decode cX1_walk 27 = .ok (.aload_n 0, 1) := by decide +kernel
theorem dX1_walk_28 : decode cX1_walk 28 = .ok (.getfield 21, 3) := by decide +kernel
theorem dX1_walk_31 : decode cX1_walk 31 = .ok (.iload_n 3, 1) := by decide +kernel
theorem dX1_walk_32 : decode cX1_walk 32 = .ok (.iconst 4, 1) := by decide +kernel
theorem dX1_walk_33 : decode cX1_walk 33 = .ok (.imul, 1) := by decide +kernel
theorem dX1_walk_34 : decode cX1_walk 34 = .ok (.iload 4, 2) := by decide +kernel
theorem dX1_walk_36 : decode cX1_walk 36 = .ok (.iadd, 1) := by decide +kernel
theorem dX1_walk_37 : decode cX1_walk 37 = .ok (.iaload, 1) := by decide +kernel
theorem dX1_walk_38 : decode cX1_walk 38 = .ok (.goto 6, 3) := by decide +kernel
theorem dX1_walk_41 : decode cX1_walk 41 = .ok (.sipush 999, 3) := by decide +kernel
theorem dX1_walk_44 : decode cX1_walk 44 = .ok (.istore 7, 2) := by decide +kernel
theorem dX1_walk_46 : decode cX1_walk 46 = .ok (.aload_n 0, 1) := by decide +kernel
theorem dX1_walk_47 : decode cX1_walk 47 = .ok (.iload_n 3, 1) := by decide +kernel
theorem dX1_walk_48 : decode cX1_walk 48 = .ok (.iload 4, 2) := by decide +kernel
theorem dX1_walk_50 : decode cX1_walk 50 = .ok (.iload 7, 2) := by decide +kernel
theorem dX1_walk_52 : decode cX1_walk 52 = .ok (.invokevirtual 118, 3) := by decide +kernel
theorem dX1_walk_55 : decode cX1_walk 55 = .ok (.istore 8, 2) := by decide +kernel
theorem dX1_walk_57 : decode cX1_walk 57 = .ok (.iload 5, 2) := by decide +kernel
theorem dX1_walk_59 : decode cX1_walk 59 = .ok (.iload 4, 2) := by decide +kernel
theorem dX1_walk_61 : decode cX1_walk 61 = .ok (.aload_n 0, 1) := by decide +kernel
theorem dX1_walk_62 : decode cX1_walk 62 = .ok (.getfield 30, 3) := by decide +kernel
theorem dX1_walk_65 : decode cX1_walk 65 = .ok (.getfield 112, 3) := by decide +kernel
theorem dX1_walk_68 : decode cX1_walk 68 = .ok (.iload 8, 2) := by decide +kernel
theorem dX1_walk_70 : decode cX1_walk 70 = .ok (.iaload, 1) := by decide +kernel
theorem dX1_walk_71 : decode cX1_walk 71 = .ok (.invokestatic 115, 3) := by decide +kernel
theorem dX1_walk_74 : decode cX1_walk 74 = .ok (.iadd, 1) := by decide +kernel
theorem dX1_walk_75 : decode cX1_walk 75 = .ok (.istore 5, 2) := by decide +kernel
theorem dX1_walk_77 : decode cX1_walk 77 = .ok (.aload_n 0, 1) := by decide +kernel
theorem dX1_walk_78 : decode cX1_walk 78 = .ok (.getfield 30, 3) := by decide +kernel
theorem dX1_walk_81 : decode cX1_walk 81 = .ok (.getfield 112, 3) := by decide +kernel
theorem dX1_walk_84 : decode cX1_walk 84 = .ok (.iload 8, 2) := by decide +kernel
theorem dX1_walk_86 : decode cX1_walk 86 = .ok (.iaload, 1) := by decide +kernel
theorem dX1_walk_87 : decode cX1_walk 87 = .ok (.istore 4, 2) := by decide +kernel
theorem dX1_walk_89 : decode cX1_walk 89 = .ok (.iload_n 3, 1) := by decide +kernel
theorem dX1_walk_90 : decode cX1_walk 90 = .ok (.iconst 1, 1) := by decide +kernel
theorem dX1_walk_91 : decode cX1_walk 91 = .ok (.iload 8, 2) := by decide +kernel
theorem dX1_walk_93 : decode cX1_walk 93 = .ok (.ishl, 1) := by decide +kernel
theorem dX1_walk_94 : decode cX1_walk 94 = .ok (.ior, 1) := by decide +kernel
theorem dX1_walk_95 : decode cX1_walk 95 = .ok (.istore_n 3, 1) := by decide +kernel
theorem dX1_walk_96 : decode cX1_walk 96 = .ok (.aload_n 1, 1) := by decide +kernel
theorem dX1_walk_97 : decode cX1_walk 97 = .ok (.iload 6, 2) := by decide +kernel
theorem dX1_walk_99 : decode cX1_walk 99 = .ok (.iload 8, 2) := by decide +kernel
theorem dX1_walk_101 : decode cX1_walk 101 = .ok (.iastore, 1) := by decide +kernel
theorem dX1_walk_102 : decode cX1_walk 102 = .ok (.iinc 6 1, 3) := by decide +kernel
theorem dX1_walk_105 : decode cX1_walk 105 = .ok (.goto (-94), 3) := by decide +kernel
theorem dX1_walk_108 : decode cX1_walk 108 = .ok (.iload 5, 2) := by decide +kernel
theorem dX1_walk_110 : decode cX1_walk 110 = .ok (.ireturn, 1) := by decide +kernel
set_option maxRecDepth 20000 in
theorem ggX1_leastWithin_X1_changesBy : GoodIn wsX1_leastWithin wsX1_changesBy := goodIn_r _ [8, 2, 9, 10, 11, 12, 7, 13, 14, 15, 16, 17, 18, 19, 20, 21, 22, 23, 24, 25, 26, 27, 28, 29, 30, 31, 32, 33] (by decide +kernel) (by decide +kernel)
set_option maxRecDepth 20000 in
theorem gX1_leastWithin_X1_changesBy : GoodIn wsX1_leastWithin (wsV RX1 103 RX1 yX1_changesBy wsX1_changesBy) := goodIn_app (goodIn_of _ (by decide +kernel)) ggX1_leastWithin_X1_changesBy
theorem dX1_leastWithin_0 : decode cX1_leastWithin 0 = .ok (.aload_n 0, 1) := by decide +kernel
theorem dX1_leastWithin_1 : decode cX1_leastWithin 1 = .ok (.getfield 9, 3) := by decide +kernel
theorem dX1_leastWithin_4 : decode cX1_leastWithin 4 = .ok (.iload_n 1, 1) := by decide +kernel
theorem dX1_leastWithin_5 : decode cX1_leastWithin 5 = .ok (.iaload, 1) := by decide +kernel
theorem dX1_leastWithin_6 : decode cX1_leastWithin 6 = .ok (.istore 4, 2) := by decide +kernel
theorem dX1_leastWithin_8 : decode cX1_leastWithin 8 = .ok (.iconst 0, 1) := by decide +kernel
theorem dX1_leastWithin_9 : decode cX1_leastWithin 9 = .ok (.istore 5, 2) := by decide +kernel
theorem dX1_leastWithin_11 : decode cX1_leastWithin 11 = .ok (.iload 5, 2) := by decide +kernel
theorem dX1_leastWithin_13 : decode cX1_leastWithin 13 = .ok (.aload_n 0, 1) := by decide +kernel
theorem dX1_leastWithin_14 : decode cX1_leastWithin 14 = .ok (.getfield 30, 3) := by decide +kernel
theorem dX1_leastWithin_17 : decode cX1_leastWithin 17 = .ok (.getfield 72, 3) := by decide +kernel
theorem dX1_leastWithin_20 : decode cX1_leastWithin 20 = .ok (.if_icmp .ge 35, 3) := by decide +kernel
theorem dX1_leastWithin_23 : decode cX1_leastWithin 23 = .ok (.iload 4, 2) := by decide +kernel
theorem dX1_leastWithin_25 : decode cX1_leastWithin 25 = .ok (.iload 5, 2) := by decide +kernel
theorem dX1_leastWithin_27 : decode cX1_leastWithin 27 = .ok (.ishr, 1) := by decide +kernel
theorem dX1_leastWithin_28 : decode cX1_leastWithin 28 = .ok (.iconst 1, 1) := by decide +kernel
theorem dX1_leastWithin_29 : decode cX1_leastWithin 29 = .ok (.iand, 1) := by decide +kernel
theorem dX1_leastWithin_30 : decode cX1_leastWithin 30 = .ok (.iconst 1, 1) := by decide +kernel
theorem dX1_leastWithin_31 : decode cX1_leastWithin 31 = .ok (.if_icmp .ne 18, 3) := by decide +kernel
theorem dX1_leastWithin_34 : decode cX1_leastWithin 34 = .ok (.aload_n 0, 1) := by decide +kernel
theorem dX1_leastWithin_35 : decode cX1_leastWithin 35 = .ok (.iload_n 1, 1) := by decide +kernel
theorem dX1_leastWithin_36 : decode cX1_leastWithin 36 = .ok (.iload_n 2, 1) := by decide +kernel
theorem dX1_leastWithin_37 : decode cX1_leastWithin 37 = .ok (.iload 5, 2) := by decide +kernel
theorem dX1_leastWithin_39 : decode cX1_leastWithin 39 = .ok (.invokevirtual 103, 3) := by decide +kernel
theorem dX1_leastWithin_42 : decode cX1_leastWithin 42 = .ok (.iload_n 3, 1) := by decide +kernel
theorem dX1_leastWithin_43 : decode cX1_leastWithin 43 = .ok (.if_icmp .gt 6, 3) := by decide +kernel
theorem dX1_leastWithin_46 : decode cX1_leastWithin 46 = .ok (.iload 5, 2) := by decide +kernel
theorem dX1_leastWithin_48 : decode cX1_leastWithin 48 = .ok (.ireturn, 1) := by decide +kernel
theorem dX1_leastWithin_49 : decode cX1_leastWithin 49 = .ok (.iinc 5 1, 3) := by decide +kernel
theorem dX1_leastWithin_52 : decode cX1_leastWithin 52 = .ok (.goto (-41), 3) := by decide +kernel
theorem dX1_leastWithin_55 : decode cX1_leastWithin 55 = .ok (.iconst 0, 1) := by decide +kernel
theorem dX1_leastWithin_56 : decode cX1_leastWithin 56 = .ok (.ireturn, 1) := by decide +kernel
theorem dX2_init_0 : decode cX2_init 0 = .ok (.aload_n 0, 1) := by decide +kernel
theorem dX2_init_1 : decode cX2_init 1 = .ok (.invokespecial 3, 3) := by decide +kernel
theorem dX2_init_4 : decode cX2_init 4 = .ok (.aload_n 0, 1) := by decide +kernel
theorem dX2_init_5 : decode cX2_init 5 = .ok (.bipush 120, 2) := by decide +kernel
theorem dX2_init_7 : decode cX2_init 7 = .ok (.newarray .int, 2) := by decide +kernel
theorem dX2_init_9 : decode cX2_init 9 = .ok (.putfield 9, 3) := by decide +kernel
theorem dX2_init_12 : decode cX2_init 12 = .ok (.aload_n 0, 1) := by decide +kernel
theorem dX2_init_13 : decode cX2_init 13 = .ok (.bipush 60, 2) := by decide +kernel
theorem dX2_init_15 : decode cX2_init 15 = .ok (.newarray .int, 2) := by decide +kernel
theorem dX2_init_17 : decode cX2_init 17 = .ok (.putfield 15, 3) := by decide +kernel
theorem dX2_init_20 : decode cX2_init 20 = .ok (.aload_n 0, 1) := by decide +kernel
theorem dX2_init_21 : decode cX2_init 21 = .ok (.sipush 180, 3) := by decide +kernel
theorem dX2_init_24 : decode cX2_init 24 = .ok (.newarray .int, 2) := by decide +kernel
theorem dX2_init_26 : decode cX2_init 26 = .ok (.putfield 18, 3) := by decide +kernel
theorem dX2_init_29 : decode cX2_init 29 = .ok (.aload_n 0, 1) := by decide +kernel
theorem dX2_init_30 : decode cX2_init 30 = .ok (.iconst 0, 1) := by decide +kernel
theorem dX2_init_31 : decode cX2_init 31 = .ok (.putfield 21, 3) := by decide +kernel
theorem dX2_init_34 : decode cX2_init 34 = .ok (.aload_n 0, 1) := by decide +kernel
theorem dX2_init_35 : decode cX2_init 35 = .ok (.iconst 0, 1) := by decide +kernel
theorem dX2_init_36 : decode cX2_init 36 = .ok (.putfield 25, 3) := by decide +kernel
theorem dX2_init_39 : decode cX2_init 39 = .ok (.aload_n 0, 1) := by decide +kernel
theorem dX2_init_40 : decode cX2_init 40 = .ok (.iconst 0, 1) := by decide +kernel
theorem dX2_init_41 : decode cX2_init 41 = .ok (.putfield 28, 3) := by decide +kernel
theorem dX2_init_44 : decode cX2_init 44 = .ok (.return_, 1) := by decide +kernel
theorem dX2_append_0 : decode cX2_append 0 = .ok (.aload_n 0, 1) := by decide +kernel
theorem dX2_append_1 : decode cX2_append 1 = .ok (.getfield 9, 3) := by decide +kernel
theorem dX2_append_4 : decode cX2_append 4 = .ok (.aload_n 0, 1) := by decide +kernel
theorem dX2_append_5 : decode cX2_append 5 = .ok (.getfield 21, 3) := by decide +kernel
theorem dX2_append_8 : decode cX2_append 8 = .ok (.iload_n 1, 1) := by decide +kernel
theorem dX2_append_9 : decode cX2_append 9 = .ok (.iastore, 1) := by decide +kernel
theorem dX2_append_10 : decode cX2_append 10 = .ok (.aload_n 0, 1) := by decide +kernel
theorem dX2_append_11 : decode cX2_append 11 = .ok (.dup, 1) := by decide +kernel
theorem dX2_append_12 : decode cX2_append 12 = .ok (.getfield 21, 3) := by decide +kernel
theorem dX2_append_15 : decode cX2_append 15 = .ok (.iconst 1, 1) := by decide +kernel
theorem dX2_append_16 : decode cX2_append 16 = .ok (.iadd, 1) := by decide +kernel
theorem dX2_append_17 : decode cX2_append 17 = .ok (.putfield 21, 3) := by decide +kernel
theorem dX2_append_20 : decode cX2_append 20 = .ok (.return_, 1) := by decide +kernel
theorem dX2_numberOf_0 : decode cX2_numberOf 0 = .ok (.aload_n 0, 1) := by decide +kernel
theorem dX2_numberOf_1 : decode cX2_numberOf 1 = .ok (.getfield 18, 3) := by decide +kernel
theorem dX2_numberOf_4 : decode cX2_numberOf 4 = .ok (.iload_n 1, 1) := by decide +kernel
theorem dX2_numberOf_5 : decode cX2_numberOf 5 = .ok (.iconst 3, 1) := by decide +kernel
theorem dX2_numberOf_6 : decode cX2_numberOf 6 = .ok (.imul, 1) := by decide +kernel
theorem dX2_numberOf_7 : decode cX2_numberOf 7 = .ok (.iload_n 2, 1) := by decide +kernel
theorem dX2_numberOf_8 : decode cX2_numberOf 8 = .ok (.iadd, 1) := by decide +kernel
theorem dX2_numberOf_9 : decode cX2_numberOf 9 = .ok (.iaload, 1) := by decide +kernel
theorem dX2_numberOf_10 : decode cX2_numberOf 10 = .ok (.ireturn, 1) := by decide +kernel
set_option maxRecDepth 20000 in
theorem ggX2_read_X2_skipBlanks : GoodIn wsX2_read wsX2_skipBlanks := goodIn_r _ [8, 1, 3, 9, 27, 28, 29, 30, 31, 32] (by decide +kernel) (by decide +kernel)
set_option maxRecDepth 20000 in
theorem gX2_read_X2_skipBlanks : GoodIn wsX2_read (wsV RX2 31 RX2 yX2_skipBlanks wsX2_skipBlanks) := goodIn_app (goodIn_of _ (by decide +kernel)) ggX2_read_X2_skipBlanks
set_option maxRecDepth 20000 in
theorem ggX2_read_X2_readOrder : GoodIn wsX2_read wsX2_readOrder := goodIn_r _ [13, 9, 1, 14, 2, 3, 15, 16, 7, 17, 18, 19, 20, 21, 22, 4, 5, 6, 8, 23, 24, 25, 26, 27, 28, 29, 30, 31, 32] (by decide +kernel) (by decide +kernel)
set_option maxRecDepth 20000 in
theorem gX2_read_X2_readOrder : GoodIn wsX2_read (wsV RX2 34 RX2 yX2_readOrder wsX2_readOrder) := goodIn_app (goodIn_of _ (by decide +kernel)) ggX2_read_X2_readOrder
theorem dX2_read_0 : decode cX2_read 0 = .ok (.aload_n 0, 1) := by decide +kernel
theorem dX2_read_1 : decode cX2_read 1 = .ok (.iconst 0, 1) := by decide +kernel
theorem dX2_read_2 : decode cX2_read 2 = .ok (.putfield 28, 3) := by decide +kernel
theorem dX2_read_5 : decode cX2_read 5 = .ok (.aload_n 0, 1) := by decide +kernel
theorem dX2_read_6 : decode cX2_read 6 = .ok (.iconst 0, 1) := by decide +kernel
theorem dX2_read_7 : decode cX2_read 7 = .ok (.putfield 25, 3) := by decide +kernel
theorem dX2_read_10 : decode cX2_read 10 = .ok (.aload_n 0, 1) := by decide +kernel
theorem dX2_read_11 : decode cX2_read 11 = .ok (.invokevirtual 31, 3) := by decide +kernel
theorem dX2_read_14 : decode cX2_read 14 = .ok (.aload_n 0, 1) := by decide +kernel
theorem dX2_read_15 : decode cX2_read 15 = .ok (.getfield 28, 3) := by decide +kernel
theorem dX2_read_18 : decode cX2_read 18 = .ok (.aload_n 0, 1) := by decide +kernel
theorem dX2_read_19 : decode cX2_read 19 = .ok (.getfield 21, 3) := by decide +kernel
theorem dX2_read_22 : decode cX2_read 22 = .ok (.if_icmp .lt 8, 3) := by decide +kernel
theorem dX2_read_25 : decode cX2_read 25 = .ok (.aload_n 0, 1) := by decide +kernel
theorem dX2_read_26 : decode cX2_read 26 = .ok (.getfield 21, 3) := by decide +kernel
theorem dX2_read_29 : decode cX2_read 29 = .ok (.ireturn, 1) := by decide +kernel
theorem dX2_read_30 : decode cX2_read 30 = .ok (.aload_n 0, 1) := by decide +kernel
theorem dX2_read_31 : decode cX2_read 31 = .ok (.getfield 28, 3) := by decide +kernel
theorem dX2_read_34 : decode cX2_read 34 = .ok (.aload_n 0, 1) := by decide +kernel
theorem dX2_read_35 : decode cX2_read 35 = .ok (.getfield 21, 3) := by decide +kernel
theorem dX2_read_38 : decode cX2_read 38 = .ok (.if_icmp .ge 41, 3) := by decide +kernel
theorem dX2_read_41 : decode cX2_read 41 = .ok (.aload_n 0, 1) := by decide +kernel
theorem dX2_read_42 : decode cX2_read 42 = .ok (.getfield 25, 3) := by decide +kernel
theorem dX2_read_45 : decode cX2_read 45 = .ok (.bipush 60, 2) := by decide +kernel
theorem dX2_read_47 : decode cX2_read 47 = .ok (.if_icmp .ge 32, 3) := by decide +kernel
theorem dX2_read_50 : decode cX2_read 50 = .ok (.aload_n 0, 1) := by decide +kernel
theorem dX2_read_51 : decode cX2_read 51 = .ok (.invokevirtual 34, 3) := by decide +kernel
theorem dX2_read_54 : decode cX2_read 54 = .ok (.ifCond .ne 8, 3) := by decide +kernel
theorem dX2_read_57 : decode cX2_read 57 = .ok (.aload_n 0, 1) := by decide +kernel
theorem dX2_read_58 : decode cX2_read 58 = .ok (.getfield 28, 3) := by decide +kernel
theorem dX2_read_61 : decode cX2_read 61 = .ok (.ireturn, 1) := by decide +kernel
theorem dX2_read_62 : decode cX2_read 62 = .ok (.aload_n 0, 1) := by decide +kernel
theorem dX2_read_63 : decode cX2_read 63 = .ok (.dup, 1) := by decide +kernel
theorem dX2_read_64 : decode cX2_read 64 = .ok (.getfield 25, 3) := by decide +kernel
theorem dX2_read_67 : decode cX2_read 67 = .ok (.iconst 1, 1) := by decide +kernel
theorem dX2_read_68 : decode cX2_read 68 = .ok (.iadd, 1) := by decide +kernel
theorem dX2_read_69 : decode cX2_read 69 = .ok (.putfield 25, 3) := by decide +kernel
theorem dX2_read_72 : decode cX2_read 72 = .ok (.aload_n 0, 1) := by decide +kernel
theorem dX2_read_73 : decode cX2_read 73 = .ok (.invokevirtual 31, 3) := by decide +kernel
theorem dX2_read_76 : decode cX2_read 76 = .ok (.goto (-46), 3) := by decide +kernel
theorem dX2_read_79 : decode cX2_read 79 = .ok (.iconst (-1), 1) := by decide +kernel
theorem dX2_read_80 : decode cX2_read 80 = .ok (.ireturn, 1) := by decide +kernel
set_option maxRecDepth 20000 in
theorem ggX2_readOrder_X2_numbersBehind : GoodIn wsX2_readOrder wsX2_numbersBehind := goodIn_r _ [9] (by decide +kernel) (by decide +kernel)
set_option maxRecDepth 20000 in
theorem gX2_readOrder_X2_numbersBehind : GoodIn wsX2_readOrder (va_wsS RX2 38 yX2_numbersBehind wsX2_numbersBehind) := goodIn_app (goodIn_of _ (by decide +kernel)) ggX2_readOrder_X2_numbersBehind
set_option maxRecDepth 20000 in
theorem ggX2_readOrder_X2_readNumber : GoodIn wsX2_readOrder wsX2_readNumber := goodIn_r _ [13, 1, 2, 14, 4, 15, 16, 17, 8, 18, 5, 19, 20, 21, 22, 23, 24, 25, 26, 27, 28] (by decide +kernel) (by decide +kernel)
set_option maxRecDepth 20000 in
theorem gX2_readOrder_X2_readNumber : GoodIn wsX2_readOrder (wsV RX2 42 RX2 yX2_readNumber wsX2_readNumber) := goodIn_app (goodIn_of _ (by decide +kernel)) ggX2_readOrder_X2_readNumber
set_option maxRecDepth 20000 in
theorem ggX2_readOrder_X2_skipBlanks : GoodIn wsX2_readOrder wsX2_skipBlanks := goodIn_r _ [18, 2, 5, 1, 23, 24, 25, 26, 27, 28] (by decide +kernel) (by decide +kernel)
set_option maxRecDepth 20000 in
theorem gX2_readOrder_X2_skipBlanks : GoodIn wsX2_readOrder (wsV RX2 31 RX2 yX2_skipBlanks wsX2_skipBlanks) := goodIn_app (goodIn_of _ (by decide +kernel)) ggX2_readOrder_X2_skipBlanks
theorem dX2_readOrder_0 : decode cX2_readOrder 0 = .ok (.aload_n 0, 1) := by decide +kernel
theorem dX2_readOrder_1 : decode cX2_readOrder 1 = .ok (.getfield 9, 3) := by decide +kernel
theorem dX2_readOrder_4 : decode cX2_readOrder 4 = .ok (.aload_n 0, 1) := by decide +kernel
theorem dX2_readOrder_5 : decode cX2_readOrder 5 = .ok (.getfield 28, 3) := by decide +kernel
theorem dX2_readOrder_8 : decode cX2_readOrder 8 = .ok (.iaload, 1) := by decide +kernel
theorem dX2_readOrder_9 : decode cX2_readOrder 9 = .ok (.istore_n 1, 1) := by decide +kernel
theorem dX2_readOrder_10 : decode cX2_readOrder 10 = .ok (.iload_n 1, 1) := by decide +kernel
theorem dX2_readOrder_11 : decode cX2_readOrder 11 = .ok (.invokestatic 38, 3) := by decide +kernel
theorem dX2_readOrder_14 : decode cX2_readOrder 14 = .ok (.istore_n 2, 1) := by decide +kernel
theorem dX2_readOrder_15 : decode cX2_readOrder 15 = .ok (.iload_n 2, 1) := by decide +kernel
theorem dX2_readOrder_16 : decode cX2_readOrder 16 = .ok (.ifCond .ge 5, 3) := by decide +kernel
theorem dX2_readOrder_19 : decode cX2_readOrder 19 = .ok (.iconst 0, 1) := by decide +kernel
theorem dX2_readOrder_20 : decode cX2_readOrder 20 = .ok (.ireturn, 1) := by decide +kernel
theorem dX2_readOrder_21 : decode cX2_readOrder 21 = .ok (.aload_n 0, 1) := by decide +kernel
theorem dX2_readOrder_22 : decode cX2_readOrder 22 = .ok (.getfield 15, 3) := by decide +kernel
theorem dX2_readOrder_25 : decode cX2_readOrder 25 = .ok (.aload_n 0, 1) := by decide +kernel
theorem dX2_readOrder_26 : decode cX2_readOrder 26 = .ok (.getfield 25, 3) := by decide +kernel
theorem dX2_readOrder_29 : decode cX2_readOrder 29 = .ok (.iload_n 1, 1) := by decide +kernel
theorem dX2_readOrder_30 : decode cX2_readOrder 30 = .ok (.iastore, 1) := by decide +kernel
theorem dX2_readOrder_31 : decode cX2_readOrder 31 = .ok (.aload_n 0, 1) := by decide +kernel
theorem dX2_readOrder_32 : decode cX2_readOrder 32 = .ok (.dup, 1) := by decide +kernel
theorem dX2_readOrder_33 : decode cX2_readOrder 33 = .ok (.getfield 28, 3) := by decide +kernel
theorem dX2_readOrder_36 : decode cX2_readOrder 36 = .ok (.iconst 1, 1) := by decide +kernel
theorem dX2_readOrder_37 : decode cX2_readOrder 37 = .ok (.iadd, 1) := by decide +kernel
theorem dX2_readOrder_38 : decode cX2_readOrder 38 = .ok (.putfield 28, 3) := by decide +kernel
theorem dX2_readOrder_41 : decode cX2_readOrder 41 = .ok (.iconst 0, 1) := by decide +kernel
theorem dX2_readOrder_42 : decode cX2_readOrder 42 = .ok (.istore_n 3, 1) := by decide +kernel
theorem dX2_readOrder_43 : decode cX2_readOrder 43 = .ok (.iload_n 3, 1) := by decide +kernel
theorem dX2_readOrder_44 : decode cX2_readOrder 44 = .ok (.iload_n 2, 1) := by decide +kernel
theorem dX2_readOrder_45 : decode cX2_readOrder 45 = .ok (.if_icmp .ge 19, 3) := by decide +kernel
theorem dX2_readOrder_48 : decode cX2_readOrder 48 = .ok (.aload_n 0, 1) := by decide +kernel
theorem dX2_readOrder_49 : decode cX2_readOrder 49 = .ok (.iload_n 3, 1) := by decide +kernel
theorem dX2_readOrder_50 : decode cX2_readOrder 50 = .ok (.invokevirtual 42, 3) := by decide +kernel
theorem dX2_readOrder_53 : decode cX2_readOrder 53 = .ok (.ifCond .ne 5, 3) := by decide +kernel
theorem dX2_readOrder_56 : decode cX2_readOrder 56 = .ok (.iconst 0, 1) := by decide +kernel
theorem dX2_readOrder_57 : decode cX2_readOrder 57 = .ok (.ireturn, 1) := by decide +kernel
theorem dX2_readOrder_58 : decode cX2_readOrder 58 = .ok (.iinc 3 1, 3) := by decide +kernel
theorem dX2_readOrder_61 : decode cX2_readOrder 61 = .ok (.goto (-18), 3) := by decide +kernel
theorem dX2_readOrder_64 : decode cX2_readOrder 64 = .ok (.aload_n 0, 1) := by decide +kernel
theorem dX2_readOrder_65 : decode cX2_readOrder 65 = .ok (.invokevirtual 31, 3) := by decide +kernel
theorem dX2_readOrder_68 : decode cX2_readOrder 68 = .ok (.aload_n 0, 1) := by decide +kernel
theorem dX2_readOrder_69 : decode cX2_readOrder 69 = .ok (.getfield 28, 3) := by decide +kernel
theorem dX2_readOrder_72 : decode cX2_readOrder 72 = .ok (.aload_n 0, 1) := by decide +kernel
theorem dX2_readOrder_73 : decode cX2_readOrder 73 = .ok (.getfield 21, 3) := by decide +kernel
theorem dX2_readOrder_76 : decode cX2_readOrder 76 = .ok (.if_icmp .ge 17, 3) := by decide +kernel
theorem dX2_readOrder_79 : decode cX2_readOrder 79 = .ok (.aload_n 0, 1) := by decide +kernel
theorem dX2_readOrder_80 : decode cX2_readOrder 80 = .ok (.getfield 9, 3) := by decide +kernel
theorem dX2_readOrder_83 : decode cX2_readOrder 83 = .ok (.aload_n 0, 1) := by decide +kernel
theorem dX2_readOrder_84 : decode cX2_readOrder 84 = .ok (.getfield 28, 3) := by decide +kernel
theorem dX2_readOrder_87 : decode cX2_readOrder 87 = .ok (.iaload, 1) := by decide +kernel
theorem dX2_readOrder_88 : decode cX2_readOrder 88 = .ok (.bipush 59, 2) := by decide +kernel
theorem dX2_readOrder_90 : decode cX2_readOrder 90 = .ok (.if_icmp .eq 5, 3) := by decide +kernel
theorem dX2_readOrder_93 : decode cX2_readOrder 93 = .ok (.iconst 0, 1) := by decide +kernel
theorem dX2_readOrder_94 : decode cX2_readOrder 94 = .ok (.ireturn, 1) := by decide +kernel
theorem dX2_readOrder_95 : decode cX2_readOrder 95 = .ok (.aload_n 0, 1) := by decide +kernel
theorem dX2_readOrder_96 : decode cX2_readOrder 96 = .ok (.dup, 1) := by decide +kernel
theorem dX2_readOrder_97 : decode cX2_readOrder 97 = .ok (.getfield 28, 3) := by decide +kernel
theorem dX2_readOrder_100 : decode cX2_readOrder 100 = .ok (.iconst 1, 1) := by decide +kernel
theorem dX2_readOrder_101 : decode cX2_readOrder 101 = .ok (.iadd, 1) := by decide +kernel
theorem dX2_readOrder_102 : decode cX2_readOrder 102 = .ok (.putfield 28, 3) := by decide +kernel
theorem dX2_readOrder_105 : decode cX2_readOrder 105 = .ok (.iconst 1, 1) := by decide +kernel
theorem dX2_readOrder_106 : decode cX2_readOrder 106 = .ok (.ireturn, 1) := by decide +kernel
set_option maxRecDepth 20000 in
theorem ggX2_readNumber_X2_skipBlanks : GoodIn wsX2_readNumber wsX2_skipBlanks := goodIn_r _ [9, 2, 10, 1, 15, 16, 17, 18, 19, 20] (by decide +kernel) (by decide +kernel)
set_option maxRecDepth 20000 in
theorem gX2_readNumber_X2_skipBlanks : GoodIn wsX2_readNumber (wsV RX2 31 RX2 yX2_skipBlanks wsX2_skipBlanks) := goodIn_app (goodIn_of _ (by decide +kernel)) ggX2_readNumber_X2_skipBlanks
set_option maxRecDepth 20000 in
theorem ggX2_readNumber_X2_isFigureAt : GoodIn wsX2_readNumber wsX2_isFigureAt := goodIn_r _ [14, 2, 10, 1, 15, 16, 17, 18, 19, 20] (by decide +kernel) (by decide +kernel)
set_option maxRecDepth 20000 in
theorem gX2_readNumber_X2_isFigureAt : GoodIn wsX2_readNumber (wsV RX2 46 RX2 yX2_isFigureAt wsX2_isFigureAt) := goodIn_app (goodIn_of _ (by decide +kernel)) ggX2_readNumber_X2_isFigureAt
theorem dX2_readNumber_0 : decode cX2_readNumber 0 = .ok (.aload_n 0, 1) := by decide +kernel
theorem dX2_readNumber_1 : decode cX2_readNumber 1 = .ok (.invokevirtual 31, 3) := by decide +kernel
theorem dX2_readNumber_4 : decode cX2_readNumber 4 = .ok (.aload_n 0, 1) := by decide +kernel
theorem dX2_readNumber_5 : decode cX2_readNumber 5 = .ok (.invokevirtual 46, 3) := by decide +kernel
theorem dX2_readNumber_8 : decode cX2_readNumber 8 = .ok (.ifCond .ne 5, 3) := by decide +kernel
theorem dX2_readNumber_11 : decode cX2_readNumber 11 = .ok (.iconst 0, 1) := by decide +kernel
theorem dX2_readNumber_12 : decode cX2_readNumber 12 = .ok (.ireturn, 1) := by decide +kernel
theorem dX2_readNumber_13 : decode cX2_readNumber 13 = .ok (.aload_n 0, 1) := by decide +kernel
theorem dX2_readNumber_14 : decode cX2_readNumber 14 = .ok (.getfield 9, 3) := by decide +kernel
theorem dX2_readNumber_17 : decode cX2_readNumber 17 = .ok (.aload_n 0, 1) := by decide +kernel
theorem dX2_readNumber_18 : decode cX2_readNumber 18 = .ok (.getfield 28, 3) := by decide +kernel
theorem dX2_readNumber_21 : decode cX2_readNumber 21 = .ok (.iaload, 1) := by decide +kernel
theorem dX2_readNumber_22 : decode cX2_readNumber 22 = .ok (.bipush 48, 2) := by decide +kernel
theorem dX2_readNumber_24 : decode cX2_readNumber 24 = .ok (.isub, 1) := by decide +kernel
theorem dX2_readNumber_25 : decode cX2_readNumber 25 = .ok (.istore_n 2, 1) := by decide +kernel
theorem dX2_readNumber_26 : decode cX2_readNumber 26 = .ok (.aload_n 0, 1) := by decide +kernel
theorem dX2_readNumber_27 : decode cX2_readNumber 27 = .ok (.dup, 1) := by decide +kernel
theorem dX2_readNumber_28 : decode cX2_readNumber 28 = .ok (.getfield 28, 3) := by decide +kernel
theorem dX2_readNumber_31 : decode cX2_readNumber 31 = .ok (.iconst 1, 1) := by decide +kernel
theorem dX2_readNumber_32 : decode cX2_readNumber 32 = .ok (.iadd, 1) := by decide +kernel
theorem dX2_readNumber_33 : decode cX2_readNumber 33 = .ok (.putfield 28, 3) := by decide +kernel
theorem dX2_readNumber_36 : decode cX2_readNumber 36 = .ok (.aload_n 0, 1) := by decide +kernel
theorem dX2_readNumber_37 : decode cX2_readNumber 37 = .ok (.invokevirtual 46, 3) := by decide +kernel
theorem dX2_readNumber_40 : decode cX2_readNumber 40 = .ok (.ifCond .eq 31, 3) := by decide +kernel
theorem dX2_readNumber_43 : decode cX2_readNumber 43 = .ok (.bipush 10, 2) := by decide +kernel
theorem dX2_readNumber_45 : decode cX2_readNumber 45 = .ok (.iload_n 2, 1) := by decide +kernel
theorem dX2_readNumber_46 : decode cX2_readNumber 46 = .ok (.imul, 1) := by decide +kernel
theorem dX2_readNumber_47 : decode cX2_readNumber 47 = .ok (.aload_n 0, 1) := by decide +kernel
theorem dX2_readNumber_48 : decode cX2_readNumber 48 = .ok (.getfield 9, 3) := by decide +kernel
theorem dX2_readNumber_51 : decode cX2_readNumber 51 = .ok (.aload_n 0, 1) := by decide +kernel
theorem dX2_readNumber_52 : decode cX2_readNumber 52 = .ok (.getfield 28, 3) := by decide +kernel
theorem dX2_readNumber_55 : decode cX2_readNumber 55 = .ok (.iaload, 1) := by decide +kernel
theorem dX2_readNumber_56 : decode cX2_readNumber 56 = .ok (.iadd, 1) := by decide +kernel
theorem dX2_readNumber_57 : decode cX2_readNumber 57 = .ok (.bipush 48, 2) := by decide +kernel
theorem dX2_readNumber_59 : decode cX2_readNumber 59 = .ok (.isub, 1) := by decide +kernel
theorem dX2_readNumber_60 : decode cX2_readNumber 60 = .ok (.istore_n 2, 1) := by decide +kernel
theorem dX2_readNumber_61 : decode cX2_readNumber 61 = .ok (.aload_n 0, 1) := by decide +kernel
theorem dX2_readNumber_62 : decode cX2_readNumber 62 = .ok (.dup, 1) := by decide +kernel
theorem dX2_readNumber_63 : decode cX2_readNumber 63 = .ok (.getfield 28, 3) := by decide +kernel
theorem dX2_readNumber_66 : decode cX2_readNumber 66 = .ok (.iconst 1, 1) := by decide +kernel
theorem dX2_readNumber_67 : decode cX2_readNumber 67 = .ok (.iadd, 1) := by decide +kernel
theorem dX2_readNumber_68 : decode cX2_readNumber 68 = .ok (.putfield 28, 3) := by decide +kernel
theorem dX2_readNumber_71 : decode cX2_readNumber 71 = .ok (.aload_n 0, 1) := by decide +kernel
theorem dX2_readNumber_72 : decode cX2_readNumber 72 = .ok (.getfield 18, 3) := by decide +kernel
theorem dX2_readNumber_75 : decode cX2_readNumber 75 = .ok (.aload_n 0, 1) := by decide +kernel
theorem dX2_readNumber_76 : decode cX2_readNumber 76 = .ok (.getfield 25, 3) := by decide +kernel
theorem dX2_readNumber_79 : decode cX2_readNumber 79 = .ok (.iconst 3, 1) := by decide +kernel
theorem dX2_readNumber_80 : decode cX2_readNumber 80 = .ok (.imul, 1) := by decide +kernel
theorem dX2_readNumber_81 : decode cX2_readNumber 81 = .ok (.iload_n 1, 1) := by decide +kernel
theorem dX2_readNumber_82 : decode cX2_readNumber 82 = .ok (.iadd, 1) := by decide +kernel
theorem dX2_readNumber_83 : decode cX2_readNumber 83 = .ok (.iload_n 2, 1) := by decide +kernel
theorem dX2_readNumber_84 : decode cX2_readNumber 84 = .ok (.iastore, 1) := by decide +kernel
theorem dX2_readNumber_85 : decode cX2_readNumber 85 = .ok (.aload_n 0, 1) := by decide +kernel
theorem dX2_readNumber_86 : decode cX2_readNumber 86 = .ok (.invokevirtual 46, 3) := by decide +kernel
theorem dX2_readNumber_89 : decode cX2_readNumber 89 = .ok (.ifCond .ne 7, 3) := by decide +kernel
theorem dX2_readNumber_92 : decode cX2_readNumber 92 = .ok (.iconst 1, 1) := by decide +kernel
theorem dX2_readNumber_93 : decode cX2_readNumber 93 = .ok (.goto 4, 3) := by decide +kernel
theorem dX2_readNumber_96 : decode cX2_readNumber 96 = .ok (.iconst 0, 1) := by decide +kernel
theorem dX2_readNumber_97 : decode cX2_readNumber 97 = .ok (.ireturn, 1) := by decide +kernel
theorem dX2_isFigureAt_0 : decode cX2_isFigureAt 0 = .ok (.aload_n 0, 1) := by decide +kernel
theorem dX2_isFigureAt_1 : decode cX2_isFigureAt 1 = .ok (.getfield 28, 3) := by decide +kernel
theorem dX2_isFigureAt_4 : decode cX2_isFigureAt 4 = .ok (.aload_n 0, 1) := by decide +kernel
theorem dX2_isFigureAt_5 : decode cX2_isFigureAt 5 = .ok (.getfield 21, 3) := by decide +kernel
theorem dX2_isFigureAt_8 : decode cX2_isFigureAt 8 = .ok (.if_icmp .ge 35, 3) := by decide +kernel
theorem dX2_isFigureAt_11 : decode cX2_isFigureAt 11 = .ok (.aload_n 0, 1) := by decide +kernel
theorem dX2_isFigureAt_12 : decode cX2_isFigureAt 12 = .ok (.getfield 9, 3) := by decide +kernel
theorem dX2_isFigureAt_15 : decode cX2_isFigureAt 15 = .ok (.aload_n 0, 1) := by decide +kernel
theorem dX2_isFigureAt_16 : decode cX2_isFigureAt 16 = .ok (.getfield 28, 3) := by decide +kernel
theorem dX2_isFigureAt_19 : decode cX2_isFigureAt 19 = .ok (.iaload, 1) := by decide +kernel
theorem dX2_isFigureAt_20 : decode cX2_isFigureAt 20 = .ok (.bipush 48, 2) := by decide +kernel
theorem dX2_isFigureAt_22 : decode cX2_isFigureAt 22 = .ok (.if_icmp .lt 21, 3) := by decide +kernel
theorem dX2_isFigureAt_25 : decode cX2_isFigureAt 25 = .ok (.aload_n 0, 1) := by decide +kernel
theorem dX2_isFigureAt_26 : decode cX2_isFigureAt 26 = .ok (.getfield 9, 3) := by decide +kernel
theorem dX2_isFigureAt_29 : decode cX2_isFigureAt 29 = .ok (.aload_n 0, 1) := by decide +kernel
theorem dX2_isFigureAt_30 : decode cX2_isFigureAt 30 = .ok (.getfield 28, 3) := by decide +kernel
theorem dX2_isFigureAt_33 : decode cX2_isFigureAt 33 = .ok (.iaload, 1) := by decide +kernel
theorem dX2_isFigureAt_34 : decode cX2_isFigureAt 34 = .ok (.bipush 57, 2) := by decide +kernel
theorem dX2_isFigureAt_36 : decode cX2_isFigureAt 36 = .ok (.if_icmp .gt 7, 3) := by decide +kernel
theorem dX2_isFigureAt_39 : decode cX2_isFigureAt 39 = .ok (.iconst 1, 1) := by decide +kernel
theorem dX2_isFigureAt_40 : decode cX2_isFigureAt 40 = .ok (.goto 4, 3) := by decide +kernel
theorem dX2_isFigureAt_43 : decode cX2_isFigureAt 43 = .ok (.iconst 0, 1) := by decide +kernel
theorem dX2_isFigureAt_44 : decode cX2_isFigureAt 44 = .ok (.ireturn, 1) := by decide +kernel
theorem dX2_skipBlanks_0 : decode cX2_skipBlanks 0 = .ok (.aload_n 0, 1) := by decide +kernel
theorem dX2_skipBlanks_1 : decode cX2_skipBlanks 1 = .ok (.getfield 28, 3) := by decide +kernel
theorem dX2_skipBlanks_4 : decode cX2_skipBlanks 4 = .ok (.aload_n 0, 1) := by decide +kernel
theorem dX2_skipBlanks_5 : decode cX2_skipBlanks 5 = .ok (.getfield 21, 3) := by decide +kernel
theorem dX2_skipBlanks_8 : decode cX2_skipBlanks 8 = .ok (.if_icmp .ge 30, 3) := by decide +kernel
theorem dX2_skipBlanks_11 : decode cX2_skipBlanks 11 = .ok (.aload_n 0, 1) := by decide +kernel
theorem dX2_skipBlanks_12 : decode cX2_skipBlanks 12 = .ok (.getfield 9, 3) := by decide +kernel
theorem dX2_skipBlanks_15 : decode cX2_skipBlanks 15 = .ok (.aload_n 0, 1) := by decide +kernel
theorem dX2_skipBlanks_16 : decode cX2_skipBlanks 16 = .ok (.getfield 28, 3) := by decide +kernel
theorem dX2_skipBlanks_19 : decode cX2_skipBlanks 19 = .ok (.iaload, 1) := by decide +kernel
theorem dX2_skipBlanks_20 : decode cX2_skipBlanks 20 = .ok (.bipush 32, 2) := by decide +kernel
end
section
theorem dX2_skipBlanks_22 : decode cX2_skipBlanks 22 = .ok (.if_icmp .ne 16, 3) := by decide +kernel
theorem dX2_skipBlanks_25 : decode cX2_skipBlanks 25 = .ok (.aload_n 0, 1) := by decide +kernel
theorem dX2_skipBlanks_26 : decode cX2_skipBlanks 26 = .ok (.dup, 1) := by decide +kernel
theorem dX2_skipBlanks_27 : decode cX2_skipBlanks 27 = .ok (.getfield 28, 3) := by decide +kernel
theorem dX2_skipBlanks_30 : decode cX2_skipBlanks 30 = .ok (.iconst 1, 1) := by decide +kernel
theorem dX2_skipBlanks_31 : decode cX2_skipBlanks 31 = .ok (.iadd, 1) := by decide +kernel
theorem dX2_skipBlanks_32 : decode cX2_skipBlanks 32 = .ok (.putfield 28, 3) := by decide +kernel
theorem dX2_skipBlanks_35 : decode cX2_skipBlanks 35 = .ok (.goto (-35), 3) := by decide +kernel
theorem dX2_skipBlanks_38 : decode cX2_skipBlanks 38 = .ok (.return_, 1) := by decide +kernel
theorem dX2_numbersBehind_0 : decode cX2_numbersBehind 0 = .ok (.iload_n 0, 1) := by decide +kernel
theorem dX2_numbersBehind_1 : decode cX2_numbersBehind 1 = .ok (.tableswitch 107 97 117 #[99, 105, 107, 107, 107, 107, 107, 107, 107, 107, 103, 107, 101, 107, 107, 103, 107, 107, 101, 107, 101], 99) := by decide +kernel
theorem dX2_numbersBehind_100 : decode cX2_numbersBehind 100 = .ok (.iconst 0, 1) := by decide +kernel
theorem dX2_numbersBehind_101 : decode cX2_numbersBehind 101 = .ok (.ireturn, 1) := by decide +kernel
theorem dX2_numbersBehind_102 : decode cX2_numbersBehind 102 = .ok (.iconst 1, 1) := by decide +kernel
theorem dX2_numbersBehind_103 : decode cX2_numbersBehind 103 = .ok (.ireturn, 1) := by decide +kernel
theorem dX2_numbersBehind_104 : decode cX2_numbersBehind 104 = .ok (.iconst 2, 1) := by decide +kernel
theorem dX2_numbersBehind_105 : decode cX2_numbersBehind 105 = .ok (.ireturn, 1) := by decide +kernel
theorem dX2_numbersBehind_106 : decode cX2_numbersBehind 106 = .ok (.iconst 3, 1) := by decide +kernel
theorem dX2_numbersBehind_107 : decode cX2_numbersBehind 107 = .ok (.ireturn, 1) := by decide +kernel
theorem dX2_numbersBehind_108 : decode cX2_numbersBehind 108 = .ok (.iconst (-1), 1) := by decide +kernel
theorem dX2_numbersBehind_109 : decode cX2_numbersBehind 109 = .ok (.ireturn, 1) := by decide +kernel
theorem dX3_init_0 : decode cX3_init 0 = .ok (.aload_n 0, 1) := by decide +kernel
theorem dX3_init_1 : decode cX3_init 1 = .ok (.invokespecial 3, 3) := by decide +kernel
theorem dX3_init_4 : decode cX3_init 4 = .ok (.aload_n 0, 1) := by decide +kernel
theorem dX3_init_5 : decode cX3_init 5 = .ok (.bipush 8, 2) := by decide +kernel
theorem dX3_init_7 : decode cX3_init 7 = .ok (.newarray .int, 2) := by decide +kernel
theorem dX3_init_9 : decode cX3_init 9 = .ok (.putfield 9, 3) := by decide +kernel
theorem dX3_init_12 : decode cX3_init 12 = .ok (.aload_n 0, 1) := by decide +kernel
theorem dX3_init_13 : decode cX3_init 13 = .ok (.bipush 8, 2) := by decide +kernel
theorem dX3_init_15 : decode cX3_init 15 = .ok (.newarray .int, 2) := by decide +kernel
theorem dX3_init_17 : decode cX3_init 17 = .ok (.putfield 15, 3) := by decide +kernel
theorem dX3_init_20 : decode cX3_init 20 = .ok (.aload_n 0, 1) := by decide +kernel
theorem dX3_init_21 : decode cX3_init 21 = .ok (.bipush 7, 2) := by decide +kernel
theorem dX3_init_23 : decode cX3_init 23 = .ok (.newarray .int, 2) := by decide +kernel
theorem dX3_init_25 : decode cX3_init 25 = .ok (.putfield 18, 3) := by decide +kernel
theorem dX3_init_28 : decode cX3_init 28 = .ok (.aload_n 0, 1) := by decide +kernel
theorem dX3_init_29 : decode cX3_init 29 = .ok (.iconst 0, 1) := by decide +kernel
theorem dX3_init_30 : decode cX3_init 30 = .ok (.putfield 21, 3) := by decide +kernel
theorem dX3_init_33 : decode cX3_init 33 = .ok (.return_, 1) := by decide +kernel
theorem dX3_trace_0 : decode cX3_trace 0 = .ok (.aload_n 0, 1) := by decide +kernel
theorem dX3_trace_1 : decode cX3_trace 1 = .ok (.aload_n 1, 1) := by decide +kernel
theorem dX3_trace_2 : decode cX3_trace 2 = .ok (.getfield 25, 3) := by decide +kernel
theorem dX3_trace_5 : decode cX3_trace 5 = .ok (.iconst 1, 1) := by decide +kernel
theorem dX3_trace_6 : decode cX3_trace 6 = .ok (.iadd, 1) := by decide +kernel
theorem dX3_trace_7 : decode cX3_trace 7 = .ok (.putfield 21, 3) := by decide +kernel
theorem dX3_trace_10 : decode cX3_trace 10 = .ok (.iconst 0, 1) := by decide +kernel
theorem dX3_trace_11 : decode cX3_trace 11 = .ok (.istore_n 3, 1) := by decide +kernel
theorem dX3_trace_12 : decode cX3_trace 12 = .ok (.iconst 0, 1) := by decide +kernel
theorem dX3_trace_13 : decode cX3_trace 13 = .ok (.istore 4, 2) := by decide +kernel
theorem dX3_trace_15 : decode cX3_trace 15 = .ok (.iload 4, 2) := by decide +kernel
theorem dX3_trace_17 : decode cX3_trace 17 = .ok (.aload_n 0, 1) := by decide +kernel
theorem dX3_trace_18 : decode cX3_trace 18 = .ok (.getfield 21, 3) := by decide +kernel
theorem dX3_trace_21 : decode cX3_trace 21 = .ok (.if_icmp .ge 108, 3) := by decide +kernel
theorem dX3_trace_24 : decode cX3_trace 24 = .ok (.aload_n 0, 1) := by decide +kernel
theorem dX3_trace_25 : decode cX3_trace 25 = .ok (.getfield 18, 3) := by decide +kernel
theorem dX3_trace_28 : decode cX3_trace 28 = .ok (.iload 4, 2) := by decide +kernel
theorem dX3_trace_30 : decode cX3_trace 30 = .ok (.iload_n 3, 1) := by decide +kernel
theorem dX3_trace_31 : decode cX3_trace 31 = .ok (.iastore, 1) := by decide +kernel
theorem dX3_trace_32 : decode cX3_trace 32 = .ok (.aload_n 0, 1) := by decide +kernel
theorem dX3_trace_33 : decode cX3_trace 33 = .ok (.getfield 9, 3) := by decide +kernel
theorem dX3_trace_36 : decode cX3_trace 36 = .ok (.iload 4, 2) := by decide +kernel
theorem dX3_trace_38 : decode cX3_trace 38 = .ok (.iconst 1, 1) := by decide +kernel
theorem dX3_trace_39 : decode cX3_trace 39 = .ok (.iadd, 1) := by decide +kernel
theorem dX3_trace_40 : decode cX3_trace 40 = .ok (.aload_n 0, 1) := by decide +kernel
theorem dX3_trace_41 : decode cX3_trace 41 = .ok (.getfield 9, 3) := by decide +kernel
theorem dX3_trace_44 : decode cX3_trace 44 = .ok (.iload 4, 2) := by decide +kernel
theorem dX3_trace_46 : decode cX3_trace 46 = .ok (.iaload, 1) := by decide +kernel
theorem dX3_trace_47 : decode cX3_trace 47 = .ok (.aload_n 1, 1) := by decide +kernel
theorem dX3_trace_48 : decode cX3_trace 48 = .ok (.getfield 30, 3) := by decide +kernel
theorem dX3_trace_51 : decode cX3_trace 51 = .ok (.iload 4, 2) := by decide +kernel
theorem dX3_trace_53 : decode cX3_trace 53 = .ok (.iaload, 1) := by decide +kernel
theorem dX3_trace_54 : decode cX3_trace 54 = .ok (.getstatic 33, 3) := by decide +kernel
theorem dX3_trace_57 : decode cX3_trace 57 = .ok (.iload_n 3, 1) := by decide +kernel
theorem dX3_trace_58 : decode cX3_trace 58 = .ok (.iaload, 1) := by decide +kernel
theorem dX3_trace_59 : decode cX3_trace 59 = .ok (.imul, 1) := by decide +kernel
theorem dX3_trace_60 : decode cX3_trace 60 = .ok (.iadd, 1) := by decide +kernel
theorem dX3_trace_61 : decode cX3_trace 61 = .ok (.iastore, 1) := by decide +kernel
theorem dX3_trace_62 : decode cX3_trace 62 = .ok (.aload_n 0, 1) := by decide +kernel
theorem dX3_trace_63 : decode cX3_trace 63 = .ok (.getfield 15, 3) := by decide +kernel
theorem dX3_trace_66 : decode cX3_trace 66 = .ok (.iload 4, 2) := by decide +kernel
theorem dX3_trace_68 : decode cX3_trace 68 = .ok (.iconst 1, 1) := by decide +kernel
theorem dX3_trace_69 : decode cX3_trace 69 = .ok (.iadd, 1) := by decide +kernel
theorem dX3_trace_70 : decode cX3_trace 70 = .ok (.aload_n 0, 1) := by decide +kernel
theorem dX3_trace_71 : decode cX3_trace 71 = .ok (.getfield 15, 3) := by decide +kernel
theorem dX3_trace_74 : decode cX3_trace 74 = .ok (.iload 4, 2) := by decide +kernel
theorem dX3_trace_76 : decode cX3_trace 76 = .ok (.iaload, 1) := by decide +kernel
theorem dX3_trace_77 : decode cX3_trace 77 = .ok (.aload_n 1, 1) := by decide +kernel
theorem dX3_trace_78 : decode cX3_trace 78 = .ok (.getfield 30, 3) := by decide +kernel
theorem dX3_trace_81 : decode cX3_trace 81 = .ok (.iload 4, 2) := by decide +kernel
theorem dX3_trace_83 : decode cX3_trace 83 = .ok (.iaload, 1) := by decide +kernel
theorem dX3_trace_84 : decode cX3_trace 84 = .ok (.getstatic 36, 3) := by decide +kernel
theorem dX3_trace_87 : decode cX3_trace 87 = .ok (.iload_n 3, 1) := by decide +kernel
theorem dX3_trace_88 : decode cX3_trace 88 = .ok (.iaload, 1) := by decide +kernel
theorem dX3_trace_89 : decode cX3_trace 89 = .ok (.imul, 1) := by decide +kernel
theorem dX3_trace_90 : decode cX3_trace 90 = .ok (.iadd, 1) := by decide +kernel
theorem dX3_trace_91 : decode cX3_trace 91 = .ok (.iastore, 1) := by decide +kernel
theorem dX3_trace_92 : decode cX3_trace 92 = .ok (.iload 4, 2) := by decide +kernel
theorem dX3_trace_94 : decode cX3_trace 94 = .ok (.aload_n 1, 1) := by decide +kernel
theorem dX3_trace_95 : decode cX3_trace 95 = .ok (.getfield 25, 3) := by decide +kernel
theorem dX3_trace_98 : decode cX3_trace 98 = .ok (.if_icmp .ge 25, 3) := by decide +kernel
theorem dX3_trace_101 : decode cX3_trace 101 = .ok (.iload_n 2, 1) := by decide +kernel
theorem dX3_trace_102 : decode cX3_trace 102 = .ok (.iload 4, 2) := by decide +kernel
theorem dX3_trace_104 : decode cX3_trace 104 = .ok (.ishr, 1) := by decide +kernel
theorem dX3_trace_105 : decode cX3_trace 105 = .ok (.iconst 1, 1) := by decide +kernel
theorem dX3_trace_106 : decode cX3_trace 106 = .ok (.iand, 1) := by decide +kernel
theorem dX3_trace_107 : decode cX3_trace 107 = .ok (.iconst 1, 1) := by decide +kernel
theorem dX3_trace_108 : decode cX3_trace 108 = .ok (.if_icmp .ne 15, 3) := by decide +kernel
theorem dX3_trace_111 : decode cX3_trace 111 = .ok (.iload_n 3, 1) := by decide +kernel
theorem dX3_trace_112 : decode cX3_trace 112 = .ok (.aload_n 1, 1) := by decide +kernel
theorem dX3_trace_113 : decode cX3_trace 113 = .ok (.getfield 39, 3) := by decide +kernel
theorem dX3_trace_116 : decode cX3_trace 116 = .ok (.iload 4, 2) := by decide +kernel
theorem dX3_trace_118 : decode cX3_trace 118 = .ok (.iaload, 1) := by decide +kernel
theorem dX3_trace_119 : decode cX3_trace 119 = .ok (.iadd, 1) := by decide +kernel
theorem dX3_trace_120 : decode cX3_trace 120 = .ok (.iconst 3, 1) := by decide +kernel
theorem dX3_trace_121 : decode cX3_trace 121 = .ok (.iand, 1) := by decide +kernel
theorem dX3_trace_122 : decode cX3_trace 122 = .ok (.istore_n 3, 1) := by decide +kernel
theorem dX3_trace_123 : decode cX3_trace 123 = .ok (.iinc 4 1, 3) := by decide +kernel
theorem dX3_trace_126 : decode cX3_trace 126 = .ok (.goto (-111), 3) := by decide +kernel
theorem dX3_trace_129 : decode cX3_trace 129 = .ok (.return_, 1) := by decide +kernel
theorem dX3_least_0 : decode cX3_least 0 = .ok (.aload_n 1, 1) := by decide +kernel
theorem dX3_least_1 : decode cX3_least 1 = .ok (.iconst 0, 1) := by decide +kernel
theorem dX3_least_2 : decode cX3_least 2 = .ok (.iaload, 1) := by decide +kernel
theorem dX3_least_3 : decode cX3_least 3 = .ok (.istore_n 2, 1) := by decide +kernel
theorem dX3_least_4 : decode cX3_least 4 = .ok (.iconst 1, 1) := by decide +kernel
theorem dX3_least_5 : decode cX3_least 5 = .ok (.istore_n 3, 1) := by decide +kernel
theorem dX3_least_6 : decode cX3_least 6 = .ok (.iload_n 3, 1) := by decide +kernel
theorem dX3_least_7 : decode cX3_least 7 = .ok (.aload_n 0, 1) := by decide +kernel
theorem dX3_least_8 : decode cX3_least 8 = .ok (.getfield 21, 3) := by decide +kernel
theorem dX3_least_11 : decode cX3_least 11 = .ok (.if_icmp .gt 17, 3) := by decide +kernel
theorem dX3_least_14 : decode cX3_least 14 = .ok (.iload_n 2, 1) := by decide +kernel
theorem dX3_least_15 : decode cX3_least 15 = .ok (.aload_n 1, 1) := by decide +kernel
theorem dX3_least_16 : decode cX3_least 16 = .ok (.iload_n 3, 1) := by decide +kernel
theorem dX3_least_17 : decode cX3_least 17 = .ok (.iaload, 1) := by decide +kernel
theorem dX3_least_18 : decode cX3_least 18 = .ok (.invokestatic 42, 3) := by decide +kernel
theorem dX3_least_21 : decode cX3_least 21 = .ok (.istore_n 2, 1) := by decide +kernel
theorem dX3_least_22 : decode cX3_least 22 = .ok (.iinc 3 1, 3) := by decide +kernel
theorem dX3_least_25 : decode cX3_least 25 = .ok (.goto (-19), 3) := by decide +kernel
theorem dX3_least_28 : decode cX3_least 28 = .ok (.iload_n 2, 1) := by decide +kernel
theorem dX3_least_29 : decode cX3_least 29 = .ok (.ireturn, 1) := by decide +kernel
theorem dX3_greatest_0 : decode cX3_greatest 0 = .ok (.aload_n 1, 1) := by decide +kernel
theorem dX3_greatest_1 : decode cX3_greatest 1 = .ok (.iconst 0, 1) := by decide +kernel
theorem dX3_greatest_2 : decode cX3_greatest 2 = .ok (.iaload, 1) := by decide +kernel
theorem dX3_greatest_3 : decode cX3_greatest 3 = .ok (.istore_n 2, 1) := by decide +kernel
theorem dX3_greatest_4 : decode cX3_greatest 4 = .ok (.iconst 1, 1) := by decide +kernel
theorem dX3_greatest_5 : decode cX3_greatest 5 = .ok (.istore_n 3, 1) := by decide +kernel
theorem dX3_greatest_6 : decode cX3_greatest 6 = .ok (.iload_n 3, 1) := by decide +kernel
theorem dX3_greatest_7 : decode cX3_greatest 7 = .ok (.aload_n 0, 1) := by decide +kernel
theorem dX3_greatest_8 : decode cX3_greatest 8 = .ok (.getfield 21, 3) := by decide +kernel
theorem dX3_greatest_11 : decode cX3_greatest 11 = .ok (.if_icmp .gt 17, 3) := by decide +kernel
theorem dX3_greatest_14 : decode cX3_greatest 14 = .ok (.iload_n 2, 1) := by decide +kernel
theorem dX3_greatest_15 : decode cX3_greatest 15 = .ok (.aload_n 1, 1) := by decide +kernel
theorem dX3_greatest_16 : decode cX3_greatest 16 = .ok (.iload_n 3, 1) := by decide +kernel
theorem dX3_greatest_17 : decode cX3_greatest 17 = .ok (.iaload, 1) := by decide +kernel
theorem dX3_greatest_18 : decode cX3_greatest 18 = .ok (.invokestatic 48, 3) := by decide +kernel
theorem dX3_greatest_21 : decode cX3_greatest 21 = .ok (.istore_n 2, 1) := by decide +kernel
theorem dX3_greatest_22 : decode cX3_greatest 22 = .ok (.iinc 3 1, 3) := by decide +kernel
theorem dX3_greatest_25 : decode cX3_greatest 25 = .ok (.goto (-19), 3) := by decide +kernel
theorem dX3_greatest_28 : decode cX3_greatest 28 = .ok (.iload_n 2, 1) := by decide +kernel
theorem dX3_greatest_29 : decode cX3_greatest 29 = .ok (.ireturn, 1) := by decide +kernel
set_option maxRecDepth 20000 in
theorem ggX3_crossesItself_X3_reaches : GoodIn wsX3_crossesItself wsX3_reaches := goodIn_r _ [14] (by decide +kernel) (by decide +kernel)
set_option maxRecDepth 20000 in
theorem gX3_crossesItself_X3_reaches : GoodIn wsX3_crossesItself (va_wsS RX3 51 yX3_reaches wsX3_reaches) := goodIn_app (goodIn_of _ (by decide +kernel)) ggX3_crossesItself_X3_reaches
theorem dX3_crossesItself_0 : decode cX3_crossesItself 0 = .ok (.iconst 0, 1) := by decide +kernel
theorem dX3_crossesItself_1 : decode cX3_crossesItself 1 = .ok (.istore_n 1, 1) := by decide +kernel
theorem dX3_crossesItself_2 : decode cX3_crossesItself 2 = .ok (.iload_n 1, 1) := by decide +kernel
theorem dX3_crossesItself_3 : decode cX3_crossesItself 3 = .ok (.aload_n 0, 1) := by decide +kernel
theorem dX3_crossesItself_4 : decode cX3_crossesItself 4 = .ok (.getfield 21, 3) := by decide +kernel
theorem dX3_crossesItself_7 : decode cX3_crossesItself 7 = .ok (.if_icmp .ge 155, 3) := by decide +kernel
theorem dX3_crossesItself_10 : decode cX3_crossesItself 10 = .ok (.aload_n 0, 1) := by decide +kernel
theorem dX3_crossesItself_11 : decode cX3_crossesItself 11 = .ok (.getfield 9, 3) := by decide +kernel
theorem dX3_crossesItself_14 : decode cX3_crossesItself 14 = .ok (.iload_n 1, 1) := by decide +kernel
theorem dX3_crossesItself_15 : decode cX3_crossesItself 15 = .ok (.iaload, 1) := by decide +kernel
theorem dX3_crossesItself_16 : decode cX3_crossesItself 16 = .ok (.aload_n 0, 1) := by decide +kernel
theorem dX3_crossesItself_17 : decode cX3_crossesItself 17 = .ok (.getfield 9, 3) := by decide +kernel
theorem dX3_crossesItself_20 : decode cX3_crossesItself 20 = .ok (.iload_n 1, 1) := by decide +kernel
theorem dX3_crossesItself_21 : decode cX3_crossesItself 21 = .ok (.iconst 1, 1) := by decide +kernel
theorem dX3_crossesItself_22 : decode cX3_crossesItself 22 = .ok (.iadd, 1) := by decide +kernel
theorem dX3_crossesItself_23 : decode cX3_crossesItself 23 = .ok (.iaload, 1) := by decide +kernel
theorem dX3_crossesItself_24 : decode cX3_crossesItself 24 = .ok (.invokestatic 42, 3) := by decide +kernel
theorem dX3_crossesItself_27 : decode cX3_crossesItself 27 = .ok (.istore_n 2, 1) := by decide +kernel
theorem dX3_crossesItself_28 : decode cX3_crossesItself 28 = .ok (.aload_n 0, 1) := by decide +kernel
theorem dX3_crossesItself_29 : decode cX3_crossesItself 29 = .ok (.getfield 9, 3) := by decide +kernel
theorem dX3_crossesItself_32 : decode cX3_crossesItself 32 = .ok (.iload_n 1, 1) := by decide +kernel
theorem dX3_crossesItself_33 : decode cX3_crossesItself 33 = .ok (.iaload, 1) := by decide +kernel
theorem dX3_crossesItself_34 : decode cX3_crossesItself 34 = .ok (.aload_n 0, 1) := by decide +kernel
theorem dX3_crossesItself_35 : decode cX3_crossesItself 35 = .ok (.getfield 9, 3) := by decide +kernel
theorem dX3_crossesItself_38 : decode cX3_crossesItself 38 = .ok (.iload_n 1, 1) := by decide +kernel
theorem dX3_crossesItself_39 : decode cX3_crossesItself 39 = .ok (.iconst 1, 1) := by decide +kernel
theorem dX3_crossesItself_40 : decode cX3_crossesItself 40 = .ok (.iadd, 1) := by decide +kernel
theorem dX3_crossesItself_41 : decode cX3_crossesItself 41 = .ok (.iaload, 1) := by decide +kernel
theorem dX3_crossesItself_42 : decode cX3_crossesItself 42 = .ok (.invokestatic 48, 3) := by decide +kernel
theorem dX3_crossesItself_45 : decode cX3_crossesItself 45 = .ok (.istore_n 3, 1) := by decide +kernel
theorem dX3_crossesItself_46 : decode cX3_crossesItself 46 = .ok (.aload_n 0, 1) := by decide +kernel
theorem dX3_crossesItself_47 : decode cX3_crossesItself 47 = .ok (.getfield 15, 3) := by decide +kernel
theorem dX3_crossesItself_50 : decode cX3_crossesItself 50 = .ok (.iload_n 1, 1) := by decide +kernel
theorem dX3_crossesItself_51 : decode cX3_crossesItself 51 = .ok (.iaload, 1) := by decide +kernel
theorem dX3_crossesItself_52 : decode cX3_crossesItself 52 = .ok (.aload_n 0, 1) := by decide +kernel
theorem dX3_crossesItself_53 : decode cX3_crossesItself 53 = .ok (.getfield 15, 3) := by decide +kernel
theorem dX3_crossesItself_56 : decode cX3_crossesItself 56 = .ok (.iload_n 1, 1) := by decide +kernel
theorem dX3_crossesItself_57 : decode cX3_crossesItself 57 = .ok (.iconst 1, 1) := by decide +kernel
theorem dX3_crossesItself_58 : decode cX3_crossesItself 58 = .ok (.iadd, 1) := by decide +kernel
theorem dX3_crossesItself_59 : decode cX3_crossesItself 59 = .ok (.iaload, 1) := by decide +kernel
theorem dX3_crossesItself_60 : decode cX3_crossesItself 60 = .ok (.invokestatic 42, 3) := by decide +kernel
theorem dX3_crossesItself_63 : decode cX3_crossesItself 63 = .ok (.istore 4, 2) := by decide +kernel
theorem dX3_crossesItself_65 : decode cX3_crossesItself 65 = .ok (.aload_n 0, 1) := by decide +kernel
theorem dX3_crossesItself_66 : decode cX3_crossesItself 66 = .ok (.getfield 15, 3) := by decide +kernel
theorem dX3_crossesItself_69 : decode cX3_crossesItself 69 = .ok (.iload_n 1, 1) := by decide +kernel
theorem dX3_crossesItself_70 : decode cX3_crossesItself 70 = .ok (.iaload, 1) := by decide +kernel
theorem dX3_crossesItself_71 : decode cX3_crossesItself 71 = .ok (.aload_n 0, 1) := by decide +kernel
theorem dX3_crossesItself_72 : decode cX3_crossesItself 72 = .ok (.getfield 15, 3) := by decide +kernel
theorem dX3_crossesItself_75 : decode cX3_crossesItself 75 = .ok (.iload_n 1, 1) := by decide +kernel
theorem dX3_crossesItself_76 : decode cX3_crossesItself 76 = .ok (.iconst 1, 1) := by decide +kernel
theorem dX3_crossesItself_77 : decode cX3_crossesItself 77 = .ok (.iadd, 1) := by decide +kernel
theorem dX3_crossesItself_78 : decode cX3_crossesItself 78 = .ok (.iaload, 1) := by decide +kernel
theorem dX3_crossesItself_79 : decode cX3_crossesItself 79 = .ok (.invokestatic 48, 3) := by decide +kernel
theorem dX3_crossesItself_82 : decode cX3_crossesItself 82 = .ok (.istore 5, 2) := by decide +kernel
theorem dX3_crossesItself_84 : decode cX3_crossesItself 84 = .ok (.iload_n 1, 1) := by decide +kernel
theorem dX3_crossesItself_85 : decode cX3_crossesItself 85 = .ok (.iconst 3, 1) := by decide +kernel
theorem dX3_crossesItself_86 : decode cX3_crossesItself 86 = .ok (.iadd, 1) := by decide +kernel
theorem dX3_crossesItself_87 : decode cX3_crossesItself 87 = .ok (.istore 6, 2) := by decide +kernel
theorem dX3_crossesItself_89 : decode cX3_crossesItself 89 = .ok (.iload 6, 2) := by decide +kernel
theorem dX3_crossesItself_91 : decode cX3_crossesItself 91 = .ok (.aload_n 0, 1) := by decide +kernel
theorem dX3_crossesItself_92 : decode cX3_crossesItself 92 = .ok (.getfield 21, 3) := by decide +kernel
theorem dX3_crossesItself_95 : decode cX3_crossesItself 95 = .ok (.if_icmp .ge 61, 3) := by decide +kernel
theorem dX3_crossesItself_98 : decode cX3_crossesItself 98 = .ok (.aload_n 0, 1) := by decide +kernel
theorem dX3_crossesItself_99 : decode cX3_crossesItself 99 = .ok (.getfield 9, 3) := by decide +kernel
theorem dX3_crossesItself_102 : decode cX3_crossesItself 102 = .ok (.iload 6, 2) := by decide +kernel
theorem dX3_crossesItself_104 : decode cX3_crossesItself 104 = .ok (.iaload, 1) := by decide +kernel
theorem dX3_crossesItself_105 : decode cX3_crossesItself 105 = .ok (.aload_n 0, 1) := by decide +kernel
theorem dX3_crossesItself_106 : decode cX3_crossesItself 106 = .ok (.getfield 9, 3) := by decide +kernel
theorem dX3_crossesItself_109 : decode cX3_crossesItself 109 = .ok (.iload 6, 2) := by decide +kernel
theorem dX3_crossesItself_111 : decode cX3_crossesItself 111 = .ok (.iconst 1, 1) := by decide +kernel
theorem dX3_crossesItself_112 : decode cX3_crossesItself 112 = .ok (.iadd, 1) := by decide +kernel
theorem dX3_crossesItself_113 : decode cX3_crossesItself 113 = .ok (.iaload, 1) := by decide +kernel
theorem dX3_crossesItself_114 : decode cX3_crossesItself 114 = .ok (.iload_n 2, 1) := by decide +kernel
theorem dX3_crossesItself_115 : decode cX3_crossesItself 115 = .ok (.iload_n 3, 1) := by decide +kernel
theorem dX3_crossesItself_116 : decode cX3_crossesItself 116 = .ok (.invokestatic 51, 3) := by decide +kernel
theorem dX3_crossesItself_119 : decode cX3_crossesItself 119 = .ok (.ifCond .eq 31, 3) := by decide +kernel
theorem dX3_crossesItself_122 : decode cX3_crossesItself 122 = .ok (.aload_n 0, 1) := by decide +kernel
theorem dX3_crossesItself_123 : decode cX3_crossesItself 123 = .ok (.getfield 15, 3) := by decide +kernel
theorem dX3_crossesItself_126 : decode cX3_crossesItself 126 = .ok (.iload 6, 2) := by decide +kernel
theorem dX3_crossesItself_128 : decode cX3_crossesItself 128 = .ok (.iaload, 1) := by decide +kernel
theorem dX3_crossesItself_129 : decode cX3_crossesItself 129 = .ok (.aload_n 0, 1) := by decide +kernel
theorem dX3_crossesItself_130 : decode cX3_crossesItself 130 = .ok (.getfield 15, 3) := by decide +kernel
theorem dX3_crossesItself_133 : decode cX3_crossesItself 133 = .ok (.iload 6, 2) := by decide +kernel
theorem dX3_crossesItself_135 : decode cX3_crossesItself 135 = .ok (.iconst 1, 1) := by decide +kernel
theorem dX3_crossesItself_136 : decode cX3_crossesItself 136 = .ok (.iadd, 1) := by decide +kernel
theorem dX3_crossesItself_137 : decode cX3_crossesItself 137 = .ok (.iaload, 1) := by decide +kernel
theorem dX3_crossesItself_138 : decode cX3_crossesItself 138 = .ok (.iload 4, 2) := by decide +kernel
theorem dX3_crossesItself_140 : decode cX3_crossesItself 140 = .ok (.iload 5, 2) := by decide +kernel
theorem dX3_crossesItself_142 : decode cX3_crossesItself 142 = .ok (.invokestatic 51, 3) := by decide +kernel
theorem dX3_crossesItself_145 : decode cX3_crossesItself 145 = .ok (.ifCond .eq 5, 3) := by decide +kernel
theorem dX3_crossesItself_148 : decode cX3_crossesItself 148 = .ok (.iconst 1, 1) := by decide +kernel
theorem dX3_crossesItself_149 : decode cX3_crossesItself 149 = .ok (.ireturn, 1) := by decide +kernel
theorem dX3_crossesItself_150 : decode cX3_crossesItself 150 = .ok (.iinc 6 1, 3) := by decide +kernel
theorem dX3_crossesItself_153 : decode cX3_crossesItself 153 = .ok (.goto (-64), 3) := by decide +kernel
theorem dX3_crossesItself_156 : decode cX3_crossesItself 156 = .ok (.iinc 1 1, 3) := by decide +kernel
theorem dX3_crossesItself_159 : decode cX3_crossesItself 159 = .ok (.goto (-157), 3) := by decide +kernel
theorem dX3_crossesItself_162 : decode cX3_crossesItself 162 = .ok (.iconst 0, 1) := by decide +kernel
theorem dX3_crossesItself_163 : decode cX3_crossesItself 163 = .ok (.ireturn, 1) := by decide +kernel
set_option maxRecDepth 20000 in
theorem ggX3_pressHit_X3_reaches : GoodIn wsX3_pressHit wsX3_reaches := goodIn_r _ [17] (by decide +kernel) (by decide +kernel)
set_option maxRecDepth 20000 in
theorem gX3_pressHit_X3_reaches : GoodIn wsX3_pressHit (va_wsS RX3 51 yX3_reaches wsX3_reaches) := goodIn_app (goodIn_of _ (by decide +kernel)) ggX3_pressHit_X3_reaches
theorem dX3_pressHit_0 : decode cX3_pressHit 0 = .ok (.aload_n 1, 1) := by decide +kernel
theorem dX3_pressHit_1 : decode cX3_pressHit 1 = .ok (.getfield 39, 3) := by decide +kernel
theorem dX3_pressHit_4 : decode cX3_pressHit 4 = .ok (.iload_n 2, 1) := by decide +kernel
theorem dX3_pressHit_5 : decode cX3_pressHit 5 = .ok (.iaload, 1) := by decide +kernel
theorem dX3_pressHit_6 : decode cX3_pressHit 6 = .ok (.istore_n 3, 1) := by decide +kernel
theorem dX3_pressHit_7 : decode cX3_pressHit 7 = .ok (.getstatic 33, 3) := by decide +kernel
theorem dX3_pressHit_10 : decode cX3_pressHit 10 = .ok (.aload_n 0, 1) := by decide +kernel
theorem dX3_pressHit_11 : decode cX3_pressHit 11 = .ok (.getfield 18, 3) := by decide +kernel
theorem dX3_pressHit_14 : decode cX3_pressHit 14 = .ok (.iload_n 2, 1) := by decide +kernel
theorem dX3_pressHit_15 : decode cX3_pressHit 15 = .ok (.iconst 1, 1) := by decide +kernel
theorem dX3_pressHit_16 : decode cX3_pressHit 16 = .ok (.iadd, 1) := by decide +kernel
theorem dX3_pressHit_17 : decode cX3_pressHit 17 = .ok (.iaload, 1) := by decide +kernel
theorem dX3_pressHit_18 : decode cX3_pressHit 18 = .ok (.iaload, 1) := by decide +kernel
theorem dX3_pressHit_19 : decode cX3_pressHit 19 = .ok (.istore 4, 2) := by decide +kernel
theorem dX3_pressHit_21 : decode cX3_pressHit 21 = .ok (.getstatic 36, 3) := by decide +kernel
theorem dX3_pressHit_24 : decode cX3_pressHit 24 = .ok (.aload_n 0, 1) := by decide +kernel
theorem dX3_pressHit_25 : decode cX3_pressHit 25 = .ok (.getfield 18, 3) := by decide +kernel
theorem dX3_pressHit_28 : decode cX3_pressHit 28 = .ok (.iload_n 2, 1) := by decide +kernel
theorem dX3_pressHit_29 : decode cX3_pressHit 29 = .ok (.iconst 1, 1) := by decide +kernel
theorem dX3_pressHit_30 : decode cX3_pressHit 30 = .ok (.iadd, 1) := by decide +kernel
theorem dX3_pressHit_31 : decode cX3_pressHit 31 = .ok (.iaload, 1) := by decide +kernel
theorem dX3_pressHit_32 : decode cX3_pressHit 32 = .ok (.iaload, 1) := by decide +kernel
theorem dX3_pressHit_33 : decode cX3_pressHit 33 = .ok (.istore 5, 2) := by decide +kernel
theorem dX3_pressHit_35 : decode cX3_pressHit 35 = .ok (.iconst 0, 1) := by decide +kernel
theorem dX3_pressHit_36 : decode cX3_pressHit 36 = .ok (.istore 6, 2) := by decide +kernel
theorem dX3_pressHit_38 : decode cX3_pressHit 38 = .ok (.iconst 0, 1) := by decide +kernel
theorem dX3_pressHit_39 : decode cX3_pressHit 39 = .ok (.istore 7, 2) := by decide +kernel
theorem dX3_pressHit_41 : decode cX3_pressHit 41 = .ok (.iconst 0, 1) := by decide +kernel
theorem dX3_pressHit_42 : decode cX3_pressHit 42 = .ok (.istore 8, 2) := by decide +kernel
theorem dX3_pressHit_44 : decode cX3_pressHit 44 = .ok (.iconst 0, 1) := by decide +kernel
theorem dX3_pressHit_45 : decode cX3_pressHit 45 = .ok (.istore 9, 2) := by decide +kernel
theorem dX3_pressHit_47 : decode cX3_pressHit 47 = .ok (.iload 9, 2) := by decide +kernel
theorem dX3_pressHit_49 : decode cX3_pressHit 49 = .ok (.aload_n 0, 1) := by decide +kernel
theorem dX3_pressHit_50 : decode cX3_pressHit 50 = .ok (.getfield 21, 3) := by decide +kernel
theorem dX3_pressHit_53 : decode cX3_pressHit 53 = .ok (.if_icmp .gt 159, 3) := by decide +kernel
theorem dX3_pressHit_56 : decode cX3_pressHit 56 = .ok (.aload_n 0, 1) := by decide +kernel
theorem dX3_pressHit_57 : decode cX3_pressHit 57 = .ok (.getfield 9, 3) := by decide +kernel
theorem dX3_pressHit_60 : decode cX3_pressHit 60 = .ok (.iload 9, 2) := by decide +kernel
theorem dX3_pressHit_62 : decode cX3_pressHit 62 = .ok (.iaload, 1) := by decide +kernel
theorem dX3_pressHit_63 : decode cX3_pressHit 63 = .ok (.aload_n 0, 1) := by decide +kernel
theorem dX3_pressHit_64 : decode cX3_pressHit 64 = .ok (.getfield 9, 3) := by decide +kernel
theorem dX3_pressHit_67 : decode cX3_pressHit 67 = .ok (.iload_n 2, 1) := by decide +kernel
theorem dX3_pressHit_68 : decode cX3_pressHit 68 = .ok (.iconst 1, 1) := by decide +kernel
theorem dX3_pressHit_69 : decode cX3_pressHit 69 = .ok (.iadd, 1) := by decide +kernel
theorem dX3_pressHit_70 : decode cX3_pressHit 70 = .ok (.iaload, 1) := by decide +kernel
theorem dX3_pressHit_71 : decode cX3_pressHit 71 = .ok (.isub, 1) := by decide +kernel
theorem dX3_pressHit_72 : decode cX3_pressHit 72 = .ok (.istore 10, 2) := by decide +kernel
theorem dX3_pressHit_74 : decode cX3_pressHit 74 = .ok (.aload_n 0, 1) := by decide +kernel
theorem dX3_pressHit_75 : decode cX3_pressHit 75 = .ok (.getfield 15, 3) := by decide +kernel
theorem dX3_pressHit_78 : decode cX3_pressHit 78 = .ok (.iload 9, 2) := by decide +kernel
theorem dX3_pressHit_80 : decode cX3_pressHit 80 = .ok (.iaload, 1) := by decide +kernel
theorem dX3_pressHit_81 : decode cX3_pressHit 81 = .ok (.aload_n 0, 1) := by decide +kernel
theorem dX3_pressHit_82 : decode cX3_pressHit 82 = .ok (.getfield 15, 3) := by decide +kernel
theorem dX3_pressHit_85 : decode cX3_pressHit 85 = .ok (.iload_n 2, 1) := by decide +kernel
theorem dX3_pressHit_86 : decode cX3_pressHit 86 = .ok (.iconst 1, 1) := by decide +kernel
theorem dX3_pressHit_87 : decode cX3_pressHit 87 = .ok (.iadd, 1) := by decide +kernel
theorem dX3_pressHit_88 : decode cX3_pressHit 88 = .ok (.iaload, 1) := by decide +kernel
theorem dX3_pressHit_89 : decode cX3_pressHit 89 = .ok (.isub, 1) := by decide +kernel
theorem dX3_pressHit_90 : decode cX3_pressHit 90 = .ok (.istore 11, 2) := by decide +kernel
theorem dX3_pressHit_92 : decode cX3_pressHit 92 = .ok (.iload 10, 2) := by decide +kernel
theorem dX3_pressHit_94 : decode cX3_pressHit 94 = .ok (.iload 4, 2) := by decide +kernel
theorem dX3_pressHit_96 : decode cX3_pressHit 96 = .ok (.imul, 1) := by decide +kernel
theorem dX3_pressHit_97 : decode cX3_pressHit 97 = .ok (.iload 11, 2) := by decide +kernel
theorem dX3_pressHit_99 : decode cX3_pressHit 99 = .ok (.iload 5, 2) := by decide +kernel
theorem dX3_pressHit_101 : decode cX3_pressHit 101 = .ok (.imul, 1) := by decide +kernel
theorem dX3_pressHit_102 : decode cX3_pressHit 102 = .ok (.iadd, 1) := by decide +kernel
theorem dX3_pressHit_103 : decode cX3_pressHit 103 = .ok (.istore 12, 2) := by decide +kernel
theorem dX3_pressHit_105 : decode cX3_pressHit 105 = .ok (.iload_n 3, 1) := by decide +kernel
theorem dX3_pressHit_106 : decode cX3_pressHit 106 = .ok (.iload 11, 2) := by decide +kernel
theorem dX3_pressHit_108 : decode cX3_pressHit 108 = .ok (.iload 4, 2) := by decide +kernel
theorem dX3_pressHit_110 : decode cX3_pressHit 110 = .ok (.imul, 1) := by decide +kernel
theorem dX3_pressHit_111 : decode cX3_pressHit 111 = .ok (.iload 10, 2) := by decide +kernel
theorem dX3_pressHit_113 : decode cX3_pressHit 113 = .ok (.iload 5, 2) := by decide +kernel
theorem dX3_pressHit_115 : decode cX3_pressHit 115 = .ok (.imul, 1) := by decide +kernel
theorem dX3_pressHit_116 : decode cX3_pressHit 116 = .ok (.isub, 1) := by decide +kernel
theorem dX3_pressHit_117 : decode cX3_pressHit 117 = .ok (.imul, 1) := by decide +kernel
theorem dX3_pressHit_118 : decode cX3_pressHit 118 = .ok (.istore 13, 2) := by decide +kernel
theorem dX3_pressHit_120 : decode cX3_pressHit 120 = .ok (.iload 9, 2) := by decide +kernel
theorem dX3_pressHit_122 : decode cX3_pressHit 122 = .ok (.ifCond .le 34, 3) := by decide +kernel
theorem dX3_pressHit_125 : decode cX3_pressHit 125 = .ok (.iload 8, 2) := by decide +kernel
theorem dX3_pressHit_127 : decode cX3_pressHit 127 = .ok (.iload 13, 2) := by decide +kernel
theorem dX3_pressHit_129 : decode cX3_pressHit 129 = .ok (.invokestatic 42, 3) := by decide +kernel
theorem dX3_pressHit_132 : decode cX3_pressHit 132 = .ok (.ifCond .ge 24, 3) := by decide +kernel
theorem dX3_pressHit_135 : decode cX3_pressHit 135 = .ok (.iload 7, 2) := by decide +kernel
theorem dX3_pressHit_137 : decode cX3_pressHit 137 = .ok (.iload 12, 2) := by decide +kernel
theorem dX3_pressHit_139 : decode cX3_pressHit 139 = .ok (.aload_n 1, 1) := by decide +kernel
theorem dX3_pressHit_140 : decode cX3_pressHit 140 = .ok (.getfield 55, 3) := by decide +kernel
theorem dX3_pressHit_143 : decode cX3_pressHit 143 = .ok (.ineg, 1) := by decide +kernel
theorem dX3_pressHit_144 : decode cX3_pressHit 144 = .ok (.aload_n 1, 1) := by decide +kernel
theorem dX3_pressHit_145 : decode cX3_pressHit 145 = .ok (.getfield 55, 3) := by decide +kernel
theorem dX3_pressHit_148 : decode cX3_pressHit 148 = .ok (.invokestatic 51, 3) := by decide +kernel
theorem dX3_pressHit_151 : decode cX3_pressHit 151 = .ok (.ifCond .eq 5, 3) := by decide +kernel
theorem dX3_pressHit_154 : decode cX3_pressHit 154 = .ok (.iconst 1, 1) := by decide +kernel
theorem dX3_pressHit_155 : decode cX3_pressHit 155 = .ok (.ireturn, 1) := by decide +kernel
theorem dX3_pressHit_156 : decode cX3_pressHit 156 = .ok (.iload 9, 2) := by decide +kernel
theorem dX3_pressHit_158 : decode cX3_pressHit 158 = .ok (.ifCond .le 40, 3) := by decide +kernel
theorem dX3_pressHit_161 : decode cX3_pressHit 161 = .ok (.aload_n 1, 1) := by decide +kernel
theorem dX3_pressHit_162 : decode cX3_pressHit 162 = .ok (.getfield 58, 3) := by decide +kernel
theorem dX3_pressHit_165 : decode cX3_pressHit 165 = .ok (.ifCond .le 33, 3) := by decide +kernel
theorem dX3_pressHit_168 : decode cX3_pressHit 168 = .ok (.iload 7, 2) := by decide +kernel
theorem dX3_pressHit_170 : decode cX3_pressHit 170 = .ok (.iload 12, 2) := by decide +kernel
theorem dX3_pressHit_172 : decode cX3_pressHit 172 = .ok (.iconst 0, 1) := by decide +kernel
theorem dX3_pressHit_173 : decode cX3_pressHit 173 = .ok (.iconst 0, 1) := by decide +kernel
theorem dX3_pressHit_174 : decode cX3_pressHit 174 = .ok (.invokestatic 51, 3) := by decide +kernel
theorem dX3_pressHit_177 : decode cX3_pressHit 177 = .ok (.ifCond .eq 21, 3) := by decide +kernel
theorem dX3_pressHit_180 : decode cX3_pressHit 180 = .ok (.iload 8, 2) := by decide +kernel
theorem dX3_pressHit_182 : decode cX3_pressHit 182 = .ok (.iload 13, 2) := by decide +kernel
theorem dX3_pressHit_184 : decode cX3_pressHit 184 = .ok (.iconst 1, 1) := by decide +kernel
theorem dX3_pressHit_185 : decode cX3_pressHit 185 = .ok (.aload_n 1, 1) := by decide +kernel
theorem dX3_pressHit_186 : decode cX3_pressHit 186 = .ok (.getfield 58, 3) := by decide +kernel
theorem dX3_pressHit_189 : decode cX3_pressHit 189 = .ok (.invokestatic 51, 3) := by decide +kernel
theorem dX3_pressHit_192 : decode cX3_pressHit 192 = .ok (.ifCond .eq 6, 3) := by decide +kernel
theorem dX3_pressHit_195 : decode cX3_pressHit 195 = .ok (.iconst 1, 1) := by decide +kernel
theorem dX3_pressHit_196 : decode cX3_pressHit 196 = .ok (.istore 6, 2) := by decide +kernel
theorem dX3_pressHit_198 : decode cX3_pressHit 198 = .ok (.iload 12, 2) := by decide +kernel
theorem dX3_pressHit_200 : decode cX3_pressHit 200 = .ok (.istore 7, 2) := by decide +kernel
theorem dX3_pressHit_202 : decode cX3_pressHit 202 = .ok (.iload 13, 2) := by decide +kernel
theorem dX3_pressHit_204 : decode cX3_pressHit 204 = .ok (.istore 8, 2) := by decide +kernel
theorem dX3_pressHit_206 : decode cX3_pressHit 206 = .ok (.iinc 9 1, 3) := by decide +kernel
theorem dX3_pressHit_209 : decode cX3_pressHit 209 = .ok (.goto (-162), 3) := by decide +kernel
theorem dX3_pressHit_212 : decode cX3_pressHit 212 = .ok (.iload 6, 2) := by decide +kernel
theorem dX3_pressHit_214 : decode cX3_pressHit 214 = .ok (.ifCond .eq 7, 3) := by decide +kernel
theorem dX3_pressHit_217 : decode cX3_pressHit 217 = .ok (.iconst 2, 1) := by decide +kernel
theorem dX3_pressHit_218 : decode cX3_pressHit 218 = .ok (.goto 4, 3) := by decide +kernel
theorem dX3_pressHit_221 : decode cX3_pressHit 221 = .ok (.iconst 0, 1) := by decide +kernel
theorem dX3_pressHit_222 : decode cX3_pressHit 222 = .ok (.ireturn, 1) := by decide +kernel
theorem dX3_reaches_0 : decode cX3_reaches 0 = .ok (.iload_n 0, 1) := by decide +kernel
theorem dX3_reaches_1 : decode cX3_reaches 1 = .ok (.iload_n 3, 1) := by decide +kernel
theorem dX3_reaches_2 : decode cX3_reaches 2 = .ok (.if_icmp .le 8, 3) := by decide +kernel
theorem dX3_reaches_5 : decode cX3_reaches 5 = .ok (.iload_n 1, 1) := by decide +kernel
theorem dX3_reaches_6 : decode cX3_reaches 6 = .ok (.iload_n 3, 1) := by decide +kernel
theorem dX3_reaches_7 : decode cX3_reaches 7 = .ok (.if_icmp .gt 17, 3) := by decide +kernel
theorem dX3_reaches_10 : decode cX3_reaches 10 = .ok (.iload_n 0, 1) := by decide +kernel
theorem dX3_reaches_11 : decode cX3_reaches 11 = .ok (.iload_n 2, 1) := by decide +kernel
theorem dX3_reaches_12 : decode cX3_reaches 12 = .ok (.if_icmp .ge 8, 3) := by decide +kernel
theorem dX3_reaches_15 : decode cX3_reaches 15 = .ok (.iload_n 1, 1) := by decide +kernel
theorem dX3_reaches_16 : decode cX3_reaches 16 = .ok (.iload_n 2, 1) := by decide +kernel
theorem dX3_reaches_17 : decode cX3_reaches 17 = .ok (.if_icmp .lt 7, 3) := by decide +kernel
theorem dX3_reaches_20 : decode cX3_reaches 20 = .ok (.iconst 1, 1) := by decide +kernel
theorem dX3_reaches_21 : decode cX3_reaches 21 = .ok (.goto 4, 3) := by decide +kernel
theorem dX3_reaches_24 : decode cX3_reaches 24 = .ok (.iconst 0, 1) := by decide +kernel
theorem dX3_reaches_25 : decode cX3_reaches 25 = .ok (.ireturn, 1) := by decide +kernel
theorem dX4_init_0 : decode cX4_init 0 = .ok (.aload_n 0, 1) := by decide +kernel
theorem dX4_init_1 : decode cX4_init 1 = .ok (.invokespecial 3, 3) := by decide +kernel
theorem dX4_init_4 : decode cX4_init 4 = .ok (.aload_n 0, 1) := by decide +kernel
theorem dX4_init_5 : decode cX4_init 5 = .ok (.bipush 7, 2) := by decide +kernel
theorem dX4_init_7 : decode cX4_init 7 = .ok (.newarray .int, 2) := by decide +kernel
theorem dX4_init_9 : decode cX4_init 9 = .ok (.putfield 9, 3) := by decide +kernel
theorem dX4_init_12 : decode cX4_init 12 = .ok (.aload_n 0, 1) := by decide +kernel
theorem dX4_init_13 : decode cX4_init 13 = .ok (.bipush 6, 2) := by decide +kernel
theorem dX4_init_15 : decode cX4_init 15 = .ok (.newarray .int, 2) := by decide +kernel
theorem dX4_init_17 : decode cX4_init 17 = .ok (.putfield 15, 3) := by decide +kernel
theorem dX4_init_20 : decode cX4_init 20 = .ok (.aload_n 0, 1) := by decide +kernel
theorem dX4_init_21 : decode cX4_init 21 = .ok (.bipush 6, 2) := by decide +kernel
theorem dX4_init_23 : decode cX4_init 23 = .ok (.newarray .int, 2) := by decide +kernel
theorem dX4_init_25 : decode cX4_init 25 = .ok (.putfield 18, 3) := by decide +kernel
theorem dX4_init_28 : decode cX4_init 28 = .ok (.aload_n 0, 1) := by decide +kernel
theorem dX4_init_29 : decode cX4_init 29 = .ok (.iconst 3, 1) := by decide +kernel
theorem dX4_init_30 : decode cX4_init 30 = .ok (.newarray .int, 2) := by decide +kernel
theorem dX4_init_32 : decode cX4_init 32 = .ok (.dup, 1) := by decide +kernel
theorem dX4_init_33 : decode cX4_init 33 = .ok (.iconst 0, 1) := by decide +kernel
theorem dX4_init_34 : decode cX4_init 34 = .ok (.iconst 3, 1) := by decide +kernel
theorem dX4_init_35 : decode cX4_init 35 = .ok (.iastore, 1) := by decide +kernel
theorem dX4_init_36 : decode cX4_init 36 = .ok (.dup, 1) := by decide +kernel
theorem dX4_init_37 : decode cX4_init 37 = .ok (.iconst 1, 1) := by decide +kernel
theorem dX4_init_38 : decode cX4_init 38 = .ok (.iconst 5, 1) := by decide +kernel
theorem dX4_init_39 : decode cX4_init 39 = .ok (.iastore, 1) := by decide +kernel
theorem dX4_init_40 : decode cX4_init 40 = .ok (.dup, 1) := by decide +kernel
theorem dX4_init_41 : decode cX4_init 41 = .ok (.iconst 2, 1) := by decide +kernel
theorem dX4_init_42 : decode cX4_init 42 = .ok (.bipush 8, 2) := by decide +kernel
theorem dX4_init_44 : decode cX4_init 44 = .ok (.iastore, 1) := by decide +kernel
theorem dX4_init_45 : decode cX4_init 45 = .ok (.putfield 21, 3) := by decide +kernel
theorem dX4_init_48 : decode cX4_init 48 = .ok (.aload_n 0, 1) := by decide +kernel
theorem dX4_init_49 : decode cX4_init 49 = .ok (.getfield 9, 3) := by decide +kernel
theorem dX4_init_52 : decode cX4_init 52 = .ok (.iconst 0, 1) := by decide +kernel
theorem dX4_init_53 : decode cX4_init 53 = .ok (.iconst 5, 1) := by decide +kernel
theorem dX4_init_54 : decode cX4_init 54 = .ok (.iastore, 1) := by decide +kernel
theorem dX4_init_55 : decode cX4_init 55 = .ok (.aload_n 0, 1) := by decide +kernel
theorem dX4_init_56 : decode cX4_init 56 = .ok (.iconst 0, 1) := by decide +kernel
theorem dX4_init_57 : decode cX4_init 57 = .ok (.putfield 24, 3) := by decide +kernel
theorem dX4_init_60 : decode cX4_init 60 = .ok (.aload_n 0, 1) := by decide +kernel
theorem dX4_init_61 : decode cX4_init 61 = .ok (.iconst 0, 1) := by decide +kernel
theorem dX4_init_62 : decode cX4_init 62 = .ok (.putfield 28, 3) := by decide +kernel
theorem dX4_init_65 : decode cX4_init 65 = .ok (.aload_n 0, 1) := by decide +kernel
theorem dX4_init_66 : decode cX4_init 66 = .ok (.iconst 2, 1) := by decide +kernel
theorem dX4_init_67 : decode cX4_init 67 = .ok (.putfield 31, 3) := by decide +kernel
theorem dX4_init_70 : decode cX4_init 70 = .ok (.aload_n 0, 1) := by decide +kernel
theorem dX4_init_71 : decode cX4_init 71 = .ok (.bipush 8, 2) := by decide +kernel
theorem dX4_init_73 : decode cX4_init 73 = .ok (.putfield 34, 3) := by decide +kernel
theorem dX4_init_76 : decode cX4_init 76 = .ok (.return_, 1) := by decide +kernel
theorem dX4_copyFrom_0 : decode cX4_copyFrom 0 = .ok (.aload_n 1, 1) := by decide +kernel
theorem dX4_copyFrom_1 : decode cX4_copyFrom 1 = .ok (.getfield 9, 3) := by decide +kernel
theorem dX4_copyFrom_4 : decode cX4_copyFrom 4 = .ok (.iconst 0, 1) := by decide +kernel
theorem dX4_copyFrom_5 : decode cX4_copyFrom 5 = .ok (.aload_n 0, 1) := by decide +kernel
theorem dX4_copyFrom_6 : decode cX4_copyFrom 6 = .ok (.getfield 9, 3) := by decide +kernel
theorem dX4_copyFrom_9 : decode cX4_copyFrom 9 = .ok (.iconst 0, 1) := by decide +kernel
theorem dX4_copyFrom_10 : decode cX4_copyFrom 10 = .ok (.bipush 7, 2) := by decide +kernel
theorem dX4_copyFrom_12 : decode cX4_copyFrom 12 = .ok (.invokestatic 37, 3) := by decide +kernel
theorem dX4_copyFrom_15 : decode cX4_copyFrom 15 = .ok (.aload_n 1, 1) := by decide +kernel
theorem dX4_copyFrom_16 : decode cX4_copyFrom 16 = .ok (.getfield 15, 3) := by decide +kernel
theorem dX4_copyFrom_19 : decode cX4_copyFrom 19 = .ok (.iconst 0, 1) := by decide +kernel
theorem dX4_copyFrom_20 : decode cX4_copyFrom 20 = .ok (.aload_n 0, 1) := by decide +kernel
theorem dX4_copyFrom_21 : decode cX4_copyFrom 21 = .ok (.getfield 15, 3) := by decide +kernel
theorem dX4_copyFrom_24 : decode cX4_copyFrom 24 = .ok (.iconst 0, 1) := by decide +kernel
theorem dX4_copyFrom_25 : decode cX4_copyFrom 25 = .ok (.bipush 6, 2) := by decide +kernel
theorem dX4_copyFrom_27 : decode cX4_copyFrom 27 = .ok (.invokestatic 37, 3) := by decide +kernel
theorem dX4_copyFrom_30 : decode cX4_copyFrom 30 = .ok (.aload_n 1, 1) := by decide +kernel
theorem dX4_copyFrom_31 : decode cX4_copyFrom 31 = .ok (.getfield 18, 3) := by decide +kernel
theorem dX4_copyFrom_34 : decode cX4_copyFrom 34 = .ok (.iconst 0, 1) := by decide +kernel
theorem dX4_copyFrom_35 : decode cX4_copyFrom 35 = .ok (.aload_n 0, 1) := by decide +kernel
theorem dX4_copyFrom_36 : decode cX4_copyFrom 36 = .ok (.getfield 18, 3) := by decide +kernel
theorem dX4_copyFrom_39 : decode cX4_copyFrom 39 = .ok (.iconst 0, 1) := by decide +kernel
theorem dX4_copyFrom_40 : decode cX4_copyFrom 40 = .ok (.bipush 6, 2) := by decide +kernel
theorem dX4_copyFrom_42 : decode cX4_copyFrom 42 = .ok (.invokestatic 37, 3) := by decide +kernel
theorem dX4_copyFrom_45 : decode cX4_copyFrom 45 = .ok (.aload_n 1, 1) := by decide +kernel
theorem dX4_copyFrom_46 : decode cX4_copyFrom 46 = .ok (.getfield 21, 3) := by decide +kernel
theorem dX4_copyFrom_49 : decode cX4_copyFrom 49 = .ok (.iconst 0, 1) := by decide +kernel
theorem dX4_copyFrom_50 : decode cX4_copyFrom 50 = .ok (.aload_n 0, 1) := by decide +kernel
theorem dX4_copyFrom_51 : decode cX4_copyFrom 51 = .ok (.getfield 21, 3) := by decide +kernel
theorem dX4_copyFrom_54 : decode cX4_copyFrom 54 = .ok (.iconst 0, 1) := by decide +kernel
theorem dX4_copyFrom_55 : decode cX4_copyFrom 55 = .ok (.iconst 3, 1) := by decide +kernel
theorem dX4_copyFrom_56 : decode cX4_copyFrom 56 = .ok (.invokestatic 37, 3) := by decide +kernel
theorem dX4_copyFrom_59 : decode cX4_copyFrom 59 = .ok (.aload_n 0, 1) := by decide +kernel
theorem dX4_copyFrom_60 : decode cX4_copyFrom 60 = .ok (.aload_n 1, 1) := by decide +kernel
theorem dX4_copyFrom_61 : decode cX4_copyFrom 61 = .ok (.getfield 24, 3) := by decide +kernel
theorem dX4_copyFrom_64 : decode cX4_copyFrom 64 = .ok (.putfield 24, 3) := by decide +kernel
theorem dX4_copyFrom_67 : decode cX4_copyFrom 67 = .ok (.aload_n 0, 1) := by decide +kernel
theorem dX4_copyFrom_68 : decode cX4_copyFrom 68 = .ok (.aload_n 1, 1) := by decide +kernel
theorem dX4_copyFrom_69 : decode cX4_copyFrom 69 = .ok (.getfield 28, 3) := by decide +kernel
theorem dX4_copyFrom_72 : decode cX4_copyFrom 72 = .ok (.putfield 28, 3) := by decide +kernel
theorem dX4_copyFrom_75 : decode cX4_copyFrom 75 = .ok (.aload_n 0, 1) := by decide +kernel
theorem dX4_copyFrom_76 : decode cX4_copyFrom 76 = .ok (.aload_n 1, 1) := by decide +kernel
theorem dX4_copyFrom_77 : decode cX4_copyFrom 77 = .ok (.getfield 31, 3) := by decide +kernel
theorem dX4_copyFrom_80 : decode cX4_copyFrom 80 = .ok (.putfield 31, 3) := by decide +kernel
theorem dX4_copyFrom_83 : decode cX4_copyFrom 83 = .ok (.aload_n 0, 1) := by decide +kernel
theorem dX4_copyFrom_84 : decode cX4_copyFrom 84 = .ok (.aload_n 1, 1) := by decide +kernel
theorem dX4_copyFrom_85 : decode cX4_copyFrom 85 = .ok (.getfield 34, 3) := by decide +kernel
theorem dX4_copyFrom_88 : decode cX4_copyFrom 88 = .ok (.putfield 34, 3) := by decide +kernel
theorem dX4_copyFrom_91 : decode cX4_copyFrom 91 = .ok (.return_, 1) := by decide +kernel
theorem dX4_hasBend_0 : decode cX4_hasBend 0 = .ok (.iload_n 1, 1) := by decide +kernel
theorem dX4_hasBend_1 : decode cX4_hasBend 1 = .ok (.ifCond .lt 15, 3) := by decide +kernel
theorem dX4_hasBend_4 : decode cX4_hasBend 4 = .ok (.iload_n 1, 1) := by decide +kernel
theorem dX4_hasBend_5 : decode cX4_hasBend 5 = .ok (.aload_n 0, 1) := by decide +kernel
theorem dX4_hasBend_6 : decode cX4_hasBend 6 = .ok (.getfield 24, 3) := by decide +kernel
theorem dX4_hasBend_9 : decode cX4_hasBend 9 = .ok (.if_icmp .ge 7, 3) := by decide +kernel
theorem dX4_hasBend_12 : decode cX4_hasBend 12 = .ok (.iconst 1, 1) := by decide +kernel
theorem dX4_hasBend_13 : decode cX4_hasBend 13 = .ok (.goto 4, 3) := by decide +kernel
theorem dX4_hasBend_16 : decode cX4_hasBend 16 = .ok (.iconst 0, 1) := by decide +kernel
theorem dX4_hasBend_17 : decode cX4_hasBend 17 = .ok (.ireturn, 1) := by decide +kernel
theorem dX4_isMade_0 : decode cX4_isMade 0 = .ok (.aload_n 0, 1) := by decide +kernel
theorem dX4_isMade_1 : decode cX4_isMade 1 = .ok (.getfield 28, 3) := by decide +kernel
theorem dX4_isMade_4 : decode cX4_isMade 4 = .ok (.iload_n 1, 1) := by decide +kernel
theorem dX4_isMade_5 : decode cX4_isMade 5 = .ok (.ishr, 1) := by decide +kernel
theorem dX4_isMade_6 : decode cX4_isMade 6 = .ok (.iconst 1, 1) := by decide +kernel
theorem dX4_isMade_7 : decode cX4_isMade 7 = .ok (.iand, 1) := by decide +kernel
theorem dX4_isMade_8 : decode cX4_isMade 8 = .ok (.iconst 1, 1) := by decide +kernel
theorem dX4_isMade_9 : decode cX4_isMade 9 = .ok (.if_icmp .ne 7, 3) := by decide +kernel
theorem dX4_isMade_12 : decode cX4_isMade 12 = .ok (.iconst 1, 1) := by decide +kernel
theorem dX4_isMade_13 : decode cX4_isMade 13 = .ok (.goto 4, 3) := by decide +kernel
theorem dX4_isMade_16 : decode cX4_isMade 16 = .ok (.iconst 0, 1) := by decide +kernel
theorem dX4_isMade_17 : decode cX4_isMade 17 = .ok (.ireturn, 1) := by decide +kernel
theorem dX4_allBends_0 : decode cX4_allBends 0 = .ok (.iconst 1, 1) := by decide +kernel
theorem dX4_allBends_1 : decode cX4_allBends 1 = .ok (.aload_n 0, 1) := by decide +kernel
theorem dX4_allBends_2 : decode cX4_allBends 2 = .ok (.getfield 24, 3) := by decide +kernel
theorem dX4_allBends_5 : decode cX4_allBends 5 = .ok (.ishl, 1) := by decide +kernel
theorem dX4_allBends_6 : decode cX4_allBends 6 = .ok (.iconst 1, 1) := by decide +kernel
theorem dX4_allBends_7 : decode cX4_allBends 7 = .ok (.isub, 1) := by decide +kernel
theorem dX4_allBends_8 : decode cX4_allBends 8 = .ok (.ireturn, 1) := by decide +kernel
theorem dX4_allLengths_0 : decode cX4_allLengths 0 = .ok (.iconst 0, 1) := by decide +kernel
theorem dX4_allLengths_1 : decode cX4_allLengths 1 = .ok (.istore_n 1, 1) := by decide +kernel
theorem dX4_allLengths_2 : decode cX4_allLengths 2 = .ok (.iconst 0, 1) := by decide +kernel
theorem dX4_allLengths_3 : decode cX4_allLengths 3 = .ok (.istore_n 2, 1) := by decide +kernel
theorem dX4_allLengths_4 : decode cX4_allLengths 4 = .ok (.iload_n 2, 1) := by decide +kernel
theorem dX4_allLengths_5 : decode cX4_allLengths 5 = .ok (.aload_n 0, 1) := by decide +kernel
theorem dX4_allLengths_6 : decode cX4_allLengths 6 = .ok (.getfield 24, 3) := by decide +kernel
theorem dX4_allLengths_9 : decode cX4_allLengths 9 = .ok (.if_icmp .gt 18, 3) := by decide +kernel
theorem dX4_allLengths_12 : decode cX4_allLengths 12 = .ok (.iload_n 1, 1) := by decide +kernel
theorem dX4_allLengths_13 : decode cX4_allLengths 13 = .ok (.aload_n 0, 1) := by decide +kernel
theorem dX4_allLengths_14 : decode cX4_allLengths 14 = .ok (.getfield 9, 3) := by decide +kernel
theorem dX4_allLengths_17 : decode cX4_allLengths 17 = .ok (.iload_n 2, 1) := by decide +kernel
theorem dX4_allLengths_18 : decode cX4_allLengths 18 = .ok (.iaload, 1) := by decide +kernel
theorem dX4_allLengths_19 : decode cX4_allLengths 19 = .ok (.iadd, 1) := by decide +kernel
theorem dX4_allLengths_20 : decode cX4_allLengths 20 = .ok (.istore_n 1, 1) := by decide +kernel
theorem dX4_allLengths_21 : decode cX4_allLengths 21 = .ok (.iinc 2 1, 3) := by decide +kernel
theorem dX4_allLengths_24 : decode cX4_allLengths 24 = .ok (.goto (-20), 3) := by decide +kernel
theorem dX4_allLengths_27 : decode cX4_allLengths 27 = .ok (.iload_n 1, 1) := by decide +kernel
theorem dX4_allLengths_28 : decode cX4_allLengths 28 = .ok (.ireturn, 1) := by decide +kernel
set_option maxRecDepth 20000 in
theorem ggX4_lengthLess_X4_allLengths : GoodIn wsX4_lengthLess wsX4_allLengths := goodIn_r _ [8, 1, 9, 10, 11, 12, 13, 14, 15, 16, 17] (by decide +kernel) (by decide +kernel)
set_option maxRecDepth 20000 in
theorem gX4_lengthLess_X4_allLengths : GoodIn wsX4_lengthLess (wsV RX4 43 RX4 yX4_allLengths wsX4_allLengths) := goodIn_app (goodIn_of _ (by decide +kernel)) ggX4_lengthLess_X4_allLengths
theorem dX4_lengthLess_0 : decode cX4_lengthLess 0 = .ok (.bipush 10, 2) := by decide +kernel
theorem dX4_lengthLess_2 : decode cX4_lengthLess 2 = .ok (.aload_n 0, 1) := by decide +kernel
theorem dX4_lengthLess_3 : decode cX4_lengthLess 3 = .ok (.invokevirtual 43, 3) := by decide +kernel
theorem dX4_lengthLess_6 : decode cX4_lengthLess 6 = .ok (.imul, 1) := by decide +kernel
theorem dX4_lengthLess_7 : decode cX4_lengthLess 7 = .ok (.istore_n 2, 1) := by decide +kernel
theorem dX4_lengthLess_8 : decode cX4_lengthLess 8 = .ok (.iconst 0, 1) := by decide +kernel
theorem dX4_lengthLess_9 : decode cX4_lengthLess 9 = .ok (.istore_n 3, 1) := by decide +kernel
theorem dX4_lengthLess_10 : decode cX4_lengthLess 10 = .ok (.iload_n 3, 1) := by decide +kernel
theorem dX4_lengthLess_11 : decode cX4_lengthLess 11 = .ok (.aload_n 0, 1) := by decide +kernel
theorem dX4_lengthLess_12 : decode cX4_lengthLess 12 = .ok (.getfield 24, 3) := by decide +kernel
theorem dX4_lengthLess_15 : decode cX4_lengthLess 15 = .ok (.if_icmp .ge 32, 3) := by decide +kernel
theorem dX4_lengthLess_18 : decode cX4_lengthLess 18 = .ok (.iload_n 1, 1) := by decide +kernel
theorem dX4_lengthLess_19 : decode cX4_lengthLess 19 = .ok (.iload_n 3, 1) := by decide +kernel
theorem dX4_lengthLess_20 : decode cX4_lengthLess 20 = .ok (.ishr, 1) := by decide +kernel
theorem dX4_lengthLess_21 : decode cX4_lengthLess 21 = .ok (.iconst 1, 1) := by decide +kernel
theorem dX4_lengthLess_22 : decode cX4_lengthLess 22 = .ok (.iand, 1) := by decide +kernel
theorem dX4_lengthLess_23 : decode cX4_lengthLess 23 = .ok (.iconst 1, 1) := by decide +kernel
theorem dX4_lengthLess_24 : decode cX4_lengthLess 24 = .ok (.if_icmp .ne 17, 3) := by decide +kernel
theorem dX4_lengthLess_27 : decode cX4_lengthLess 27 = .ok (.iload_n 2, 1) := by decide +kernel
theorem dX4_lengthLess_28 : decode cX4_lengthLess 28 = .ok (.aload_n 0, 1) := by decide +kernel
theorem dX4_lengthLess_29 : decode cX4_lengthLess 29 = .ok (.getfield 21, 3) := by decide +kernel
theorem dX4_lengthLess_32 : decode cX4_lengthLess 32 = .ok (.aload_n 0, 1) := by decide +kernel
theorem dX4_lengthLess_33 : decode cX4_lengthLess 33 = .ok (.getfield 18, 3) := by decide +kernel
theorem dX4_lengthLess_36 : decode cX4_lengthLess 36 = .ok (.iload_n 3, 1) := by decide +kernel
theorem dX4_lengthLess_37 : decode cX4_lengthLess 37 = .ok (.iaload, 1) := by decide +kernel
theorem dX4_lengthLess_38 : decode cX4_lengthLess 38 = .ok (.iaload, 1) := by decide +kernel
theorem dX4_lengthLess_39 : decode cX4_lengthLess 39 = .ok (.isub, 1) := by decide +kernel
theorem dX4_lengthLess_40 : decode cX4_lengthLess 40 = .ok (.istore_n 2, 1) := by decide +kernel
theorem dX4_lengthLess_41 : decode cX4_lengthLess 41 = .ok (.iinc 3 1, 3) := by decide +kernel
theorem dX4_lengthLess_44 : decode cX4_lengthLess 44 = .ok (.goto (-34), 3) := by decide +kernel
theorem dX4_lengthLess_47 : decode cX4_lengthLess 47 = .ok (.iload_n 2, 1) := by decide +kernel
theorem dX4_lengthLess_48 : decode cX4_lengthLess 48 = .ok (.ireturn, 1) := by decide +kernel
theorem dX5_init_0 : decode cX5_init 0 = .ok (.aload_n 0, 1) := by decide +kernel
theorem dX5_init_1 : decode cX5_init 1 = .ok (.invokespecial 3, 3) := by decide +kernel
theorem dX5_init_4 : decode cX5_init 4 = .ok (.aload_n 0, 1) := by decide +kernel
theorem dX5_init_5 : decode cX5_init 5 = .ok (.aload_n 1, 1) := by decide +kernel
theorem dX5_init_6 : decode cX5_init 6 = .ok (.putfield 9, 3) := by decide +kernel
theorem dX5_init_9 : decode cX5_init 9 = .ok (.aload_n 0, 1) := by decide +kernel
theorem dX5_init_10 : decode cX5_init 10 = .ok (.aload_n 2, 1) := by decide +kernel
theorem dX5_init_11 : decode cX5_init 11 = .ok (.putfield 15, 3) := by decide +kernel
theorem dX5_init_14 : decode cX5_init 14 = .ok (.return_, 1) := by decide +kernel
set_option maxRecDepth 20000 in
theorem ggX5_newStrip_X6_isWithin : GoodIn wsX5_newStrip wsX6_isWithin := goodIn_r _ [8] (by decide +kernel) (by decide +kernel)
set_option maxRecDepth 20000 in
theorem gX5_newStrip_X6_isWithin_n19 : GoodIn wsX5_newStrip (wsX6_isWithin) := ggX5_newStrip_X6_isWithin
set_option maxRecDepth 20000 in
theorem ggX5_newStrip_X1_forget : GoodIn wsX5_newStrip wsX1_forget := goodIn_r _ [13, 14, 15, 16, 17, 18, 19, 20, 31, 32, 33, 34, 35, 36, 37, 38, 39, 40, 41, 42] (by decide +kernel) (by decide +kernel)
set_option maxRecDepth 20000 in
theorem gX5_newStrip_X1_forget : GoodIn wsX5_newStrip (wsV RX5 36 RX1 yX1_forget wsX1_forget) := goodIn_app (goodIn_of _ (by decide +kernel)) ggX5_newStrip_X1_forget
theorem dX5_newStrip_0 : decode cX5_newStrip 0 = .ok (.iload_n 1, 1) := by decide +kernel
theorem dX5_newStrip_1 : decode cX5_newStrip 1 = .ok (.iconst 1, 1) := by decide +kernel
theorem dX5_newStrip_2 : decode cX5_newStrip 2 = .ok (.bipush 20, 2) := by decide +kernel
theorem dX5_newStrip_4 : decode cX5_newStrip 4 = .ok (.invokestatic 19, 3) := by decide +kernel
theorem dX5_newStrip_7 : decode cX5_newStrip 7 = .ok (.ifCond .ne 7, 3) := by decide +kernel
theorem dX5_newStrip_10 : decode cX5_newStrip 10 = .ok (.sipush (-1001), 3) := by decide +kernel
theorem dX5_newStrip_13 : decode cX5_newStrip 13 = .ok (.ireturn, 1) := by decide +kernel
theorem dX5_newStrip_14 : decode cX5_newStrip 14 = .ok (.aload_n 0, 1) := by decide +kernel
theorem dX5_newStrip_15 : decode cX5_newStrip 15 = .ok (.getfield 9, 3) := by decide +kernel
theorem dX5_newStrip_18 : decode cX5_newStrip 18 = .ok (.getfield 23, 3) := by decide +kernel
theorem dX5_newStrip_21 : decode cX5_newStrip 21 = .ok (.iconst 1, 1) := by decide +kernel
theorem dX5_newStrip_22 : decode cX5_newStrip 22 = .ok (.iadd, 1) := by decide +kernel
theorem dX5_newStrip_23 : decode cX5_newStrip 23 = .ok (.istore_n 2, 1) := by decide +kernel
theorem dX5_newStrip_24 : decode cX5_newStrip 24 = .ok (.aload_n 0, 1) := by decide +kernel
theorem dX5_newStrip_25 : decode cX5_newStrip 25 = .ok (.getfield 9, 3) := by decide +kernel
theorem dX5_newStrip_28 : decode cX5_newStrip 28 = .ok (.getfield 29, 3) := by decide +kernel
theorem dX5_newStrip_31 : decode cX5_newStrip 31 = .ok (.iconst 0, 1) := by decide +kernel
theorem dX5_newStrip_32 : decode cX5_newStrip 32 = .ok (.iload_n 1, 1) := by decide +kernel
theorem dX5_newStrip_33 : decode cX5_newStrip 33 = .ok (.iastore, 1) := by decide +kernel
theorem dX5_newStrip_34 : decode cX5_newStrip 34 = .ok (.aload_n 0, 1) := by decide +kernel
theorem dX5_newStrip_35 : decode cX5_newStrip 35 = .ok (.getfield 9, 3) := by decide +kernel
theorem dX5_newStrip_38 : decode cX5_newStrip 38 = .ok (.iconst 0, 1) := by decide +kernel
theorem dX5_newStrip_39 : decode cX5_newStrip 39 = .ok (.putfield 23, 3) := by decide +kernel
theorem dX5_newStrip_42 : decode cX5_newStrip 42 = .ok (.aload_n 0, 1) := by decide +kernel
theorem dX5_newStrip_43 : decode cX5_newStrip 43 = .ok (.getfield 9, 3) := by decide +kernel
theorem dX5_newStrip_46 : decode cX5_newStrip 46 = .ok (.iconst 0, 1) := by decide +kernel
theorem dX5_newStrip_47 : decode cX5_newStrip 47 = .ok (.putfield 33, 3) := by decide +kernel
theorem dX5_newStrip_50 : decode cX5_newStrip 50 = .ok (.aload_n 0, 1) := by decide +kernel
theorem dX5_newStrip_51 : decode cX5_newStrip 51 = .ok (.getfield 15, 3) := by decide +kernel
theorem dX5_newStrip_54 : decode cX5_newStrip 54 = .ok (.invokevirtual 36, 3) := by decide +kernel
theorem dX5_newStrip_57 : decode cX5_newStrip 57 = .ok (.iload_n 2, 1) := by decide +kernel
theorem dX5_newStrip_58 : decode cX5_newStrip 58 = .ok (.ireturn, 1) := by decide +kernel
set_option maxRecDepth 20000 in
theorem ggX5_addBend_X6_isWithin : GoodIn wsX5_addBend wsX6_isWithin := goodIn_r _ [9] (by decide +kernel) (by decide +kernel)
set_option maxRecDepth 20000 in
theorem gX5_addBend_X6_isWithin_n19 : GoodIn wsX5_addBend (wsX6_isWithin) := ggX5_addBend_X6_isWithin
set_option maxRecDepth 20000 in
theorem ggX5_addBend_X1_forget : GoodIn wsX5_addBend wsX1_forget := goodIn_r _ [14, 15, 16, 17, 18, 19, 20, 21, 32, 33, 34, 35, 36, 37, 38, 39, 40, 41, 42, 43] (by decide +kernel) (by decide +kernel)
set_option maxRecDepth 20000 in
theorem gX5_addBend_X1_forget : GoodIn wsX5_addBend (wsV RX5 36 RX1 yX1_forget wsX1_forget) := goodIn_app (goodIn_of _ (by decide +kernel)) ggX5_addBend_X1_forget
theorem dX5_addBend_0 : decode cX5_addBend 0 = .ok (.iload_n 2, 1) := by decide +kernel
theorem dX5_addBend_1 : decode cX5_addBend 1 = .ok (.iconst 1, 1) := by decide +kernel
theorem dX5_addBend_2 : decode cX5_addBend 2 = .ok (.if_icmp .eq 8, 3) := by decide +kernel
theorem dX5_addBend_5 : decode cX5_addBend 5 = .ok (.iload_n 2, 1) := by decide +kernel
theorem dX5_addBend_6 : decode cX5_addBend 6 = .ok (.iconst (-1), 1) := by decide +kernel
theorem dX5_addBend_7 : decode cX5_addBend 7 = .ok (.if_icmp .ne 7, 3) := by decide +kernel
theorem dX5_addBend_10 : decode cX5_addBend 10 = .ok (.iconst 1, 1) := by decide +kernel
theorem dX5_addBend_11 : decode cX5_addBend 11 = .ok (.goto 4, 3) := by decide +kernel
theorem dX5_addBend_14 : decode cX5_addBend 14 = .ok (.iconst 0, 1) := by decide +kernel
theorem dX5_addBend_15 : decode cX5_addBend 15 = .ok (.istore 4, 2) := by decide +kernel
theorem dX5_addBend_17 : decode cX5_addBend 17 = .ok (.iload_n 1, 1) := by decide +kernel
theorem dX5_addBend_18 : decode cX5_addBend 18 = .ok (.iconst 1, 1) := by decide +kernel
theorem dX5_addBend_19 : decode cX5_addBend 19 = .ok (.bipush 20, 2) := by decide +kernel
theorem dX5_addBend_21 : decode cX5_addBend 21 = .ok (.invokestatic 19, 3) := by decide +kernel
theorem dX5_addBend_24 : decode cX5_addBend 24 = .ok (.ifCond .eq 17, 3) := by decide +kernel
theorem dX5_addBend_27 : decode cX5_addBend 27 = .ok (.iload 4, 2) := by decide +kernel
theorem dX5_addBend_29 : decode cX5_addBend 29 = .ok (.ifCond .eq 12, 3) := by decide +kernel
theorem dX5_addBend_32 : decode cX5_addBend 32 = .ok (.iload_n 3, 1) := by decide +kernel
theorem dX5_addBend_33 : decode cX5_addBend 33 = .ok (.iconst 0, 1) := by decide +kernel
theorem dX5_addBend_34 : decode cX5_addBend 34 = .ok (.iconst 2, 1) := by decide +kernel
theorem dX5_addBend_35 : decode cX5_addBend 35 = .ok (.invokestatic 19, 3) := by decide +kernel
theorem dX5_addBend_38 : decode cX5_addBend 38 = .ok (.ifCond .ne 7, 3) := by decide +kernel
theorem dX5_addBend_41 : decode cX5_addBend 41 = .ok (.sipush (-1001), 3) := by decide +kernel
theorem dX5_addBend_44 : decode cX5_addBend 44 = .ok (.ireturn, 1) := by decide +kernel
theorem dX5_addBend_45 : decode cX5_addBend 45 = .ok (.aload_n 0, 1) := by decide +kernel
theorem dX5_addBend_46 : decode cX5_addBend 46 = .ok (.getfield 9, 3) := by decide +kernel
theorem dX5_addBend_49 : decode cX5_addBend 49 = .ok (.getfield 23, 3) := by decide +kernel
theorem dX5_addBend_52 : decode cX5_addBend 52 = .ok (.istore 5, 2) := by decide +kernel
theorem dX5_addBend_54 : decode cX5_addBend 54 = .ok (.iload 5, 2) := by decide +kernel
theorem dX5_addBend_56 : decode cX5_addBend 56 = .ok (.bipush 6, 2) := by decide +kernel
theorem dX5_addBend_58 : decode cX5_addBend 58 = .ok (.if_icmp .lt 7, 3) := by decide +kernel
theorem dX5_addBend_61 : decode cX5_addBend 61 = .ok (.sipush (-1003), 3) := by decide +kernel
theorem dX5_addBend_64 : decode cX5_addBend 64 = .ok (.ireturn, 1) := by decide +kernel
theorem dX5_addBend_65 : decode cX5_addBend 65 = .ok (.aload_n 0, 1) := by decide +kernel
theorem dX5_addBend_66 : decode cX5_addBend 66 = .ok (.getfield 9, 3) := by decide +kernel
theorem dX5_addBend_69 : decode cX5_addBend 69 = .ok (.getfield 41, 3) := by decide +kernel
theorem dX5_addBend_72 : decode cX5_addBend 72 = .ok (.iload 5, 2) := by decide +kernel
theorem dX5_addBend_74 : decode cX5_addBend 74 = .ok (.iload_n 2, 1) := by decide +kernel
theorem dX5_addBend_75 : decode cX5_addBend 75 = .ok (.iastore, 1) := by decide +kernel
theorem dX5_addBend_76 : decode cX5_addBend 76 = .ok (.aload_n 0, 1) := by decide +kernel
theorem dX5_addBend_77 : decode cX5_addBend 77 = .ok (.getfield 9, 3) := by decide +kernel
theorem dX5_addBend_80 : decode cX5_addBend 80 = .ok (.getfield 44, 3) := by decide +kernel
theorem dX5_addBend_83 : decode cX5_addBend 83 = .ok (.iload 5, 2) := by decide +kernel
theorem dX5_addBend_85 : decode cX5_addBend 85 = .ok (.iload_n 3, 1) := by decide +kernel
theorem dX5_addBend_86 : decode cX5_addBend 86 = .ok (.iastore, 1) := by decide +kernel
theorem dX5_addBend_87 : decode cX5_addBend 87 = .ok (.aload_n 0, 1) := by decide +kernel
theorem dX5_addBend_88 : decode cX5_addBend 88 = .ok (.getfield 9, 3) := by decide +kernel
theorem dX5_addBend_91 : decode cX5_addBend 91 = .ok (.getfield 29, 3) := by decide +kernel
theorem dX5_addBend_94 : decode cX5_addBend 94 = .ok (.iload 5, 2) := by decide +kernel
theorem dX5_addBend_96 : decode cX5_addBend 96 = .ok (.iconst 1, 1) := by decide +kernel
theorem dX5_addBend_97 : decode cX5_addBend 97 = .ok (.iadd, 1) := by decide +kernel
theorem dX5_addBend_98 : decode cX5_addBend 98 = .ok (.iload_n 1, 1) := by decide +kernel
theorem dX5_addBend_99 : decode cX5_addBend 99 = .ok (.iastore, 1) := by decide +kernel
theorem dX5_addBend_100 : decode cX5_addBend 100 = .ok (.aload_n 0, 1) := by decide +kernel
theorem dX5_addBend_101 : decode cX5_addBend 101 = .ok (.getfield 9, 3) := by decide +kernel
theorem dX5_addBend_104 : decode cX5_addBend 104 = .ok (.iload 5, 2) := by decide +kernel
theorem dX5_addBend_106 : decode cX5_addBend 106 = .ok (.iconst 1, 1) := by decide +kernel
theorem dX5_addBend_107 : decode cX5_addBend 107 = .ok (.iadd, 1) := by decide +kernel
theorem dX5_addBend_108 : decode cX5_addBend 108 = .ok (.putfield 23, 3) := by decide +kernel
theorem dX5_addBend_111 : decode cX5_addBend 111 = .ok (.aload_n 0, 1) := by decide +kernel
theorem dX5_addBend_112 : decode cX5_addBend 112 = .ok (.getfield 15, 3) := by decide +kernel
theorem dX5_addBend_115 : decode cX5_addBend 115 = .ok (.invokevirtual 36, 3) := by decide +kernel
theorem dX5_addBend_118 : decode cX5_addBend 118 = .ok (.iload 5, 2) := by decide +kernel
theorem dX5_addBend_120 : decode cX5_addBend 120 = .ok (.ireturn, 1) := by decide +kernel
set_option maxRecDepth 20000 in
theorem ggX5_setPress_X6_isWithin : GoodIn wsX5_setPress wsX6_isWithin := goodIn_r _ [7] (by decide +kernel) (by decide +kernel)
set_option maxRecDepth 20000 in
theorem gX5_setPress_X6_isWithin_n19 : GoodIn wsX5_setPress (wsX6_isWithin) := ggX5_setPress_X6_isWithin
set_option maxRecDepth 20000 in
theorem ggX5_setPress_X1_forget : GoodIn wsX5_setPress wsX1_forget := goodIn_r _ [12, 13, 14, 15, 16, 17, 18, 19, 30, 31, 32, 33, 34, 35, 36, 37, 38, 39, 40, 41] (by decide +kernel) (by decide +kernel)
set_option maxRecDepth 20000 in
theorem gX5_setPress_X1_forget : GoodIn wsX5_setPress (wsV RX5 36 RX1 yX1_forget wsX1_forget) := goodIn_app (goodIn_of _ (by decide +kernel)) ggX5_setPress_X1_forget
theorem dX5_setPress_0 : decode cX5_setPress 0 = .ok (.iload_n 1, 1) := by decide +kernel
theorem dX5_setPress_1 : decode cX5_setPress 1 = .ok (.iconst 0, 1) := by decide +kernel
theorem dX5_setPress_2 : decode cX5_setPress 2 = .ok (.bipush 20, 2) := by decide +kernel
theorem dX5_setPress_4 : decode cX5_setPress 4 = .ok (.invokestatic 19, 3) := by decide +kernel
theorem dX5_setPress_7 : decode cX5_setPress 7 = .ok (.ifCond .eq 13, 3) := by decide +kernel
theorem dX5_setPress_10 : decode cX5_setPress 10 = .ok (.iload_n 2, 1) := by decide +kernel
theorem dX5_setPress_11 : decode cX5_setPress 11 = .ok (.iconst 0, 1) := by decide +kernel
theorem dX5_setPress_12 : decode cX5_setPress 12 = .ok (.bipush 40, 2) := by decide +kernel
theorem dX5_setPress_14 : decode cX5_setPress 14 = .ok (.invokestatic 19, 3) := by decide +kernel
theorem dX5_setPress_17 : decode cX5_setPress 17 = .ok (.ifCond .ne 7, 3) := by decide +kernel
theorem dX5_setPress_20 : decode cX5_setPress 20 = .ok (.sipush (-1001), 3) := by decide +kernel
theorem dX5_setPress_23 : decode cX5_setPress 23 = .ok (.ireturn, 1) := by decide +kernel
theorem dX5_setPress_24 : decode cX5_setPress 24 = .ok (.bipush 100, 2) := by decide +kernel
theorem dX5_setPress_26 : decode cX5_setPress 26 = .ok (.aload_n 0, 1) := by decide +kernel
theorem dX5_setPress_27 : decode cX5_setPress 27 = .ok (.getfield 9, 3) := by decide +kernel
theorem dX5_setPress_30 : decode cX5_setPress 30 = .ok (.getfield 47, 3) := by decide +kernel
theorem dX5_setPress_33 : decode cX5_setPress 33 = .ok (.imul, 1) := by decide +kernel
theorem dX5_setPress_34 : decode cX5_setPress 34 = .ok (.aload_n 0, 1) := by decide +kernel
theorem dX5_setPress_35 : decode cX5_setPress 35 = .ok (.getfield 9, 3) := by decide +kernel
theorem dX5_setPress_38 : decode cX5_setPress 38 = .ok (.getfield 50, 3) := by decide +kernel
theorem dX5_setPress_41 : decode cX5_setPress 41 = .ok (.iadd, 1) := by decide +kernel
theorem dX5_setPress_42 : decode cX5_setPress 42 = .ok (.istore_n 3, 1) := by decide +kernel
theorem dX5_setPress_43 : decode cX5_setPress 43 = .ok (.aload_n 0, 1) := by decide +kernel
theorem dX5_setPress_44 : decode cX5_setPress 44 = .ok (.getfield 9, 3) := by decide +kernel
theorem dX5_setPress_47 : decode cX5_setPress 47 = .ok (.iload_n 1, 1) := by decide +kernel
theorem dX5_setPress_48 : decode cX5_setPress 48 = .ok (.putfield 47, 3) := by decide +kernel
theorem dX5_setPress_51 : decode cX5_setPress 51 = .ok (.aload_n 0, 1) := by decide +kernel
theorem dX5_setPress_52 : decode cX5_setPress 52 = .ok (.getfield 9, 3) := by decide +kernel
theorem dX5_setPress_55 : decode cX5_setPress 55 = .ok (.iload_n 2, 1) := by decide +kernel
theorem dX5_setPress_56 : decode cX5_setPress 56 = .ok (.putfield 50, 3) := by decide +kernel
theorem dX5_setPress_59 : decode cX5_setPress 59 = .ok (.aload_n 0, 1) := by decide +kernel
theorem dX5_setPress_60 : decode cX5_setPress 60 = .ok (.getfield 15, 3) := by decide +kernel
theorem dX5_setPress_63 : decode cX5_setPress 63 = .ok (.invokevirtual 36, 3) := by decide +kernel
theorem dX5_setPress_66 : decode cX5_setPress 66 = .ok (.iload_n 3, 1) := by decide +kernel
theorem dX5_setPress_67 : decode cX5_setPress 67 = .ok (.ireturn, 1) := by decide +kernel
set_option maxRecDepth 20000 in
theorem ggX5_setTaken_X6_isWithin : GoodIn wsX5_setTaken wsX6_isWithin := goodIn_r _ [5] (by decide +kernel) (by decide +kernel)
set_option maxRecDepth 20000 in
theorem gX5_setTaken_X6_isWithin_n19 : GoodIn wsX5_setTaken (wsX6_isWithin) := ggX5_setTaken_X6_isWithin
theorem dX5_setTaken_0 : decode cX5_setTaken 0 = .ok (.iload_n 1, 1) := by decide +kernel
theorem dX5_setTaken_1 : decode cX5_setTaken 1 = .ok (.iconst 0, 1) := by decide +kernel
theorem dX5_setTaken_2 : decode cX5_setTaken 2 = .ok (.iconst 2, 1) := by decide +kernel
theorem dX5_setTaken_3 : decode cX5_setTaken 3 = .ok (.invokestatic 19, 3) := by decide +kernel
theorem dX5_setTaken_6 : decode cX5_setTaken 6 = .ok (.ifCond .eq 13, 3) := by decide +kernel
theorem dX5_setTaken_9 : decode cX5_setTaken 9 = .ok (.iload_n 2, 1) := by decide +kernel
theorem dX5_setTaken_10 : decode cX5_setTaken 10 = .ok (.iconst 0, 1) := by decide +kernel
theorem dX5_setTaken_11 : decode cX5_setTaken 11 = .ok (.bipush 99, 2) := by decide +kernel
theorem dX5_setTaken_13 : decode cX5_setTaken 13 = .ok (.invokestatic 19, 3) := by decide +kernel
theorem dX5_setTaken_16 : decode cX5_setTaken 16 = .ok (.ifCond .ne 7, 3) := by decide +kernel
theorem dX5_setTaken_19 : decode cX5_setTaken 19 = .ok (.sipush (-1001), 3) := by decide +kernel
theorem dX5_setTaken_22 : decode cX5_setTaken 22 = .ok (.ireturn, 1) := by decide +kernel
theorem dX5_setTaken_23 : decode cX5_setTaken 23 = .ok (.aload_n 0, 1) := by decide +kernel
theorem dX5_setTaken_24 : decode cX5_setTaken 24 = .ok (.getfield 9, 3) := by decide +kernel
theorem dX5_setTaken_27 : decode cX5_setTaken 27 = .ok (.getfield 53, 3) := by decide +kernel
theorem dX5_setTaken_30 : decode cX5_setTaken 30 = .ok (.iload_n 1, 1) := by decide +kernel
theorem dX5_setTaken_31 : decode cX5_setTaken 31 = .ok (.iaload, 1) := by decide +kernel
theorem dX5_setTaken_32 : decode cX5_setTaken 32 = .ok (.istore_n 3, 1) := by decide +kernel
theorem dX5_setTaken_33 : decode cX5_setTaken 33 = .ok (.aload_n 0, 1) := by decide +kernel
theorem dX5_setTaken_34 : decode cX5_setTaken 34 = .ok (.getfield 9, 3) := by decide +kernel
theorem dX5_setTaken_37 : decode cX5_setTaken 37 = .ok (.getfield 53, 3) := by decide +kernel
theorem dX5_setTaken_40 : decode cX5_setTaken 40 = .ok (.iload_n 1, 1) := by decide +kernel
theorem dX5_setTaken_41 : decode cX5_setTaken 41 = .ok (.iload_n 2, 1) := by decide +kernel
theorem dX5_setTaken_42 : decode cX5_setTaken 42 = .ok (.iastore, 1) := by decide +kernel
theorem dX5_setTaken_43 : decode cX5_setTaken 43 = .ok (.iload_n 3, 1) := by decide +kernel
theorem dX5_setTaken_44 : decode cX5_setTaken 44 = .ok (.ireturn, 1) := by decide +kernel
set_option maxRecDepth 20000 in
theorem ggX5_makeBend_X4_hasBend : GoodIn wsX5_makeBend wsX4_hasBend := goodIn_r _ [8, 9, 70, 71, 72, 73, 74, 75, 76, 77] (by decide +kernel) (by decide +kernel)
set_option maxRecDepth 20000 in
theorem gX5_makeBend_X4_hasBend : GoodIn wsX5_makeBend (wsV RX5 56 RX4 yX4_hasBend wsX4_hasBend) := goodIn_app (goodIn_of _ (by decide +kernel)) ggX5_makeBend_X4_hasBend
set_option maxRecDepth 20000 in
theorem ggX5_makeBend_X4_isMade : GoodIn wsX5_makeBend wsX4_isMade := goodIn_r _ [13, 14, 70, 71, 72, 73, 74, 75, 76, 77] (by decide +kernel) (by decide +kernel)
set_option maxRecDepth 20000 in
theorem gX5_makeBend_X4_isMade : GoodIn wsX5_makeBend (wsV RX5 60 RX4 yX4_isMade wsX4_isMade) := goodIn_app (goodIn_of _ (by decide +kernel)) ggX5_makeBend_X4_isMade
set_option maxRecDepth 20000 in
theorem ggX5_makeBend_X1_hitOf : GoodIn wsX5_makeBend wsX1_hitOf := goodIn_r _ [19, 20, 21, 22, 23, 24, 25, 26, 27, 28, 29, 30, 31, 32, 33, 34, 35, 36, 37, 38, 39, 40, 41, 42, 43, 44, 45, 46, 47, 48, 49, 50, 51, 18, 52, 53, 54, 55, 56, 57, 58, 59, 60, 78, 79, 80, 81, 82, 83, 84, 85, 86, 87, 88, 89, 70, 71, 72, 73, 74, 75, 76, 77, 90, 91, 92, 93] (by decide +kernel) (by decide +kernel)
set_option maxRecDepth 20000 in
theorem gX5_makeBend_X1_hitOf : GoodIn wsX5_makeBend (wsV RX5 63 RX1 yX1_hitOf wsX1_hitOf) := goodIn_app (goodIn_of _ (by decide +kernel)) ggX5_makeBend_X1_hitOf
set_option maxRecDepth 20000 in
theorem ggX5_makeBend_J6_bitCount_0f7a4 : GoodIn wsX5_makeBend wsJ6_bitCount_0f7a4 := goodIn_r _ [64, 65, 66, 67] (by decide +kernel) (by decide +kernel)
set_option maxRecDepth 20000 in
theorem gX5_makeBend_J6_bitCount_0f7a4 : GoodIn wsX5_makeBend (va_wsS RX5 67 yJ6_bitCount_0f7a4 wsJ6_bitCount_0f7a4) := goodIn_app (goodIn_of _ (by decide +kernel)) ggX5_makeBend_J6_bitCount_0f7a4
theorem dX5_makeBend_0 : decode cX5_makeBend 0 = .ok (.aload_n 0, 1) := by decide +kernel
theorem dX5_makeBend_1 : decode cX5_makeBend 1 = .ok (.getfield 9, 3) := by decide +kernel
theorem dX5_makeBend_4 : decode cX5_makeBend 4 = .ok (.iload_n 1, 1) := by decide +kernel
theorem dX5_makeBend_5 : decode cX5_makeBend 5 = .ok (.invokevirtual 56, 3) := by decide +kernel
theorem dX5_makeBend_8 : decode cX5_makeBend 8 = .ok (.ifCond .ne 7, 3) := by decide +kernel
theorem dX5_makeBend_11 : decode cX5_makeBend 11 = .ok (.sipush (-1001), 3) := by decide +kernel
theorem dX5_makeBend_14 : decode cX5_makeBend 14 = .ok (.ireturn, 1) := by decide +kernel
theorem dX5_makeBend_15 : decode cX5_makeBend 15 = .ok (.aload_n 0, 1) := by decide +kernel
theorem dX5_makeBend_16 : decode cX5_makeBend 16 = .ok (.getfield 9, 3) := by decide +kernel
theorem dX5_makeBend_19 : decode cX5_makeBend 19 = .ok (.iload_n 1, 1) := by decide +kernel
theorem dX5_makeBend_20 : decode cX5_makeBend 20 = .ok (.invokevirtual 60, 3) := by decide +kernel
theorem dX5_makeBend_23 : decode cX5_makeBend 23 = .ok (.ifCond .ne 21, 3) := by decide +kernel
theorem dX5_makeBend_26 : decode cX5_makeBend 26 = .ok (.aload_n 0, 1) := by decide +kernel
theorem dX5_makeBend_27 : decode cX5_makeBend 27 = .ok (.getfield 15, 3) := by decide +kernel
theorem dX5_makeBend_30 : decode cX5_makeBend 30 = .ok (.aload_n 0, 1) := by decide +kernel
theorem dX5_makeBend_31 : decode cX5_makeBend 31 = .ok (.getfield 9, 3) := by decide +kernel
theorem dX5_makeBend_34 : decode cX5_makeBend 34 = .ok (.getfield 33, 3) := by decide +kernel
theorem dX5_makeBend_37 : decode cX5_makeBend 37 = .ok (.iload_n 1, 1) := by decide +kernel
theorem dX5_makeBend_38 : decode cX5_makeBend 38 = .ok (.invokevirtual 63, 3) := by decide +kernel
theorem dX5_makeBend_41 : decode cX5_makeBend 41 = .ok (.ifCond .eq 7, 3) := by decide +kernel
theorem dX5_makeBend_44 : decode cX5_makeBend 44 = .ok (.sipush (-1002), 3) := by decide +kernel
theorem dX5_makeBend_47 : decode cX5_makeBend 47 = .ok (.ireturn, 1) := by decide +kernel
theorem dX5_makeBend_48 : decode cX5_makeBend 48 = .ok (.aload_n 0, 1) := by decide +kernel
theorem dX5_makeBend_49 : decode cX5_makeBend 49 = .ok (.getfield 9, 3) := by decide +kernel
theorem dX5_makeBend_52 : decode cX5_makeBend 52 = .ok (.dup, 1) := by decide +kernel
theorem dX5_makeBend_53 : decode cX5_makeBend 53 = .ok (.getfield 33, 3) := by decide +kernel
theorem dX5_makeBend_56 : decode cX5_makeBend 56 = .ok (.iconst 1, 1) := by decide +kernel
theorem dX5_makeBend_57 : decode cX5_makeBend 57 = .ok (.iload_n 1, 1) := by decide +kernel
theorem dX5_makeBend_58 : decode cX5_makeBend 58 = .ok (.ishl, 1) := by decide +kernel
theorem dX5_makeBend_59 : decode cX5_makeBend 59 = .ok (.ior, 1) := by decide +kernel
theorem dX5_makeBend_60 : decode cX5_makeBend 60 = .ok (.putfield 33, 3) := by decide +kernel
theorem dX5_makeBend_63 : decode cX5_makeBend 63 = .ok (.aload_n 0, 1) := by decide +kernel
theorem dX5_makeBend_64 : decode cX5_makeBend 64 = .ok (.getfield 9, 3) := by decide +kernel
theorem dX5_makeBend_67 : decode cX5_makeBend 67 = .ok (.getfield 33, 3) := by decide +kernel
theorem dX5_makeBend_70 : decode cX5_makeBend 70 = .ok (.invokestatic 67, 3) := by decide +kernel
theorem dX5_makeBend_73 : decode cX5_makeBend 73 = .ok (.ireturn, 1) := by decide +kernel
set_option maxRecDepth 20000 in
theorem ggX5_unmakeBend_X4_hasBend : GoodIn wsX5_unmakeBend wsX4_hasBend := goodIn_r _ [7, 8, 23, 24, 25, 26, 27, 28, 29, 30] (by decide +kernel) (by decide +kernel)
set_option maxRecDepth 20000 in
theorem gX5_unmakeBend_X4_hasBend : GoodIn wsX5_unmakeBend (wsV RX5 56 RX4 yX4_hasBend wsX4_hasBend) := goodIn_app (goodIn_of _ (by decide +kernel)) ggX5_unmakeBend_X4_hasBend
set_option maxRecDepth 20000 in
theorem ggX5_unmakeBend_X4_isMade : GoodIn wsX5_unmakeBend wsX4_isMade := goodIn_r _ [12, 13, 23, 24, 25, 26, 27, 28, 29, 30] (by decide +kernel) (by decide +kernel)
set_option maxRecDepth 20000 in
theorem gX5_unmakeBend_X4_isMade : GoodIn wsX5_unmakeBend (wsV RX5 60 RX4 yX4_isMade wsX4_isMade) := goodIn_app (goodIn_of _ (by decide +kernel)) ggX5_unmakeBend_X4_isMade
set_option maxRecDepth 20000 in
theorem ggX5_unmakeBend_J6_bitCount_0f7a4 : GoodIn wsX5_unmakeBend wsJ6_bitCount_0f7a4 := goodIn_r _ [17, 18, 19, 20] (by decide +kernel) (by decide +kernel)
set_option maxRecDepth 20000 in
theorem gX5_unmakeBend_J6_bitCount_0f7a4 : GoodIn wsX5_unmakeBend (va_wsS RX5 67 yJ6_bitCount_0f7a4 wsJ6_bitCount_0f7a4) := goodIn_app (goodIn_of _ (by decide +kernel)) ggX5_unmakeBend_J6_bitCount_0f7a4
theorem dX5_unmakeBend_0 : decode cX5_unmakeBend 0 = .ok (.aload_n 0, 1) := by decide +kernel
theorem dX5_unmakeBend_1 : decode cX5_unmakeBend 1 = .ok (.getfield 9, 3) := by decide +kernel
theorem dX5_unmakeBend_4 : decode cX5_unmakeBend 4 = .ok (.iload_n 1, 1) := by decide +kernel
theorem dX5_unmakeBend_5 : decode cX5_unmakeBend 5 = .ok (.invokevirtual 56, 3) := by decide +kernel
theorem dX5_unmakeBend_8 : decode cX5_unmakeBend 8 = .ok (.ifCond .ne 7, 3) := by decide +kernel
theorem dX5_unmakeBend_11 : decode cX5_unmakeBend 11 = .ok (.sipush (-1001), 3) := by decide +kernel
theorem dX5_unmakeBend_14 : decode cX5_unmakeBend 14 = .ok (.ireturn, 1) := by decide +kernel
theorem dX5_unmakeBend_15 : decode cX5_unmakeBend 15 = .ok (.aload_n 0, 1) := by decide +kernel
theorem dX5_unmakeBend_16 : decode cX5_unmakeBend 16 = .ok (.getfield 9, 3) := by decide +kernel
theorem dX5_unmakeBend_19 : decode cX5_unmakeBend 19 = .ok (.iload_n 1, 1) := by decide +kernel
theorem dX5_unmakeBend_20 : decode cX5_unmakeBend 20 = .ok (.invokevirtual 60, 3) := by decide +kernel
theorem dX5_unmakeBend_23 : decode cX5_unmakeBend 23 = .ok (.ifCond .ne 7, 3) := by decide +kernel
theorem dX5_unmakeBend_26 : decode cX5_unmakeBend 26 = .ok (.sipush (-1002), 3) := by decide +kernel
theorem dX5_unmakeBend_29 : decode cX5_unmakeBend 29 = .ok (.ireturn, 1) := by decide +kernel
theorem dX5_unmakeBend_30 : decode cX5_unmakeBend 30 = .ok (.aload_n 0, 1) := by decide +kernel
theorem dX5_unmakeBend_31 : decode cX5_unmakeBend 31 = .ok (.getfield 9, 3) := by decide +kernel
theorem dX5_unmakeBend_34 : decode cX5_unmakeBend 34 = .ok (.dup, 1) := by decide +kernel
theorem dX5_unmakeBend_35 : decode cX5_unmakeBend 35 = .ok (.getfield 33, 3) := by decide +kernel
theorem dX5_unmakeBend_38 : decode cX5_unmakeBend 38 = .ok (.iconst 1, 1) := by decide +kernel
theorem dX5_unmakeBend_39 : decode cX5_unmakeBend 39 = .ok (.iload_n 1, 1) := by decide +kernel
theorem dX5_unmakeBend_40 : decode cX5_unmakeBend 40 = .ok (.ishl, 1) := by decide +kernel
theorem dX5_unmakeBend_41 : decode cX5_unmakeBend 41 = .ok (.isub, 1) := by decide +kernel
theorem dX5_unmakeBend_42 : decode cX5_unmakeBend 42 = .ok (.putfield 33, 3) := by decide +kernel
theorem dX5_unmakeBend_45 : decode cX5_unmakeBend 45 = .ok (.aload_n 0, 1) := by decide +kernel
theorem dX5_unmakeBend_46 : decode cX5_unmakeBend 46 = .ok (.getfield 9, 3) := by decide +kernel
theorem dX5_unmakeBend_49 : decode cX5_unmakeBend 49 = .ok (.getfield 33, 3) := by decide +kernel
theorem dX5_unmakeBend_52 : decode cX5_unmakeBend 52 = .ok (.invokestatic 67, 3) := by decide +kernel
theorem dX5_unmakeBend_55 : decode cX5_unmakeBend 55 = .ok (.ireturn, 1) := by decide +kernel
set_option maxRecDepth 20000 in
theorem ggX5_unmakeAll_J6_bitCount_0f7a4 : GoodIn wsX5_unmakeAll wsJ6_bitCount_0f7a4 := goodIn_r _ [6, 7, 8, 9] (by decide +kernel) (by decide +kernel)
set_option maxRecDepth 20000 in
theorem gX5_unmakeAll_J6_bitCount_0f7a4 : GoodIn wsX5_unmakeAll (va_wsS RX5 67 yJ6_bitCount_0f7a4 wsJ6_bitCount_0f7a4) := goodIn_app (goodIn_of _ (by decide +kernel)) ggX5_unmakeAll_J6_bitCount_0f7a4
theorem dX5_unmakeAll_0 : decode cX5_unmakeAll 0 = .ok (.aload_n 0, 1) := by decide +kernel
theorem dX5_unmakeAll_1 : decode cX5_unmakeAll 1 = .ok (.getfield 9, 3) := by decide +kernel
theorem dX5_unmakeAll_4 : decode cX5_unmakeAll 4 = .ok (.getfield 33, 3) := by decide +kernel
theorem dX5_unmakeAll_7 : decode cX5_unmakeAll 7 = .ok (.invokestatic 67, 3) := by decide +kernel
theorem dX5_unmakeAll_10 : decode cX5_unmakeAll 10 = .ok (.istore_n 1, 1) := by decide +kernel
theorem dX5_unmakeAll_11 : decode cX5_unmakeAll 11 = .ok (.aload_n 0, 1) := by decide +kernel
theorem dX5_unmakeAll_12 : decode cX5_unmakeAll 12 = .ok (.getfield 9, 3) := by decide +kernel
theorem dX5_unmakeAll_15 : decode cX5_unmakeAll 15 = .ok (.iconst 0, 1) := by decide +kernel
theorem dX5_unmakeAll_16 : decode cX5_unmakeAll 16 = .ok (.putfield 33, 3) := by decide +kernel
theorem dX5_unmakeAll_19 : decode cX5_unmakeAll 19 = .ok (.iload_n 1, 1) := by decide +kernel
theorem dX5_unmakeAll_20 : decode cX5_unmakeAll 20 = .ok (.ireturn, 1) := by decide +kernel
set_option maxRecDepth 20000 in
theorem ggX5_perform_X2_numberOf : GoodIn wsX5_perform wsX2_numberOf := goodIn_r _ [6, 7, 127, 128, 129, 130, 131, 132] (by decide +kernel) (by decide +kernel)
set_option maxRecDepth 20000 in
theorem gX5_perform_X2_numberOf : GoodIn wsX5_perform (wsV RX5 73 RX2 yX2_numberOf wsX2_numberOf) := goodIn_app (goodIn_of _ (by decide +kernel)) ggX5_perform_X2_numberOf
set_option maxRecDepth 20000 in
theorem ggX5_perform_X5_newStrip : GoodIn wsX5_perform wsX5_newStrip := goodIn_r _ [12, 13, 14, 15, 16, 17, 18, 19, 20, 21, 22, 23, 24, 25, 26, 27, 28, 29, 30, 31, 32, 133, 134, 135, 136, 137, 138, 139, 140, 141, 142, 143, 144, 145, 146, 147, 148, 149, 150, 151, 152, 153, 154] (by decide +kernel) (by decide +kernel)
set_option maxRecDepth 20000 in
theorem gX5_perform_X5_newStrip : GoodIn wsX5_perform (wsV RX5 81 RX5 yX5_newStrip wsX5_newStrip) := goodIn_app (goodIn_of _ (by decide +kernel)) ggX5_perform_X5_newStrip
set_option maxRecDepth 20000 in
theorem ggX5_perform_X5_wayOf : GoodIn wsX5_perform wsX5_wayOf := goodIn_r _ [35] (by decide +kernel) (by decide +kernel)
set_option maxRecDepth 20000 in
theorem gX5_perform_X5_wayOf : GoodIn wsX5_perform (va_wsS RX5 84 yX5_wayOf wsX5_wayOf) := goodIn_app (goodIn_of _ (by decide +kernel)) ggX5_perform_X5_wayOf
set_option maxRecDepth 20000 in
theorem ggX5_perform_X5_addBend : GoodIn wsX5_perform wsX5_addBend := goodIn_r _ [39, 13, 14, 40, 41, 15, 17, 18, 19, 20, 21, 22, 23, 24, 25, 26, 27, 28, 29, 30, 31, 32, 133, 134, 135, 136, 137, 138, 139, 140, 141, 142, 143, 144, 145, 146, 147, 148, 149, 150, 151, 152, 153, 154] (by decide +kernel) (by decide +kernel)
set_option maxRecDepth 20000 in
theorem gX5_perform_X5_addBend : GoodIn wsX5_perform (wsV RX5 87 RX5 yX5_addBend wsX5_addBend) := goodIn_app (goodIn_of _ (by decide +kernel)) ggX5_perform_X5_addBend
set_option maxRecDepth 20000 in
theorem ggX5_perform_X5_makeBend : GoodIn wsX5_perform wsX5_makeBend := goodIn_r _ [45, 13, 17, 16, 46, 47, 48, 49, 50, 51, 52, 53, 54, 55, 56, 57, 58, 59, 24, 60, 61, 62, 63, 64, 65, 66, 67, 68, 69, 70, 71, 72, 73, 74, 75, 76, 77, 78, 79, 80, 81, 82, 83, 84, 85, 86, 87, 88, 89, 90, 91, 92, 93, 27, 94, 95, 96, 97, 98, 99, 100, 101, 102, 103, 104, 105, 106, 107, 133, 134, 135, 136, 137, 138, 139, 140, 141, 142, 143, 144, 145, 146, 147, 148, 149, 150, 151, 152, 153, 154, 155, 156, 157, 158] (by decide +kernel) (by decide +kernel)
set_option maxRecDepth 20000 in
theorem gX5_perform_X5_makeBend : GoodIn wsX5_perform (wsV RX5 91 RX5 yX5_makeBend wsX5_makeBend) := goodIn_app (goodIn_of _ (by decide +kernel)) ggX5_perform_X5_makeBend
set_option maxRecDepth 20000 in
theorem ggX5_perform_X5_unmakeBend : GoodIn wsX5_perform wsX5_unmakeBend := goodIn_r _ [111, 13, 16, 46, 47, 48, 49, 50, 51, 52, 53, 54, 55, 56, 101, 102, 103, 104, 105, 106, 107, 133, 134, 135, 136, 137, 138, 139, 140, 141, 142] (by decide +kernel) (by decide +kernel)
set_option maxRecDepth 20000 in
theorem gX5_perform_X5_unmakeBend : GoodIn wsX5_perform (wsV RX5 94 RX5 yX5_unmakeBend wsX5_unmakeBend) := goodIn_app (goodIn_of _ (by decide +kernel)) ggX5_perform_X5_unmakeBend
set_option maxRecDepth 20000 in
theorem ggX5_perform_X5_setPress : GoodIn wsX5_perform wsX5_setPress := goodIn_r _ [115, 13, 116, 117, 17, 18, 19, 20, 21, 22, 23, 24, 25, 26, 27, 28, 29, 30, 31, 32, 133, 134, 135, 136, 137, 138, 139, 140, 141, 142, 143, 144, 145, 146, 147, 148, 149, 150, 151, 152, 153, 154] (by decide +kernel) (by decide +kernel)
set_option maxRecDepth 20000 in
theorem gX5_perform_X5_setPress : GoodIn wsX5_perform (wsV RX5 97 RX5 yX5_setPress wsX5_setPress) := goodIn_app (goodIn_of _ (by decide +kernel)) ggX5_perform_X5_setPress
set_option maxRecDepth 20000 in
theorem ggX5_perform_X5_setTaken : GoodIn wsX5_perform wsX5_setTaken := goodIn_r _ [121, 13, 122, 18, 19, 20, 133, 134, 135, 136, 137, 138, 139, 140, 141, 142] (by decide +kernel) (by decide +kernel)
set_option maxRecDepth 20000 in
theorem gX5_perform_X5_setTaken : GoodIn wsX5_perform (wsV RX5 100 RX5 yX5_setTaken wsX5_setTaken) := goodIn_app (goodIn_of _ (by decide +kernel)) ggX5_perform_X5_setTaken
set_option maxRecDepth 20000 in
theorem ggX5_perform_X5_unmakeAll : GoodIn wsX5_perform wsX5_unmakeAll := goodIn_r _ [126, 13, 16, 101, 102, 103, 104, 105, 106, 107, 133, 134, 135, 136, 137, 138, 139, 140, 141, 142] (by decide +kernel) (by decide +kernel)
set_option maxRecDepth 20000 in
theorem gX5_perform_X5_unmakeAll : GoodIn wsX5_perform (wsV RX5 103 RX5 yX5_unmakeAll wsX5_unmakeAll) := goodIn_app (goodIn_of _ (by decide +kernel)) ggX5_perform_X5_unmakeAll
theorem dX5_perform_0 : decode cX5_perform 0 = .ok (.aload_n 1, 1) := by decide +kernel
theorem dX5_perform_1 : decode cX5_perform 1 = .ok (.iload_n 2, 1) := by decide +kernel
theorem dX5_perform_2 : decode cX5_perform 2 = .ok (.iconst 0, 1) := by decide +kernel
theorem dX5_perform_3 : decode cX5_perform 3 = .ok (.invokevirtual 73, 3) := by decide +kernel
theorem dX5_perform_6 : decode cX5_perform 6 = .ok (.istore_n 3, 1) := by decide +kernel
theorem dX5_perform_7 : decode cX5_perform 7 = .ok (.aload_n 1, 1) := by decide +kernel
theorem dX5_perform_8 : decode cX5_perform 8 = .ok (.iload_n 2, 1) := by decide +kernel
theorem dX5_perform_9 : decode cX5_perform 9 = .ok (.iconst 1, 1) := by decide +kernel
theorem dX5_perform_10 : decode cX5_perform 10 = .ok (.invokevirtual 73, 3) := by decide +kernel
theorem dX5_perform_13 : decode cX5_perform 13 = .ok (.istore 4, 2) := by decide +kernel
theorem dX5_perform_15 : decode cX5_perform 15 = .ok (.aload_n 1, 1) := by decide +kernel
theorem dX5_perform_16 : decode cX5_perform 16 = .ok (.getfield 78, 3) := by decide +kernel
theorem dX5_perform_19 : decode cX5_perform 19 = .ok (.iload_n 2, 1) := by decide +kernel
theorem dX5_perform_20 : decode cX5_perform 20 = .ok (.iaload, 1) := by decide +kernel
theorem dX5_perform_21 : decode cX5_perform 21 = .ok (.tableswitch 146 98 117 #[101, 146, 146, 146, 146, 146, 146, 146, 146, 138, 146, 118, 146, 146, 130, 146, 146, 95, 146, 124], 95) := by decide +kernel
theorem dX5_perform_116 : decode cX5_perform 116 = .ok (.aload_n 0, 1) := by decide +kernel
theorem dX5_perform_117 : decode cX5_perform 117 = .ok (.iload_n 3, 1) := by decide +kernel
theorem dX5_perform_118 : decode cX5_perform 118 = .ok (.invokevirtual 81, 3) := by decide +kernel
theorem dX5_perform_121 : decode cX5_perform 121 = .ok (.ireturn, 1) := by decide +kernel
theorem dX5_perform_122 : decode cX5_perform 122 = .ok (.aload_n 0, 1) := by decide +kernel
theorem dX5_perform_123 : decode cX5_perform 123 = .ok (.iload_n 3, 1) := by decide +kernel
theorem dX5_perform_124 : decode cX5_perform 124 = .ok (.iload 4, 2) := by decide +kernel
theorem dX5_perform_126 : decode cX5_perform 126 = .ok (.invokestatic 84, 3) := by decide +kernel
theorem dX5_perform_129 : decode cX5_perform 129 = .ok (.aload_n 1, 1) := by decide +kernel
theorem dX5_perform_130 : decode cX5_perform 130 = .ok (.iload_n 2, 1) := by decide +kernel
end
section
theorem dX5_perform_131 : decode cX5_perform 131 = .ok (.iconst 2, 1) := by decide +kernel
theorem dX5_perform_132 : decode cX5_perform 132 = .ok (.invokevirtual 73, 3) := by decide +kernel
theorem dX5_perform_135 : decode cX5_perform 135 = .ok (.invokevirtual 87, 3) := by decide +kernel
theorem dX5_perform_138 : decode cX5_perform 138 = .ok (.ireturn, 1) := by decide +kernel
theorem dX5_perform_139 : decode cX5_perform 139 = .ok (.aload_n 0, 1) := by decide +kernel
theorem dX5_perform_140 : decode cX5_perform 140 = .ok (.iload_n 3, 1) := by decide +kernel
theorem dX5_perform_141 : decode cX5_perform 141 = .ok (.invokevirtual 91, 3) := by decide +kernel
theorem dX5_perform_144 : decode cX5_perform 144 = .ok (.ireturn, 1) := by decide +kernel
theorem dX5_perform_145 : decode cX5_perform 145 = .ok (.aload_n 0, 1) := by decide +kernel
theorem dX5_perform_146 : decode cX5_perform 146 = .ok (.iload_n 3, 1) := by decide +kernel
theorem dX5_perform_147 : decode cX5_perform 147 = .ok (.invokevirtual 94, 3) := by decide +kernel
theorem dX5_perform_150 : decode cX5_perform 150 = .ok (.ireturn, 1) := by decide +kernel
theorem dX5_perform_151 : decode cX5_perform 151 = .ok (.aload_n 0, 1) := by decide +kernel
theorem dX5_perform_152 : decode cX5_perform 152 = .ok (.iload_n 3, 1) := by decide +kernel
theorem dX5_perform_153 : decode cX5_perform 153 = .ok (.iload 4, 2) := by decide +kernel
theorem dX5_perform_155 : decode cX5_perform 155 = .ok (.invokevirtual 97, 3) := by decide +kernel
theorem dX5_perform_158 : decode cX5_perform 158 = .ok (.ireturn, 1) := by decide +kernel
theorem dX5_perform_159 : decode cX5_perform 159 = .ok (.aload_n 0, 1) := by decide +kernel
theorem dX5_perform_160 : decode cX5_perform 160 = .ok (.iload_n 3, 1) := by decide +kernel
theorem dX5_perform_161 : decode cX5_perform 161 = .ok (.iload 4, 2) := by decide +kernel
theorem dX5_perform_163 : decode cX5_perform 163 = .ok (.invokevirtual 100, 3) := by decide +kernel
theorem dX5_perform_166 : decode cX5_perform 166 = .ok (.ireturn, 1) := by decide +kernel
theorem dX5_perform_167 : decode cX5_perform 167 = .ok (.aload_n 0, 1) := by decide +kernel
theorem dX5_perform_168 : decode cX5_perform 168 = .ok (.invokevirtual 103, 3) := by decide +kernel
theorem dX5_perform_171 : decode cX5_perform 171 = .ok (.ireturn, 1) := by decide +kernel
theorem dX5_wayOf_0 : decode cX5_wayOf 0 = .ok (.iload_n 0, 1) := by decide +kernel
theorem dX5_wayOf_1 : decode cX5_wayOf 1 = .ok (.ifCond .ne 5, 3) := by decide +kernel
theorem dX5_wayOf_4 : decode cX5_wayOf 4 = .ok (.iconst 1, 1) := by decide +kernel
theorem dX5_wayOf_5 : decode cX5_wayOf 5 = .ok (.ireturn, 1) := by decide +kernel
theorem dX5_wayOf_6 : decode cX5_wayOf 6 = .ok (.iload_n 0, 1) := by decide +kernel
theorem dX5_wayOf_7 : decode cX5_wayOf 7 = .ok (.iconst 1, 1) := by decide +kernel
theorem dX5_wayOf_8 : decode cX5_wayOf 8 = .ok (.if_icmp .ne 7, 3) := by decide +kernel
theorem dX5_wayOf_11 : decode cX5_wayOf 11 = .ok (.iconst (-1), 1) := by decide +kernel
theorem dX5_wayOf_12 : decode cX5_wayOf 12 = .ok (.goto 4, 3) := by decide +kernel
theorem dX5_wayOf_15 : decode cX5_wayOf 15 = .ok (.iconst 0, 1) := by decide +kernel
theorem dX5_wayOf_16 : decode cX5_wayOf 16 = .ok (.ireturn, 1) := by decide +kernel
set_option maxRecDepth 20000 in
theorem ggX6_init_X4_init : GoodIn wsX6_init wsX4_init := goodIn_r _ [33, 34, 2, 3, 35, 36, 37, 38, 39, 40, 41, 42, 43, 97, 98, 99, 100, 101, 102, 103, 104] (by decide +kernel) (by decide +kernel)
set_option maxRecDepth 20000 in
theorem gX6_init_X4_init : GoodIn wsX6_init (wsX4_init) := ggX6_init_X4_init
set_option maxRecDepth 20000 in
theorem ggX6_init_X3_init : GoodIn wsX6_init wsX3_init := goodIn_r _ [46, 47, 2, 3, 35, 48, 49, 50, 51, 114, 115, 116, 117] (by decide +kernel) (by decide +kernel)
set_option maxRecDepth 20000 in
theorem gX6_init_X3_init : GoodIn wsX6_init (wsX3_init) := ggX6_init_X3_init
set_option maxRecDepth 20000 in
theorem ggX6_init_X1_init : GoodIn wsX6_init wsX1_init := goodIn_r _ [54, 55, 2, 3, 35, 56, 57, 58, 59, 60, 61, 62, 63, 64, 65, 66, 67, 68, 69, 70, 71, 118, 119, 120, 121, 122, 123, 124, 125, 126, 127, 128, 129] (by decide +kernel) (by decide +kernel)
set_option maxRecDepth 20000 in
theorem gX6_init_X1_init : GoodIn wsX6_init (wsX1_init) := ggX6_init_X1_init
set_option maxRecDepth 20000 in
theorem ggX6_init_X5_init : GoodIn wsX6_init wsX5_init := goodIn_r _ [74, 75, 2, 3, 76, 77, 130, 131] (by decide +kernel) (by decide +kernel)
set_option maxRecDepth 20000 in
theorem gX6_init_X5_init : GoodIn wsX6_init (wsX5_init) := ggX6_init_X5_init
set_option maxRecDepth 20000 in
theorem ggX6_init_X0_init : GoodIn wsX6_init wsX0_init := goodIn_r _ [80, 81, 2, 3, 82, 83, 5, 6, 84, 85, 86, 32, 33, 34, 35, 36, 37, 38, 39, 40, 41, 42, 43, 132, 133, 134, 97, 98, 99, 100, 101, 102, 103, 104] (by decide +kernel) (by decide +kernel)
set_option maxRecDepth 20000 in
theorem gX6_init_X0_init : GoodIn wsX6_init (wsX0_init) := ggX6_init_X0_init
set_option maxRecDepth 20000 in
theorem ggX6_init_X2_init : GoodIn wsX6_init wsX2_init := goodIn_r _ [89, 90, 2, 3, 35, 91, 92, 93, 94, 95, 96, 135, 136, 137, 138, 139, 140] (by decide +kernel) (by decide +kernel)
set_option maxRecDepth 20000 in
theorem gX6_init_X2_init : GoodIn wsX6_init (wsX2_init) := ggX6_init_X2_init
theorem dX6_init_0 : decode cX6_init 0 = .ok (.aload_n 0, 1) := by decide +kernel
theorem dX6_init_1 : decode cX6_init 1 = .ok (.invokespecial 3, 3) := by decide +kernel
theorem dX6_init_4 : decode cX6_init 4 = .ok (.aload_n 0, 1) := by decide +kernel
theorem dX6_init_5 : decode cX6_init 5 = .ok (.new 9, 3) := by decide +kernel
theorem dX6_init_8 : decode cX6_init 8 = .ok (.dup, 1) := by decide +kernel
theorem dX6_init_9 : decode cX6_init 9 = .ok (.invokespecial 11, 3) := by decide +kernel
theorem dX6_init_12 : decode cX6_init 12 = .ok (.putfield 12, 3) := by decide +kernel
theorem dX6_init_15 : decode cX6_init 15 = .ok (.aload_n 0, 1) := by decide +kernel
theorem dX6_init_16 : decode cX6_init 16 = .ok (.new 16, 3) := by decide +kernel
theorem dX6_init_19 : decode cX6_init 19 = .ok (.dup, 1) := by decide +kernel
theorem dX6_init_20 : decode cX6_init 20 = .ok (.invokespecial 18, 3) := by decide +kernel
theorem dX6_init_23 : decode cX6_init 23 = .ok (.putfield 19, 3) := by decide +kernel
theorem dX6_init_26 : decode cX6_init 26 = .ok (.aload_n 0, 1) := by decide +kernel
theorem dX6_init_27 : decode cX6_init 27 = .ok (.new 23, 3) := by decide +kernel
theorem dX6_init_30 : decode cX6_init 30 = .ok (.dup, 1) := by decide +kernel
theorem dX6_init_31 : decode cX6_init 31 = .ok (.aload_n 0, 1) := by decide +kernel
theorem dX6_init_32 : decode cX6_init 32 = .ok (.getfield 12, 3) := by decide +kernel
theorem dX6_init_35 : decode cX6_init 35 = .ok (.aload_n 0, 1) := by decide +kernel
theorem dX6_init_36 : decode cX6_init 36 = .ok (.getfield 19, 3) := by decide +kernel
theorem dX6_init_39 : decode cX6_init 39 = .ok (.invokespecial 25, 3) := by decide +kernel
theorem dX6_init_42 : decode cX6_init 42 = .ok (.putfield 28, 3) := by decide +kernel
theorem dX6_init_45 : decode cX6_init 45 = .ok (.aload_n 0, 1) := by decide +kernel
theorem dX6_init_46 : decode cX6_init 46 = .ok (.new 32, 3) := by decide +kernel
theorem dX6_init_49 : decode cX6_init 49 = .ok (.dup, 1) := by decide +kernel
theorem dX6_init_50 : decode cX6_init 50 = .ok (.aload_n 0, 1) := by decide +kernel
theorem dX6_init_51 : decode cX6_init 51 = .ok (.getfield 12, 3) := by decide +kernel
theorem dX6_init_54 : decode cX6_init 54 = .ok (.aload_n 0, 1) := by decide +kernel
theorem dX6_init_55 : decode cX6_init 55 = .ok (.getfield 28, 3) := by decide +kernel
theorem dX6_init_58 : decode cX6_init 58 = .ok (.invokespecial 34, 3) := by decide +kernel
theorem dX6_init_61 : decode cX6_init 61 = .ok (.putfield 37, 3) := by decide +kernel
theorem dX6_init_64 : decode cX6_init 64 = .ok (.aload_n 0, 1) := by decide +kernel
theorem dX6_init_65 : decode cX6_init 65 = .ok (.new 41, 3) := by decide +kernel
theorem dX6_init_68 : decode cX6_init 68 = .ok (.dup, 1) := by decide +kernel
theorem dX6_init_69 : decode cX6_init 69 = .ok (.invokespecial 43, 3) := by decide +kernel
theorem dX6_init_72 : decode cX6_init 72 = .ok (.putfield 44, 3) := by decide +kernel
theorem dX6_init_75 : decode cX6_init 75 = .ok (.aload_n 0, 1) := by decide +kernel
theorem dX6_init_76 : decode cX6_init 76 = .ok (.new 48, 3) := by decide +kernel
theorem dX6_init_79 : decode cX6_init 79 = .ok (.dup, 1) := by decide +kernel
theorem dX6_init_80 : decode cX6_init 80 = .ok (.invokespecial 50, 3) := by decide +kernel
theorem dX6_init_83 : decode cX6_init 83 = .ok (.putfield 51, 3) := by decide +kernel
theorem dX6_init_86 : decode cX6_init 86 = .ok (.aload_n 0, 1) := by decide +kernel
theorem dX6_init_87 : decode cX6_init 87 = .ok (.iconst 0, 1) := by decide +kernel
theorem dX6_init_88 : decode cX6_init 88 = .ok (.putfield 55, 3) := by decide +kernel
theorem dX6_init_91 : decode cX6_init 91 = .ok (.aload_n 0, 1) := by decide +kernel
theorem dX6_init_92 : decode cX6_init 92 = .ok (.iconst 0, 1) := by decide +kernel
theorem dX6_init_93 : decode cX6_init 93 = .ok (.putfield 59, 3) := by decide +kernel
theorem dX6_init_96 : decode cX6_init 96 = .ok (.aload_n 0, 1) := by decide +kernel
theorem dX6_init_97 : decode cX6_init 97 = .ok (.iconst 0, 1) := by decide +kernel
theorem dX6_init_98 : decode cX6_init 98 = .ok (.putfield 62, 3) := by decide +kernel
theorem dX6_init_101 : decode cX6_init 101 = .ok (.return_, 1) := by decide +kernel
set_option maxRecDepth 20000 in
theorem ggX6_strip_X0_stage : GoodIn wsX6_strip wsX0_stage := goodIn_r _ [8, 9, 10, 11, 12, 13, 14, 15, 16, 17, 18, 19, 20, 21, 22, 23, 24, 25, 26, 27, 85, 86, 87, 88, 89, 90, 91, 92, 93, 94, 95] (by decide +kernel) (by decide +kernel)
set_option maxRecDepth 20000 in
theorem gX6_strip_X0_stage : GoodIn wsX6_strip (wsV RX6 65 RX0 yX0_stage wsX0_stage) := goodIn_app (goodIn_of _ (by decide +kernel)) ggX6_strip_X0_stage
set_option maxRecDepth 20000 in
theorem ggX6_strip_X5_newStrip : GoodIn wsX6_strip wsX5_newStrip := goodIn_r _ [32, 33, 34, 35, 36, 37, 38, 39, 40, 41, 42, 43, 44, 45, 46, 47, 48, 49, 50, 51, 52, 96, 97, 88, 89, 90, 91, 92, 93, 94, 95, 98, 99, 100, 101, 102, 103, 104, 105, 106, 107, 108, 109] (by decide +kernel) (by decide +kernel)
set_option maxRecDepth 20000 in
theorem gX6_strip_X5_newStrip : GoodIn wsX6_strip (wsV RX6 69 RX5 yX5_newStrip wsX5_newStrip) := goodIn_app (goodIn_of _ (by decide +kernel)) ggX6_strip_X5_newStrip
set_option maxRecDepth 20000 in
theorem ggX6_strip_X6_settled : GoodIn wsX6_strip wsX6_settled := goodIn_r _ [56, 1, 57, 58, 39, 59, 60, 61, 62, 63, 64, 65, 66, 67, 68, 69, 7, 70, 10, 71, 72, 73, 74, 75, 76, 77, 78, 79, 80, 81, 82, 83, 84, 85, 86, 87] (by decide +kernel) (by decide +kernel)
set_option maxRecDepth 20000 in
theorem gX6_strip_X6_settled : GoodIn wsX6_strip (wsV RX6 73 RX6 yX6_settled wsX6_settled) := goodIn_app (goodIn_of _ (by decide +kernel)) ggX6_strip_X6_settled
theorem dX6_strip_0 : decode cX6_strip 0 = .ok (.aload_n 0, 1) := by decide +kernel
theorem dX6_strip_1 : decode cX6_strip 1 = .ok (.getfield 44, 3) := by decide +kernel
theorem dX6_strip_4 : decode cX6_strip 4 = .ok (.aload_n 0, 1) := by decide +kernel
theorem dX6_strip_5 : decode cX6_strip 5 = .ok (.getfield 12, 3) := by decide +kernel
theorem dX6_strip_8 : decode cX6_strip 8 = .ok (.invokevirtual 65, 3) := by decide +kernel
theorem dX6_strip_11 : decode cX6_strip 11 = .ok (.aload_n 0, 1) := by decide +kernel
theorem dX6_strip_12 : decode cX6_strip 12 = .ok (.aload_n 0, 1) := by decide +kernel
theorem dX6_strip_13 : decode cX6_strip 13 = .ok (.getfield 37, 3) := by decide +kernel
theorem dX6_strip_16 : decode cX6_strip 16 = .ok (.iload_n 1, 1) := by decide +kernel
theorem dX6_strip_17 : decode cX6_strip 17 = .ok (.invokevirtual 69, 3) := by decide +kernel
theorem dX6_strip_20 : decode cX6_strip 20 = .ok (.invokevirtual 73, 3) := by decide +kernel
theorem dX6_strip_23 : decode cX6_strip 23 = .ok (.ireturn, 1) := by decide +kernel
set_option maxRecDepth 20000 in
theorem ggX6_bend_X0_stage : GoodIn wsX6_bend wsX0_stage := goodIn_r _ [8, 9, 10, 11, 12, 13, 14, 15, 16, 17, 18, 19, 20, 21, 22, 23, 24, 25, 26, 27, 86, 87, 88, 89, 90, 91, 92, 93, 94, 95, 96] (by decide +kernel) (by decide +kernel)
set_option maxRecDepth 20000 in
theorem gX6_bend_X0_stage : GoodIn wsX6_bend (wsV RX6 65 RX0 yX0_stage wsX0_stage) := goodIn_app (goodIn_of _ (by decide +kernel)) ggX6_bend_X0_stage
set_option maxRecDepth 20000 in
theorem ggX6_bend_X5_addBend : GoodIn wsX6_bend wsX5_addBend := goodIn_r _ [32, 33, 34, 35, 36, 37, 38, 39, 40, 41, 42, 43, 44, 45, 46, 47, 48, 49, 50, 51, 52, 53, 97, 98, 89, 90, 91, 92, 93, 94, 95, 96, 99, 100, 101, 102, 103, 104, 105, 106, 107, 108, 109, 110] (by decide +kernel) (by decide +kernel)
set_option maxRecDepth 20000 in
theorem gX6_bend_X5_addBend : GoodIn wsX6_bend (wsV RX6 76 RX5 yX5_addBend wsX5_addBend) := goodIn_app (goodIn_of _ (by decide +kernel)) ggX6_bend_X5_addBend
set_option maxRecDepth 20000 in
theorem ggX6_bend_X6_settled : GoodIn wsX6_bend wsX6_settled := goodIn_r _ [57, 1, 58, 59, 40, 60, 61, 62, 63, 64, 65, 66, 67, 68, 69, 70, 7, 71, 10, 72, 73, 74, 75, 76, 77, 78, 79, 80, 81, 82, 83, 84, 85, 86, 87, 88] (by decide +kernel) (by decide +kernel)
set_option maxRecDepth 20000 in
theorem gX6_bend_X6_settled : GoodIn wsX6_bend (wsV RX6 73 RX6 yX6_settled wsX6_settled) := goodIn_app (goodIn_of _ (by decide +kernel)) ggX6_bend_X6_settled
theorem dX6_bend_0 : decode cX6_bend 0 = .ok (.aload_n 0, 1) := by decide +kernel
theorem dX6_bend_1 : decode cX6_bend 1 = .ok (.getfield 44, 3) := by decide +kernel
theorem dX6_bend_4 : decode cX6_bend 4 = .ok (.aload_n 0, 1) := by decide +kernel
theorem dX6_bend_5 : decode cX6_bend 5 = .ok (.getfield 12, 3) := by decide +kernel
theorem dX6_bend_8 : decode cX6_bend 8 = .ok (.invokevirtual 65, 3) := by decide +kernel
theorem dX6_bend_11 : decode cX6_bend 11 = .ok (.aload_n 0, 1) := by decide +kernel
theorem dX6_bend_12 : decode cX6_bend 12 = .ok (.aload_n 0, 1) := by decide +kernel
theorem dX6_bend_13 : decode cX6_bend 13 = .ok (.getfield 37, 3) := by decide +kernel
theorem dX6_bend_16 : decode cX6_bend 16 = .ok (.iload_n 1, 1) := by decide +kernel
theorem dX6_bend_17 : decode cX6_bend 17 = .ok (.iload_n 2, 1) := by decide +kernel
theorem dX6_bend_18 : decode cX6_bend 18 = .ok (.iload_n 3, 1) := by decide +kernel
theorem dX6_bend_19 : decode cX6_bend 19 = .ok (.invokevirtual 76, 3) := by decide +kernel
theorem dX6_bend_22 : decode cX6_bend 22 = .ok (.invokevirtual 73, 3) := by decide +kernel
theorem dX6_bend_25 : decode cX6_bend 25 = .ok (.ireturn, 1) := by decide +kernel
set_option maxRecDepth 20000 in
theorem ggX6_press_X0_stage : GoodIn wsX6_press wsX0_stage := goodIn_r _ [8, 9, 10, 11, 12, 13, 14, 15, 16, 17, 18, 19, 20, 21, 22, 23, 24, 25, 26, 27, 84, 85, 86, 87, 88, 89, 90, 91, 92, 93, 94] (by decide +kernel) (by decide +kernel)
set_option maxRecDepth 20000 in
theorem gX6_press_X0_stage : GoodIn wsX6_press (wsV RX6 65 RX0 yX0_stage wsX0_stage) := goodIn_app (goodIn_of _ (by decide +kernel)) ggX6_press_X0_stage
set_option maxRecDepth 20000 in
theorem ggX6_press_X5_setPress : GoodIn wsX6_press wsX5_setPress := goodIn_r _ [32, 33, 34, 35, 36, 37, 38, 39, 40, 41, 42, 43, 44, 45, 46, 47, 48, 49, 50, 51, 95, 96, 87, 88, 89, 90, 91, 92, 93, 94, 97, 98, 99, 100, 101, 102, 103, 104, 105, 106, 107, 108] (by decide +kernel) (by decide +kernel)
set_option maxRecDepth 20000 in
theorem gX6_press_X5_setPress : GoodIn wsX6_press (wsV RX6 80 RX5 yX5_setPress wsX5_setPress) := goodIn_app (goodIn_of _ (by decide +kernel)) ggX6_press_X5_setPress
set_option maxRecDepth 20000 in
theorem ggX6_press_X6_settled : GoodIn wsX6_press wsX6_settled := goodIn_r _ [55, 1, 56, 57, 38, 58, 59, 60, 61, 62, 63, 64, 65, 66, 67, 68, 7, 69, 10, 70, 71, 72, 73, 74, 75, 76, 77, 78, 79, 80, 81, 82, 83, 84, 85, 86] (by decide +kernel) (by decide +kernel)
set_option maxRecDepth 20000 in
theorem gX6_press_X6_settled : GoodIn wsX6_press (wsV RX6 73 RX6 yX6_settled wsX6_settled) := goodIn_app (goodIn_of _ (by decide +kernel)) ggX6_press_X6_settled
theorem dX6_press_0 : decode cX6_press 0 = .ok (.aload_n 0, 1) := by decide +kernel
theorem dX6_press_1 : decode cX6_press 1 = .ok (.getfield 44, 3) := by decide +kernel
theorem dX6_press_4 : decode cX6_press 4 = .ok (.aload_n 0, 1) := by decide +kernel
theorem dX6_press_5 : decode cX6_press 5 = .ok (.getfield 12, 3) := by decide +kernel
theorem dX6_press_8 : decode cX6_press 8 = .ok (.invokevirtual 65, 3) := by decide +kernel
theorem dX6_press_11 : decode cX6_press 11 = .ok (.aload_n 0, 1) := by decide +kernel
theorem dX6_press_12 : decode cX6_press 12 = .ok (.aload_n 0, 1) := by decide +kernel
theorem dX6_press_13 : decode cX6_press 13 = .ok (.getfield 37, 3) := by decide +kernel
theorem dX6_press_16 : decode cX6_press 16 = .ok (.iload_n 1, 1) := by decide +kernel
theorem dX6_press_17 : decode cX6_press 17 = .ok (.iload_n 2, 1) := by decide +kernel
theorem dX6_press_18 : decode cX6_press 18 = .ok (.invokevirtual 80, 3) := by decide +kernel
theorem dX6_press_21 : decode cX6_press 21 = .ok (.invokevirtual 73, 3) := by decide +kernel
theorem dX6_press_24 : decode cX6_press 24 = .ok (.ireturn, 1) := by decide +kernel
set_option maxRecDepth 20000 in
theorem ggX6_takes_X0_stage : GoodIn wsX6_takes wsX0_stage := goodIn_r _ [8, 9, 10, 11, 12, 13, 14, 15, 16, 17, 18, 19, 20, 21, 22, 23, 24, 25, 26, 27, 70, 71, 72, 73, 74, 75, 76, 77, 78, 79, 80] (by decide +kernel) (by decide +kernel)
set_option maxRecDepth 20000 in
theorem gX6_takes_X0_stage : GoodIn wsX6_takes (wsV RX6 65 RX0 yX0_stage wsX0_stage) := goodIn_app (goodIn_of _ (by decide +kernel)) ggX6_takes_X0_stage
set_option maxRecDepth 20000 in
theorem ggX6_takes_X5_setTaken : GoodIn wsX6_takes wsX5_setTaken := goodIn_r _ [32, 33, 34, 35, 36, 37, 81, 82, 73, 74, 75, 76, 77, 78, 79, 80] (by decide +kernel) (by decide +kernel)
set_option maxRecDepth 20000 in
theorem gX6_takes_X5_setTaken : GoodIn wsX6_takes (wsV RX6 84 RX5 yX5_setTaken wsX5_setTaken) := goodIn_app (goodIn_of _ (by decide +kernel)) ggX6_takes_X5_setTaken
set_option maxRecDepth 20000 in
theorem ggX6_takes_X6_settled : GoodIn wsX6_takes wsX6_settled := goodIn_r _ [41, 1, 42, 43, 36, 44, 45, 46, 47, 48, 49, 50, 51, 52, 53, 54, 7, 55, 10, 56, 57, 58, 59, 60, 61, 62, 63, 64, 65, 66, 67, 68, 69, 70, 71, 72] (by decide +kernel) (by decide +kernel)
set_option maxRecDepth 20000 in
theorem gX6_takes_X6_settled : GoodIn wsX6_takes (wsV RX6 73 RX6 yX6_settled wsX6_settled) := goodIn_app (goodIn_of _ (by decide +kernel)) ggX6_takes_X6_settled
theorem dX6_takes_0 : decode cX6_takes 0 = .ok (.aload_n 0, 1) := by decide +kernel
theorem dX6_takes_1 : decode cX6_takes 1 = .ok (.getfield 44, 3) := by decide +kernel
theorem dX6_takes_4 : decode cX6_takes 4 = .ok (.aload_n 0, 1) := by decide +kernel
theorem dX6_takes_5 : decode cX6_takes 5 = .ok (.getfield 12, 3) := by decide +kernel
theorem dX6_takes_8 : decode cX6_takes 8 = .ok (.invokevirtual 65, 3) := by decide +kernel
theorem dX6_takes_11 : decode cX6_takes 11 = .ok (.aload_n 0, 1) := by decide +kernel
theorem dX6_takes_12 : decode cX6_takes 12 = .ok (.aload_n 0, 1) := by decide +kernel
theorem dX6_takes_13 : decode cX6_takes 13 = .ok (.getfield 37, 3) := by decide +kernel
theorem dX6_takes_16 : decode cX6_takes 16 = .ok (.iload_n 1, 1) := by decide +kernel
theorem dX6_takes_17 : decode cX6_takes 17 = .ok (.iload_n 2, 1) := by decide +kernel
theorem dX6_takes_18 : decode cX6_takes 18 = .ok (.invokevirtual 84, 3) := by decide +kernel
theorem dX6_takes_21 : decode cX6_takes 21 = .ok (.invokevirtual 73, 3) := by decide +kernel
theorem dX6_takes_24 : decode cX6_takes 24 = .ok (.ireturn, 1) := by decide +kernel
set_option maxRecDepth 20000 in
theorem ggX6_makes_X0_stage : GoodIn wsX6_makes wsX0_stage := goodIn_r _ [8, 9, 10, 11, 12, 13, 14, 15, 16, 17, 18, 19, 20, 21, 22, 23, 24, 25, 26, 27, 127, 128, 129, 130, 131, 132, 133, 134, 135, 136, 137] (by decide +kernel) (by decide +kernel)
set_option maxRecDepth 20000 in
theorem gX6_makes_X0_stage : GoodIn wsX6_makes (wsV RX6 65 RX0 yX0_stage wsX0_stage) := goodIn_app (goodIn_of _ (by decide +kernel)) ggX6_makes_X0_stage
set_option maxRecDepth 20000 in
theorem ggX6_makes_X5_makeBend : GoodIn wsX6_makes wsX5_makeBend := goodIn_r _ [32, 33, 34, 35, 36, 37, 38, 14, 39, 24, 40, 41, 42, 43, 25, 44, 45, 46, 47, 48, 49, 50, 51, 52, 53, 54, 55, 56, 57, 58, 59, 60, 61, 62, 63, 64, 65, 66, 67, 68, 69, 70, 71, 72, 73, 74, 75, 76, 77, 78, 79, 80, 81, 82, 83, 84, 85, 86, 87, 88, 89, 90, 91, 92, 93, 94, 95, 96, 138, 139, 130, 131, 132, 133, 134, 135, 136, 137, 140, 141, 142, 143, 144, 145, 146, 147, 148, 149, 150, 151, 152, 153, 154, 155] (by decide +kernel) (by decide +kernel)
set_option maxRecDepth 20000 in
theorem gX6_makes_X5_makeBend : GoodIn wsX6_makes (wsV RX6 87 RX5 yX5_makeBend wsX5_makeBend) := goodIn_app (goodIn_of _ (by decide +kernel)) ggX6_makes_X5_makeBend
set_option maxRecDepth 20000 in
theorem ggX6_makes_X6_settled : GoodIn wsX6_makes wsX6_settled := goodIn_r _ [101, 1, 102, 103, 100, 104, 105, 106, 107, 108, 109, 110, 111, 112, 113, 114, 7, 115, 10, 116, 117, 70, 71, 72, 118, 119, 120, 121, 122, 123, 124, 125, 126, 127, 128, 129] (by decide +kernel) (by decide +kernel)
set_option maxRecDepth 20000 in
theorem gX6_makes_X6_settled : GoodIn wsX6_makes (wsV RX6 73 RX6 yX6_settled wsX6_settled) := goodIn_app (goodIn_of _ (by decide +kernel)) ggX6_makes_X6_settled
theorem dX6_makes_0 : decode cX6_makes 0 = .ok (.aload_n 0, 1) := by decide +kernel
theorem dX6_makes_1 : decode cX6_makes 1 = .ok (.getfield 44, 3) := by decide +kernel
theorem dX6_makes_4 : decode cX6_makes 4 = .ok (.aload_n 0, 1) := by decide +kernel
theorem dX6_makes_5 : decode cX6_makes 5 = .ok (.getfield 12, 3) := by decide +kernel
theorem dX6_makes_8 : decode cX6_makes 8 = .ok (.invokevirtual 65, 3) := by decide +kernel
theorem dX6_makes_11 : decode cX6_makes 11 = .ok (.aload_n 0, 1) := by decide +kernel
theorem dX6_makes_12 : decode cX6_makes 12 = .ok (.aload_n 0, 1) := by decide +kernel
theorem dX6_makes_13 : decode cX6_makes 13 = .ok (.getfield 37, 3) := by decide +kernel
theorem dX6_makes_16 : decode cX6_makes 16 = .ok (.iload_n 1, 1) := by decide +kernel
theorem dX6_makes_17 : decode cX6_makes 17 = .ok (.invokevirtual 87, 3) := by decide +kernel
theorem dX6_makes_20 : decode cX6_makes 20 = .ok (.invokevirtual 73, 3) := by decide +kernel
theorem dX6_makes_23 : decode cX6_makes 23 = .ok (.ireturn, 1) := by decide +kernel
set_option maxRecDepth 20000 in
theorem ggX6_unmakes_X0_stage : GoodIn wsX6_unmakes wsX0_stage := goodIn_r _ [8, 9, 10, 11, 12, 13, 14, 15, 16, 17, 18, 19, 20, 21, 22, 23, 24, 25, 26, 27, 83, 84, 85, 86, 87, 88, 89, 90, 91, 92, 93] (by decide +kernel) (by decide +kernel)
set_option maxRecDepth 20000 in
theorem gX6_unmakes_X0_stage : GoodIn wsX6_unmakes (wsV RX6 65 RX0 yX0_stage wsX0_stage) := goodIn_app (goodIn_of _ (by decide +kernel)) ggX6_unmakes_X0_stage
set_option maxRecDepth 20000 in
theorem ggX6_unmakes_X5_unmakeBend : GoodIn wsX6_unmakes wsX5_unmakeBend := goodIn_r _ [32, 33, 34, 35, 36, 37, 14, 38, 24, 39, 40, 41, 42, 25, 43, 44, 45, 46, 47, 48, 49, 94, 95, 86, 87, 88, 89, 90, 91, 92, 93] (by decide +kernel) (by decide +kernel)
set_option maxRecDepth 20000 in
theorem gX6_unmakes_X5_unmakeBend : GoodIn wsX6_unmakes (wsV RX6 90 RX5 yX5_unmakeBend wsX5_unmakeBend) := goodIn_app (goodIn_of _ (by decide +kernel)) ggX6_unmakes_X5_unmakeBend
set_option maxRecDepth 20000 in
theorem ggX6_unmakes_X6_settled : GoodIn wsX6_unmakes wsX6_settled := goodIn_r _ [54, 1, 55, 56, 53, 57, 58, 59, 60, 61, 62, 63, 64, 65, 66, 67, 7, 68, 10, 69, 70, 71, 72, 73, 74, 75, 76, 77, 78, 79, 80, 81, 82, 83, 84, 85] (by decide +kernel) (by decide +kernel)
set_option maxRecDepth 20000 in
theorem gX6_unmakes_X6_settled : GoodIn wsX6_unmakes (wsV RX6 73 RX6 yX6_settled wsX6_settled) := goodIn_app (goodIn_of _ (by decide +kernel)) ggX6_unmakes_X6_settled
theorem dX6_unmakes_0 : decode cX6_unmakes 0 = .ok (.aload_n 0, 1) := by decide +kernel
theorem dX6_unmakes_1 : decode cX6_unmakes 1 = .ok (.getfield 44, 3) := by decide +kernel
theorem dX6_unmakes_4 : decode cX6_unmakes 4 = .ok (.aload_n 0, 1) := by decide +kernel
theorem dX6_unmakes_5 : decode cX6_unmakes 5 = .ok (.getfield 12, 3) := by decide +kernel
theorem dX6_unmakes_8 : decode cX6_unmakes 8 = .ok (.invokevirtual 65, 3) := by decide +kernel
theorem dX6_unmakes_11 : decode cX6_unmakes 11 = .ok (.aload_n 0, 1) := by decide +kernel
theorem dX6_unmakes_12 : decode cX6_unmakes 12 = .ok (.aload_n 0, 1) := by decide +kernel
theorem dX6_unmakes_13 : decode cX6_unmakes 13 = .ok (.getfield 37, 3) := by decide +kernel
theorem dX6_unmakes_16 : decode cX6_unmakes 16 = .ok (.iload_n 1, 1) := by decide +kernel
theorem dX6_unmakes_17 : decode cX6_unmakes 17 = .ok (.invokevirtual 90, 3) := by decide +kernel
theorem dX6_unmakes_20 : decode cX6_unmakes 20 = .ok (.invokevirtual 73, 3) := by decide +kernel
theorem dX6_unmakes_23 : decode cX6_unmakes 23 = .ok (.ireturn, 1) := by decide +kernel
set_option maxRecDepth 20000 in
theorem ggX6_again_X0_stage : GoodIn wsX6_again wsX0_stage := goodIn_r _ [8, 9, 10, 11, 12, 13, 14, 15, 16, 17, 18, 19, 20, 21, 22, 23, 24, 25, 26, 27, 75, 76, 77, 78, 79, 80, 81, 82, 83, 84, 85] (by decide +kernel) (by decide +kernel)
set_option maxRecDepth 20000 in
theorem gX6_again_X0_stage : GoodIn wsX6_again (wsV RX6 65 RX0 yX0_stage wsX0_stage) := goodIn_app (goodIn_of _ (by decide +kernel)) ggX6_again_X0_stage
set_option maxRecDepth 20000 in
theorem ggX6_again_X5_unmakeAll : GoodIn wsX6_again wsX5_unmakeAll := goodIn_r _ [32, 33, 34, 35, 36, 37, 38, 39, 40, 41, 86, 87, 78, 79, 80, 81, 82, 83, 84, 85] (by decide +kernel) (by decide +kernel)
set_option maxRecDepth 20000 in
theorem gX6_again_X5_unmakeAll : GoodIn wsX6_again (wsV RX6 93 RX5 yX5_unmakeAll wsX5_unmakeAll) := goodIn_app (goodIn_of _ (by decide +kernel)) ggX6_again_X5_unmakeAll
set_option maxRecDepth 20000 in
theorem ggX6_again_X6_settled : GoodIn wsX6_again wsX6_settled := goodIn_r _ [46, 1, 47, 48, 45, 49, 50, 51, 52, 53, 54, 55, 56, 57, 58, 59, 7, 60, 10, 61, 62, 63, 64, 65, 66, 67, 68, 69, 70, 71, 72, 73, 74, 75, 76, 77] (by decide +kernel) (by decide +kernel)
set_option maxRecDepth 20000 in
theorem gX6_again_X6_settled : GoodIn wsX6_again (wsV RX6 73 RX6 yX6_settled wsX6_settled) := goodIn_app (goodIn_of _ (by decide +kernel)) ggX6_again_X6_settled
theorem dX6_again_0 : decode cX6_again 0 = .ok (.aload_n 0, 1) := by decide +kernel
theorem dX6_again_1 : decode cX6_again 1 = .ok (.getfield 44, 3) := by decide +kernel
theorem dX6_again_4 : decode cX6_again 4 = .ok (.aload_n 0, 1) := by decide +kernel
theorem dX6_again_5 : decode cX6_again 5 = .ok (.getfield 12, 3) := by decide +kernel
theorem dX6_again_8 : decode cX6_again 8 = .ok (.invokevirtual 65, 3) := by decide +kernel
theorem dX6_again_11 : decode cX6_again 11 = .ok (.aload_n 0, 1) := by decide +kernel
theorem dX6_again_12 : decode cX6_again 12 = .ok (.aload_n 0, 1) := by decide +kernel
theorem dX6_again_13 : decode cX6_again 13 = .ok (.getfield 37, 3) := by decide +kernel
theorem dX6_again_16 : decode cX6_again 16 = .ok (.invokevirtual 93, 3) := by decide +kernel
theorem dX6_again_19 : decode cX6_again 19 = .ok (.invokevirtual 73, 3) := by decide +kernel
theorem dX6_again_22 : decode cX6_again 22 = .ok (.ireturn, 1) := by decide +kernel
set_option maxRecDepth 20000 in
theorem ggX6_of_X4_hasBend : GoodIn wsX6_of wsX4_hasBend := goodIn_r _ [9, 10, 33, 34, 35, 36, 37, 38, 39, 40] (by decide +kernel) (by decide +kernel)
set_option maxRecDepth 20000 in
theorem gX6_of_X4_hasBend : GoodIn wsX6_of (wsV RX6 97 RX4 yX4_hasBend wsX4_hasBend) := goodIn_app (goodIn_of _ (by decide +kernel)) ggX6_of_X4_hasBend
set_option maxRecDepth 20000 in
theorem ggX6_of_X6_refused : GoodIn wsX6_of wsX6_refused := goodIn_r _ [15, 16, 17, 18, 24, 25, 26, 27, 28, 29, 30, 31, 32] (by decide +kernel) (by decide +kernel)
set_option maxRecDepth 20000 in
theorem gX6_of_X6_refused : GoodIn wsX6_of (wsV RX6 101 RX6 yX6_refused wsX6_refused) := goodIn_app (goodIn_of _ (by decide +kernel)) ggX6_of_X6_refused
set_option maxRecDepth 20000 in
theorem ggX6_of_X4_isMade : GoodIn wsX6_of wsX4_isMade := goodIn_r _ [22, 23, 33, 34, 35, 36, 37, 38, 39, 40] (by decide +kernel) (by decide +kernel)
set_option maxRecDepth 20000 in
theorem gX6_of_X4_isMade : GoodIn wsX6_of (wsV RX6 114 RX4 yX4_isMade wsX4_isMade) := goodIn_app (goodIn_of _ (by decide +kernel)) ggX6_of_X4_isMade
theorem dX6_of_0 : decode cX6_of 0 = .ok (.aload_n 0, 1) := by decide +kernel
theorem dX6_of_1 : decode cX6_of 1 = .ok (.getfield 12, 3) := by decide +kernel
theorem dX6_of_4 : decode cX6_of 4 = .ok (.iload_n 1, 1) := by decide +kernel
theorem dX6_of_5 : decode cX6_of 5 = .ok (.invokevirtual 97, 3) := by decide +kernel
theorem dX6_of_8 : decode cX6_of 8 = .ok (.ifCond .ne 11, 3) := by decide +kernel
theorem dX6_of_11 : decode cX6_of 11 = .ok (.aload_n 0, 1) := by decide +kernel
theorem dX6_of_12 : decode cX6_of 12 = .ok (.sipush (-1001), 3) := by decide +kernel
theorem dX6_of_15 : decode cX6_of 15 = .ok (.invokevirtual 101, 3) := by decide +kernel
theorem dX6_of_18 : decode cX6_of 18 = .ok (.ireturn, 1) := by decide +kernel
theorem dX6_of_19 : decode cX6_of 19 = .ok (.iload_n 2, 1) := by decide +kernel
theorem dX6_of_20 : decode cX6_of 20 = .ok (.tableswitch 81 0 3 #[32, 44, 54, 64], 32) := by decide +kernel
theorem dX6_of_52 : decode cX6_of 52 = .ok (.aload_n 0, 1) := by decide +kernel
theorem dX6_of_53 : decode cX6_of 53 = .ok (.getfield 12, 3) := by decide +kernel
theorem dX6_of_56 : decode cX6_of 56 = .ok (.getfield 104, 3) := by decide +kernel
theorem dX6_of_59 : decode cX6_of 59 = .ok (.iload_n 1, 1) := by decide +kernel
theorem dX6_of_60 : decode cX6_of 60 = .ok (.iconst 1, 1) := by decide +kernel
theorem dX6_of_61 : decode cX6_of 61 = .ok (.iadd, 1) := by decide +kernel
theorem dX6_of_62 : decode cX6_of 62 = .ok (.iaload, 1) := by decide +kernel
theorem dX6_of_63 : decode cX6_of 63 = .ok (.ireturn, 1) := by decide +kernel
theorem dX6_of_64 : decode cX6_of 64 = .ok (.aload_n 0, 1) := by decide +kernel
theorem dX6_of_65 : decode cX6_of 65 = .ok (.getfield 12, 3) := by decide +kernel
theorem dX6_of_68 : decode cX6_of 68 = .ok (.getfield 108, 3) := by decide +kernel
theorem dX6_of_71 : decode cX6_of 71 = .ok (.iload_n 1, 1) := by decide +kernel
theorem dX6_of_72 : decode cX6_of 72 = .ok (.iaload, 1) := by decide +kernel
theorem dX6_of_73 : decode cX6_of 73 = .ok (.ireturn, 1) := by decide +kernel
theorem dX6_of_74 : decode cX6_of 74 = .ok (.aload_n 0, 1) := by decide +kernel
theorem dX6_of_75 : decode cX6_of 75 = .ok (.getfield 12, 3) := by decide +kernel
theorem dX6_of_78 : decode cX6_of 78 = .ok (.getfield 111, 3) := by decide +kernel
theorem dX6_of_81 : decode cX6_of 81 = .ok (.iload_n 1, 1) := by decide +kernel
theorem dX6_of_82 : decode cX6_of 82 = .ok (.iaload, 1) := by decide +kernel
theorem dX6_of_83 : decode cX6_of 83 = .ok (.ireturn, 1) := by decide +kernel
theorem dX6_of_84 : decode cX6_of 84 = .ok (.aload_n 0, 1) := by decide +kernel
theorem dX6_of_85 : decode cX6_of 85 = .ok (.getfield 12, 3) := by decide +kernel
theorem dX6_of_88 : decode cX6_of 88 = .ok (.iload_n 1, 1) := by decide +kernel
theorem dX6_of_89 : decode cX6_of 89 = .ok (.invokevirtual 114, 3) := by decide +kernel
theorem dX6_of_92 : decode cX6_of 92 = .ok (.ifCond .eq 7, 3) := by decide +kernel
theorem dX6_of_95 : decode cX6_of 95 = .ok (.iconst 1, 1) := by decide +kernel
theorem dX6_of_96 : decode cX6_of 96 = .ok (.goto 4, 3) := by decide +kernel
theorem dX6_of_99 : decode cX6_of 99 = .ok (.iconst 0, 1) := by decide +kernel
theorem dX6_of_100 : decode cX6_of 100 = .ok (.ireturn, 1) := by decide +kernel
theorem dX6_of_101 : decode cX6_of 101 = .ok (.aload_n 0, 1) := by decide +kernel
theorem dX6_of_102 : decode cX6_of 102 = .ok (.sipush (-1001), 3) := by decide +kernel
theorem dX6_of_105 : decode cX6_of 105 = .ok (.invokevirtual 101, 3) := by decide +kernel
theorem dX6_of_108 : decode cX6_of 108 = .ok (.ireturn, 1) := by decide +kernel
set_option maxRecDepth 20000 in
theorem ggX6_joint_X6_isWithin : GoodIn wsX6_joint wsX6_isWithin := goodIn_r _ [10] (by decide +kernel) (by decide +kernel)
set_option maxRecDepth 20000 in
theorem gX6_joint_X6_isWithin : GoodIn wsX6_joint (va_wsS RX6 120 yX6_isWithin wsX6_isWithin) := goodIn_app (goodIn_of _ (by decide +kernel)) ggX6_joint_X6_isWithin
set_option maxRecDepth 20000 in
theorem ggX6_joint_X6_refused : GoodIn wsX6_joint wsX6_refused := goodIn_r _ [14, 15, 16, 17, 32, 33, 34, 35, 36, 37, 38, 39, 40] (by decide +kernel) (by decide +kernel)
set_option maxRecDepth 20000 in
theorem gX6_joint_X6_refused : GoodIn wsX6_joint (wsV RX6 101 RX6 yX6_refused wsX6_refused) := goodIn_app (goodIn_of _ (by decide +kernel)) ggX6_joint_X6_refused
set_option maxRecDepth 20000 in
theorem ggX6_joint_X3_trace : GoodIn wsX6_joint wsX3_trace := goodIn_r _ [22, 23, 24, 25, 26, 27, 28, 29, 30, 31, 41, 42, 43, 44, 45, 46, 47, 48, 49, 50, 51, 52] (by decide +kernel) (by decide +kernel)
set_option maxRecDepth 20000 in
theorem gX6_joint_X3_trace : GoodIn wsX6_joint (wsV RX6 127 RX3 yX3_trace wsX3_trace) := goodIn_app (goodIn_of _ (by decide +kernel)) ggX6_joint_X3_trace
theorem dX6_joint_0 : decode cX6_joint 0 = .ok (.iload_n 1, 1) := by decide +kernel
theorem dX6_joint_1 : decode cX6_joint 1 = .ok (.iconst 0, 1) := by decide +kernel
theorem dX6_joint_2 : decode cX6_joint 2 = .ok (.aload_n 0, 1) := by decide +kernel
theorem dX6_joint_3 : decode cX6_joint 3 = .ok (.getfield 12, 3) := by decide +kernel
theorem dX6_joint_6 : decode cX6_joint 6 = .ok (.getfield 117, 3) := by decide +kernel
theorem dX6_joint_9 : decode cX6_joint 9 = .ok (.iconst 1, 1) := by decide +kernel
theorem dX6_joint_10 : decode cX6_joint 10 = .ok (.iadd, 1) := by decide +kernel
theorem dX6_joint_11 : decode cX6_joint 11 = .ok (.invokestatic 120, 3) := by decide +kernel
theorem dX6_joint_14 : decode cX6_joint 14 = .ok (.ifCond .eq 12, 3) := by decide +kernel
theorem dX6_joint_17 : decode cX6_joint 17 = .ok (.iload_n 2, 1) := by decide +kernel
theorem dX6_joint_18 : decode cX6_joint 18 = .ok (.iconst 0, 1) := by decide +kernel
theorem dX6_joint_19 : decode cX6_joint 19 = .ok (.iconst 1, 1) := by decide +kernel
theorem dX6_joint_20 : decode cX6_joint 20 = .ok (.invokestatic 120, 3) := by decide +kernel
theorem dX6_joint_23 : decode cX6_joint 23 = .ok (.ifCond .ne 11, 3) := by decide +kernel
theorem dX6_joint_26 : decode cX6_joint 26 = .ok (.aload_n 0, 1) := by decide +kernel
theorem dX6_joint_27 : decode cX6_joint 27 = .ok (.sipush (-1001), 3) := by decide +kernel
theorem dX6_joint_30 : decode cX6_joint 30 = .ok (.invokevirtual 101, 3) := by decide +kernel
theorem dX6_joint_33 : decode cX6_joint 33 = .ok (.ireturn, 1) := by decide +kernel
theorem dX6_joint_34 : decode cX6_joint 34 = .ok (.aload_n 0, 1) := by decide +kernel
theorem dX6_joint_35 : decode cX6_joint 35 = .ok (.getfield 19, 3) := by decide +kernel
theorem dX6_joint_38 : decode cX6_joint 38 = .ok (.aload_n 0, 1) := by decide +kernel
theorem dX6_joint_39 : decode cX6_joint 39 = .ok (.getfield 12, 3) := by decide +kernel
theorem dX6_joint_42 : decode cX6_joint 42 = .ok (.aload_n 0, 1) := by decide +kernel
theorem dX6_joint_43 : decode cX6_joint 43 = .ok (.getfield 12, 3) := by decide +kernel
theorem dX6_joint_46 : decode cX6_joint 46 = .ok (.getfield 124, 3) := by decide +kernel
theorem dX6_joint_49 : decode cX6_joint 49 = .ok (.invokevirtual 127, 3) := by decide +kernel
theorem dX6_joint_52 : decode cX6_joint 52 = .ok (.iload_n 2, 1) := by decide +kernel
theorem dX6_joint_53 : decode cX6_joint 53 = .ok (.ifCond .ne 15, 3) := by decide +kernel
theorem dX6_joint_56 : decode cX6_joint 56 = .ok (.aload_n 0, 1) := by decide +kernel
theorem dX6_joint_57 : decode cX6_joint 57 = .ok (.getfield 19, 3) := by decide +kernel
theorem dX6_joint_60 : decode cX6_joint 60 = .ok (.getfield 131, 3) := by decide +kernel
theorem dX6_joint_63 : decode cX6_joint 63 = .ok (.iload_n 1, 1) := by decide +kernel
theorem dX6_joint_64 : decode cX6_joint 64 = .ok (.iaload, 1) := by decide +kernel
theorem dX6_joint_65 : decode cX6_joint 65 = .ok (.goto 12, 3) := by decide +kernel
theorem dX6_joint_68 : decode cX6_joint 68 = .ok (.aload_n 0, 1) := by decide +kernel
theorem dX6_joint_69 : decode cX6_joint 69 = .ok (.getfield 19, 3) := by decide +kernel
theorem dX6_joint_72 : decode cX6_joint 72 = .ok (.getfield 134, 3) := by decide +kernel
theorem dX6_joint_75 : decode cX6_joint 75 = .ok (.iload_n 1, 1) := by decide +kernel
theorem dX6_joint_76 : decode cX6_joint 76 = .ok (.iaload, 1) := by decide +kernel
theorem dX6_joint_77 : decode cX6_joint 77 = .ok (.ireturn, 1) := by decide +kernel
set_option maxRecDepth 20000 in
theorem ggX6_box_X6_isWithin : GoodIn wsX6_box wsX6_isWithin := goodIn_r _ [9] (by decide +kernel) (by decide +kernel)
set_option maxRecDepth 20000 in
theorem gX6_box_X6_isWithin : GoodIn wsX6_box (va_wsS RX6 120 yX6_isWithin wsX6_isWithin) := goodIn_app (goodIn_of _ (by decide +kernel)) ggX6_box_X6_isWithin
set_option maxRecDepth 20000 in
theorem ggX6_box_X6_refused : GoodIn wsX6_box wsX6_refused := goodIn_r _ [13, 14, 15, 16, 46, 47, 48, 49, 50, 51, 52, 53, 54] (by decide +kernel) (by decide +kernel)
set_option maxRecDepth 20000 in
theorem gX6_box_X6_refused : GoodIn wsX6_box (wsV RX6 101 RX6 yX6_refused wsX6_refused) := goodIn_app (goodIn_of _ (by decide +kernel)) ggX6_box_X6_refused
set_option maxRecDepth 20000 in
theorem ggX6_box_X3_trace : GoodIn wsX6_box wsX3_trace := goodIn_r _ [21, 22, 23, 24, 25, 26, 27, 28, 29, 30, 55, 56, 57, 58, 59, 60, 61, 62, 63, 64, 65, 66] (by decide +kernel) (by decide +kernel)
set_option maxRecDepth 20000 in
theorem gX6_box_X3_trace : GoodIn wsX6_box (wsV RX6 127 RX3 yX3_trace wsX3_trace) := goodIn_app (goodIn_of _ (by decide +kernel)) ggX6_box_X3_trace
set_option maxRecDepth 20000 in
theorem ggX6_box_X3_least : GoodIn wsX6_box wsX3_least := goodIn_r _ [34, 23, 35, 36, 37, 38, 63, 64, 65, 66] (by decide +kernel) (by decide +kernel)
set_option maxRecDepth 20000 in
theorem gX6_box_X3_least : GoodIn wsX6_box (wsV RX6 137 RX3 yX3_least wsX3_least) := goodIn_app (goodIn_of _ (by decide +kernel)) ggX6_box_X3_least
set_option maxRecDepth 20000 in
theorem ggX6_box_X3_greatest : GoodIn wsX6_box wsX3_greatest := goodIn_r _ [42, 23, 43, 44, 37, 45, 63, 64, 65, 66] (by decide +kernel) (by decide +kernel)
set_option maxRecDepth 20000 in
theorem gX6_box_X3_greatest : GoodIn wsX6_box (wsV RX6 141 RX3 yX3_greatest wsX3_greatest) := goodIn_app (goodIn_of _ (by decide +kernel)) ggX6_box_X3_greatest
theorem dX6_box_0 : decode cX6_box 0 = .ok (.iload_n 1, 1) := by decide +kernel
theorem dX6_box_1 : decode cX6_box 1 = .ok (.iconst 0, 1) := by decide +kernel
theorem dX6_box_2 : decode cX6_box 2 = .ok (.iconst 3, 1) := by decide +kernel
theorem dX6_box_3 : decode cX6_box 3 = .ok (.invokestatic 120, 3) := by decide +kernel
theorem dX6_box_6 : decode cX6_box 6 = .ok (.ifCond .ne 11, 3) := by decide +kernel
theorem dX6_box_9 : decode cX6_box 9 = .ok (.aload_n 0, 1) := by decide +kernel
theorem dX6_box_10 : decode cX6_box 10 = .ok (.sipush (-1001), 3) := by decide +kernel
theorem dX6_box_13 : decode cX6_box 13 = .ok (.invokevirtual 101, 3) := by decide +kernel
theorem dX6_box_16 : decode cX6_box 16 = .ok (.ireturn, 1) := by decide +kernel
theorem dX6_box_17 : decode cX6_box 17 = .ok (.aload_n 0, 1) := by decide +kernel
theorem dX6_box_18 : decode cX6_box 18 = .ok (.getfield 19, 3) := by decide +kernel
theorem dX6_box_21 : decode cX6_box 21 = .ok (.aload_n 0, 1) := by decide +kernel
theorem dX6_box_22 : decode cX6_box 22 = .ok (.getfield 12, 3) := by decide +kernel
theorem dX6_box_25 : decode cX6_box 25 = .ok (.aload_n 0, 1) := by decide +kernel
theorem dX6_box_26 : decode cX6_box 26 = .ok (.getfield 12, 3) := by decide +kernel
theorem dX6_box_29 : decode cX6_box 29 = .ok (.getfield 124, 3) := by decide +kernel
theorem dX6_box_32 : decode cX6_box 32 = .ok (.invokevirtual 127, 3) := by decide +kernel
theorem dX6_box_35 : decode cX6_box 35 = .ok (.iload_n 1, 1) := by decide +kernel
theorem dX6_box_36 : decode cX6_box 36 = .ok (.iconst 2, 1) := by decide +kernel
theorem dX6_box_37 : decode cX6_box 37 = .ok (.irem, 1) := by decide +kernel
theorem dX6_box_38 : decode cX6_box 38 = .ok (.ifCond .ne 13, 3) := by decide +kernel
theorem dX6_box_41 : decode cX6_box 41 = .ok (.aload_n 0, 1) := by decide +kernel
theorem dX6_box_42 : decode cX6_box 42 = .ok (.getfield 19, 3) := by decide +kernel
theorem dX6_box_45 : decode cX6_box 45 = .ok (.getfield 131, 3) := by decide +kernel
theorem dX6_box_48 : decode cX6_box 48 = .ok (.goto 10, 3) := by decide +kernel
theorem dX6_box_51 : decode cX6_box 51 = .ok (.aload_n 0, 1) := by decide +kernel
theorem dX6_box_52 : decode cX6_box 52 = .ok (.getfield 19, 3) := by decide +kernel
theorem dX6_box_55 : decode cX6_box 55 = .ok (.getfield 134, 3) := by decide +kernel
theorem dX6_box_58 : decode cX6_box 58 = .ok (.astore_n 2, 1) := by decide +kernel
theorem dX6_box_59 : decode cX6_box 59 = .ok (.iload_n 1, 1) := by decide +kernel
theorem dX6_box_60 : decode cX6_box 60 = .ok (.iconst 2, 1) := by decide +kernel
theorem dX6_box_61 : decode cX6_box 61 = .ok (.if_icmp .ge 14, 3) := by decide +kernel
theorem dX6_box_64 : decode cX6_box 64 = .ok (.aload_n 0, 1) := by decide +kernel
theorem dX6_box_65 : decode cX6_box 65 = .ok (.getfield 19, 3) := by decide +kernel
theorem dX6_box_68 : decode cX6_box 68 = .ok (.aload_n 2, 1) := by decide +kernel
theorem dX6_box_69 : decode cX6_box 69 = .ok (.invokevirtual 137, 3) := by decide +kernel
theorem dX6_box_72 : decode cX6_box 72 = .ok (.goto 11, 3) := by decide +kernel
theorem dX6_box_75 : decode cX6_box 75 = .ok (.aload_n 0, 1) := by decide +kernel
theorem dX6_box_76 : decode cX6_box 76 = .ok (.getfield 19, 3) := by decide +kernel
theorem dX6_box_79 : decode cX6_box 79 = .ok (.aload_n 2, 1) := by decide +kernel
theorem dX6_box_80 : decode cX6_box 80 = .ok (.invokevirtual 141, 3) := by decide +kernel
theorem dX6_box_83 : decode cX6_box 83 = .ok (.ireturn, 1) := by decide +kernel
set_option maxRecDepth 20000 in
theorem ggX6_hits_X4_hasBend : GoodIn wsX6_hits wsX4_hasBend := goodIn_r _ [8, 9, 78, 79, 80, 81, 82, 83, 84, 85] (by decide +kernel) (by decide +kernel)
set_option maxRecDepth 20000 in
theorem gX6_hits_X4_hasBend : GoodIn wsX6_hits (wsV RX6 97 RX4 yX4_hasBend wsX4_hasBend) := goodIn_app (goodIn_of _ (by decide +kernel)) ggX6_hits_X4_hasBend
set_option maxRecDepth 20000 in
theorem ggX6_hits_X6_refused : GoodIn wsX6_hits wsX6_refused := goodIn_r _ [14, 15, 16, 17, 69, 70, 71, 72, 73, 74, 75, 76, 77] (by decide +kernel) (by decide +kernel)
set_option maxRecDepth 20000 in
theorem gX6_hits_X6_refused : GoodIn wsX6_hits (wsV RX6 101 RX6 yX6_refused wsX6_refused) := goodIn_app (goodIn_of _ (by decide +kernel)) ggX6_hits_X6_refused
set_option maxRecDepth 20000 in
theorem ggX6_hits_X4_isMade : GoodIn wsX6_hits wsX4_isMade := goodIn_r _ [21, 22, 78, 79, 80, 81, 82, 83, 84, 85] (by decide +kernel) (by decide +kernel)
set_option maxRecDepth 20000 in
theorem gX6_hits_X4_isMade : GoodIn wsX6_hits (wsV RX6 114 RX4 yX4_isMade wsX4_isMade) := goodIn_app (goodIn_of _ (by decide +kernel)) ggX6_hits_X4_isMade
set_option maxRecDepth 20000 in
theorem ggX6_hits_X1_hitOf : GoodIn wsX6_hits wsX1_hitOf := goodIn_r _ [27, 28, 29, 30, 31, 32, 33, 34, 35, 36, 37, 38, 39, 40, 41, 42, 43, 44, 45, 46, 47, 48, 49, 50, 51, 52, 53, 54, 55, 56, 57, 58, 59, 26, 60, 61, 62, 63, 64, 65, 66, 67, 68, 86, 87, 88, 89, 90, 91, 92, 93, 94, 95, 96, 97, 78, 79, 80, 81, 82, 83, 84, 85, 98, 99, 100, 101] (by decide +kernel) (by decide +kernel)
set_option maxRecDepth 20000 in
theorem gX6_hits_X1_hitOf : GoodIn wsX6_hits (wsV RX6 144 RX1 yX1_hitOf wsX1_hitOf) := goodIn_app (goodIn_of _ (by decide +kernel)) ggX6_hits_X1_hitOf
theorem dX6_hits_0 : decode cX6_hits 0 = .ok (.aload_n 0, 1) := by decide +kernel
theorem dX6_hits_1 : decode cX6_hits 1 = .ok (.getfield 12, 3) := by decide +kernel
theorem dX6_hits_4 : decode cX6_hits 4 = .ok (.iload_n 1, 1) := by decide +kernel
theorem dX6_hits_5 : decode cX6_hits 5 = .ok (.invokevirtual 97, 3) := by decide +kernel
theorem dX6_hits_8 : decode cX6_hits 8 = .ok (.ifCond .ne 11, 3) := by decide +kernel
theorem dX6_hits_11 : decode cX6_hits 11 = .ok (.aload_n 0, 1) := by decide +kernel
theorem dX6_hits_12 : decode cX6_hits 12 = .ok (.sipush (-1001), 3) := by decide +kernel
theorem dX6_hits_15 : decode cX6_hits 15 = .ok (.invokevirtual 101, 3) := by decide +kernel
theorem dX6_hits_18 : decode cX6_hits 18 = .ok (.ireturn, 1) := by decide +kernel
theorem dX6_hits_19 : decode cX6_hits 19 = .ok (.aload_n 0, 1) := by decide +kernel
theorem dX6_hits_20 : decode cX6_hits 20 = .ok (.getfield 12, 3) := by decide +kernel
theorem dX6_hits_23 : decode cX6_hits 23 = .ok (.iload_n 1, 1) := by decide +kernel
theorem dX6_hits_24 : decode cX6_hits 24 = .ok (.invokevirtual 114, 3) := by decide +kernel
theorem dX6_hits_27 : decode cX6_hits 27 = .ok (.ifCond .eq 11, 3) := by decide +kernel
theorem dX6_hits_30 : decode cX6_hits 30 = .ok (.aload_n 0, 1) := by decide +kernel
theorem dX6_hits_31 : decode cX6_hits 31 = .ok (.sipush (-1002), 3) := by decide +kernel
theorem dX6_hits_34 : decode cX6_hits 34 = .ok (.invokevirtual 101, 3) := by decide +kernel
theorem dX6_hits_37 : decode cX6_hits 37 = .ok (.ireturn, 1) := by decide +kernel
theorem dX6_hits_38 : decode cX6_hits 38 = .ok (.aload_n 0, 1) := by decide +kernel
theorem dX6_hits_39 : decode cX6_hits 39 = .ok (.getfield 28, 3) := by decide +kernel
theorem dX6_hits_42 : decode cX6_hits 42 = .ok (.aload_n 0, 1) := by decide +kernel
theorem dX6_hits_43 : decode cX6_hits 43 = .ok (.getfield 12, 3) := by decide +kernel
theorem dX6_hits_46 : decode cX6_hits 46 = .ok (.getfield 124, 3) := by decide +kernel
theorem dX6_hits_49 : decode cX6_hits 49 = .ok (.iload_n 1, 1) := by decide +kernel
theorem dX6_hits_50 : decode cX6_hits 50 = .ok (.invokevirtual 144, 3) := by decide +kernel
theorem dX6_hits_53 : decode cX6_hits 53 = .ok (.ireturn, 1) := by decide +kernel
set_option maxRecDepth 20000 in
theorem ggX6_free_X1_freeAt : GoodIn wsX6_free wsX1_freeAt := goodIn_r _ [8, 9, 10, 11, 12, 13, 14, 15, 16, 17, 18, 19, 20, 21, 22, 23, 24, 25, 26, 27, 28, 29, 30, 31, 32, 33, 34, 35, 36, 37, 38, 39, 40, 41, 42, 7, 43, 44, 45, 46, 47, 48, 49, 50, 51, 69, 70, 71, 72, 73, 74, 75, 76, 77, 78, 79, 80, 61, 62, 63, 64, 65, 66, 67, 68, 81, 82, 83, 84] (by decide +kernel) (by decide +kernel)
set_option maxRecDepth 20000 in
theorem gX6_free_X1_freeAt : GoodIn wsX6_free (wsV RX6 147 RX1 yX1_freeAt wsX1_freeAt) := goodIn_app (goodIn_of _ (by decide +kernel)) ggX6_free_X1_freeAt
theorem dX6_free_0 : decode cX6_free 0 = .ok (.aload_n 0, 1) := by decide +kernel
theorem dX6_free_1 : decode cX6_free 1 = .ok (.getfield 28, 3) := by decide +kernel
theorem dX6_free_4 : decode cX6_free 4 = .ok (.aload_n 0, 1) := by decide +kernel
theorem dX6_free_5 : decode cX6_free 5 = .ok (.getfield 12, 3) := by decide +kernel
theorem dX6_free_8 : decode cX6_free 8 = .ok (.getfield 124, 3) := by decide +kernel
theorem dX6_free_11 : decode cX6_free 11 = .ok (.invokevirtual 147, 3) := by decide +kernel
theorem dX6_free_14 : decode cX6_free 14 = .ok (.ireturn, 1) := by decide +kernel
set_option maxRecDepth 20000 in
theorem ggX6_orders_X1_plan : GoodIn wsX6_orders wsX1_plan := goodIn_r _ [7, 8, 9, 10, 11, 12, 13, 14, 15, 16, 6, 17, 18, 19, 20, 21, 22, 23, 24, 25, 26, 27, 28, 29, 30, 31, 32, 33, 34, 35, 36, 37, 38, 39, 40, 41, 42, 43, 44, 45, 46, 47, 48, 49, 50, 51, 52, 53, 54, 55, 56, 57, 58, 59, 60, 61, 62, 63, 64, 65, 66, 67, 68, 69, 70, 71, 72, 73, 74, 75, 76, 77, 78, 79, 80, 81, 82, 83, 84, 85, 86, 87, 88, 89, 90, 91, 92, 93, 94, 95, 96, 97, 98, 99, 100, 101, 111, 112, 113, 114, 115, 116, 117, 118, 119, 120, 121, 122, 123, 124, 125, 126, 127, 128, 129, 130, 131, 132, 133, 134] (by decide +kernel) (by decide +kernel)
set_option maxRecDepth 20000 in
theorem gX6_orders_X1_plan : GoodIn wsX6_orders (wsV RX6 150 RX1 yX1_plan wsX1_plan) := goodIn_app (goodIn_of _ (by decide +kernel)) ggX6_orders_X1_plan
theorem dX6_orders_0 : decode cX6_orders 0 = .ok (.aload_n 0, 1) := by decide +kernel
theorem dX6_orders_1 : decode cX6_orders 1 = .ok (.getfield 28, 3) := by decide +kernel
theorem dX6_orders_4 : decode cX6_orders 4 = .ok (.invokevirtual 150, 3) := by decide +kernel
theorem dX6_orders_7 : decode cX6_orders 7 = .ok (.aload_n 0, 1) := by decide +kernel
theorem dX6_orders_8 : decode cX6_orders 8 = .ok (.getfield 28, 3) := by decide +kernel
theorem dX6_orders_11 : decode cX6_orders 11 = .ok (.getfield 153, 3) := by decide +kernel
theorem dX6_orders_14 : decode cX6_orders 14 = .ok (.ireturn, 1) := by decide +kernel
set_option maxRecDepth 20000 in
theorem ggX6_order_X4_hasBend : GoodIn wsX6_order wsX4_hasBend := goodIn_r _ [9, 10, 140, 141, 142, 143, 144, 145, 146, 147] (by decide +kernel) (by decide +kernel)
set_option maxRecDepth 20000 in
theorem gX6_order_X4_hasBend : GoodIn wsX6_order (wsV RX6 97 RX4 yX4_hasBend wsX4_hasBend) := goodIn_app (goodIn_of _ (by decide +kernel)) ggX6_order_X4_hasBend
set_option maxRecDepth 20000 in
theorem ggX6_order_X6_isWithin : GoodIn wsX6_order wsX6_isWithin := goodIn_r _ [14] (by decide +kernel) (by decide +kernel)
set_option maxRecDepth 20000 in
theorem gX6_order_X6_isWithin : GoodIn wsX6_order (va_wsS RX6 120 yX6_isWithin wsX6_isWithin) := goodIn_app (goodIn_of _ (by decide +kernel)) ggX6_order_X6_isWithin
set_option maxRecDepth 20000 in
theorem ggX6_order_X6_refused : GoodIn wsX6_order wsX6_refused := goodIn_r _ [18, 19, 20, 21, 119, 120, 121, 122, 123, 124, 125, 126, 127] (by decide +kernel) (by decide +kernel)
set_option maxRecDepth 20000 in
theorem gX6_order_X6_refused : GoodIn wsX6_order (wsV RX6 101 RX6 yX6_refused wsX6_refused) := goodIn_app (goodIn_of _ (by decide +kernel)) ggX6_order_X6_refused
set_option maxRecDepth 20000 in
theorem ggX6_order_X1_plan : GoodIn wsX6_order wsX1_plan := goodIn_r _ [26, 27, 28, 29, 30, 31, 32, 33, 34, 35, 25, 36, 37, 38, 39, 40, 41, 42, 8, 43, 10, 44, 45, 46, 47, 48, 49, 50, 51, 52, 53, 54, 55, 56, 57, 58, 59, 60, 61, 62, 63, 64, 65, 66, 67, 68, 69, 70, 71, 72, 73, 74, 75, 76, 77, 78, 79, 80, 81, 82, 83, 84, 85, 86, 87, 88, 89, 90, 91, 92, 93, 94, 95, 96, 97, 98, 99, 100, 101, 102, 103, 104, 105, 106, 107, 108, 109, 110, 111, 112, 113, 114, 115, 116, 117, 118, 128, 129, 130, 131, 132, 133, 134, 135, 136, 137, 138, 139, 140, 141, 142, 143, 144, 145, 146, 147, 148, 149, 150, 151] (by decide +kernel) (by decide +kernel)
set_option maxRecDepth 20000 in
theorem gX6_order_X1_plan : GoodIn wsX6_order (wsV RX6 150 RX1 yX1_plan wsX1_plan) := goodIn_app (goodIn_of _ (by decide +kernel)) ggX6_order_X1_plan
theorem dX6_order_0 : decode cX6_order 0 = .ok (.aload_n 0, 1) := by decide +kernel
theorem dX6_order_1 : decode cX6_order 1 = .ok (.getfield 12, 3) := by decide +kernel
theorem dX6_order_4 : decode cX6_order 4 = .ok (.iload_n 1, 1) := by decide +kernel
theorem dX6_order_5 : decode cX6_order 5 = .ok (.invokevirtual 97, 3) := by decide +kernel
theorem dX6_order_8 : decode cX6_order 8 = .ok (.ifCond .eq 12, 3) := by decide +kernel
theorem dX6_order_11 : decode cX6_order 11 = .ok (.iload_n 2, 1) := by decide +kernel
theorem dX6_order_12 : decode cX6_order 12 = .ok (.iconst 0, 1) := by decide +kernel
theorem dX6_order_13 : decode cX6_order 13 = .ok (.iconst 1, 1) := by decide +kernel
theorem dX6_order_14 : decode cX6_order 14 = .ok (.invokestatic 120, 3) := by decide +kernel
theorem dX6_order_17 : decode cX6_order 17 = .ok (.ifCond .ne 11, 3) := by decide +kernel
theorem dX6_order_20 : decode cX6_order 20 = .ok (.aload_n 0, 1) := by decide +kernel
theorem dX6_order_21 : decode cX6_order 21 = .ok (.sipush (-1001), 3) := by decide +kernel
theorem dX6_order_24 : decode cX6_order 24 = .ok (.invokevirtual 101, 3) := by decide +kernel
theorem dX6_order_27 : decode cX6_order 27 = .ok (.ireturn, 1) := by decide +kernel
theorem dX6_order_28 : decode cX6_order 28 = .ok (.aload_n 0, 1) := by decide +kernel
theorem dX6_order_29 : decode cX6_order 29 = .ok (.getfield 28, 3) := by decide +kernel
theorem dX6_order_32 : decode cX6_order 32 = .ok (.invokevirtual 150, 3) := by decide +kernel
theorem dX6_order_35 : decode cX6_order 35 = .ok (.iload_n 2, 1) := by decide +kernel
theorem dX6_order_36 : decode cX6_order 36 = .ok (.ifCond .ne 15, 3) := by decide +kernel
theorem dX6_order_39 : decode cX6_order 39 = .ok (.aload_n 0, 1) := by decide +kernel
theorem dX6_order_40 : decode cX6_order 40 = .ok (.getfield 28, 3) := by decide +kernel
theorem dX6_order_43 : decode cX6_order 43 = .ok (.getfield 156, 3) := by decide +kernel
theorem dX6_order_46 : decode cX6_order 46 = .ok (.iload_n 1, 1) := by decide +kernel
theorem dX6_order_47 : decode cX6_order 47 = .ok (.iaload, 1) := by decide +kernel
theorem dX6_order_48 : decode cX6_order 48 = .ok (.goto 12, 3) := by decide +kernel
theorem dX6_order_51 : decode cX6_order 51 = .ok (.aload_n 0, 1) := by decide +kernel
theorem dX6_order_52 : decode cX6_order 52 = .ok (.getfield 28, 3) := by decide +kernel
theorem dX6_order_55 : decode cX6_order 55 = .ok (.getfield 159, 3) := by decide +kernel
theorem dX6_order_58 : decode cX6_order 58 = .ok (.iload_n 1, 1) := by decide +kernel
theorem dX6_order_59 : decode cX6_order 59 = .ok (.iaload, 1) := by decide +kernel
theorem dX6_order_60 : decode cX6_order 60 = .ok (.ireturn, 1) := by decide +kernel
set_option maxRecDepth 20000 in
theorem ggX6_changes_X6_isWithin : GoodIn wsX6_changes wsX6_isWithin := goodIn_r _ [7] (by decide +kernel) (by decide +kernel)
set_option maxRecDepth 20000 in
theorem gX6_changes_X6_isWithin : GoodIn wsX6_changes (va_wsS RX6 120 yX6_isWithin wsX6_isWithin) := goodIn_app (goodIn_of _ (by decide +kernel)) ggX6_changes_X6_isWithin
set_option maxRecDepth 20000 in
theorem ggX6_changes_X6_refused : GoodIn wsX6_changes wsX6_refused := goodIn_r _ [11, 12, 13, 14, 114, 115, 116, 117, 118, 119, 120, 121, 122] (by decide +kernel) (by decide +kernel)
set_option maxRecDepth 20000 in
theorem gX6_changes_X6_refused : GoodIn wsX6_changes (wsV RX6 101 RX6 yX6_refused wsX6_refused) := goodIn_app (goodIn_of _ (by decide +kernel)) ggX6_changes_X6_refused
set_option maxRecDepth 20000 in
theorem ggX6_changes_X1_plan : GoodIn wsX6_changes wsX1_plan := goodIn_r _ [19, 20, 21, 22, 23, 24, 25, 26, 27, 28, 18, 29, 30, 31, 32, 33, 34, 35, 36, 37, 38, 39, 40, 41, 42, 43, 44, 45, 46, 47, 48, 49, 50, 51, 52, 53, 54, 55, 56, 57, 58, 59, 60, 61, 62, 63, 64, 65, 66, 67, 68, 69, 70, 71, 72, 73, 74, 75, 76, 77, 78, 79, 80, 81, 82, 83, 84, 85, 86, 87, 88, 89, 90, 91, 92, 93, 94, 95, 96, 97, 98, 99, 100, 101, 102, 103, 104, 105, 106, 107, 108, 109, 110, 111, 112, 113, 123, 124, 125, 126, 127, 128, 129, 130, 131, 132, 133, 134, 135, 136, 137, 138, 139, 140, 141, 142, 143, 144, 145, 146] (by decide +kernel) (by decide +kernel)
set_option maxRecDepth 20000 in
theorem gX6_changes_X1_plan : GoodIn wsX6_changes (wsV RX6 150 RX1 yX1_plan wsX1_plan) := goodIn_app (goodIn_of _ (by decide +kernel)) ggX6_changes_X1_plan
theorem dX6_changes_0 : decode cX6_changes 0 = .ok (.iload_n 1, 1) := by decide +kernel
theorem dX6_changes_1 : decode cX6_changes 1 = .ok (.iconst 0, 1) := by decide +kernel
theorem dX6_changes_2 : decode cX6_changes 2 = .ok (.iconst 1, 1) := by decide +kernel
theorem dX6_changes_3 : decode cX6_changes 3 = .ok (.invokestatic 120, 3) := by decide +kernel
theorem dX6_changes_6 : decode cX6_changes 6 = .ok (.ifCond .ne 11, 3) := by decide +kernel
theorem dX6_changes_9 : decode cX6_changes 9 = .ok (.aload_n 0, 1) := by decide +kernel
theorem dX6_changes_10 : decode cX6_changes 10 = .ok (.sipush (-1001), 3) := by decide +kernel
theorem dX6_changes_13 : decode cX6_changes 13 = .ok (.invokevirtual 101, 3) := by decide +kernel
theorem dX6_changes_16 : decode cX6_changes 16 = .ok (.ireturn, 1) := by decide +kernel
theorem dX6_changes_17 : decode cX6_changes 17 = .ok (.aload_n 0, 1) := by decide +kernel
theorem dX6_changes_18 : decode cX6_changes 18 = .ok (.getfield 28, 3) := by decide +kernel
theorem dX6_changes_21 : decode cX6_changes 21 = .ok (.invokevirtual 150, 3) := by decide +kernel
theorem dX6_changes_24 : decode cX6_changes 24 = .ok (.iload_n 1, 1) := by decide +kernel
theorem dX6_changes_25 : decode cX6_changes 25 = .ok (.ifCond .ne 13, 3) := by decide +kernel
theorem dX6_changes_28 : decode cX6_changes 28 = .ok (.aload_n 0, 1) := by decide +kernel
theorem dX6_changes_29 : decode cX6_changes 29 = .ok (.getfield 28, 3) := by decide +kernel
theorem dX6_changes_32 : decode cX6_changes 32 = .ok (.getfield 162, 3) := by decide +kernel
theorem dX6_changes_35 : decode cX6_changes 35 = .ok (.goto 10, 3) := by decide +kernel
theorem dX6_changes_38 : decode cX6_changes 38 = .ok (.aload_n 0, 1) := by decide +kernel
theorem dX6_changes_39 : decode cX6_changes 39 = .ok (.getfield 28, 3) := by decide +kernel
theorem dX6_changes_42 : decode cX6_changes 42 = .ok (.getfield 165, 3) := by decide +kernel
theorem dX6_changes_45 : decode cX6_changes 45 = .ok (.ireturn, 1) := by decide +kernel
set_option maxRecDepth 20000 in
theorem ggX6_ways_X1_pathsFrom : GoodIn wsX6_ways wsX1_pathsFrom := goodIn_r _ [8, 9, 10, 11, 12, 13, 14, 15, 16, 17, 18, 19, 20, 21, 22, 23, 24, 7, 25, 26, 27, 28, 29, 30, 31, 32, 33, 34, 35, 36, 37, 38, 39, 40, 41, 42, 43, 44, 45, 46, 47, 48, 49, 50, 51, 52, 53, 54, 55, 56, 57, 58, 59, 60, 61, 62, 63, 64, 65, 66, 84, 85, 86, 87, 88, 89, 90, 91, 92, 93, 94, 95, 76, 77, 78, 79, 80, 81, 82, 83, 96, 97, 98, 99] (by decide +kernel) (by decide +kernel)
set_option maxRecDepth 20000 in
theorem gX6_ways_X1_pathsFrom : GoodIn wsX6_ways (wsV RX6 168 RX1 yX1_pathsFrom wsX1_pathsFrom) := goodIn_app (goodIn_of _ (by decide +kernel)) ggX6_ways_X1_pathsFrom
theorem dX6_ways_0 : decode cX6_ways 0 = .ok (.aload_n 0, 1) := by decide +kernel
theorem dX6_ways_1 : decode cX6_ways 1 = .ok (.getfield 28, 3) := by decide +kernel
theorem dX6_ways_4 : decode cX6_ways 4 = .ok (.aload_n 0, 1) := by decide +kernel
theorem dX6_ways_5 : decode cX6_ways 5 = .ok (.getfield 12, 3) := by decide +kernel
theorem dX6_ways_8 : decode cX6_ways 8 = .ok (.getfield 124, 3) := by decide +kernel
theorem dX6_ways_11 : decode cX6_ways 11 = .ok (.invokevirtual 168, 3) := by decide +kernel
theorem dX6_ways_14 : decode cX6_ways 14 = .ok (.ireturn, 1) := by decide +kernel
set_option maxRecDepth 20000 in
theorem ggX6_count_J6_bitCount_0f7a4 : GoodIn wsX6_count wsJ6_bitCount_0f7a4 := goodIn_r _ [10, 11, 12, 13] (by decide +kernel) (by decide +kernel)
set_option maxRecDepth 20000 in
theorem gX6_count_J6_bitCount_0f7a4 : GoodIn wsX6_count (va_wsS RX6 171 yJ6_bitCount_0f7a4 wsJ6_bitCount_0f7a4) := goodIn_app (goodIn_of _ (by decide +kernel)) ggX6_count_J6_bitCount_0f7a4
set_option maxRecDepth 20000 in
theorem ggX6_count_X4_allBends : GoodIn wsX6_count wsX4_allBends := goodIn_r _ [18, 19, 49, 50, 51, 52, 53, 54, 55, 56] (by decide +kernel) (by decide +kernel)
set_option maxRecDepth 20000 in
theorem gX6_count_X4_allBends : GoodIn wsX6_count (wsV RX6 185 RX4 yX4_allBends wsX4_allBends) := goodIn_app (goodIn_of _ (by decide +kernel)) ggX6_count_X4_allBends
set_option maxRecDepth 20000 in
theorem ggX6_count_X4_lengthLess : GoodIn wsX6_count wsX4_lengthLess := goodIn_r _ [23, 19, 24, 25, 26, 27, 28, 17, 29, 30, 49, 50, 51, 52, 53, 54, 55, 56] (by decide +kernel) (by decide +kernel)
set_option maxRecDepth 20000 in
theorem gX6_count_X4_lengthLess : GoodIn wsX6_count (wsV RX6 188 RX4 yX4_lengthLess wsX4_lengthLess) := goodIn_app (goodIn_of _ (by decide +kernel)) ggX6_count_X4_lengthLess
set_option maxRecDepth 20000 in
theorem ggX6_count_X4_allLengths : GoodIn wsX6_count wsX4_allLengths := goodIn_r _ [29, 19, 30, 49, 50, 51, 52, 53, 54, 55, 56] (by decide +kernel) (by decide +kernel)
set_option maxRecDepth 20000 in
theorem gX6_count_X4_allLengths : GoodIn wsX6_count (wsV RX6 191 RX4 yX4_allLengths wsX4_allLengths) := goodIn_app (goodIn_of _ (by decide +kernel)) ggX6_count_X4_allLengths
set_option maxRecDepth 20000 in
theorem ggX6_count_X6_refused : GoodIn wsX6_count wsX6_refused := goodIn_r _ [36, 37, 38, 39, 40, 41, 42, 43, 44, 45, 46, 47, 48] (by decide +kernel) (by decide +kernel)
set_option maxRecDepth 20000 in
theorem gX6_count_X6_refused : GoodIn wsX6_count (wsV RX6 101 RX6 yX6_refused wsX6_refused) := goodIn_app (goodIn_of _ (by decide +kernel)) ggX6_count_X6_refused
theorem dX6_count_0 : decode cX6_count 0 = .ok (.iload_n 1, 1) := by decide +kernel
theorem dX6_count_1 : decode cX6_count 1 = .ok (.tableswitch 170 0 10 #[59, 67, 78, 86, 94, 102, 112, 122, 132, 147, 162], 59) := by decide +kernel
theorem dX6_count_60 : decode cX6_count 60 = .ok (.aload_n 0, 1) := by decide +kernel
theorem dX6_count_61 : decode cX6_count 61 = .ok (.getfield 12, 3) := by decide +kernel
theorem dX6_count_64 : decode cX6_count 64 = .ok (.getfield 117, 3) := by decide +kernel
theorem dX6_count_67 : decode cX6_count 67 = .ok (.ireturn, 1) := by decide +kernel
theorem dX6_count_68 : decode cX6_count 68 = .ok (.aload_n 0, 1) := by decide +kernel
theorem dX6_count_69 : decode cX6_count 69 = .ok (.getfield 12, 3) := by decide +kernel
theorem dX6_count_72 : decode cX6_count 72 = .ok (.getfield 124, 3) := by decide +kernel
theorem dX6_count_75 : decode cX6_count 75 = .ok (.invokestatic 171, 3) := by decide +kernel
theorem dX6_count_78 : decode cX6_count 78 = .ok (.ireturn, 1) := by decide +kernel
theorem dX6_count_79 : decode cX6_count 79 = .ok (.aload_n 0, 1) := by decide +kernel
theorem dX6_count_80 : decode cX6_count 80 = .ok (.getfield 12, 3) := by decide +kernel
theorem dX6_count_83 : decode cX6_count 83 = .ok (.getfield 124, 3) := by decide +kernel
theorem dX6_count_86 : decode cX6_count 86 = .ok (.ireturn, 1) := by decide +kernel
theorem dX6_count_87 : decode cX6_count 87 = .ok (.aload_n 0, 1) := by decide +kernel
theorem dX6_count_88 : decode cX6_count 88 = .ok (.getfield 12, 3) := by decide +kernel
theorem dX6_count_91 : decode cX6_count 91 = .ok (.getfield 176, 3) := by decide +kernel
theorem dX6_count_94 : decode cX6_count 94 = .ok (.ireturn, 1) := by decide +kernel
theorem dX6_count_95 : decode cX6_count 95 = .ok (.aload_n 0, 1) := by decide +kernel
theorem dX6_count_96 : decode cX6_count 96 = .ok (.getfield 12, 3) := by decide +kernel
theorem dX6_count_99 : decode cX6_count 99 = .ok (.getfield 179, 3) := by decide +kernel
theorem dX6_count_102 : decode cX6_count 102 = .ok (.ireturn, 1) := by decide +kernel
theorem dX6_count_103 : decode cX6_count 103 = .ok (.aload_n 0, 1) := by decide +kernel
theorem dX6_count_104 : decode cX6_count 104 = .ok (.getfield 12, 3) := by decide +kernel
theorem dX6_count_107 : decode cX6_count 107 = .ok (.getfield 182, 3) := by decide +kernel
theorem dX6_count_110 : decode cX6_count 110 = .ok (.iconst 0, 1) := by decide +kernel
theorem dX6_count_111 : decode cX6_count 111 = .ok (.iaload, 1) := by decide +kernel
theorem dX6_count_112 : decode cX6_count 112 = .ok (.ireturn, 1) := by decide +kernel
theorem dX6_count_113 : decode cX6_count 113 = .ok (.aload_n 0, 1) := by decide +kernel
theorem dX6_count_114 : decode cX6_count 114 = .ok (.getfield 12, 3) := by decide +kernel
theorem dX6_count_117 : decode cX6_count 117 = .ok (.getfield 182, 3) := by decide +kernel
theorem dX6_count_120 : decode cX6_count 120 = .ok (.iconst 1, 1) := by decide +kernel
theorem dX6_count_121 : decode cX6_count 121 = .ok (.iaload, 1) := by decide +kernel
theorem dX6_count_122 : decode cX6_count 122 = .ok (.ireturn, 1) := by decide +kernel
theorem dX6_count_123 : decode cX6_count 123 = .ok (.aload_n 0, 1) := by decide +kernel
theorem dX6_count_124 : decode cX6_count 124 = .ok (.getfield 12, 3) := by decide +kernel
theorem dX6_count_127 : decode cX6_count 127 = .ok (.getfield 182, 3) := by decide +kernel
theorem dX6_count_130 : decode cX6_count 130 = .ok (.iconst 2, 1) := by decide +kernel
theorem dX6_count_131 : decode cX6_count 131 = .ok (.iaload, 1) := by decide +kernel
theorem dX6_count_132 : decode cX6_count 132 = .ok (.ireturn, 1) := by decide +kernel
theorem dX6_count_133 : decode cX6_count 133 = .ok (.aload_n 0, 1) := by decide +kernel
theorem dX6_count_134 : decode cX6_count 134 = .ok (.getfield 12, 3) := by decide +kernel
theorem dX6_count_137 : decode cX6_count 137 = .ok (.aload_n 0, 1) := by decide +kernel
theorem dX6_count_138 : decode cX6_count 138 = .ok (.getfield 12, 3) := by decide +kernel
theorem dX6_count_141 : decode cX6_count 141 = .ok (.invokevirtual 185, 3) := by decide +kernel
theorem dX6_count_144 : decode cX6_count 144 = .ok (.invokevirtual 188, 3) := by decide +kernel
theorem dX6_count_147 : decode cX6_count 147 = .ok (.ireturn, 1) := by decide +kernel
theorem dX6_count_148 : decode cX6_count 148 = .ok (.aload_n 0, 1) := by decide +kernel
theorem dX6_count_149 : decode cX6_count 149 = .ok (.getfield 12, 3) := by decide +kernel
theorem dX6_count_152 : decode cX6_count 152 = .ok (.aload_n 0, 1) := by decide +kernel
theorem dX6_count_153 : decode cX6_count 153 = .ok (.getfield 12, 3) := by decide +kernel
theorem dX6_count_156 : decode cX6_count 156 = .ok (.getfield 124, 3) := by decide +kernel
theorem dX6_count_159 : decode cX6_count 159 = .ok (.invokevirtual 188, 3) := by decide +kernel
theorem dX6_count_162 : decode cX6_count 162 = .ok (.ireturn, 1) := by decide +kernel
theorem dX6_count_163 : decode cX6_count 163 = .ok (.aload_n 0, 1) := by decide +kernel
theorem dX6_count_164 : decode cX6_count 164 = .ok (.getfield 12, 3) := by decide +kernel
theorem dX6_count_167 : decode cX6_count 167 = .ok (.invokevirtual 191, 3) := by decide +kernel
theorem dX6_count_170 : decode cX6_count 170 = .ok (.ireturn, 1) := by decide +kernel
theorem dX6_count_171 : decode cX6_count 171 = .ok (.aload_n 0, 1) := by decide +kernel
theorem dX6_count_172 : decode cX6_count 172 = .ok (.sipush (-1001), 3) := by decide +kernel
theorem dX6_count_175 : decode cX6_count 175 = .ok (.invokevirtual 101, 3) := by decide +kernel
theorem dX6_count_178 : decode cX6_count 178 = .ok (.ireturn, 1) := by decide +kernel
set_option maxRecDepth 20000 in
theorem ggX6_type_X6_isWithin : GoodIn wsX6_type wsX6_isWithin := goodIn_r _ [6] (by decide +kernel) (by decide +kernel)
set_option maxRecDepth 20000 in
theorem gX6_type_X6_isWithin : GoodIn wsX6_type (va_wsS RX6 120 yX6_isWithin wsX6_isWithin) := goodIn_app (goodIn_of _ (by decide +kernel)) ggX6_type_X6_isWithin
set_option maxRecDepth 20000 in
theorem ggX6_type_X6_refused : GoodIn wsX6_type wsX6_refused := goodIn_r _ [10, 11, 12, 13, 21, 22, 23, 24, 25, 26, 27, 28, 29] (by decide +kernel) (by decide +kernel)
set_option maxRecDepth 20000 in
theorem gX6_type_X6_refused : GoodIn wsX6_type (wsV RX6 101 RX6 yX6_refused wsX6_refused) := goodIn_app (goodIn_of _ (by decide +kernel)) ggX6_type_X6_refused
set_option maxRecDepth 20000 in
theorem ggX6_type_X2_append : GoodIn wsX6_type wsX2_append := goodIn_r _ [18, 19, 20, 30, 31, 32, 33, 34, 35] (by decide +kernel) (by decide +kernel)
set_option maxRecDepth 20000 in
theorem gX6_type_X2_append : GoodIn wsX6_type (wsV RX6 197 RX2 yX2_append wsX2_append) := goodIn_app (goodIn_of _ (by decide +kernel)) ggX6_type_X2_append
theorem dX6_type_0 : decode cX6_type 0 = .ok (.iload_n 1, 1) := by decide +kernel
theorem dX6_type_1 : decode cX6_type 1 = .ok (.iconst 0, 1) := by decide +kernel
theorem dX6_type_2 : decode cX6_type 2 = .ok (.bipush 127, 2) := by decide +kernel
theorem dX6_type_4 : decode cX6_type 4 = .ok (.invokestatic 120, 3) := by decide +kernel
theorem dX6_type_7 : decode cX6_type 7 = .ok (.ifCond .ne 11, 3) := by decide +kernel
theorem dX6_type_10 : decode cX6_type 10 = .ok (.aload_n 0, 1) := by decide +kernel
theorem dX6_type_11 : decode cX6_type 11 = .ok (.sipush (-1001), 3) := by decide +kernel
theorem dX6_type_14 : decode cX6_type 14 = .ok (.invokevirtual 101, 3) := by decide +kernel
theorem dX6_type_17 : decode cX6_type 17 = .ok (.ireturn, 1) := by decide +kernel
theorem dX6_type_18 : decode cX6_type 18 = .ok (.aload_n 0, 1) := by decide +kernel
theorem dX6_type_19 : decode cX6_type 19 = .ok (.getfield 51, 3) := by decide +kernel
theorem dX6_type_22 : decode cX6_type 22 = .ok (.getfield 194, 3) := by decide +kernel
theorem dX6_type_25 : decode cX6_type 25 = .ok (.bipush 120, 2) := by decide +kernel
theorem dX6_type_27 : decode cX6_type 27 = .ok (.if_icmp .lt 11, 3) := by decide +kernel
theorem dX6_type_30 : decode cX6_type 30 = .ok (.aload_n 0, 1) := by decide +kernel
theorem dX6_type_31 : decode cX6_type 31 = .ok (.sipush (-1003), 3) := by decide +kernel
theorem dX6_type_34 : decode cX6_type 34 = .ok (.invokevirtual 101, 3) := by decide +kernel
theorem dX6_type_37 : decode cX6_type 37 = .ok (.ireturn, 1) := by decide +kernel
theorem dX6_type_38 : decode cX6_type 38 = .ok (.aload_n 0, 1) := by decide +kernel
theorem dX6_type_39 : decode cX6_type 39 = .ok (.getfield 51, 3) := by decide +kernel
theorem dX6_type_42 : decode cX6_type 42 = .ok (.iload_n 1, 1) := by decide +kernel
theorem dX6_type_43 : decode cX6_type 43 = .ok (.invokevirtual 197, 3) := by decide +kernel
theorem dX6_type_46 : decode cX6_type 46 = .ok (.aload_n 0, 1) := by decide +kernel
theorem dX6_type_47 : decode cX6_type 47 = .ok (.getfield 51, 3) := by decide +kernel
theorem dX6_type_50 : decode cX6_type 50 = .ok (.getfield 194, 3) := by decide +kernel
theorem dX6_type_53 : decode cX6_type 53 = .ok (.ireturn, 1) := by decide +kernel
theorem dX6_clear_0 : decode cX6_clear 0 = .ok (.aload_n 0, 1) := by decide +kernel
theorem dX6_clear_1 : decode cX6_clear 1 = .ok (.getfield 51, 3) := by decide +kernel
theorem dX6_clear_4 : decode cX6_clear 4 = .ok (.getfield 194, 3) := by decide +kernel
theorem dX6_clear_7 : decode cX6_clear 7 = .ok (.istore_n 1, 1) := by decide +kernel
theorem dX6_clear_8 : decode cX6_clear 8 = .ok (.aload_n 0, 1) := by decide +kernel
theorem dX6_clear_9 : decode cX6_clear 9 = .ok (.getfield 51, 3) := by decide +kernel
theorem dX6_clear_12 : decode cX6_clear 12 = .ok (.iconst 0, 1) := by decide +kernel
theorem dX6_clear_13 : decode cX6_clear 13 = .ok (.putfield 194, 3) := by decide +kernel
theorem dX6_clear_16 : decode cX6_clear 16 = .ok (.iload_n 1, 1) := by decide +kernel
theorem dX6_clear_17 : decode cX6_clear 17 = .ok (.ireturn, 1) := by decide +kernel
set_option maxRecDepth 20000 in
theorem ggX6_does_X2_read : GoodIn wsX6_does wsX2_read := goodIn_r _ [11, 12, 13, 14, 15, 16, 17, 10, 18, 19, 20, 21, 22, 23, 24, 25, 26, 27, 28, 29, 30, 31, 32, 33, 34, 35, 36, 209, 210, 211, 212, 213, 214] (by decide +kernel) (by decide +kernel)
set_option maxRecDepth 20000 in
theorem gX6_does_X2_read : GoodIn wsX6_does (wsV RX6 201 RX2 yX2_read wsX2_read) := goodIn_app (goodIn_of _ (by decide +kernel)) ggX6_does_X2_read
set_option maxRecDepth 20000 in
theorem ggX6_does_X0_stage : GoodIn wsX6_does wsX0_stage := goodIn_r _ [41, 42, 43, 44, 45, 46, 47, 48, 49, 50, 51, 52, 53, 54, 55, 56, 57, 58, 59, 60, 215, 216, 217, 218, 219, 220, 221, 222, 223, 224, 225] (by decide +kernel) (by decide +kernel)
set_option maxRecDepth 20000 in
theorem gX6_does_X0_stage : GoodIn wsX6_does (wsV RX6 65 RX0 yX0_stage wsX0_stage) := goodIn_app (goodIn_of _ (by decide +kernel)) ggX6_does_X0_stage
set_option maxRecDepth 20000 in
theorem ggX6_does_X5_perform : GoodIn wsX6_does wsX5_perform := goodIn_r _ [65, 66, 67, 68, 69, 10, 70, 32, 71, 72, 73, 64, 74, 75, 76, 77, 78, 79, 80, 81, 82, 83, 84, 85, 86, 87, 88, 89, 90, 91, 92, 93, 94, 95, 96, 97, 98, 99, 100, 101, 102, 103, 104, 105, 106, 107, 108, 109, 110, 47, 111, 57, 112, 113, 114, 115, 58, 116, 117, 118, 119, 120, 121, 122, 123, 124, 125, 126, 127, 128, 129, 130, 131, 132, 133, 134, 135, 136, 137, 138, 139, 140, 141, 142, 143, 144, 145, 146, 147, 148, 149, 150, 151, 152, 153, 154, 155, 156, 157, 158, 159, 160, 161, 162, 163, 164, 165, 166, 167, 168, 169, 170, 171, 172, 173, 174, 175, 176, 177, 178, 179, 180, 181, 182, 183, 184, 185, 209, 210, 211, 212, 213, 214, 226, 227, 218, 219, 220, 221, 222, 223, 224, 225, 228, 229, 230, 231, 232, 233, 234, 235, 236, 237, 238, 239, 240, 241, 242, 243] (by decide +kernel) (by decide +kernel)
set_option maxRecDepth 20000 in
theorem gX6_does_X5_perform : GoodIn wsX6_does (wsV RX6 205 RX5 yX5_perform wsX5_perform) := goodIn_app (goodIn_of _ (by decide +kernel)) ggX6_does_X5_perform
set_option maxRecDepth 20000 in
theorem ggX6_does_X6_isRefusal : GoodIn wsX6_does wsX6_isRefusal := goodIn_r _ [188] (by decide +kernel) (by decide +kernel)
set_option maxRecDepth 20000 in
theorem gX6_does_X6_isRefusal : GoodIn wsX6_does (va_wsS RX6 209 yX6_isRefusal wsX6_isRefusal) := goodIn_app (goodIn_of _ (by decide +kernel)) ggX6_does_X6_isRefusal
set_option maxRecDepth 20000 in
theorem ggX6_does_X0_restoreStaged : GoodIn wsX6_does wsX0_restoreStaged := goodIn_r _ [192, 42, 43, 44, 45, 46, 47, 48, 49, 50, 51, 52, 53, 54, 55, 56, 57, 58, 59, 60, 215, 216, 217, 218, 219, 220, 221, 222, 223, 224, 225] (by decide +kernel) (by decide +kernel)
set_option maxRecDepth 20000 in
theorem gX6_does_X0_restoreStaged : GoodIn wsX6_does (wsV RX6 212 RX0 yX0_restoreStaged wsX0_restoreStaged) := goodIn_app (goodIn_of _ (by decide +kernel)) ggX6_does_X0_restoreStaged
set_option maxRecDepth 20000 in
theorem ggX6_does_X1_forget : GoodIn wsX6_does wsX1_forget := goodIn_r _ [87, 88, 89, 90, 91, 92, 93, 94, 228, 229, 230, 231, 232, 233, 234, 235, 236, 237, 238, 239] (by decide +kernel) (by decide +kernel)
set_option maxRecDepth 20000 in
theorem gX6_does_X1_forget : GoodIn wsX6_does (wsV RX6 215 RX1 yX1_forget wsX1_forget) := goodIn_app (goodIn_of _ (by decide +kernel)) ggX6_does_X1_forget
set_option maxRecDepth 20000 in
theorem ggX6_does_X0_keepStaged : GoodIn wsX6_does wsX0_keepStaged := goodIn_r _ [197, 43, 198, 199, 141, 142, 143, 215, 216, 217] (by decide +kernel) (by decide +kernel)
set_option maxRecDepth 20000 in
theorem gX6_does_X0_keepStaged : GoodIn wsX6_does (wsV RX6 218 RX0 yX0_keepStaged wsX0_keepStaged) := goodIn_app (goodIn_of _ (by decide +kernel)) ggX6_does_X0_keepStaged
theorem dX6_does_0 : decode cX6_does 0 = .ok (.aload_n 0, 1) := by decide +kernel
theorem dX6_does_1 : decode cX6_does 1 = .ok (.getfield 51, 3) := by decide +kernel
theorem dX6_does_4 : decode cX6_does 4 = .ok (.invokevirtual 201, 3) := by decide +kernel
theorem dX6_does_7 : decode cX6_does 7 = .ok (.istore_n 1, 1) := by decide +kernel
theorem dX6_does_8 : decode cX6_does 8 = .ok (.iload_n 1, 1) := by decide +kernel
theorem dX6_does_9 : decode cX6_does 9 = .ok (.iconst (-1), 1) := by decide +kernel
theorem dX6_does_10 : decode cX6_does 10 = .ok (.if_icmp .eq 8, 3) := by decide +kernel
theorem dX6_does_13 : decode cX6_does 13 = .ok (.bipush (-10), 2) := by decide +kernel
theorem dX6_does_15 : decode cX6_does 15 = .ok (.iload_n 1, 1) := by decide +kernel
theorem dX6_does_16 : decode cX6_does 16 = .ok (.isub, 1) := by decide +kernel
theorem dX6_does_17 : decode cX6_does 17 = .ok (.ireturn, 1) := by decide +kernel
theorem dX6_does_18 : decode cX6_does 18 = .ok (.aload_n 0, 1) := by decide +kernel
theorem dX6_does_19 : decode cX6_does 19 = .ok (.getfield 44, 3) := by decide +kernel
theorem dX6_does_22 : decode cX6_does 22 = .ok (.aload_n 0, 1) := by decide +kernel
theorem dX6_does_23 : decode cX6_does 23 = .ok (.getfield 12, 3) := by decide +kernel
theorem dX6_does_26 : decode cX6_does 26 = .ok (.invokevirtual 65, 3) := by decide +kernel
theorem dX6_does_29 : decode cX6_does 29 = .ok (.iconst 0, 1) := by decide +kernel
theorem dX6_does_30 : decode cX6_does 30 = .ok (.istore_n 2, 1) := by decide +kernel
theorem dX6_does_31 : decode cX6_does 31 = .ok (.iload_n 2, 1) := by decide +kernel
theorem dX6_does_32 : decode cX6_does 32 = .ok (.aload_n 0, 1) := by decide +kernel
theorem dX6_does_33 : decode cX6_does 33 = .ok (.getfield 51, 3) := by decide +kernel
theorem dX6_does_36 : decode cX6_does 36 = .ok (.getfield 204, 3) := by decide +kernel
theorem dX6_does_39 : decode cX6_does 39 = .ok (.if_icmp .ge 51, 3) := by decide +kernel
theorem dX6_does_42 : decode cX6_does 42 = .ok (.aload_n 0, 1) := by decide +kernel
theorem dX6_does_43 : decode cX6_does 43 = .ok (.getfield 37, 3) := by decide +kernel
theorem dX6_does_46 : decode cX6_does 46 = .ok (.aload_n 0, 1) := by decide +kernel
theorem dX6_does_47 : decode cX6_does 47 = .ok (.getfield 51, 3) := by decide +kernel
theorem dX6_does_50 : decode cX6_does 50 = .ok (.iload_n 2, 1) := by decide +kernel
theorem dX6_does_51 : decode cX6_does 51 = .ok (.invokevirtual 205, 3) := by decide +kernel
theorem dX6_does_54 : decode cX6_does 54 = .ok (.invokestatic 209, 3) := by decide +kernel
theorem dX6_does_57 : decode cX6_does 57 = .ok (.ifCond .eq 27, 3) := by decide +kernel
theorem dX6_does_60 : decode cX6_does 60 = .ok (.aload_n 0, 1) := by decide +kernel
theorem dX6_does_61 : decode cX6_does 61 = .ok (.getfield 44, 3) := by decide +kernel
theorem dX6_does_64 : decode cX6_does 64 = .ok (.aload_n 0, 1) := by decide +kernel
theorem dX6_does_65 : decode cX6_does 65 = .ok (.getfield 12, 3) := by decide +kernel
theorem dX6_does_68 : decode cX6_does 68 = .ok (.invokevirtual 212, 3) := by decide +kernel
theorem dX6_does_71 : decode cX6_does 71 = .ok (.aload_n 0, 1) := by decide +kernel
theorem dX6_does_72 : decode cX6_does 72 = .ok (.getfield 28, 3) := by decide +kernel
theorem dX6_does_75 : decode cX6_does 75 = .ok (.invokevirtual 215, 3) := by decide +kernel
theorem dX6_does_78 : decode cX6_does 78 = .ok (.sipush (-2000), 3) := by decide +kernel
theorem dX6_does_81 : decode cX6_does 81 = .ok (.iload_n 2, 1) := by decide +kernel
theorem dX6_does_82 : decode cX6_does 82 = .ok (.isub, 1) := by decide +kernel
theorem dX6_does_83 : decode cX6_does 83 = .ok (.ireturn, 1) := by decide +kernel
theorem dX6_does_84 : decode cX6_does 84 = .ok (.iinc 2 1, 3) := by decide +kernel
theorem dX6_does_87 : decode cX6_does 87 = .ok (.goto (-56), 3) := by decide +kernel
theorem dX6_does_90 : decode cX6_does 90 = .ok (.aload_n 0, 1) := by decide +kernel
theorem dX6_does_91 : decode cX6_does 91 = .ok (.getfield 44, 3) := by decide +kernel
theorem dX6_does_94 : decode cX6_does 94 = .ok (.invokevirtual 218, 3) := by decide +kernel
theorem dX6_does_97 : decode cX6_does 97 = .ok (.aload_n 0, 1) := by decide +kernel
theorem dX6_does_98 : decode cX6_does 98 = .ok (.getfield 51, 3) := by decide +kernel
theorem dX6_does_101 : decode cX6_does 101 = .ok (.getfield 204, 3) := by decide +kernel
theorem dX6_does_104 : decode cX6_does 104 = .ok (.ireturn, 1) := by decide +kernel
set_option maxRecDepth 20000 in
theorem ggX6_back_X6_refused : GoodIn wsX6_back wsX6_refused := goodIn_r _ [9, 10, 11, 12, 50, 51, 52, 53, 54, 55, 56, 57, 58] (by decide +kernel) (by decide +kernel)
set_option maxRecDepth 20000 in
theorem gX6_back_X6_refused : GoodIn wsX6_back (wsV RX6 101 RX6 yX6_refused wsX6_refused) := goodIn_app (goodIn_of _ (by decide +kernel)) ggX6_back_X6_refused
set_option maxRecDepth 20000 in
theorem ggX6_back_X0_restoreLast : GoodIn wsX6_back wsX0_restoreLast := goodIn_r _ [17, 18, 19, 20, 21, 22, 23, 24, 25, 26, 27, 28, 29, 30, 31, 32, 33, 34, 35, 36, 37, 59, 60, 61, 62, 63, 64, 65, 66, 67, 68, 69] (by decide +kernel) (by decide +kernel)
set_option maxRecDepth 20000 in
theorem gX6_back_X0_restoreLast : GoodIn wsX6_back (wsV RX6 224 RX0 yX0_restoreLast wsX0_restoreLast) := goodIn_app (goodIn_of _ (by decide +kernel)) ggX6_back_X0_restoreLast
set_option maxRecDepth 20000 in
theorem ggX6_back_X1_forget : GoodIn wsX6_back wsX1_forget := goodIn_r _ [42, 43, 44, 45, 46, 47, 48, 49, 70, 71, 72, 73, 74, 75, 76, 77, 78, 79, 80, 81] (by decide +kernel) (by decide +kernel)
set_option maxRecDepth 20000 in
theorem gX6_back_X1_forget : GoodIn wsX6_back (wsV RX6 215 RX1 yX1_forget wsX1_forget) := goodIn_app (goodIn_of _ (by decide +kernel)) ggX6_back_X1_forget
theorem dX6_back_0 : decode cX6_back 0 = .ok (.aload_n 0, 1) := by decide +kernel
theorem dX6_back_1 : decode cX6_back 1 = .ok (.getfield 44, 3) := by decide +kernel
theorem dX6_back_4 : decode cX6_back 4 = .ok (.getfield 221, 3) := by decide +kernel
theorem dX6_back_7 : decode cX6_back 7 = .ok (.ifCond .ne 11, 3) := by decide +kernel
theorem dX6_back_10 : decode cX6_back 10 = .ok (.aload_n 0, 1) := by decide +kernel
theorem dX6_back_11 : decode cX6_back 11 = .ok (.sipush (-1002), 3) := by decide +kernel
theorem dX6_back_14 : decode cX6_back 14 = .ok (.invokevirtual 101, 3) := by decide +kernel
theorem dX6_back_17 : decode cX6_back 17 = .ok (.ireturn, 1) := by decide +kernel
theorem dX6_back_18 : decode cX6_back 18 = .ok (.aload_n 0, 1) := by decide +kernel
theorem dX6_back_19 : decode cX6_back 19 = .ok (.getfield 44, 3) := by decide +kernel
theorem dX6_back_22 : decode cX6_back 22 = .ok (.aload_n 0, 1) := by decide +kernel
theorem dX6_back_23 : decode cX6_back 23 = .ok (.getfield 12, 3) := by decide +kernel
theorem dX6_back_26 : decode cX6_back 26 = .ok (.invokevirtual 224, 3) := by decide +kernel
theorem dX6_back_29 : decode cX6_back 29 = .ok (.aload_n 0, 1) := by decide +kernel
theorem dX6_back_30 : decode cX6_back 30 = .ok (.getfield 28, 3) := by decide +kernel
theorem dX6_back_33 : decode cX6_back 33 = .ok (.invokevirtual 215, 3) := by decide +kernel
theorem dX6_back_36 : decode cX6_back 36 = .ok (.aload_n 0, 1) := by decide +kernel
theorem dX6_back_37 : decode cX6_back 37 = .ok (.getfield 44, 3) := by decide +kernel
theorem dX6_back_40 : decode cX6_back 40 = .ok (.getfield 221, 3) := by decide +kernel
theorem dX6_back_43 : decode cX6_back 43 = .ok (.ireturn, 1) := by decide +kernel
set_option maxRecDepth 20000 in
theorem ggX6_told_X6_refused : GoodIn wsX6_told wsX6_refused := goodIn_r _ [12, 1, 2, 3, 13, 14, 15, 16, 17, 18, 19, 20, 21] (by decide +kernel) (by decide +kernel)
set_option maxRecDepth 20000 in
theorem gX6_told_X6_refused : GoodIn wsX6_told (wsV RX6 101 RX6 yX6_refused wsX6_refused) := goodIn_app (goodIn_of _ (by decide +kernel)) ggX6_told_X6_refused
theorem dX6_told_0 : decode cX6_told 0 = .ok (.iload_n 1, 1) := by decide +kernel
theorem dX6_told_1 : decode cX6_told 1 = .ok (.tableswitch 66 0 4 #[35, 40, 45, 50, 58], 35) := by decide +kernel
theorem dX6_told_36 : decode cX6_told 36 = .ok (.aload_n 0, 1) := by decide +kernel
theorem dX6_told_37 : decode cX6_told 37 = .ok (.getfield 55, 3) := by decide +kernel
theorem dX6_told_40 : decode cX6_told 40 = .ok (.ireturn, 1) := by decide +kernel
theorem dX6_told_41 : decode cX6_told 41 = .ok (.aload_n 0, 1) := by decide +kernel
theorem dX6_told_42 : decode cX6_told 42 = .ok (.getfield 59, 3) := by decide +kernel
theorem dX6_told_45 : decode cX6_told 45 = .ok (.ireturn, 1) := by decide +kernel
theorem dX6_told_46 : decode cX6_told 46 = .ok (.aload_n 0, 1) := by decide +kernel
theorem dX6_told_47 : decode cX6_told 47 = .ok (.getfield 62, 3) := by decide +kernel
theorem dX6_told_50 : decode cX6_told 50 = .ok (.ireturn, 1) := by decide +kernel
theorem dX6_told_51 : decode cX6_told 51 = .ok (.aload_n 0, 1) := by decide +kernel
theorem dX6_told_52 : decode cX6_told 52 = .ok (.getfield 51, 3) := by decide +kernel
theorem dX6_told_55 : decode cX6_told 55 = .ok (.getfield 194, 3) := by decide +kernel
theorem dX6_told_58 : decode cX6_told 58 = .ok (.ireturn, 1) := by decide +kernel
theorem dX6_told_59 : decode cX6_told 59 = .ok (.aload_n 0, 1) := by decide +kernel
theorem dX6_told_60 : decode cX6_told 60 = .ok (.getfield 44, 3) := by decide +kernel
theorem dX6_told_63 : decode cX6_told 63 = .ok (.getfield 221, 3) := by decide +kernel
theorem dX6_told_66 : decode cX6_told 66 = .ok (.ireturn, 1) := by decide +kernel
theorem dX6_told_67 : decode cX6_told 67 = .ok (.aload_n 0, 1) := by decide +kernel
theorem dX6_told_68 : decode cX6_told 68 = .ok (.sipush (-1001), 3) := by decide +kernel
theorem dX6_told_71 : decode cX6_told 71 = .ok (.invokevirtual 101, 3) := by decide +kernel
theorem dX6_told_74 : decode cX6_told 74 = .ok (.ireturn, 1) := by decide +kernel
set_option maxRecDepth 20000 in
theorem ggX6_digest_X6_told : GoodIn wsX6_digest wsX6_told := goodIn_r _ [15, 16, 17, 18, 19, 20, 21, 22, 23, 24, 25, 14, 26, 193, 194, 195, 196, 197, 198, 199, 200, 201, 222, 223, 224, 225, 226, 227, 228, 229, 230] (by decide +kernel) (by decide +kernel)
set_option maxRecDepth 20000 in
theorem gX6_digest_X6_told : GoodIn wsX6_digest (wsV RX6 231 RX6 yX6_told wsX6_told) := goodIn_app (goodIn_of _ (by decide +kernel)) ggX6_digest_X6_told
set_option maxRecDepth 20000 in
theorem ggX6_digest_X6_count : GoodIn wsX6_digest wsX6_count := goodIn_r _ [30, 3, 5, 7, 31, 32, 33, 34, 35, 36, 37, 38, 39, 40, 41, 42, 43, 44, 45, 46, 47, 48, 49, 50, 51, 52, 53, 54, 55, 56, 57, 58, 23, 24, 25, 14, 26, 16, 17, 18, 193, 194, 195, 196, 197, 198, 199, 200, 201, 202, 203, 204, 205, 206, 207, 208, 209] (by decide +kernel) (by decide +kernel)
set_option maxRecDepth 20000 in
theorem gX6_digest_X6_count : GoodIn wsX6_digest (wsV RX6 234 RX6 yX6_count wsX6_count) := goodIn_app (goodIn_of _ (by decide +kernel)) ggX6_digest_X6_count
set_option maxRecDepth 20000 in
theorem ggX6_digest_X6_of : GoodIn wsX6_digest wsX6_of := goodIn_r _ [62, 3, 4, 63, 64, 65, 66, 67, 44, 68, 46, 23, 24, 25, 14, 26, 16, 17, 18, 69, 70, 71, 72, 73, 193, 194, 195, 196, 197, 198, 199, 200, 201, 202, 203, 204, 205, 206, 207, 208, 209] (by decide +kernel) (by decide +kernel)
set_option maxRecDepth 20000 in
theorem gX6_digest_X6_of : GoodIn wsX6_digest (wsV RX6 237 RX6 yX6_of wsX6_of) := goodIn_app (goodIn_of _ (by decide +kernel)) ggX6_digest_X6_of
set_option maxRecDepth 20000 in
theorem ggX6_digest_X6_joint : GoodIn wsX6_digest wsX6_joint := goodIn_r _ [77, 3, 5, 78, 7, 79, 80, 81, 82, 14, 83, 23, 24, 25, 26, 16, 17, 18, 84, 85, 86, 87, 88, 89, 90, 91, 92, 93, 94, 95, 96, 97, 193, 194, 195, 196, 197, 198, 199, 200, 201, 202, 203, 204, 205, 206, 207, 208, 209, 231, 232, 233, 234] (by decide +kernel) (by decide +kernel)
set_option maxRecDepth 20000 in
theorem gX6_digest_X6_joint : GoodIn wsX6_digest (wsV RX6 240 RX6 yX6_joint wsX6_joint) := goodIn_app (goodIn_of _ (by decide +kernel)) ggX6_digest_X6_joint
set_option maxRecDepth 20000 in
theorem ggX6_digest_X6_box : GoodIn wsX6_digest wsX6_box := goodIn_r _ [101, 78, 3, 7, 79, 80, 81, 82, 14, 83, 23, 24, 25, 26, 16, 17, 18, 84, 85, 86, 87, 88, 89, 90, 91, 92, 93, 94, 95, 96, 97, 102, 103, 104, 105, 106, 107, 108, 109, 110, 111, 112, 113, 114, 115, 116, 193, 194, 195, 196, 197, 198, 199, 200, 201, 202, 203, 204, 205, 206, 207, 208, 209, 231, 232, 233, 234] (by decide +kernel) (by decide +kernel)
set_option maxRecDepth 20000 in
theorem gX6_digest_X6_box : GoodIn wsX6_digest (wsV RX6 243 RX6 yX6_box wsX6_box) := goodIn_app (goodIn_of _ (by decide +kernel)) ggX6_digest_X6_box
set_option maxRecDepth 20000 in
theorem ggX6_digest_X1_plan : GoodIn wsX6_digest wsX1_plan := goodIn_r _ [121, 122, 123, 124, 125, 126, 127, 128, 129, 130, 120, 131, 132, 133, 134, 135, 42, 43, 44, 45, 46, 136, 137, 138, 139, 140, 141, 142, 143, 144, 145, 146, 85, 86, 87, 88, 89, 90, 91, 92, 93, 94, 95, 96, 97, 147, 148, 149, 150, 106, 107, 108, 109, 151, 152, 153, 154, 155, 156, 157, 158, 159, 160, 161, 162, 163, 164, 114, 115, 116, 165, 166, 167, 168, 169, 170, 171, 172, 173, 174, 175, 176, 177, 178, 179, 180, 181, 182, 183, 184, 185, 186, 187, 188, 189, 190, 210, 211, 212, 213, 214, 215, 216, 217, 218, 219, 220, 221, 202, 203, 204, 205, 206, 207, 208, 209, 231, 232, 233, 234] (by decide +kernel) (by decide +kernel)
set_option maxRecDepth 20000 in
theorem gX6_digest_X1_plan : GoodIn wsX6_digest (wsV RX6 150 RX1 yX1_plan wsX1_plan) := goodIn_app (goodIn_of _ (by decide +kernel)) ggX6_digest_X1_plan
set_option maxRecDepth 20000 in
theorem ggX6_digest_X1_freeAt : GoodIn wsX6_digest wsX1_freeAt := goodIn_r _ [143, 144, 145, 132, 134, 146, 85, 86, 87, 88, 89, 90, 91, 92, 93, 94, 95, 96, 97, 147, 148, 149, 150, 106, 107, 108, 109, 151, 152, 153, 154, 155, 156, 157, 158, 120, 159, 160, 161, 162, 163, 164, 114, 115, 116, 210, 211, 212, 213, 214, 215, 216, 217, 218, 219, 220, 221, 202, 203, 204, 205, 206, 207, 208, 209, 231, 232, 233, 234] (by decide +kernel) (by decide +kernel)
set_option maxRecDepth 20000 in
theorem gX6_digest_X1_freeAt : GoodIn wsX6_digest (wsV RX6 147 RX1 yX1_freeAt wsX1_freeAt) := goodIn_app (goodIn_of _ (by decide +kernel)) ggX6_digest_X1_freeAt
set_option maxRecDepth 20000 in
theorem ggX6_digest_X1_pathsFrom : GoodIn wsX6_digest wsX1_pathsFrom := goodIn_r _ [131, 132, 133, 134, 135, 42, 43, 44, 45, 46, 136, 137, 138, 139, 140, 141, 142, 120, 143, 144, 145, 146, 85, 86, 87, 88, 89, 90, 91, 92, 93, 94, 95, 96, 97, 147, 148, 149, 150, 106, 107, 108, 109, 151, 152, 153, 154, 155, 156, 157, 158, 159, 160, 161, 162, 163, 164, 114, 115, 116, 210, 211, 212, 213, 214, 215, 216, 217, 218, 219, 220, 221, 202, 203, 204, 205, 206, 207, 208, 209, 231, 232, 233, 234] (by decide +kernel) (by decide +kernel)
set_option maxRecDepth 20000 in
theorem gX6_digest_X1_pathsFrom : GoodIn wsX6_digest (wsV RX6 168 RX1 yX1_pathsFrom wsX1_pathsFrom) := goodIn_app (goodIn_of _ (by decide +kernel)) ggX6_digest_X1_pathsFrom
theorem dX6_digest_0 : decode cX6_digest 0 = .ok (.ldc2_w 227, 3) := by decide +kernel
theorem dX6_digest_3 : decode cX6_digest 3 = .ok (.lstore_n 1, 1) := by decide +kernel
theorem dX6_digest_4 : decode cX6_digest 4 = .ok (.iconst 0, 1) := by decide +kernel
theorem dX6_digest_5 : decode cX6_digest 5 = .ok (.istore_n 3, 1) := by decide +kernel
theorem dX6_digest_6 : decode cX6_digest 6 = .ok (.iload_n 3, 1) := by decide +kernel
theorem dX6_digest_7 : decode cX6_digest 7 = .ok (.iconst 4, 1) := by decide +kernel
theorem dX6_digest_8 : decode cX6_digest 8 = .ok (.if_icmp .gt 22, 3) := by decide +kernel
theorem dX6_digest_11 : decode cX6_digest 11 = .ok (.ldc2_w 229, 3) := by decide +kernel
theorem dX6_digest_14 : decode cX6_digest 14 = .ok (.lload_n 1, 1) := by decide +kernel
theorem dX6_digest_15 : decode cX6_digest 15 = .ok (.lmul, 1) := by decide +kernel
theorem dX6_digest_16 : decode cX6_digest 16 = .ok (.aload_n 0, 1) := by decide +kernel
theorem dX6_digest_17 : decode cX6_digest 17 = .ok (.iload_n 3, 1) := by decide +kernel
theorem dX6_digest_18 : decode cX6_digest 18 = .ok (.invokevirtual 231, 3) := by decide +kernel
theorem dX6_digest_21 : decode cX6_digest 21 = .ok (.i2l, 1) := by decide +kernel
theorem dX6_digest_22 : decode cX6_digest 22 = .ok (.ladd, 1) := by decide +kernel
theorem dX6_digest_23 : decode cX6_digest 23 = .ok (.lstore_n 1, 1) := by decide +kernel
theorem dX6_digest_24 : decode cX6_digest 24 = .ok (.iinc 3 1, 3) := by decide +kernel
theorem dX6_digest_27 : decode cX6_digest 27 = .ok (.goto (-21), 3) := by decide +kernel
theorem dX6_digest_30 : decode cX6_digest 30 = .ok (.iconst 0, 1) := by decide +kernel
theorem dX6_digest_31 : decode cX6_digest 31 = .ok (.istore_n 3, 1) := by decide +kernel
theorem dX6_digest_32 : decode cX6_digest 32 = .ok (.iload_n 3, 1) := by decide +kernel
theorem dX6_digest_33 : decode cX6_digest 33 = .ok (.bipush 10, 2) := by decide +kernel
theorem dX6_digest_35 : decode cX6_digest 35 = .ok (.if_icmp .gt 22, 3) := by decide +kernel
theorem dX6_digest_38 : decode cX6_digest 38 = .ok (.ldc2_w 229, 3) := by decide +kernel
theorem dX6_digest_41 : decode cX6_digest 41 = .ok (.lload_n 1, 1) := by decide +kernel
theorem dX6_digest_42 : decode cX6_digest 42 = .ok (.lmul, 1) := by decide +kernel
theorem dX6_digest_43 : decode cX6_digest 43 = .ok (.aload_n 0, 1) := by decide +kernel
theorem dX6_digest_44 : decode cX6_digest 44 = .ok (.iload_n 3, 1) := by decide +kernel
theorem dX6_digest_45 : decode cX6_digest 45 = .ok (.invokevirtual 234, 3) := by decide +kernel
theorem dX6_digest_48 : decode cX6_digest 48 = .ok (.i2l, 1) := by decide +kernel
theorem dX6_digest_49 : decode cX6_digest 49 = .ok (.ladd, 1) := by decide +kernel
theorem dX6_digest_50 : decode cX6_digest 50 = .ok (.lstore_n 1, 1) := by decide +kernel
theorem dX6_digest_51 : decode cX6_digest 51 = .ok (.iinc 3 1, 3) := by decide +kernel
theorem dX6_digest_54 : decode cX6_digest 54 = .ok (.goto (-22), 3) := by decide +kernel
theorem dX6_digest_57 : decode cX6_digest 57 = .ok (.ldc2_w 229, 3) := by decide +kernel
theorem dX6_digest_60 : decode cX6_digest 60 = .ok (.lload_n 1, 1) := by decide +kernel
theorem dX6_digest_61 : decode cX6_digest 61 = .ok (.lmul, 1) := by decide +kernel
theorem dX6_digest_62 : decode cX6_digest 62 = .ok (.aload_n 0, 1) := by decide +kernel
theorem dX6_digest_63 : decode cX6_digest 63 = .ok (.getfield 12, 3) := by decide +kernel
theorem dX6_digest_66 : decode cX6_digest 66 = .ok (.getfield 104, 3) := by decide +kernel
theorem dX6_digest_69 : decode cX6_digest 69 = .ok (.iconst 0, 1) := by decide +kernel
theorem dX6_digest_70 : decode cX6_digest 70 = .ok (.iaload, 1) := by decide +kernel
theorem dX6_digest_71 : decode cX6_digest 71 = .ok (.i2l, 1) := by decide +kernel
theorem dX6_digest_72 : decode cX6_digest 72 = .ok (.ladd, 1) := by decide +kernel
theorem dX6_digest_73 : decode cX6_digest 73 = .ok (.lstore_n 1, 1) := by decide +kernel
theorem dX6_digest_74 : decode cX6_digest 74 = .ok (.iconst 0, 1) := by decide +kernel
theorem dX6_digest_75 : decode cX6_digest 75 = .ok (.istore_n 3, 1) := by decide +kernel
theorem dX6_digest_76 : decode cX6_digest 76 = .ok (.iload_n 3, 1) := by decide +kernel
theorem dX6_digest_77 : decode cX6_digest 77 = .ok (.aload_n 0, 1) := by decide +kernel
theorem dX6_digest_78 : decode cX6_digest 78 = .ok (.getfield 12, 3) := by decide +kernel
theorem dX6_digest_81 : decode cX6_digest 81 = .ok (.getfield 117, 3) := by decide +kernel
theorem dX6_digest_84 : decode cX6_digest 84 = .ok (.if_icmp .ge 39, 3) := by decide +kernel
theorem dX6_digest_87 : decode cX6_digest 87 = .ok (.iconst 0, 1) := by decide +kernel
theorem dX6_digest_88 : decode cX6_digest 88 = .ok (.istore 4, 2) := by decide +kernel
theorem dX6_digest_90 : decode cX6_digest 90 = .ok (.iload 4, 2) := by decide +kernel
theorem dX6_digest_92 : decode cX6_digest 92 = .ok (.iconst 3, 1) := by decide +kernel
theorem dX6_digest_93 : decode cX6_digest 93 = .ok (.if_icmp .gt 24, 3) := by decide +kernel
theorem dX6_digest_96 : decode cX6_digest 96 = .ok (.ldc2_w 229, 3) := by decide +kernel
theorem dX6_digest_99 : decode cX6_digest 99 = .ok (.lload_n 1, 1) := by decide +kernel
theorem dX6_digest_100 : decode cX6_digest 100 = .ok (.lmul, 1) := by decide +kernel
theorem dX6_digest_101 : decode cX6_digest 101 = .ok (.aload_n 0, 1) := by decide +kernel
theorem dX6_digest_102 : decode cX6_digest 102 = .ok (.iload_n 3, 1) := by decide +kernel
theorem dX6_digest_103 : decode cX6_digest 103 = .ok (.iload 4, 2) := by decide +kernel
theorem dX6_digest_105 : decode cX6_digest 105 = .ok (.invokevirtual 237, 3) := by decide +kernel
theorem dX6_digest_108 : decode cX6_digest 108 = .ok (.i2l, 1) := by decide +kernel
theorem dX6_digest_109 : decode cX6_digest 109 = .ok (.ladd, 1) := by decide +kernel
theorem dX6_digest_110 : decode cX6_digest 110 = .ok (.lstore_n 1, 1) := by decide +kernel
theorem dX6_digest_111 : decode cX6_digest 111 = .ok (.iinc 4 1, 3) := by decide +kernel
theorem dX6_digest_114 : decode cX6_digest 114 = .ok (.goto (-24), 3) := by decide +kernel
theorem dX6_digest_117 : decode cX6_digest 117 = .ok (.iinc 3 1, 3) := by decide +kernel
theorem dX6_digest_120 : decode cX6_digest 120 = .ok (.goto (-44), 3) := by decide +kernel
theorem dX6_digest_123 : decode cX6_digest 123 = .ok (.iconst 0, 1) := by decide +kernel
theorem dX6_digest_124 : decode cX6_digest 124 = .ok (.istore_n 3, 1) := by decide +kernel
theorem dX6_digest_125 : decode cX6_digest 125 = .ok (.iload_n 3, 1) := by decide +kernel
theorem dX6_digest_126 : decode cX6_digest 126 = .ok (.aload_n 0, 1) := by decide +kernel
theorem dX6_digest_127 : decode cX6_digest 127 = .ok (.getfield 12, 3) := by decide +kernel
theorem dX6_digest_130 : decode cX6_digest 130 = .ok (.getfield 117, 3) := by decide +kernel
theorem dX6_digest_133 : decode cX6_digest 133 = .ok (.iconst 1, 1) := by decide +kernel
theorem dX6_digest_134 : decode cX6_digest 134 = .ok (.iadd, 1) := by decide +kernel
theorem dX6_digest_135 : decode cX6_digest 135 = .ok (.if_icmp .gt 37, 3) := by decide +kernel
theorem dX6_digest_138 : decode cX6_digest 138 = .ok (.ldc2_w 229, 3) := by decide +kernel
theorem dX6_digest_141 : decode cX6_digest 141 = .ok (.lload_n 1, 1) := by decide +kernel
theorem dX6_digest_142 : decode cX6_digest 142 = .ok (.lmul, 1) := by decide +kernel
theorem dX6_digest_143 : decode cX6_digest 143 = .ok (.aload_n 0, 1) := by decide +kernel
theorem dX6_digest_144 : decode cX6_digest 144 = .ok (.iload_n 3, 1) := by decide +kernel
theorem dX6_digest_145 : decode cX6_digest 145 = .ok (.iconst 0, 1) := by decide +kernel
theorem dX6_digest_146 : decode cX6_digest 146 = .ok (.invokevirtual 240, 3) := by decide +kernel
theorem dX6_digest_149 : decode cX6_digest 149 = .ok (.i2l, 1) := by decide +kernel
theorem dX6_digest_150 : decode cX6_digest 150 = .ok (.ladd, 1) := by decide +kernel
theorem dX6_digest_151 : decode cX6_digest 151 = .ok (.lstore_n 1, 1) := by decide +kernel
theorem dX6_digest_152 : decode cX6_digest 152 = .ok (.ldc2_w 229, 3) := by decide +kernel
theorem dX6_digest_155 : decode cX6_digest 155 = .ok (.lload_n 1, 1) := by decide +kernel
theorem dX6_digest_156 : decode cX6_digest 156 = .ok (.lmul, 1) := by decide +kernel
theorem dX6_digest_157 : decode cX6_digest 157 = .ok (.aload_n 0, 1) := by decide +kernel
theorem dX6_digest_158 : decode cX6_digest 158 = .ok (.iload_n 3, 1) := by decide +kernel
theorem dX6_digest_159 : decode cX6_digest 159 = .ok (.iconst 1, 1) := by decide +kernel
theorem dX6_digest_160 : decode cX6_digest 160 = .ok (.invokevirtual 240, 3) := by decide +kernel
theorem dX6_digest_163 : decode cX6_digest 163 = .ok (.i2l, 1) := by decide +kernel
theorem dX6_digest_164 : decode cX6_digest 164 = .ok (.ladd, 1) := by decide +kernel
theorem dX6_digest_165 : decode cX6_digest 165 = .ok (.lstore_n 1, 1) := by decide +kernel
theorem dX6_digest_166 : decode cX6_digest 166 = .ok (.iinc 3 1, 3) := by decide +kernel
theorem dX6_digest_169 : decode cX6_digest 169 = .ok (.goto (-44), 3) := by decide +kernel
theorem dX6_digest_172 : decode cX6_digest 172 = .ok (.iconst 0, 1) := by decide +kernel
theorem dX6_digest_173 : decode cX6_digest 173 = .ok (.istore_n 3, 1) := by decide +kernel
theorem dX6_digest_174 : decode cX6_digest 174 = .ok (.iload_n 3, 1) := by decide +kernel
theorem dX6_digest_175 : decode cX6_digest 175 = .ok (.iconst 3, 1) := by decide +kernel
theorem dX6_digest_176 : decode cX6_digest 176 = .ok (.if_icmp .gt 22, 3) := by decide +kernel
theorem dX6_digest_179 : decode cX6_digest 179 = .ok (.ldc2_w 229, 3) := by decide +kernel
theorem dX6_digest_182 : decode cX6_digest 182 = .ok (.lload_n 1, 1) := by decide +kernel
theorem dX6_digest_183 : decode cX6_digest 183 = .ok (.lmul, 1) := by decide +kernel
theorem dX6_digest_184 : decode cX6_digest 184 = .ok (.aload_n 0, 1) := by decide +kernel
theorem dX6_digest_185 : decode cX6_digest 185 = .ok (.iload_n 3, 1) := by decide +kernel
theorem dX6_digest_186 : decode cX6_digest 186 = .ok (.invokevirtual 243, 3) := by decide +kernel
theorem dX6_digest_189 : decode cX6_digest 189 = .ok (.i2l, 1) := by decide +kernel
theorem dX6_digest_190 : decode cX6_digest 190 = .ok (.ladd, 1) := by decide +kernel
theorem dX6_digest_191 : decode cX6_digest 191 = .ok (.lstore_n 1, 1) := by decide +kernel
theorem dX6_digest_192 : decode cX6_digest 192 = .ok (.iinc 3 1, 3) := by decide +kernel
theorem dX6_digest_195 : decode cX6_digest 195 = .ok (.goto (-21), 3) := by decide +kernel
theorem dX6_digest_198 : decode cX6_digest 198 = .ok (.aload_n 0, 1) := by decide +kernel
theorem dX6_digest_199 : decode cX6_digest 199 = .ok (.getfield 28, 3) := by decide +kernel
theorem dX6_digest_202 : decode cX6_digest 202 = .ok (.invokevirtual 150, 3) := by decide +kernel
theorem dX6_digest_205 : decode cX6_digest 205 = .ok (.ldc2_w 229, 3) := by decide +kernel
theorem dX6_digest_208 : decode cX6_digest 208 = .ok (.lload_n 1, 1) := by decide +kernel
theorem dX6_digest_209 : decode cX6_digest 209 = .ok (.lmul, 1) := by decide +kernel
theorem dX6_digest_210 : decode cX6_digest 210 = .ok (.aload_n 0, 1) := by decide +kernel
theorem dX6_digest_211 : decode cX6_digest 211 = .ok (.getfield 28, 3) := by decide +kernel
theorem dX6_digest_214 : decode cX6_digest 214 = .ok (.aload_n 0, 1) := by decide +kernel
theorem dX6_digest_215 : decode cX6_digest 215 = .ok (.getfield 12, 3) := by decide +kernel
theorem dX6_digest_218 : decode cX6_digest 218 = .ok (.getfield 124, 3) := by decide +kernel
theorem dX6_digest_221 : decode cX6_digest 221 = .ok (.invokevirtual 147, 3) := by decide +kernel
theorem dX6_digest_224 : decode cX6_digest 224 = .ok (.i2l, 1) := by decide +kernel
theorem dX6_digest_225 : decode cX6_digest 225 = .ok (.ladd, 1) := by decide +kernel
theorem dX6_digest_226 : decode cX6_digest 226 = .ok (.lstore_n 1, 1) := by decide +kernel
theorem dX6_digest_227 : decode cX6_digest 227 = .ok (.ldc2_w 229, 3) := by decide +kernel
theorem dX6_digest_230 : decode cX6_digest 230 = .ok (.lload_n 1, 1) := by decide +kernel
theorem dX6_digest_231 : decode cX6_digest 231 = .ok (.lmul, 1) := by decide +kernel
theorem dX6_digest_232 : decode cX6_digest 232 = .ok (.aload_n 0, 1) := by decide +kernel
theorem dX6_digest_233 : decode cX6_digest 233 = .ok (.getfield 28, 3) := by decide +kernel
theorem dX6_digest_236 : decode cX6_digest 236 = .ok (.getfield 153, 3) := by decide +kernel
theorem dX6_digest_239 : decode cX6_digest 239 = .ok (.i2l, 1) := by decide +kernel
theorem dX6_digest_240 : decode cX6_digest 240 = .ok (.ladd, 1) := by decide +kernel
end
section
theorem dX6_digest_241 : decode cX6_digest 241 = .ok (.lstore_n 1, 1) := by decide +kernel
theorem dX6_digest_242 : decode cX6_digest 242 = .ok (.ldc2_w 229, 3) := by decide +kernel
theorem dX6_digest_245 : decode cX6_digest 245 = .ok (.lload_n 1, 1) := by decide +kernel
theorem dX6_digest_246 : decode cX6_digest 246 = .ok (.lmul, 1) := by decide +kernel
theorem dX6_digest_247 : decode cX6_digest 247 = .ok (.aload_n 0, 1) := by decide +kernel
theorem dX6_digest_248 : decode cX6_digest 248 = .ok (.getfield 28, 3) := by decide +kernel
theorem dX6_digest_251 : decode cX6_digest 251 = .ok (.getfield 162, 3) := by decide +kernel
theorem dX6_digest_254 : decode cX6_digest 254 = .ok (.i2l, 1) := by decide +kernel
theorem dX6_digest_255 : decode cX6_digest 255 = .ok (.ladd, 1) := by decide +kernel
theorem dX6_digest_256 : decode cX6_digest 256 = .ok (.lstore_n 1, 1) := by decide +kernel
theorem dX6_digest_257 : decode cX6_digest 257 = .ok (.ldc2_w 229, 3) := by decide +kernel
theorem dX6_digest_260 : decode cX6_digest 260 = .ok (.lload_n 1, 1) := by decide +kernel
theorem dX6_digest_261 : decode cX6_digest 261 = .ok (.lmul, 1) := by decide +kernel
theorem dX6_digest_262 : decode cX6_digest 262 = .ok (.aload_n 0, 1) := by decide +kernel
theorem dX6_digest_263 : decode cX6_digest 263 = .ok (.getfield 28, 3) := by decide +kernel
theorem dX6_digest_266 : decode cX6_digest 266 = .ok (.getfield 165, 3) := by decide +kernel
theorem dX6_digest_269 : decode cX6_digest 269 = .ok (.i2l, 1) := by decide +kernel
theorem dX6_digest_270 : decode cX6_digest 270 = .ok (.ladd, 1) := by decide +kernel
theorem dX6_digest_271 : decode cX6_digest 271 = .ok (.lstore_n 1, 1) := by decide +kernel
theorem dX6_digest_272 : decode cX6_digest 272 = .ok (.ldc2_w 229, 3) := by decide +kernel
theorem dX6_digest_275 : decode cX6_digest 275 = .ok (.lload_n 1, 1) := by decide +kernel
theorem dX6_digest_276 : decode cX6_digest 276 = .ok (.lmul, 1) := by decide +kernel
theorem dX6_digest_277 : decode cX6_digest 277 = .ok (.aload_n 0, 1) := by decide +kernel
theorem dX6_digest_278 : decode cX6_digest 278 = .ok (.getfield 28, 3) := by decide +kernel
theorem dX6_digest_281 : decode cX6_digest 281 = .ok (.aload_n 0, 1) := by decide +kernel
theorem dX6_digest_282 : decode cX6_digest 282 = .ok (.getfield 12, 3) := by decide +kernel
theorem dX6_digest_285 : decode cX6_digest 285 = .ok (.getfield 124, 3) := by decide +kernel
theorem dX6_digest_288 : decode cX6_digest 288 = .ok (.invokevirtual 168, 3) := by decide +kernel
theorem dX6_digest_291 : decode cX6_digest 291 = .ok (.i2l, 1) := by decide +kernel
theorem dX6_digest_292 : decode cX6_digest 292 = .ok (.ladd, 1) := by decide +kernel
theorem dX6_digest_293 : decode cX6_digest 293 = .ok (.lreturn, 1) := by decide +kernel
theorem dX6_isWithin_0 : decode cX6_isWithin 0 = .ok (.iload_n 0, 1) := by decide +kernel
theorem dX6_isWithin_1 : decode cX6_isWithin 1 = .ok (.iload_n 1, 1) := by decide +kernel
theorem dX6_isWithin_2 : decode cX6_isWithin 2 = .ok (.if_icmp .lt 12, 3) := by decide +kernel
theorem dX6_isWithin_5 : decode cX6_isWithin 5 = .ok (.iload_n 0, 1) := by decide +kernel
theorem dX6_isWithin_6 : decode cX6_isWithin 6 = .ok (.iload_n 2, 1) := by decide +kernel
theorem dX6_isWithin_7 : decode cX6_isWithin 7 = .ok (.if_icmp .gt 7, 3) := by decide +kernel
theorem dX6_isWithin_10 : decode cX6_isWithin 10 = .ok (.iconst 1, 1) := by decide +kernel
theorem dX6_isWithin_11 : decode cX6_isWithin 11 = .ok (.goto 4, 3) := by decide +kernel
theorem dX6_isWithin_14 : decode cX6_isWithin 14 = .ok (.iconst 0, 1) := by decide +kernel
theorem dX6_isWithin_15 : decode cX6_isWithin 15 = .ok (.ireturn, 1) := by decide +kernel
theorem dX6_isRefusal_0 : decode cX6_isRefusal 0 = .ok (.iload_n 0, 1) := by decide +kernel
theorem dX6_isRefusal_1 : decode cX6_isRefusal 1 = .ok (.sipush (-1001), 3) := by decide +kernel
theorem dX6_isRefusal_4 : decode cX6_isRefusal 4 = .ok (.if_icmp .eq 17, 3) := by decide +kernel
theorem dX6_isRefusal_7 : decode cX6_isRefusal 7 = .ok (.iload_n 0, 1) := by decide +kernel
theorem dX6_isRefusal_8 : decode cX6_isRefusal 8 = .ok (.sipush (-1002), 3) := by decide +kernel
theorem dX6_isRefusal_11 : decode cX6_isRefusal 11 = .ok (.if_icmp .eq 10, 3) := by decide +kernel
theorem dX6_isRefusal_14 : decode cX6_isRefusal 14 = .ok (.iload_n 0, 1) := by decide +kernel
theorem dX6_isRefusal_15 : decode cX6_isRefusal 15 = .ok (.sipush (-1003), 3) := by decide +kernel
theorem dX6_isRefusal_18 : decode cX6_isRefusal 18 = .ok (.if_icmp .ne 7, 3) := by decide +kernel
theorem dX6_isRefusal_21 : decode cX6_isRefusal 21 = .ok (.iconst 1, 1) := by decide +kernel
theorem dX6_isRefusal_22 : decode cX6_isRefusal 22 = .ok (.goto 4, 3) := by decide +kernel
theorem dX6_isRefusal_25 : decode cX6_isRefusal 25 = .ok (.iconst 0, 1) := by decide +kernel
theorem dX6_isRefusal_26 : decode cX6_isRefusal 26 = .ok (.ireturn, 1) := by decide +kernel
theorem dX6_refused_0 : decode cX6_refused 0 = .ok (.iload_n 1, 1) := by decide +kernel
theorem dX6_refused_1 : decode cX6_refused 1 = .ok (.sipush (-1001), 3) := by decide +kernel
theorem dX6_refused_4 : decode cX6_refused 4 = .ok (.if_icmp .ne 16, 3) := by decide +kernel
theorem dX6_refused_7 : decode cX6_refused 7 = .ok (.aload_n 0, 1) := by decide +kernel
theorem dX6_refused_8 : decode cX6_refused 8 = .ok (.dup, 1) := by decide +kernel
theorem dX6_refused_9 : decode cX6_refused 9 = .ok (.getfield 55, 3) := by decide +kernel
theorem dX6_refused_12 : decode cX6_refused 12 = .ok (.iconst 1, 1) := by decide +kernel
theorem dX6_refused_13 : decode cX6_refused 13 = .ok (.iadd, 1) := by decide +kernel
theorem dX6_refused_14 : decode cX6_refused 14 = .ok (.putfield 55, 3) := by decide +kernel
theorem dX6_refused_17 : decode cX6_refused 17 = .ok (.goto 33, 3) := by decide +kernel
theorem dX6_refused_20 : decode cX6_refused 20 = .ok (.iload_n 1, 1) := by decide +kernel
theorem dX6_refused_21 : decode cX6_refused 21 = .ok (.sipush (-1002), 3) := by decide +kernel
theorem dX6_refused_24 : decode cX6_refused 24 = .ok (.if_icmp .ne 16, 3) := by decide +kernel
theorem dX6_refused_27 : decode cX6_refused 27 = .ok (.aload_n 0, 1) := by decide +kernel
theorem dX6_refused_28 : decode cX6_refused 28 = .ok (.dup, 1) := by decide +kernel
theorem dX6_refused_29 : decode cX6_refused 29 = .ok (.getfield 59, 3) := by decide +kernel
theorem dX6_refused_32 : decode cX6_refused 32 = .ok (.iconst 1, 1) := by decide +kernel
theorem dX6_refused_33 : decode cX6_refused 33 = .ok (.iadd, 1) := by decide +kernel
theorem dX6_refused_34 : decode cX6_refused 34 = .ok (.putfield 59, 3) := by decide +kernel
theorem dX6_refused_37 : decode cX6_refused 37 = .ok (.goto 13, 3) := by decide +kernel
theorem dX6_refused_40 : decode cX6_refused 40 = .ok (.aload_n 0, 1) := by decide +kernel
theorem dX6_refused_41 : decode cX6_refused 41 = .ok (.dup, 1) := by decide +kernel
theorem dX6_refused_42 : decode cX6_refused 42 = .ok (.getfield 62, 3) := by decide +kernel
theorem dX6_refused_45 : decode cX6_refused 45 = .ok (.iconst 1, 1) := by decide +kernel
theorem dX6_refused_46 : decode cX6_refused 46 = .ok (.iadd, 1) := by decide +kernel
theorem dX6_refused_47 : decode cX6_refused 47 = .ok (.putfield 62, 3) := by decide +kernel
theorem dX6_refused_50 : decode cX6_refused 50 = .ok (.iload_n 1, 1) := by decide +kernel
theorem dX6_refused_51 : decode cX6_refused 51 = .ok (.ireturn, 1) := by decide +kernel
set_option maxRecDepth 20000 in
theorem ggX6_settled_X6_isRefusal : GoodIn wsX6_settled wsX6_isRefusal := goodIn_r _ [5] (by decide +kernel) (by decide +kernel)
set_option maxRecDepth 20000 in
theorem gX6_settled_X6_isRefusal : GoodIn wsX6_settled (va_wsS RX6 209 yX6_isRefusal wsX6_isRefusal) := goodIn_app (goodIn_of _ (by decide +kernel)) ggX6_settled_X6_isRefusal
set_option maxRecDepth 20000 in
theorem ggX6_settled_X6_refused : GoodIn wsX6_settled wsX6_refused := goodIn_r _ [9, 10, 11, 12, 24, 25, 26, 27, 28, 29, 30, 31, 32] (by decide +kernel) (by decide +kernel)
set_option maxRecDepth 20000 in
theorem gX6_settled_X6_refused : GoodIn wsX6_settled (wsV RX6 101 RX6 yX6_refused wsX6_refused) := goodIn_app (goodIn_of _ (by decide +kernel)) ggX6_settled_X6_refused
set_option maxRecDepth 20000 in
theorem ggX6_settled_X0_keepStaged : GoodIn wsX6_settled wsX0_keepStaged := goodIn_r _ [17, 18, 19, 20, 21, 22, 23, 33, 34, 35] (by decide +kernel) (by decide +kernel)
set_option maxRecDepth 20000 in
theorem gX6_settled_X0_keepStaged : GoodIn wsX6_settled (wsV RX6 218 RX0 yX0_keepStaged wsX0_keepStaged) := goodIn_app (goodIn_of _ (by decide +kernel)) ggX6_settled_X0_keepStaged
theorem dX6_settled_0 : decode cX6_settled 0 = .ok (.iload_n 1, 1) := by decide +kernel
theorem dX6_settled_1 : decode cX6_settled 1 = .ok (.invokestatic 209, 3) := by decide +kernel
theorem dX6_settled_4 : decode cX6_settled 4 = .ok (.ifCond .eq 9, 3) := by decide +kernel
theorem dX6_settled_7 : decode cX6_settled 7 = .ok (.aload_n 0, 1) := by decide +kernel
theorem dX6_settled_8 : decode cX6_settled 8 = .ok (.iload_n 1, 1) := by decide +kernel
theorem dX6_settled_9 : decode cX6_settled 9 = .ok (.invokevirtual 101, 3) := by decide +kernel
theorem dX6_settled_12 : decode cX6_settled 12 = .ok (.ireturn, 1) := by decide +kernel
theorem dX6_settled_13 : decode cX6_settled 13 = .ok (.aload_n 0, 1) := by decide +kernel
theorem dX6_settled_14 : decode cX6_settled 14 = .ok (.getfield 44, 3) := by decide +kernel
theorem dX6_settled_17 : decode cX6_settled 17 = .ok (.invokevirtual 218, 3) := by decide +kernel
theorem dX6_settled_20 : decode cX6_settled 20 = .ok (.iload_n 1, 1) := by decide +kernel
theorem dX6_settled_21 : decode cX6_settled 21 = .ok (.ireturn, 1) := by decide +kernel
theorem dX7_init_0 : decode cX7_init 0 = .ok (.aload_n 0, 1) := by decide +kernel
theorem dX7_init_1 : decode cX7_init 1 = .ok (.invokespecial 1, 3) := by decide +kernel
theorem dX7_init_4 : decode cX7_init 4 = .ok (.aload_n 0, 1) := by decide +kernel
theorem dX7_init_5 : decode cX7_init 5 = .ok (.bipush 26, 2) := by decide +kernel
theorem dX7_init_7 : decode cX7_init 7 = .ok (.newarray .int, 2) := by decide +kernel
theorem dX7_init_9 : decode cX7_init 9 = .ok (.putfield 7, 3) := by decide +kernel
theorem dX7_init_12 : decode cX7_init 12 = .ok (.aload_n 0, 1) := by decide +kernel
theorem dX7_init_13 : decode cX7_init 13 = .ok (.bipush 26, 2) := by decide +kernel
theorem dX7_init_15 : decode cX7_init 15 = .ok (.newarray .int, 2) := by decide +kernel
theorem dX7_init_17 : decode cX7_init 17 = .ok (.putfield 13, 3) := by decide +kernel
theorem dX7_init_20 : decode cX7_init 20 = .ok (.aload_n 0, 1) := by decide +kernel
theorem dX7_init_21 : decode cX7_init 21 = .ok (.sipush 130, 3) := by decide +kernel
theorem dX7_init_24 : decode cX7_init 24 = .ok (.newarray .int, 2) := by decide +kernel
theorem dX7_init_26 : decode cX7_init 26 = .ok (.putfield 16, 3) := by decide +kernel
theorem dX7_init_29 : decode cX7_init 29 = .ok (.aload_n 0, 1) := by decide +kernel
theorem dX7_init_30 : decode cX7_init 30 = .ok (.iconst 3, 1) := by decide +kernel
theorem dX7_init_31 : decode cX7_init 31 = .ok (.newarray .int, 2) := by decide +kernel
theorem dX7_init_33 : decode cX7_init 33 = .ok (.putfield 19, 3) := by decide +kernel
theorem dX7_init_36 : decode cX7_init 36 = .ok (.aload_n 0, 1) := by decide +kernel
theorem dX7_init_37 : decode cX7_init 37 = .ok (.bipush 120, 2) := by decide +kernel
theorem dX7_init_39 : decode cX7_init 39 = .ok (.newarray .int, 2) := by decide +kernel
theorem dX7_init_41 : decode cX7_init 41 = .ok (.putfield 22, 3) := by decide +kernel
theorem dX7_init_44 : decode cX7_init 44 = .ok (.aload_n 0, 1) := by decide +kernel
theorem dX7_init_45 : decode cX7_init 45 = .ok (.bipush 8, 2) := by decide +kernel
theorem dX7_init_47 : decode cX7_init 47 = .ok (.newarray .int, 2) := by decide +kernel
theorem dX7_init_49 : decode cX7_init 49 = .ok (.putfield 25, 3) := by decide +kernel
theorem dX7_init_52 : decode cX7_init 52 = .ok (.aload_n 0, 1) := by decide +kernel
theorem dX7_init_53 : decode cX7_init 53 = .ok (.bipush 8, 2) := by decide +kernel
theorem dX7_init_55 : decode cX7_init 55 = .ok (.newarray .int, 2) := by decide +kernel
theorem dX7_init_57 : decode cX7_init 57 = .ok (.putfield 28, 3) := by decide +kernel
theorem dX7_init_60 : decode cX7_init 60 = .ok (.aload_n 0, 1) := by decide +kernel
theorem dX7_init_61 : decode cX7_init 61 = .ok (.bipush 7, 2) := by decide +kernel
theorem dX7_init_63 : decode cX7_init 63 = .ok (.newarray .int, 2) := by decide +kernel
theorem dX7_init_65 : decode cX7_init 65 = .ok (.putfield 31, 3) := by decide +kernel
theorem dX7_init_68 : decode cX7_init 68 = .ok (.aload_n 0, 1) := by decide +kernel
theorem dX7_init_69 : decode cX7_init 69 = .ok (.bipush 64, 2) := by decide +kernel
theorem dX7_init_71 : decode cX7_init 71 = .ok (.newarray .int, 2) := by decide +kernel
theorem dX7_init_73 : decode cX7_init 73 = .ok (.putfield 34, 3) := by decide +kernel
theorem dX7_init_76 : decode cX7_init 76 = .ok (.aload_n 0, 1) := by decide +kernel
theorem dX7_init_77 : decode cX7_init 77 = .ok (.bipush 64, 2) := by decide +kernel
theorem dX7_init_79 : decode cX7_init 79 = .ok (.newarray .int, 2) := by decide +kernel
theorem dX7_init_81 : decode cX7_init 81 = .ok (.putfield 37, 3) := by decide +kernel
theorem dX7_init_84 : decode cX7_init 84 = .ok (.aload_n 0, 1) := by decide +kernel
theorem dX7_init_85 : decode cX7_init 85 = .ok (.sipush 256, 3) := by decide +kernel
theorem dX7_init_88 : decode cX7_init 88 = .ok (.newarray .int, 2) := by decide +kernel
theorem dX7_init_90 : decode cX7_init 90 = .ok (.putfield 40, 3) := by decide +kernel
theorem dX7_init_93 : decode cX7_init 93 = .ok (.aload_n 0, 1) := by decide +kernel
theorem dX7_init_94 : decode cX7_init 94 = .ok (.bipush 6, 2) := by decide +kernel
theorem dX7_init_96 : decode cX7_init 96 = .ok (.newarray .int, 2) := by decide +kernel
theorem dX7_init_98 : decode cX7_init 98 = .ok (.putfield 43, 3) := by decide +kernel
theorem dX7_init_101 : decode cX7_init 101 = .ok (.aload_n 0, 1) := by decide +kernel
theorem dX7_init_102 : decode cX7_init 102 = .ok (.bipush 60, 2) := by decide +kernel
theorem dX7_init_104 : decode cX7_init 104 = .ok (.newarray .int, 2) := by decide +kernel
theorem dX7_init_106 : decode cX7_init 106 = .ok (.putfield 46, 3) := by decide +kernel
theorem dX7_init_109 : decode cX7_init 109 = .ok (.aload_n 0, 1) := by decide +kernel
theorem dX7_init_110 : decode cX7_init 110 = .ok (.sipush 180, 3) := by decide +kernel
theorem dX7_init_113 : decode cX7_init 113 = .ok (.newarray .int, 2) := by decide +kernel
theorem dX7_init_115 : decode cX7_init 115 = .ok (.putfield 49, 3) := by decide +kernel
theorem dX7_init_118 : decode cX7_init 118 = .ok (.aload_n 0, 1) := by decide +kernel
theorem dX7_init_119 : decode cX7_init 119 = .ok (.getfield 7, 3) := by decide +kernel
theorem dX7_init_122 : decode cX7_init 122 = .ok (.iconst 1, 1) := by decide +kernel
theorem dX7_init_123 : decode cX7_init 123 = .ok (.iconst 5, 1) := by decide +kernel
theorem dX7_init_124 : decode cX7_init 124 = .ok (.iastore, 1) := by decide +kernel
theorem dX7_init_125 : decode cX7_init 125 = .ok (.aload_n 0, 1) := by decide +kernel
theorem dX7_init_126 : decode cX7_init 126 = .ok (.getfield 7, 3) := by decide +kernel
theorem dX7_init_129 : decode cX7_init 129 = .ok (.bipush 21, 2) := by decide +kernel
theorem dX7_init_131 : decode cX7_init 131 = .ok (.iconst 2, 1) := by decide +kernel
theorem dX7_init_132 : decode cX7_init 132 = .ok (.iastore, 1) := by decide +kernel
theorem dX7_init_133 : decode cX7_init 133 = .ok (.aload_n 0, 1) := by decide +kernel
theorem dX7_init_134 : decode cX7_init 134 = .ok (.getfield 7, 3) := by decide +kernel
theorem dX7_init_137 : decode cX7_init 137 = .ok (.bipush 22, 2) := by decide +kernel
theorem dX7_init_139 : decode cX7_init 139 = .ok (.bipush 8, 2) := by decide +kernel
theorem dX7_init_141 : decode cX7_init 141 = .ok (.iastore, 1) := by decide +kernel
theorem dX7_init_142 : decode cX7_init 142 = .ok (.aload_n 0, 1) := by decide +kernel
theorem dX7_init_143 : decode cX7_init 143 = .ok (.getfield 7, 3) := by decide +kernel
theorem dX7_init_146 : decode cX7_init 146 = .ok (.bipush 23, 2) := by decide +kernel
theorem dX7_init_148 : decode cX7_init 148 = .ok (.iconst 3, 1) := by decide +kernel
theorem dX7_init_149 : decode cX7_init 149 = .ok (.iastore, 1) := by decide +kernel
theorem dX7_init_150 : decode cX7_init 150 = .ok (.aload_n 0, 1) := by decide +kernel
theorem dX7_init_151 : decode cX7_init 151 = .ok (.getfield 7, 3) := by decide +kernel
theorem dX7_init_154 : decode cX7_init 154 = .ok (.bipush 24, 2) := by decide +kernel
theorem dX7_init_156 : decode cX7_init 156 = .ok (.iconst 5, 1) := by decide +kernel
theorem dX7_init_157 : decode cX7_init 157 = .ok (.iastore, 1) := by decide +kernel
theorem dX7_init_158 : decode cX7_init 158 = .ok (.aload_n 0, 1) := by decide +kernel
theorem dX7_init_159 : decode cX7_init 159 = .ok (.getfield 7, 3) := by decide +kernel
theorem dX7_init_162 : decode cX7_init 162 = .ok (.bipush 25, 2) := by decide +kernel
theorem dX7_init_164 : decode cX7_init 164 = .ok (.bipush 8, 2) := by decide +kernel
theorem dX7_init_166 : decode cX7_init 166 = .ok (.iastore, 1) := by decide +kernel
theorem dX7_init_167 : decode cX7_init 167 = .ok (.return_, 1) := by decide +kernel
theorem dX7_within_0 : decode cX7_within 0 = .ok (.iload_n 0, 1) := by decide +kernel
theorem dX7_within_1 : decode cX7_within 1 = .ok (.iload_n 1, 1) := by decide +kernel
theorem dX7_within_2 : decode cX7_within 2 = .ok (.if_icmp .lt 12, 3) := by decide +kernel
theorem dX7_within_5 : decode cX7_within 5 = .ok (.iload_n 0, 1) := by decide +kernel
theorem dX7_within_6 : decode cX7_within 6 = .ok (.iload_n 2, 1) := by decide +kernel
theorem dX7_within_7 : decode cX7_within 7 = .ok (.if_icmp .gt 7, 3) := by decide +kernel
theorem dX7_within_10 : decode cX7_within 10 = .ok (.iconst 1, 1) := by decide +kernel
theorem dX7_within_11 : decode cX7_within 11 = .ok (.goto 4, 3) := by decide +kernel
theorem dX7_within_14 : decode cX7_within 14 = .ok (.iconst 0, 1) := by decide +kernel
theorem dX7_within_15 : decode cX7_within 15 = .ok (.ireturn, 1) := by decide +kernel
theorem dX7_has_0 : decode cX7_has 0 = .ok (.iload_n 0, 1) := by decide +kernel
theorem dX7_has_1 : decode cX7_has 1 = .ok (.iload_n 1, 1) := by decide +kernel
theorem dX7_has_2 : decode cX7_has 2 = .ok (.ishr, 1) := by decide +kernel
theorem dX7_has_3 : decode cX7_has 3 = .ok (.iconst 1, 1) := by decide +kernel
theorem dX7_has_4 : decode cX7_has 4 = .ok (.iand, 1) := by decide +kernel
theorem dX7_has_5 : decode cX7_has 5 = .ok (.iconst 1, 1) := by decide +kernel
theorem dX7_has_6 : decode cX7_has 6 = .ok (.if_icmp .ne 7, 3) := by decide +kernel
theorem dX7_has_9 : decode cX7_has 9 = .ok (.iconst 1, 1) := by decide +kernel
theorem dX7_has_10 : decode cX7_has 10 = .ok (.goto 4, 3) := by decide +kernel
theorem dX7_has_13 : decode cX7_has 13 = .ok (.iconst 0, 1) := by decide +kernel
theorem dX7_has_14 : decode cX7_has 14 = .ok (.ireturn, 1) := by decide +kernel
theorem dX7_ones_0 : decode cX7_ones 0 = .ok (.iconst 0, 1) := by decide +kernel
theorem dX7_ones_1 : decode cX7_ones 1 = .ok (.istore_n 1, 1) := by decide +kernel
theorem dX7_ones_2 : decode cX7_ones 2 = .ok (.iconst 0, 1) := by decide +kernel
theorem dX7_ones_3 : decode cX7_ones 3 = .ok (.istore_n 2, 1) := by decide +kernel
theorem dX7_ones_4 : decode cX7_ones 4 = .ok (.iload_n 2, 1) := by decide +kernel
theorem dX7_ones_5 : decode cX7_ones 5 = .ok (.bipush 6, 2) := by decide +kernel
theorem dX7_ones_7 : decode cX7_ones 7 = .ok (.if_icmp .ge 17, 3) := by decide +kernel
theorem dX7_ones_10 : decode cX7_ones 10 = .ok (.iload_n 1, 1) := by decide +kernel
theorem dX7_ones_11 : decode cX7_ones 11 = .ok (.iload_n 0, 1) := by decide +kernel
theorem dX7_ones_12 : decode cX7_ones 12 = .ok (.iload_n 2, 1) := by decide +kernel
theorem dX7_ones_13 : decode cX7_ones 13 = .ok (.ishr, 1) := by decide +kernel
theorem dX7_ones_14 : decode cX7_ones 14 = .ok (.iconst 1, 1) := by decide +kernel
theorem dX7_ones_15 : decode cX7_ones 15 = .ok (.iand, 1) := by decide +kernel
theorem dX7_ones_16 : decode cX7_ones 16 = .ok (.iadd, 1) := by decide +kernel
theorem dX7_ones_17 : decode cX7_ones 17 = .ok (.istore_n 1, 1) := by decide +kernel
theorem dX7_ones_18 : decode cX7_ones 18 = .ok (.iinc 2 1, 3) := by decide +kernel
theorem dX7_ones_21 : decode cX7_ones 21 = .ok (.goto (-17), 3) := by decide +kernel
theorem dX7_ones_24 : decode cX7_ones 24 = .ok (.iload_n 1, 1) := by decide +kernel
theorem dX7_ones_25 : decode cX7_ones 25 = .ok (.ireturn, 1) := by decide +kernel
theorem dX7_counts_0 : decode cX7_counts 0 = .ok (.aload_n 0, 1) := by decide +kernel
theorem dX7_counts_1 : decode cX7_counts 1 = .ok (.getfield 19, 3) := by decide +kernel
theorem dX7_counts_4 : decode cX7_counts 4 = .ok (.sipush (-1001), 3) := by decide +kernel
theorem dX7_counts_7 : decode cX7_counts 7 = .ok (.iload_n 1, 1) := by decide +kernel
theorem dX7_counts_8 : decode cX7_counts 8 = .ok (.isub, 1) := by decide +kernel
theorem dX7_counts_9 : decode cX7_counts 9 = .ok (.dup2, 1) := by decide +kernel
theorem dX7_counts_10 : decode cX7_counts 10 = .ok (.iaload, 1) := by decide +kernel
theorem dX7_counts_11 : decode cX7_counts 11 = .ok (.iconst 1, 1) := by decide +kernel
theorem dX7_counts_12 : decode cX7_counts 12 = .ok (.iadd, 1) := by decide +kernel
theorem dX7_counts_13 : decode cX7_counts 13 = .ok (.iastore, 1) := by decide +kernel
theorem dX7_counts_14 : decode cX7_counts 14 = .ok (.iload_n 1, 1) := by decide +kernel
theorem dX7_counts_15 : decode cX7_counts 15 = .ok (.ireturn, 1) := by decide +kernel
set_option maxRecDepth 20000 in
theorem ggX7_isBend_X7_within : GoodIn wsX7_isBend wsX7_within := goodIn_r _ [5] (by decide +kernel) (by decide +kernel)
set_option maxRecDepth 20000 in
theorem gX7_isBend_X7_within : GoodIn wsX7_isBend (va_wsS RX7 52 yX7_within wsX7_within) := goodIn_app (goodIn_of _ (by decide +kernel)) ggX7_isBend_X7_within
theorem dX7_isBend_0 : decode cX7_isBend 0 = .ok (.iload_n 1, 1) := by decide +kernel
theorem dX7_isBend_1 : decode cX7_isBend 1 = .ok (.iconst 0, 1) := by decide +kernel
theorem dX7_isBend_2 : decode cX7_isBend 2 = .ok (.aload_n 0, 1) := by decide +kernel
theorem dX7_isBend_3 : decode cX7_isBend 3 = .ok (.getfield 7, 3) := by decide +kernel
theorem dX7_isBend_6 : decode cX7_isBend 6 = .ok (.iconst 0, 1) := by decide +kernel
theorem dX7_isBend_7 : decode cX7_isBend 7 = .ok (.iaload, 1) := by decide +kernel
theorem dX7_isBend_8 : decode cX7_isBend 8 = .ok (.iconst 1, 1) := by decide +kernel
theorem dX7_isBend_9 : decode cX7_isBend 9 = .ok (.isub, 1) := by decide +kernel
theorem dX7_isBend_10 : decode cX7_isBend 10 = .ok (.invokestatic 52, 3) := by decide +kernel
theorem dX7_isBend_13 : decode cX7_isBend 13 = .ok (.ireturn, 1) := by decide +kernel
theorem dX7_allMade_0 : decode cX7_allMade 0 = .ok (.iconst 1, 1) := by decide +kernel
theorem dX7_allMade_1 : decode cX7_allMade 1 = .ok (.aload_n 0, 1) := by decide +kernel
theorem dX7_allMade_2 : decode cX7_allMade 2 = .ok (.getfield 7, 3) := by decide +kernel
theorem dX7_allMade_5 : decode cX7_allMade 5 = .ok (.iconst 0, 1) := by decide +kernel
theorem dX7_allMade_6 : decode cX7_allMade 6 = .ok (.iaload, 1) := by decide +kernel
theorem dX7_allMade_7 : decode cX7_allMade 7 = .ok (.ishl, 1) := by decide +kernel
theorem dX7_allMade_8 : decode cX7_allMade 8 = .ok (.iconst 1, 1) := by decide +kernel
theorem dX7_allMade_9 : decode cX7_allMade 9 = .ok (.isub, 1) := by decide +kernel
theorem dX7_allMade_10 : decode cX7_allMade 10 = .ok (.ireturn, 1) := by decide +kernel
theorem dX7_leaves_0 : decode cX7_leaves 0 = .ok (.aload_n 0, 1) := by decide +kernel
theorem dX7_leaves_1 : decode cX7_leaves 1 = .ok (.getfield 56, 3) := by decide +kernel
theorem dX7_leaves_4 : decode cX7_leaves 4 = .ok (.iconst 5, 1) := by decide +kernel
theorem dX7_leaves_5 : decode cX7_leaves 5 = .ok (.if_icmp .ne 42, 3) := by decide +kernel
theorem dX7_leaves_8 : decode cX7_leaves 8 = .ok (.iconst 0, 1) := by decide +kernel
theorem dX7_leaves_9 : decode cX7_leaves 9 = .ok (.istore_n 1, 1) := by decide +kernel
theorem dX7_leaves_10 : decode cX7_leaves 10 = .ok (.iload_n 1, 1) := by decide +kernel
theorem dX7_leaves_11 : decode cX7_leaves 11 = .ok (.bipush 104, 2) := by decide +kernel
theorem dX7_leaves_13 : decode cX7_leaves 13 = .ok (.if_icmp .ge 24, 3) := by decide +kernel
theorem dX7_leaves_16 : decode cX7_leaves 16 = .ok (.aload_n 0, 1) := by decide +kernel
theorem dX7_leaves_17 : decode cX7_leaves 17 = .ok (.getfield 16, 3) := by decide +kernel
theorem dX7_leaves_20 : decode cX7_leaves 20 = .ok (.iload_n 1, 1) := by decide +kernel
theorem dX7_leaves_21 : decode cX7_leaves 21 = .ok (.aload_n 0, 1) := by decide +kernel
theorem dX7_leaves_22 : decode cX7_leaves 22 = .ok (.getfield 16, 3) := by decide +kernel
theorem dX7_leaves_25 : decode cX7_leaves 25 = .ok (.iload_n 1, 1) := by decide +kernel
theorem dX7_leaves_26 : decode cX7_leaves 26 = .ok (.bipush 26, 2) := by decide +kernel
theorem dX7_leaves_28 : decode cX7_leaves 28 = .ok (.iadd, 1) := by decide +kernel
theorem dX7_leaves_29 : decode cX7_leaves 29 = .ok (.iaload, 1) := by decide +kernel
theorem dX7_leaves_30 : decode cX7_leaves 30 = .ok (.iastore, 1) := by decide +kernel
theorem dX7_leaves_31 : decode cX7_leaves 31 = .ok (.iinc 1 1, 3) := by decide +kernel
theorem dX7_leaves_34 : decode cX7_leaves 34 = .ok (.goto (-24), 3) := by decide +kernel
theorem dX7_leaves_37 : decode cX7_leaves 37 = .ok (.aload_n 0, 1) := by decide +kernel
theorem dX7_leaves_38 : decode cX7_leaves 38 = .ok (.dup, 1) := by decide +kernel
theorem dX7_leaves_39 : decode cX7_leaves 39 = .ok (.getfield 56, 3) := by decide +kernel
theorem dX7_leaves_42 : decode cX7_leaves 42 = .ok (.iconst 1, 1) := by decide +kernel
theorem dX7_leaves_43 : decode cX7_leaves 43 = .ok (.isub, 1) := by decide +kernel
theorem dX7_leaves_44 : decode cX7_leaves 44 = .ok (.putfield 56, 3) := by decide +kernel
theorem dX7_leaves_47 : decode cX7_leaves 47 = .ok (.iconst 0, 1) := by decide +kernel
theorem dX7_leaves_48 : decode cX7_leaves 48 = .ok (.istore_n 1, 1) := by decide +kernel
theorem dX7_leaves_49 : decode cX7_leaves 49 = .ok (.iload_n 1, 1) := by decide +kernel
theorem dX7_leaves_50 : decode cX7_leaves 50 = .ok (.bipush 26, 2) := by decide +kernel
theorem dX7_leaves_52 : decode cX7_leaves 52 = .ok (.if_icmp .ge 29, 3) := by decide +kernel
theorem dX7_leaves_55 : decode cX7_leaves 55 = .ok (.aload_n 0, 1) := by decide +kernel
theorem dX7_leaves_56 : decode cX7_leaves 56 = .ok (.getfield 16, 3) := by decide +kernel
theorem dX7_leaves_59 : decode cX7_leaves 59 = .ok (.bipush 26, 2) := by decide +kernel
theorem dX7_leaves_61 : decode cX7_leaves 61 = .ok (.aload_n 0, 1) := by decide +kernel
theorem dX7_leaves_62 : decode cX7_leaves 62 = .ok (.getfield 56, 3) := by decide +kernel
theorem dX7_leaves_65 : decode cX7_leaves 65 = .ok (.imul, 1) := by decide +kernel
theorem dX7_leaves_66 : decode cX7_leaves 66 = .ok (.iload_n 1, 1) := by decide +kernel
theorem dX7_leaves_67 : decode cX7_leaves 67 = .ok (.iadd, 1) := by decide +kernel
theorem dX7_leaves_68 : decode cX7_leaves 68 = .ok (.aload_n 0, 1) := by decide +kernel
theorem dX7_leaves_69 : decode cX7_leaves 69 = .ok (.getfield 7, 3) := by decide +kernel
theorem dX7_leaves_72 : decode cX7_leaves 72 = .ok (.iload_n 1, 1) := by decide +kernel
theorem dX7_leaves_73 : decode cX7_leaves 73 = .ok (.iaload, 1) := by decide +kernel
theorem dX7_leaves_74 : decode cX7_leaves 74 = .ok (.iastore, 1) := by decide +kernel
theorem dX7_leaves_75 : decode cX7_leaves 75 = .ok (.iinc 1 1, 3) := by decide +kernel
theorem dX7_leaves_78 : decode cX7_leaves 78 = .ok (.goto (-29), 3) := by decide +kernel
theorem dX7_leaves_81 : decode cX7_leaves 81 = .ok (.aload_n 0, 1) := by decide +kernel
theorem dX7_leaves_82 : decode cX7_leaves 82 = .ok (.dup, 1) := by decide +kernel
theorem dX7_leaves_83 : decode cX7_leaves 83 = .ok (.getfield 56, 3) := by decide +kernel
theorem dX7_leaves_86 : decode cX7_leaves 86 = .ok (.iconst 1, 1) := by decide +kernel
theorem dX7_leaves_87 : decode cX7_leaves 87 = .ok (.iadd, 1) := by decide +kernel
theorem dX7_leaves_88 : decode cX7_leaves 88 = .ok (.putfield 56, 3) := by decide +kernel
theorem dX7_leaves_91 : decode cX7_leaves 91 = .ok (.return_, 1) := by decide +kernel
set_option maxRecDepth 20000 in
theorem ggX7_back_X7_counts : GoodIn wsX7_back wsX7_counts := goodIn_r _ [8, 9, 10, 11, 12, 13, 14, 15, 16, 17, 18, 19, 20, 21, 22, 23, 24, 25, 26, 27, 28] (by decide +kernel) (by decide +kernel)
set_option maxRecDepth 20000 in
theorem gX7_back_X7_counts : GoodIn wsX7_back (wsV RX7 60 RX7 yX7_counts wsX7_counts) := goodIn_app (goodIn_of _ (by decide +kernel)) ggX7_back_X7_counts
theorem dX7_back_0 : decode cX7_back 0 = .ok (.aload_n 0, 1) := by decide +kernel
theorem dX7_back_1 : decode cX7_back 1 = .ok (.getfield 56, 3) := by decide +kernel
theorem dX7_back_4 : decode cX7_back 4 = .ok (.ifCond .ne 11, 3) := by decide +kernel
theorem dX7_back_7 : decode cX7_back 7 = .ok (.aload_n 0, 1) := by decide +kernel
theorem dX7_back_8 : decode cX7_back 8 = .ok (.sipush (-1002), 3) := by decide +kernel
theorem dX7_back_11 : decode cX7_back 11 = .ok (.invokevirtual 60, 3) := by decide +kernel
theorem dX7_back_14 : decode cX7_back 14 = .ok (.ireturn, 1) := by decide +kernel
theorem dX7_back_15 : decode cX7_back 15 = .ok (.aload_n 0, 1) := by decide +kernel
theorem dX7_back_16 : decode cX7_back 16 = .ok (.dup, 1) := by decide +kernel
theorem dX7_back_17 : decode cX7_back 17 = .ok (.getfield 56, 3) := by decide +kernel
theorem dX7_back_20 : decode cX7_back 20 = .ok (.iconst 1, 1) := by decide +kernel
theorem dX7_back_21 : decode cX7_back 21 = .ok (.isub, 1) := by decide +kernel
theorem dX7_back_22 : decode cX7_back 22 = .ok (.putfield 56, 3) := by decide +kernel
theorem dX7_back_25 : decode cX7_back 25 = .ok (.iconst 0, 1) := by decide +kernel
theorem dX7_back_26 : decode cX7_back 26 = .ok (.istore_n 1, 1) := by decide +kernel
theorem dX7_back_27 : decode cX7_back 27 = .ok (.iload_n 1, 1) := by decide +kernel
theorem dX7_back_28 : decode cX7_back 28 = .ok (.bipush 26, 2) := by decide +kernel
theorem dX7_back_30 : decode cX7_back 30 = .ok (.if_icmp .ge 29, 3) := by decide +kernel
theorem dX7_back_33 : decode cX7_back 33 = .ok (.aload_n 0, 1) := by decide +kernel
theorem dX7_back_34 : decode cX7_back 34 = .ok (.getfield 7, 3) := by decide +kernel
theorem dX7_back_37 : decode cX7_back 37 = .ok (.iload_n 1, 1) := by decide +kernel
theorem dX7_back_38 : decode cX7_back 38 = .ok (.aload_n 0, 1) := by decide +kernel
theorem dX7_back_39 : decode cX7_back 39 = .ok (.getfield 16, 3) := by decide +kernel
theorem dX7_back_42 : decode cX7_back 42 = .ok (.bipush 26, 2) := by decide +kernel
theorem dX7_back_44 : decode cX7_back 44 = .ok (.aload_n 0, 1) := by decide +kernel
theorem dX7_back_45 : decode cX7_back 45 = .ok (.getfield 56, 3) := by decide +kernel
theorem dX7_back_48 : decode cX7_back 48 = .ok (.imul, 1) := by decide +kernel
theorem dX7_back_49 : decode cX7_back 49 = .ok (.iload_n 1, 1) := by decide +kernel
theorem dX7_back_50 : decode cX7_back 50 = .ok (.iadd, 1) := by decide +kernel
theorem dX7_back_51 : decode cX7_back 51 = .ok (.iaload, 1) := by decide +kernel
theorem dX7_back_52 : decode cX7_back 52 = .ok (.iastore, 1) := by decide +kernel
theorem dX7_back_53 : decode cX7_back 53 = .ok (.iinc 1 1, 3) := by decide +kernel
theorem dX7_back_56 : decode cX7_back 56 = .ok (.goto (-29), 3) := by decide +kernel
theorem dX7_back_59 : decode cX7_back 59 = .ok (.aload_n 0, 1) := by decide +kernel
theorem dX7_back_60 : decode cX7_back 60 = .ok (.getfield 56, 3) := by decide +kernel
theorem dX7_back_63 : decode cX7_back 63 = .ok (.ireturn, 1) := by decide +kernel
theorem dX7_alongX_0 : decode cX7_alongX 0 = .ok (.iload_n 0, 1) := by decide +kernel
theorem dX7_alongX_1 : decode cX7_alongX 1 = .ok (.ifCond .ne 7, 3) := by decide +kernel
theorem dX7_alongX_4 : decode cX7_alongX 4 = .ok (.iconst 1, 1) := by decide +kernel
theorem dX7_alongX_5 : decode cX7_alongX 5 = .ok (.goto 13, 3) := by decide +kernel
theorem dX7_alongX_8 : decode cX7_alongX 8 = .ok (.iload_n 0, 1) := by decide +kernel
theorem dX7_alongX_9 : decode cX7_alongX 9 = .ok (.iconst 2, 1) := by decide +kernel
theorem dX7_alongX_10 : decode cX7_alongX 10 = .ok (.if_icmp .ne 7, 3) := by decide +kernel
theorem dX7_alongX_13 : decode cX7_alongX 13 = .ok (.iconst (-1), 1) := by decide +kernel
theorem dX7_alongX_14 : decode cX7_alongX 14 = .ok (.goto 4, 3) := by decide +kernel
theorem dX7_alongX_17 : decode cX7_alongX 17 = .ok (.iconst 0, 1) := by decide +kernel
theorem dX7_alongX_18 : decode cX7_alongX 18 = .ok (.ireturn, 1) := by decide +kernel
theorem dX7_alongY_0 : decode cX7_alongY 0 = .ok (.iload_n 0, 1) := by decide +kernel
theorem dX7_alongY_1 : decode cX7_alongY 1 = .ok (.iconst 1, 1) := by decide +kernel
theorem dX7_alongY_2 : decode cX7_alongY 2 = .ok (.if_icmp .ne 7, 3) := by decide +kernel
theorem dX7_alongY_5 : decode cX7_alongY 5 = .ok (.iconst 1, 1) := by decide +kernel
theorem dX7_alongY_6 : decode cX7_alongY 6 = .ok (.goto 13, 3) := by decide +kernel
theorem dX7_alongY_9 : decode cX7_alongY 9 = .ok (.iload_n 0, 1) := by decide +kernel
theorem dX7_alongY_10 : decode cX7_alongY 10 = .ok (.iconst 3, 1) := by decide +kernel
theorem dX7_alongY_11 : decode cX7_alongY 11 = .ok (.if_icmp .ne 7, 3) := by decide +kernel
theorem dX7_alongY_14 : decode cX7_alongY 14 = .ok (.iconst (-1), 1) := by decide +kernel
theorem dX7_alongY_15 : decode cX7_alongY 15 = .ok (.goto 4, 3) := by decide +kernel
theorem dX7_alongY_18 : decode cX7_alongY 18 = .ok (.iconst 0, 1) := by decide +kernel
theorem dX7_alongY_19 : decode cX7_alongY 19 = .ok (.ireturn, 1) := by decide +kernel
set_option maxRecDepth 20000 in
theorem ggX7_lays_X7_alongX : GoodIn wsX7_lays wsX7_alongX := goodIn_r _ [8] (by decide +kernel) (by decide +kernel)
set_option maxRecDepth 20000 in
theorem gX7_lays_X7_alongX : GoodIn wsX7_lays (va_wsS RX7 64 yX7_alongX wsX7_alongX) := goodIn_app (goodIn_of _ (by decide +kernel)) ggX7_lays_X7_alongX
set_option maxRecDepth 20000 in
theorem ggX7_lays_X7_alongY : GoodIn wsX7_lays wsX7_alongY := goodIn_r _ [11] (by decide +kernel) (by decide +kernel)
set_option maxRecDepth 20000 in
theorem gX7_lays_X7_alongY : GoodIn wsX7_lays (va_wsS RX7 67 yX7_alongY wsX7_alongY) := goodIn_app (goodIn_of _ (by decide +kernel)) ggX7_lays_X7_alongY
set_option maxRecDepth 20000 in
theorem ggX7_lays_X7_has : GoodIn wsX7_lays wsX7_has := goodIn_r _ [14] (by decide +kernel) (by decide +kernel)
set_option maxRecDepth 20000 in
theorem gX7_lays_X7_has : GoodIn wsX7_lays (va_wsS RX7 70 yX7_has wsX7_has) := goodIn_app (goodIn_of _ (by decide +kernel)) ggX7_lays_X7_has
theorem dX7_lays_0 : decode cX7_lays 0 = .ok (.iconst 0, 1) := by decide +kernel
theorem dX7_lays_1 : decode cX7_lays 1 = .ok (.istore_n 2, 1) := by decide +kernel
theorem dX7_lays_2 : decode cX7_lays 2 = .ok (.aload_n 0, 1) := by decide +kernel
theorem dX7_lays_3 : decode cX7_lays 3 = .ok (.getfield 25, 3) := by decide +kernel
theorem dX7_lays_6 : decode cX7_lays 6 = .ok (.iconst 0, 1) := by decide +kernel
theorem dX7_lays_7 : decode cX7_lays 7 = .ok (.iconst 0, 1) := by decide +kernel
theorem dX7_lays_8 : decode cX7_lays 8 = .ok (.iastore, 1) := by decide +kernel
theorem dX7_lays_9 : decode cX7_lays 9 = .ok (.aload_n 0, 1) := by decide +kernel
theorem dX7_lays_10 : decode cX7_lays 10 = .ok (.getfield 28, 3) := by decide +kernel
theorem dX7_lays_13 : decode cX7_lays 13 = .ok (.iconst 0, 1) := by decide +kernel
theorem dX7_lays_14 : decode cX7_lays 14 = .ok (.iconst 0, 1) := by decide +kernel
theorem dX7_lays_15 : decode cX7_lays 15 = .ok (.iastore, 1) := by decide +kernel
theorem dX7_lays_16 : decode cX7_lays 16 = .ok (.iconst 0, 1) := by decide +kernel
theorem dX7_lays_17 : decode cX7_lays 17 = .ok (.istore_n 3, 1) := by decide +kernel
theorem dX7_lays_18 : decode cX7_lays 18 = .ok (.iload_n 3, 1) := by decide +kernel
theorem dX7_lays_19 : decode cX7_lays 19 = .ok (.aload_n 0, 1) := by decide +kernel
theorem dX7_lays_20 : decode cX7_lays 20 = .ok (.getfield 7, 3) := by decide +kernel
theorem dX7_lays_23 : decode cX7_lays 23 = .ok (.iconst 0, 1) := by decide +kernel
theorem dX7_lays_24 : decode cX7_lays 24 = .ok (.iaload, 1) := by decide +kernel
theorem dX7_lays_25 : decode cX7_lays 25 = .ok (.if_icmp .gt 108, 3) := by decide +kernel
theorem dX7_lays_28 : decode cX7_lays 28 = .ok (.aload_n 0, 1) := by decide +kernel
theorem dX7_lays_29 : decode cX7_lays 29 = .ok (.getfield 31, 3) := by decide +kernel
theorem dX7_lays_32 : decode cX7_lays 32 = .ok (.iload_n 3, 1) := by decide +kernel
theorem dX7_lays_33 : decode cX7_lays 33 = .ok (.iload_n 2, 1) := by decide +kernel
theorem dX7_lays_34 : decode cX7_lays 34 = .ok (.iastore, 1) := by decide +kernel
theorem dX7_lays_35 : decode cX7_lays 35 = .ok (.aload_n 0, 1) := by decide +kernel
theorem dX7_lays_36 : decode cX7_lays 36 = .ok (.getfield 25, 3) := by decide +kernel
theorem dX7_lays_39 : decode cX7_lays 39 = .ok (.iload_n 3, 1) := by decide +kernel
theorem dX7_lays_40 : decode cX7_lays 40 = .ok (.iconst 1, 1) := by decide +kernel
theorem dX7_lays_41 : decode cX7_lays 41 = .ok (.iadd, 1) := by decide +kernel
theorem dX7_lays_42 : decode cX7_lays 42 = .ok (.aload_n 0, 1) := by decide +kernel
theorem dX7_lays_43 : decode cX7_lays 43 = .ok (.getfield 25, 3) := by decide +kernel
theorem dX7_lays_46 : decode cX7_lays 46 = .ok (.iload_n 3, 1) := by decide +kernel
theorem dX7_lays_47 : decode cX7_lays 47 = .ok (.iaload, 1) := by decide +kernel
theorem dX7_lays_48 : decode cX7_lays 48 = .ok (.iload_n 2, 1) := by decide +kernel
theorem dX7_lays_49 : decode cX7_lays 49 = .ok (.invokestatic 64, 3) := by decide +kernel
theorem dX7_lays_52 : decode cX7_lays 52 = .ok (.aload_n 0, 1) := by decide +kernel
theorem dX7_lays_53 : decode cX7_lays 53 = .ok (.getfield 7, 3) := by decide +kernel
theorem dX7_lays_56 : decode cX7_lays 56 = .ok (.iconst 1, 1) := by decide +kernel
theorem dX7_lays_57 : decode cX7_lays 57 = .ok (.iload_n 3, 1) := by decide +kernel
theorem dX7_lays_58 : decode cX7_lays 58 = .ok (.iadd, 1) := by decide +kernel
theorem dX7_lays_59 : decode cX7_lays 59 = .ok (.iaload, 1) := by decide +kernel
theorem dX7_lays_60 : decode cX7_lays 60 = .ok (.imul, 1) := by decide +kernel
theorem dX7_lays_61 : decode cX7_lays 61 = .ok (.iadd, 1) := by decide +kernel
theorem dX7_lays_62 : decode cX7_lays 62 = .ok (.iastore, 1) := by decide +kernel
theorem dX7_lays_63 : decode cX7_lays 63 = .ok (.aload_n 0, 1) := by decide +kernel
theorem dX7_lays_64 : decode cX7_lays 64 = .ok (.getfield 28, 3) := by decide +kernel
theorem dX7_lays_67 : decode cX7_lays 67 = .ok (.iload_n 3, 1) := by decide +kernel
theorem dX7_lays_68 : decode cX7_lays 68 = .ok (.iconst 1, 1) := by decide +kernel
theorem dX7_lays_69 : decode cX7_lays 69 = .ok (.iadd, 1) := by decide +kernel
theorem dX7_lays_70 : decode cX7_lays 70 = .ok (.aload_n 0, 1) := by decide +kernel
theorem dX7_lays_71 : decode cX7_lays 71 = .ok (.getfield 28, 3) := by decide +kernel
theorem dX7_lays_74 : decode cX7_lays 74 = .ok (.iload_n 3, 1) := by decide +kernel
theorem dX7_lays_75 : decode cX7_lays 75 = .ok (.iaload, 1) := by decide +kernel
theorem dX7_lays_76 : decode cX7_lays 76 = .ok (.iload_n 2, 1) := by decide +kernel
theorem dX7_lays_77 : decode cX7_lays 77 = .ok (.invokestatic 67, 3) := by decide +kernel
theorem dX7_lays_80 : decode cX7_lays 80 = .ok (.aload_n 0, 1) := by decide +kernel
theorem dX7_lays_81 : decode cX7_lays 81 = .ok (.getfield 7, 3) := by decide +kernel
theorem dX7_lays_84 : decode cX7_lays 84 = .ok (.iconst 1, 1) := by decide +kernel
theorem dX7_lays_85 : decode cX7_lays 85 = .ok (.iload_n 3, 1) := by decide +kernel
theorem dX7_lays_86 : decode cX7_lays 86 = .ok (.iadd, 1) := by decide +kernel
theorem dX7_lays_87 : decode cX7_lays 87 = .ok (.iaload, 1) := by decide +kernel
theorem dX7_lays_88 : decode cX7_lays 88 = .ok (.imul, 1) := by decide +kernel
theorem dX7_lays_89 : decode cX7_lays 89 = .ok (.iadd, 1) := by decide +kernel
theorem dX7_lays_90 : decode cX7_lays 90 = .ok (.iastore, 1) := by decide +kernel
theorem dX7_lays_91 : decode cX7_lays 91 = .ok (.iload_n 3, 1) := by decide +kernel
theorem dX7_lays_92 : decode cX7_lays 92 = .ok (.aload_n 0, 1) := by decide +kernel
theorem dX7_lays_93 : decode cX7_lays 93 = .ok (.getfield 7, 3) := by decide +kernel
theorem dX7_lays_96 : decode cX7_lays 96 = .ok (.iconst 0, 1) := by decide +kernel
theorem dX7_lays_97 : decode cX7_lays 97 = .ok (.iaload, 1) := by decide +kernel
theorem dX7_lays_98 : decode cX7_lays 98 = .ok (.if_icmp .ge 27, 3) := by decide +kernel
theorem dX7_lays_101 : decode cX7_lays 101 = .ok (.iload_n 1, 1) := by decide +kernel
theorem dX7_lays_102 : decode cX7_lays 102 = .ok (.iload_n 3, 1) := by decide +kernel
theorem dX7_lays_103 : decode cX7_lays 103 = .ok (.invokestatic 70, 3) := by decide +kernel
theorem dX7_lays_106 : decode cX7_lays 106 = .ok (.ifCond .eq 19, 3) := by decide +kernel
theorem dX7_lays_109 : decode cX7_lays 109 = .ok (.iload_n 2, 1) := by decide +kernel
theorem dX7_lays_110 : decode cX7_lays 110 = .ok (.aload_n 0, 1) := by decide +kernel
theorem dX7_lays_111 : decode cX7_lays 111 = .ok (.getfield 7, 3) := by decide +kernel
theorem dX7_lays_114 : decode cX7_lays 114 = .ok (.bipush 8, 2) := by decide +kernel
theorem dX7_lays_116 : decode cX7_lays 116 = .ok (.iload_n 3, 1) := by decide +kernel
theorem dX7_lays_117 : decode cX7_lays 117 = .ok (.iadd, 1) := by decide +kernel
theorem dX7_lays_118 : decode cX7_lays 118 = .ok (.iaload, 1) := by decide +kernel
theorem dX7_lays_119 : decode cX7_lays 119 = .ok (.iadd, 1) := by decide +kernel
theorem dX7_lays_120 : decode cX7_lays 120 = .ok (.iconst 3, 1) := by decide +kernel
theorem dX7_lays_121 : decode cX7_lays 121 = .ok (.iand, 1) := by decide +kernel
theorem dX7_lays_122 : decode cX7_lays 122 = .ok (.goto 4, 3) := by decide +kernel
theorem dX7_lays_125 : decode cX7_lays 125 = .ok (.iload_n 2, 1) := by decide +kernel
theorem dX7_lays_126 : decode cX7_lays 126 = .ok (.istore_n 2, 1) := by decide +kernel
theorem dX7_lays_127 : decode cX7_lays 127 = .ok (.iinc 3 1, 3) := by decide +kernel
theorem dX7_lays_130 : decode cX7_lays 130 = .ok (.goto (-112), 3) := by decide +kernel
theorem dX7_lays_133 : decode cX7_lays 133 = .ok (.return_, 1) := by decide +kernel
set_option maxRecDepth 20000 in
theorem ggX7_turnsTo_X7_alongX : GoodIn wsX7_turnsTo wsX7_alongX := goodIn_r _ [8] (by decide +kernel) (by decide +kernel)
set_option maxRecDepth 20000 in
theorem gX7_turnsTo_X7_alongX : GoodIn wsX7_turnsTo (va_wsS RX7 64 yX7_alongX wsX7_alongX) := goodIn_app (goodIn_of _ (by decide +kernel)) ggX7_turnsTo_X7_alongX
set_option maxRecDepth 20000 in
theorem ggX7_turnsTo_X7_alongY : GoodIn wsX7_turnsTo wsX7_alongY := goodIn_r _ [11] (by decide +kernel) (by decide +kernel)
set_option maxRecDepth 20000 in
theorem gX7_turnsTo_X7_alongY : GoodIn wsX7_turnsTo (va_wsS RX7 67 yX7_alongY wsX7_alongY) := goodIn_app (goodIn_of _ (by decide +kernel)) ggX7_turnsTo_X7_alongY
theorem dX7_turnsTo_0 : decode cX7_turnsTo 0 = .ok (.aload_n 0, 1) := by decide +kernel
theorem dX7_turnsTo_1 : decode cX7_turnsTo 1 = .ok (.getfield 25, 3) := by decide +kernel
theorem dX7_turnsTo_4 : decode cX7_turnsTo 4 = .ok (.iload_n 1, 1) := by decide +kernel
theorem dX7_turnsTo_5 : decode cX7_turnsTo 5 = .ok (.iconst 1, 1) := by decide +kernel
theorem dX7_turnsTo_6 : decode cX7_turnsTo 6 = .ok (.iadd, 1) := by decide +kernel
theorem dX7_turnsTo_7 : decode cX7_turnsTo 7 = .ok (.iaload, 1) := by decide +kernel
theorem dX7_turnsTo_8 : decode cX7_turnsTo 8 = .ok (.istore_n 2, 1) := by decide +kernel
theorem dX7_turnsTo_9 : decode cX7_turnsTo 9 = .ok (.aload_n 0, 1) := by decide +kernel
theorem dX7_turnsTo_10 : decode cX7_turnsTo 10 = .ok (.getfield 28, 3) := by decide +kernel
theorem dX7_turnsTo_13 : decode cX7_turnsTo 13 = .ok (.iload_n 1, 1) := by decide +kernel
theorem dX7_turnsTo_14 : decode cX7_turnsTo 14 = .ok (.iconst 1, 1) := by decide +kernel
theorem dX7_turnsTo_15 : decode cX7_turnsTo 15 = .ok (.iadd, 1) := by decide +kernel
theorem dX7_turnsTo_16 : decode cX7_turnsTo 16 = .ok (.iaload, 1) := by decide +kernel
theorem dX7_turnsTo_17 : decode cX7_turnsTo 17 = .ok (.istore_n 3, 1) := by decide +kernel
theorem dX7_turnsTo_18 : decode cX7_turnsTo 18 = .ok (.aload_n 0, 1) := by decide +kernel
theorem dX7_turnsTo_19 : decode cX7_turnsTo 19 = .ok (.getfield 31, 3) := by decide +kernel
theorem dX7_turnsTo_22 : decode cX7_turnsTo 22 = .ok (.iload_n 1, 1) := by decide +kernel
theorem dX7_turnsTo_23 : decode cX7_turnsTo 23 = .ok (.iconst 1, 1) := by decide +kernel
theorem dX7_turnsTo_24 : decode cX7_turnsTo 24 = .ok (.iadd, 1) := by decide +kernel
theorem dX7_turnsTo_25 : decode cX7_turnsTo 25 = .ok (.iaload, 1) := by decide +kernel
theorem dX7_turnsTo_26 : decode cX7_turnsTo 26 = .ok (.istore 4, 2) := by decide +kernel
theorem dX7_turnsTo_28 : decode cX7_turnsTo 28 = .ok (.iconst 0, 1) := by decide +kernel
theorem dX7_turnsTo_29 : decode cX7_turnsTo 29 = .ok (.istore 5, 2) := by decide +kernel
theorem dX7_turnsTo_31 : decode cX7_turnsTo 31 = .ok (.iload 5, 2) := by decide +kernel
theorem dX7_turnsTo_33 : decode cX7_turnsTo 33 = .ok (.aload_n 0, 1) := by decide +kernel
theorem dX7_turnsTo_34 : decode cX7_turnsTo 34 = .ok (.getfield 7, 3) := by decide +kernel
theorem dX7_turnsTo_37 : decode cX7_turnsTo 37 = .ok (.iconst 0, 1) := by decide +kernel
theorem dX7_turnsTo_38 : decode cX7_turnsTo 38 = .ok (.iaload, 1) := by decide +kernel
theorem dX7_turnsTo_39 : decode cX7_turnsTo 39 = .ok (.iconst 2, 1) := by decide +kernel
theorem dX7_turnsTo_40 : decode cX7_turnsTo 40 = .ok (.iadd, 1) := by decide +kernel
theorem dX7_turnsTo_41 : decode cX7_turnsTo 41 = .ok (.if_icmp .ge 79, 3) := by decide +kernel
theorem dX7_turnsTo_44 : decode cX7_turnsTo 44 = .ok (.aload_n 0, 1) := by decide +kernel
theorem dX7_turnsTo_45 : decode cX7_turnsTo 45 = .ok (.getfield 25, 3) := by decide +kernel
theorem dX7_turnsTo_48 : decode cX7_turnsTo 48 = .ok (.iload 5, 2) := by decide +kernel
theorem dX7_turnsTo_50 : decode cX7_turnsTo 50 = .ok (.iaload, 1) := by decide +kernel
theorem dX7_turnsTo_51 : decode cX7_turnsTo 51 = .ok (.iload_n 2, 1) := by decide +kernel
theorem dX7_turnsTo_52 : decode cX7_turnsTo 52 = .ok (.isub, 1) := by decide +kernel
theorem dX7_turnsTo_53 : decode cX7_turnsTo 53 = .ok (.istore 6, 2) := by decide +kernel
theorem dX7_turnsTo_55 : decode cX7_turnsTo 55 = .ok (.aload_n 0, 1) := by decide +kernel
theorem dX7_turnsTo_56 : decode cX7_turnsTo 56 = .ok (.getfield 28, 3) := by decide +kernel
theorem dX7_turnsTo_59 : decode cX7_turnsTo 59 = .ok (.iload 5, 2) := by decide +kernel
theorem dX7_turnsTo_61 : decode cX7_turnsTo 61 = .ok (.iaload, 1) := by decide +kernel
theorem dX7_turnsTo_62 : decode cX7_turnsTo 62 = .ok (.iload_n 3, 1) := by decide +kernel
theorem dX7_turnsTo_63 : decode cX7_turnsTo 63 = .ok (.isub, 1) := by decide +kernel
theorem dX7_turnsTo_64 : decode cX7_turnsTo 64 = .ok (.istore 7, 2) := by decide +kernel
theorem dX7_turnsTo_66 : decode cX7_turnsTo 66 = .ok (.aload_n 0, 1) := by decide +kernel
theorem dX7_turnsTo_67 : decode cX7_turnsTo 67 = .ok (.getfield 25, 3) := by decide +kernel
theorem dX7_turnsTo_70 : decode cX7_turnsTo 70 = .ok (.iload 5, 2) := by decide +kernel
theorem dX7_turnsTo_72 : decode cX7_turnsTo 72 = .ok (.iload 4, 2) := by decide +kernel
theorem dX7_turnsTo_74 : decode cX7_turnsTo 74 = .ok (.invokestatic 64, 3) := by decide +kernel
theorem dX7_turnsTo_77 : decode cX7_turnsTo 77 = .ok (.iload 6, 2) := by decide +kernel
theorem dX7_turnsTo_79 : decode cX7_turnsTo 79 = .ok (.imul, 1) := by decide +kernel
theorem dX7_turnsTo_80 : decode cX7_turnsTo 80 = .ok (.iload 4, 2) := by decide +kernel
theorem dX7_turnsTo_82 : decode cX7_turnsTo 82 = .ok (.invokestatic 67, 3) := by decide +kernel
theorem dX7_turnsTo_85 : decode cX7_turnsTo 85 = .ok (.iload 7, 2) := by decide +kernel
theorem dX7_turnsTo_87 : decode cX7_turnsTo 87 = .ok (.imul, 1) := by decide +kernel
theorem dX7_turnsTo_88 : decode cX7_turnsTo 88 = .ok (.iadd, 1) := by decide +kernel
theorem dX7_turnsTo_89 : decode cX7_turnsTo 89 = .ok (.iastore, 1) := by decide +kernel
theorem dX7_turnsTo_90 : decode cX7_turnsTo 90 = .ok (.aload_n 0, 1) := by decide +kernel
theorem dX7_turnsTo_91 : decode cX7_turnsTo 91 = .ok (.getfield 28, 3) := by decide +kernel
theorem dX7_turnsTo_94 : decode cX7_turnsTo 94 = .ok (.iload 5, 2) := by decide +kernel
theorem dX7_turnsTo_96 : decode cX7_turnsTo 96 = .ok (.iload 4, 2) := by decide +kernel
theorem dX7_turnsTo_98 : decode cX7_turnsTo 98 = .ok (.invokestatic 64, 3) := by decide +kernel
theorem dX7_turnsTo_101 : decode cX7_turnsTo 101 = .ok (.iload 7, 2) := by decide +kernel
theorem dX7_turnsTo_103 : decode cX7_turnsTo 103 = .ok (.imul, 1) := by decide +kernel
theorem dX7_turnsTo_104 : decode cX7_turnsTo 104 = .ok (.iload 4, 2) := by decide +kernel
theorem dX7_turnsTo_106 : decode cX7_turnsTo 106 = .ok (.invokestatic 67, 3) := by decide +kernel
theorem dX7_turnsTo_109 : decode cX7_turnsTo 109 = .ok (.iload 6, 2) := by decide +kernel
theorem dX7_turnsTo_111 : decode cX7_turnsTo 111 = .ok (.imul, 1) := by decide +kernel
theorem dX7_turnsTo_112 : decode cX7_turnsTo 112 = .ok (.isub, 1) := by decide +kernel
theorem dX7_turnsTo_113 : decode cX7_turnsTo 113 = .ok (.iastore, 1) := by decide +kernel
theorem dX7_turnsTo_114 : decode cX7_turnsTo 114 = .ok (.iinc 5 1, 3) := by decide +kernel
theorem dX7_turnsTo_117 : decode cX7_turnsTo 117 = .ok (.goto (-86), 3) := by decide +kernel
theorem dX7_turnsTo_120 : decode cX7_turnsTo 120 = .ok (.return_, 1) := by decide +kernel
theorem dX7_lesser_0 : decode cX7_lesser 0 = .ok (.iload_n 0, 1) := by decide +kernel
theorem dX7_lesser_1 : decode cX7_lesser 1 = .ok (.iload_n 1, 1) := by decide +kernel
theorem dX7_lesser_2 : decode cX7_lesser 2 = .ok (.if_icmp .ge 7, 3) := by decide +kernel
theorem dX7_lesser_5 : decode cX7_lesser 5 = .ok (.iload_n 0, 1) := by decide +kernel
theorem dX7_lesser_6 : decode cX7_lesser 6 = .ok (.goto 4, 3) := by decide +kernel
theorem dX7_lesser_9 : decode cX7_lesser 9 = .ok (.iload_n 1, 1) := by decide +kernel
theorem dX7_lesser_10 : decode cX7_lesser 10 = .ok (.ireturn, 1) := by decide +kernel
theorem dX7_greater_0 : decode cX7_greater 0 = .ok (.iload_n 0, 1) := by decide +kernel
theorem dX7_greater_1 : decode cX7_greater 1 = .ok (.iload_n 1, 1) := by decide +kernel
theorem dX7_greater_2 : decode cX7_greater 2 = .ok (.if_icmp .le 7, 3) := by decide +kernel
theorem dX7_greater_5 : decode cX7_greater 5 = .ok (.iload_n 0, 1) := by decide +kernel
theorem dX7_greater_6 : decode cX7_greater 6 = .ok (.goto 4, 3) := by decide +kernel
theorem dX7_greater_9 : decode cX7_greater 9 = .ok (.iload_n 1, 1) := by decide +kernel
theorem dX7_greater_10 : decode cX7_greater 10 = .ok (.ireturn, 1) := by decide +kernel
set_option maxRecDepth 20000 in
theorem ggX7_isWithin_X7_lesser : GoodIn wsX7_isWithin wsX7_lesser := goodIn_r _ [6] (by decide +kernel) (by decide +kernel)
set_option maxRecDepth 20000 in
theorem gX7_isWithin_X7_lesser : GoodIn wsX7_isWithin (va_wsS RX7 74 yX7_lesser wsX7_lesser) := goodIn_app (goodIn_of _ (by decide +kernel)) ggX7_isWithin_X7_lesser
set_option maxRecDepth 20000 in
theorem ggX7_isWithin_X7_greater : GoodIn wsX7_isWithin wsX7_greater := goodIn_r _ [9] (by decide +kernel) (by decide +kernel)
set_option maxRecDepth 20000 in
theorem gX7_isWithin_X7_greater : GoodIn wsX7_isWithin (va_wsS RX7 78 yX7_greater wsX7_greater) := goodIn_app (goodIn_of _ (by decide +kernel)) ggX7_isWithin_X7_greater
theorem dX7_isWithin_0 : decode cX7_isWithin 0 = .ok (.aload_n 0, 1) := by decide +kernel
theorem dX7_isWithin_1 : decode cX7_isWithin 1 = .ok (.getfield 25, 3) := by decide +kernel
theorem dX7_isWithin_4 : decode cX7_isWithin 4 = .ok (.iload_n 1, 1) := by decide +kernel
theorem dX7_isWithin_5 : decode cX7_isWithin 5 = .ok (.iaload, 1) := by decide +kernel
theorem dX7_isWithin_6 : decode cX7_isWithin 6 = .ok (.aload_n 0, 1) := by decide +kernel
theorem dX7_isWithin_7 : decode cX7_isWithin 7 = .ok (.getfield 25, 3) := by decide +kernel
theorem dX7_isWithin_10 : decode cX7_isWithin 10 = .ok (.iload_n 1, 1) := by decide +kernel
theorem dX7_isWithin_11 : decode cX7_isWithin 11 = .ok (.iconst 1, 1) := by decide +kernel
theorem dX7_isWithin_12 : decode cX7_isWithin 12 = .ok (.iadd, 1) := by decide +kernel
theorem dX7_isWithin_13 : decode cX7_isWithin 13 = .ok (.iaload, 1) := by decide +kernel
theorem dX7_isWithin_14 : decode cX7_isWithin 14 = .ok (.invokestatic 74, 3) := by decide +kernel
theorem dX7_isWithin_17 : decode cX7_isWithin 17 = .ok (.istore 6, 2) := by decide +kernel
theorem dX7_isWithin_19 : decode cX7_isWithin 19 = .ok (.aload_n 0, 1) := by decide +kernel
theorem dX7_isWithin_20 : decode cX7_isWithin 20 = .ok (.getfield 25, 3) := by decide +kernel
theorem dX7_isWithin_23 : decode cX7_isWithin 23 = .ok (.iload_n 1, 1) := by decide +kernel
theorem dX7_isWithin_24 : decode cX7_isWithin 24 = .ok (.iaload, 1) := by decide +kernel
theorem dX7_isWithin_25 : decode cX7_isWithin 25 = .ok (.aload_n 0, 1) := by decide +kernel
theorem dX7_isWithin_26 : decode cX7_isWithin 26 = .ok (.getfield 25, 3) := by decide +kernel
theorem dX7_isWithin_29 : decode cX7_isWithin 29 = .ok (.iload_n 1, 1) := by decide +kernel
theorem dX7_isWithin_30 : decode cX7_isWithin 30 = .ok (.iconst 1, 1) := by decide +kernel
theorem dX7_isWithin_31 : decode cX7_isWithin 31 = .ok (.iadd, 1) := by decide +kernel
theorem dX7_isWithin_32 : decode cX7_isWithin 32 = .ok (.iaload, 1) := by decide +kernel
theorem dX7_isWithin_33 : decode cX7_isWithin 33 = .ok (.invokestatic 78, 3) := by decide +kernel
theorem dX7_isWithin_36 : decode cX7_isWithin 36 = .ok (.istore 7, 2) := by decide +kernel
theorem dX7_isWithin_38 : decode cX7_isWithin 38 = .ok (.iload_n 3, 1) := by decide +kernel
theorem dX7_isWithin_39 : decode cX7_isWithin 39 = .ok (.aload_n 0, 1) := by decide +kernel
theorem dX7_isWithin_40 : decode cX7_isWithin 40 = .ok (.getfield 28, 3) := by decide +kernel
theorem dX7_isWithin_43 : decode cX7_isWithin 43 = .ok (.iload_n 1, 1) := by decide +kernel
theorem dX7_isWithin_44 : decode cX7_isWithin 44 = .ok (.iaload, 1) := by decide +kernel
theorem dX7_isWithin_45 : decode cX7_isWithin 45 = .ok (.imul, 1) := by decide +kernel
theorem dX7_isWithin_46 : decode cX7_isWithin 46 = .ok (.iload_n 3, 1) := by decide +kernel
theorem dX7_isWithin_47 : decode cX7_isWithin 47 = .ok (.aload_n 0, 1) := by decide +kernel
theorem dX7_isWithin_48 : decode cX7_isWithin 48 = .ok (.getfield 28, 3) := by decide +kernel
theorem dX7_isWithin_51 : decode cX7_isWithin 51 = .ok (.iload_n 1, 1) := by decide +kernel
theorem dX7_isWithin_52 : decode cX7_isWithin 52 = .ok (.iconst 1, 1) := by decide +kernel
theorem dX7_isWithin_53 : decode cX7_isWithin 53 = .ok (.iadd, 1) := by decide +kernel
theorem dX7_isWithin_54 : decode cX7_isWithin 54 = .ok (.iaload, 1) := by decide +kernel
theorem dX7_isWithin_55 : decode cX7_isWithin 55 = .ok (.imul, 1) := by decide +kernel
theorem dX7_isWithin_56 : decode cX7_isWithin 56 = .ok (.invokestatic 74, 3) := by decide +kernel
theorem dX7_isWithin_59 : decode cX7_isWithin 59 = .ok (.istore 8, 2) := by decide +kernel
theorem dX7_isWithin_61 : decode cX7_isWithin 61 = .ok (.iload_n 3, 1) := by decide +kernel
theorem dX7_isWithin_62 : decode cX7_isWithin 62 = .ok (.aload_n 0, 1) := by decide +kernel
theorem dX7_isWithin_63 : decode cX7_isWithin 63 = .ok (.getfield 28, 3) := by decide +kernel
theorem dX7_isWithin_66 : decode cX7_isWithin 66 = .ok (.iload_n 1, 1) := by decide +kernel
theorem dX7_isWithin_67 : decode cX7_isWithin 67 = .ok (.iaload, 1) := by decide +kernel
theorem dX7_isWithin_68 : decode cX7_isWithin 68 = .ok (.imul, 1) := by decide +kernel
theorem dX7_isWithin_69 : decode cX7_isWithin 69 = .ok (.iload_n 3, 1) := by decide +kernel
theorem dX7_isWithin_70 : decode cX7_isWithin 70 = .ok (.aload_n 0, 1) := by decide +kernel
theorem dX7_isWithin_71 : decode cX7_isWithin 71 = .ok (.getfield 28, 3) := by decide +kernel
theorem dX7_isWithin_74 : decode cX7_isWithin 74 = .ok (.iload_n 1, 1) := by decide +kernel
theorem dX7_isWithin_75 : decode cX7_isWithin 75 = .ok (.iconst 1, 1) := by decide +kernel
theorem dX7_isWithin_76 : decode cX7_isWithin 76 = .ok (.iadd, 1) := by decide +kernel
theorem dX7_isWithin_77 : decode cX7_isWithin 77 = .ok (.iaload, 1) := by decide +kernel
theorem dX7_isWithin_78 : decode cX7_isWithin 78 = .ok (.imul, 1) := by decide +kernel
theorem dX7_isWithin_79 : decode cX7_isWithin 79 = .ok (.invokestatic 78, 3) := by decide +kernel
theorem dX7_isWithin_82 : decode cX7_isWithin 82 = .ok (.istore 9, 2) := by decide +kernel
theorem dX7_isWithin_84 : decode cX7_isWithin 84 = .ok (.iload 6, 2) := by decide +kernel
theorem dX7_isWithin_86 : decode cX7_isWithin 86 = .ok (.iload_n 2, 1) := by decide +kernel
theorem dX7_isWithin_87 : decode cX7_isWithin 87 = .ok (.if_icmp .gt 28, 3) := by decide +kernel
theorem dX7_isWithin_90 : decode cX7_isWithin 90 = .ok (.iload 7, 2) := by decide +kernel
theorem dX7_isWithin_92 : decode cX7_isWithin 92 = .ok (.iload_n 2, 1) := by decide +kernel
theorem dX7_isWithin_93 : decode cX7_isWithin 93 = .ok (.ineg, 1) := by decide +kernel
theorem dX7_isWithin_94 : decode cX7_isWithin 94 = .ok (.if_icmp .lt 21, 3) := by decide +kernel
theorem dX7_isWithin_97 : decode cX7_isWithin 97 = .ok (.iload 8, 2) := by decide +kernel
theorem dX7_isWithin_99 : decode cX7_isWithin 99 = .ok (.iload 5, 2) := by decide +kernel
theorem dX7_isWithin_101 : decode cX7_isWithin 101 = .ok (.if_icmp .gt 14, 3) := by decide +kernel
theorem dX7_isWithin_104 : decode cX7_isWithin 104 = .ok (.iload 9, 2) := by decide +kernel
theorem dX7_isWithin_106 : decode cX7_isWithin 106 = .ok (.iload 4, 2) := by decide +kernel
theorem dX7_isWithin_108 : decode cX7_isWithin 108 = .ok (.if_icmp .lt 7, 3) := by decide +kernel
theorem dX7_isWithin_111 : decode cX7_isWithin 111 = .ok (.iconst 1, 1) := by decide +kernel
theorem dX7_isWithin_112 : decode cX7_isWithin 112 = .ok (.goto 4, 3) := by decide +kernel
theorem dX7_isWithin_115 : decode cX7_isWithin 115 = .ok (.iconst 0, 1) := by decide +kernel
theorem dX7_isWithin_116 : decode cX7_isWithin 116 = .ok (.ireturn, 1) := by decide +kernel
set_option maxRecDepth 20000 in
theorem ggX7_areMet_X7_greater : GoodIn wsX7_areMet wsX7_greater := goodIn_r _ [6] (by decide +kernel) (by decide +kernel)
set_option maxRecDepth 20000 in
theorem gX7_areMet_X7_greater : GoodIn wsX7_areMet (va_wsS RX7 78 yX7_greater wsX7_greater) := goodIn_app (goodIn_of _ (by decide +kernel)) ggX7_areMet_X7_greater
set_option maxRecDepth 20000 in
theorem ggX7_areMet_X7_lesser : GoodIn wsX7_areMet wsX7_lesser := goodIn_r _ [9] (by decide +kernel) (by decide +kernel)
set_option maxRecDepth 20000 in
theorem gX7_areMet_X7_lesser : GoodIn wsX7_areMet (va_wsS RX7 74 yX7_lesser wsX7_lesser) := goodIn_app (goodIn_of _ (by decide +kernel)) ggX7_areMet_X7_lesser
theorem dX7_areMet_0 : decode cX7_areMet 0 = .ok (.aload_n 0, 1) := by decide +kernel
theorem dX7_areMet_1 : decode cX7_areMet 1 = .ok (.getfield 25, 3) := by decide +kernel
theorem dX7_areMet_4 : decode cX7_areMet 4 = .ok (.iload_n 1, 1) := by decide +kernel
theorem dX7_areMet_5 : decode cX7_areMet 5 = .ok (.iaload, 1) := by decide +kernel
theorem dX7_areMet_6 : decode cX7_areMet 6 = .ok (.aload_n 0, 1) := by decide +kernel
theorem dX7_areMet_7 : decode cX7_areMet 7 = .ok (.getfield 25, 3) := by decide +kernel
theorem dX7_areMet_10 : decode cX7_areMet 10 = .ok (.iload_n 1, 1) := by decide +kernel
theorem dX7_areMet_11 : decode cX7_areMet 11 = .ok (.iconst 1, 1) := by decide +kernel
theorem dX7_areMet_12 : decode cX7_areMet 12 = .ok (.iadd, 1) := by decide +kernel
theorem dX7_areMet_13 : decode cX7_areMet 13 = .ok (.iaload, 1) := by decide +kernel
theorem dX7_areMet_14 : decode cX7_areMet 14 = .ok (.invokestatic 78, 3) := by decide +kernel
theorem dX7_areMet_17 : decode cX7_areMet 17 = .ok (.aload_n 0, 1) := by decide +kernel
theorem dX7_areMet_18 : decode cX7_areMet 18 = .ok (.getfield 25, 3) := by decide +kernel
theorem dX7_areMet_21 : decode cX7_areMet 21 = .ok (.iload_n 2, 1) := by decide +kernel
theorem dX7_areMet_22 : decode cX7_areMet 22 = .ok (.iaload, 1) := by decide +kernel
theorem dX7_areMet_23 : decode cX7_areMet 23 = .ok (.aload_n 0, 1) := by decide +kernel
theorem dX7_areMet_24 : decode cX7_areMet 24 = .ok (.getfield 25, 3) := by decide +kernel
theorem dX7_areMet_27 : decode cX7_areMet 27 = .ok (.iload_n 2, 1) := by decide +kernel
theorem dX7_areMet_28 : decode cX7_areMet 28 = .ok (.iconst 1, 1) := by decide +kernel
theorem dX7_areMet_29 : decode cX7_areMet 29 = .ok (.iadd, 1) := by decide +kernel
theorem dX7_areMet_30 : decode cX7_areMet 30 = .ok (.iaload, 1) := by decide +kernel
theorem dX7_areMet_31 : decode cX7_areMet 31 = .ok (.invokestatic 74, 3) := by decide +kernel
theorem dX7_areMet_34 : decode cX7_areMet 34 = .ok (.if_icmp .lt 44, 3) := by decide +kernel
theorem dX7_areMet_37 : decode cX7_areMet 37 = .ok (.aload_n 0, 1) := by decide +kernel
theorem dX7_areMet_38 : decode cX7_areMet 38 = .ok (.getfield 25, 3) := by decide +kernel
theorem dX7_areMet_41 : decode cX7_areMet 41 = .ok (.iload_n 2, 1) := by decide +kernel
theorem dX7_areMet_42 : decode cX7_areMet 42 = .ok (.iaload, 1) := by decide +kernel
theorem dX7_areMet_43 : decode cX7_areMet 43 = .ok (.aload_n 0, 1) := by decide +kernel
theorem dX7_areMet_44 : decode cX7_areMet 44 = .ok (.getfield 25, 3) := by decide +kernel
theorem dX7_areMet_47 : decode cX7_areMet 47 = .ok (.iload_n 2, 1) := by decide +kernel
theorem dX7_areMet_48 : decode cX7_areMet 48 = .ok (.iconst 1, 1) := by decide +kernel
theorem dX7_areMet_49 : decode cX7_areMet 49 = .ok (.iadd, 1) := by decide +kernel
theorem dX7_areMet_50 : decode cX7_areMet 50 = .ok (.iaload, 1) := by decide +kernel
theorem dX7_areMet_51 : decode cX7_areMet 51 = .ok (.invokestatic 78, 3) := by decide +kernel
theorem dX7_areMet_54 : decode cX7_areMet 54 = .ok (.aload_n 0, 1) := by decide +kernel
theorem dX7_areMet_55 : decode cX7_areMet 55 = .ok (.getfield 25, 3) := by decide +kernel
theorem dX7_areMet_58 : decode cX7_areMet 58 = .ok (.iload_n 1, 1) := by decide +kernel
theorem dX7_areMet_59 : decode cX7_areMet 59 = .ok (.iaload, 1) := by decide +kernel
theorem dX7_areMet_60 : decode cX7_areMet 60 = .ok (.aload_n 0, 1) := by decide +kernel
theorem dX7_areMet_61 : decode cX7_areMet 61 = .ok (.getfield 25, 3) := by decide +kernel
theorem dX7_areMet_64 : decode cX7_areMet 64 = .ok (.iload_n 1, 1) := by decide +kernel
theorem dX7_areMet_65 : decode cX7_areMet 65 = .ok (.iconst 1, 1) := by decide +kernel
theorem dX7_areMet_66 : decode cX7_areMet 66 = .ok (.iadd, 1) := by decide +kernel
theorem dX7_areMet_67 : decode cX7_areMet 67 = .ok (.iaload, 1) := by decide +kernel
theorem dX7_areMet_68 : decode cX7_areMet 68 = .ok (.invokestatic 74, 3) := by decide +kernel
theorem dX7_areMet_71 : decode cX7_areMet 71 = .ok (.if_icmp .lt 7, 3) := by decide +kernel
theorem dX7_areMet_74 : decode cX7_areMet 74 = .ok (.iconst 1, 1) := by decide +kernel
theorem dX7_areMet_75 : decode cX7_areMet 75 = .ok (.goto 4, 3) := by decide +kernel
theorem dX7_areMet_78 : decode cX7_areMet 78 = .ok (.iconst 0, 1) := by decide +kernel
theorem dX7_areMet_79 : decode cX7_areMet 79 = .ok (.istore_n 3, 1) := by decide +kernel
theorem dX7_areMet_80 : decode cX7_areMet 80 = .ok (.iload_n 3, 1) := by decide +kernel
theorem dX7_areMet_81 : decode cX7_areMet 81 = .ok (.ifCond .eq 81, 3) := by decide +kernel
theorem dX7_areMet_84 : decode cX7_areMet 84 = .ok (.aload_n 0, 1) := by decide +kernel
theorem dX7_areMet_85 : decode cX7_areMet 85 = .ok (.getfield 28, 3) := by decide +kernel
theorem dX7_areMet_88 : decode cX7_areMet 88 = .ok (.iload_n 1, 1) := by decide +kernel
theorem dX7_areMet_89 : decode cX7_areMet 89 = .ok (.iaload, 1) := by decide +kernel
theorem dX7_areMet_90 : decode cX7_areMet 90 = .ok (.aload_n 0, 1) := by decide +kernel
theorem dX7_areMet_91 : decode cX7_areMet 91 = .ok (.getfield 28, 3) := by decide +kernel
theorem dX7_areMet_94 : decode cX7_areMet 94 = .ok (.iload_n 1, 1) := by decide +kernel
theorem dX7_areMet_95 : decode cX7_areMet 95 = .ok (.iconst 1, 1) := by decide +kernel
theorem dX7_areMet_96 : decode cX7_areMet 96 = .ok (.iadd, 1) := by decide +kernel
theorem dX7_areMet_97 : decode cX7_areMet 97 = .ok (.iaload, 1) := by decide +kernel
theorem dX7_areMet_98 : decode cX7_areMet 98 = .ok (.invokestatic 78, 3) := by decide +kernel
theorem dX7_areMet_101 : decode cX7_areMet 101 = .ok (.aload_n 0, 1) := by decide +kernel
theorem dX7_areMet_102 : decode cX7_areMet 102 = .ok (.getfield 28, 3) := by decide +kernel
theorem dX7_areMet_105 : decode cX7_areMet 105 = .ok (.iload_n 2, 1) := by decide +kernel
theorem dX7_areMet_106 : decode cX7_areMet 106 = .ok (.iaload, 1) := by decide +kernel
theorem dX7_areMet_107 : decode cX7_areMet 107 = .ok (.aload_n 0, 1) := by decide +kernel
theorem dX7_areMet_108 : decode cX7_areMet 108 = .ok (.getfield 28, 3) := by decide +kernel
theorem dX7_areMet_111 : decode cX7_areMet 111 = .ok (.iload_n 2, 1) := by decide +kernel
theorem dX7_areMet_112 : decode cX7_areMet 112 = .ok (.iconst 1, 1) := by decide +kernel
theorem dX7_areMet_113 : decode cX7_areMet 113 = .ok (.iadd, 1) := by decide +kernel
theorem dX7_areMet_114 : decode cX7_areMet 114 = .ok (.iaload, 1) := by decide +kernel
theorem dX7_areMet_115 : decode cX7_areMet 115 = .ok (.invokestatic 74, 3) := by decide +kernel
theorem dX7_areMet_118 : decode cX7_areMet 118 = .ok (.if_icmp .lt 44, 3) := by decide +kernel
theorem dX7_areMet_121 : decode cX7_areMet 121 = .ok (.aload_n 0, 1) := by decide +kernel
theorem dX7_areMet_122 : decode cX7_areMet 122 = .ok (.getfield 28, 3) := by decide +kernel
theorem dX7_areMet_125 : decode cX7_areMet 125 = .ok (.iload_n 2, 1) := by decide +kernel
theorem dX7_areMet_126 : decode cX7_areMet 126 = .ok (.iaload, 1) := by decide +kernel
theorem dX7_areMet_127 : decode cX7_areMet 127 = .ok (.aload_n 0, 1) := by decide +kernel
theorem dX7_areMet_128 : decode cX7_areMet 128 = .ok (.getfield 28, 3) := by decide +kernel
theorem dX7_areMet_131 : decode cX7_areMet 131 = .ok (.iload_n 2, 1) := by decide +kernel
theorem dX7_areMet_132 : decode cX7_areMet 132 = .ok (.iconst 1, 1) := by decide +kernel
theorem dX7_areMet_133 : decode cX7_areMet 133 = .ok (.iadd, 1) := by decide +kernel
theorem dX7_areMet_134 : decode cX7_areMet 134 = .ok (.iaload, 1) := by decide +kernel
theorem dX7_areMet_135 : decode cX7_areMet 135 = .ok (.invokestatic 78, 3) := by decide +kernel
theorem dX7_areMet_138 : decode cX7_areMet 138 = .ok (.aload_n 0, 1) := by decide +kernel
theorem dX7_areMet_139 : decode cX7_areMet 139 = .ok (.getfield 28, 3) := by decide +kernel
theorem dX7_areMet_142 : decode cX7_areMet 142 = .ok (.iload_n 1, 1) := by decide +kernel
theorem dX7_areMet_143 : decode cX7_areMet 143 = .ok (.iaload, 1) := by decide +kernel
theorem dX7_areMet_144 : decode cX7_areMet 144 = .ok (.aload_n 0, 1) := by decide +kernel
theorem dX7_areMet_145 : decode cX7_areMet 145 = .ok (.getfield 28, 3) := by decide +kernel
theorem dX7_areMet_148 : decode cX7_areMet 148 = .ok (.iload_n 1, 1) := by decide +kernel
theorem dX7_areMet_149 : decode cX7_areMet 149 = .ok (.iconst 1, 1) := by decide +kernel
theorem dX7_areMet_150 : decode cX7_areMet 150 = .ok (.iadd, 1) := by decide +kernel
theorem dX7_areMet_151 : decode cX7_areMet 151 = .ok (.iaload, 1) := by decide +kernel
theorem dX7_areMet_152 : decode cX7_areMet 152 = .ok (.invokestatic 74, 3) := by decide +kernel
theorem dX7_areMet_155 : decode cX7_areMet 155 = .ok (.if_icmp .lt 7, 3) := by decide +kernel
theorem dX7_areMet_158 : decode cX7_areMet 158 = .ok (.iconst 1, 1) := by decide +kernel
theorem dX7_areMet_159 : decode cX7_areMet 159 = .ok (.goto 4, 3) := by decide +kernel
theorem dX7_areMet_162 : decode cX7_areMet 162 = .ok (.iconst 0, 1) := by decide +kernel
theorem dX7_areMet_163 : decode cX7_areMet 163 = .ok (.ireturn, 1) := by decide +kernel
set_option maxRecDepth 20000 in
theorem ggX7_hitBy_X7_lays : GoodIn wsX7_hitBy wsX7_lays := goodIn_r _ [6, 7, 8, 1, 9, 10, 11, 5, 12, 13, 14, 15, 16, 17, 18, 37, 38, 39, 40, 41, 42, 43, 44, 45, 46, 47, 48, 49, 50, 51, 52, 53, 54, 55] (by decide +kernel) (by decide +kernel)
set_option maxRecDepth 20000 in
theorem gX7_hitBy_X7_lays : GoodIn wsX7_hitBy (wsV RX7 81 RX7 yX7_lays wsX7_lays) := goodIn_app (goodIn_of _ (by decide +kernel)) ggX7_hitBy_X7_lays
set_option maxRecDepth 20000 in
theorem ggX7_hitBy_X7_turnsTo : GoodIn wsX7_hitBy wsX7_turnsTo := goodIn_r _ [22, 7, 8, 9, 1, 10, 11, 5, 12, 13, 14, 15, 37, 38, 39, 40, 41, 42, 43, 44, 45, 46, 47, 48, 49, 50, 51, 52, 53, 54, 55] (by decide +kernel) (by decide +kernel)
set_option maxRecDepth 20000 in
theorem gX7_hitBy_X7_turnsTo : GoodIn wsX7_hitBy (wsV RX7 85 RX7 yX7_turnsTo wsX7_turnsTo) := goodIn_app (goodIn_of _ (by decide +kernel)) ggX7_hitBy_X7_turnsTo
set_option maxRecDepth 20000 in
theorem ggX7_hitBy_X7_isWithin : GoodIn wsX7_hitBy wsX7_isWithin := goodIn_r _ [26, 7, 8, 27, 28, 5, 29, 30, 31, 32, 37, 38, 39, 40, 41, 42, 43, 44, 45, 46, 47, 48, 49, 50, 51, 52, 53, 54, 55] (by decide +kernel) (by decide +kernel)
set_option maxRecDepth 20000 in
theorem gX7_hitBy_X7_isWithin : GoodIn wsX7_hitBy (wsV RX7 88 RX7 yX7_isWithin wsX7_isWithin) := goodIn_app (goodIn_of _ (by decide +kernel)) ggX7_hitBy_X7_isWithin
set_option maxRecDepth 20000 in
theorem ggX7_hitBy_X7_areMet : GoodIn wsX7_hitBy wsX7_areMet := goodIn_r _ [36, 7, 8, 30, 31, 5, 32, 27, 28, 29, 37, 38, 39, 40, 41, 42, 43, 44, 45, 46, 47, 48, 49, 50, 51, 52, 53, 54, 55] (by decide +kernel) (by decide +kernel)
set_option maxRecDepth 20000 in
theorem gX7_hitBy_X7_areMet : GoodIn wsX7_hitBy (wsV RX7 92 RX7 yX7_areMet wsX7_areMet) := goodIn_app (goodIn_of _ (by decide +kernel)) ggX7_hitBy_X7_areMet
theorem dX7_hitBy_0 : decode cX7_hitBy 0 = .ok (.aload_n 0, 1) := by decide +kernel
theorem dX7_hitBy_1 : decode cX7_hitBy 1 = .ok (.iload_n 2, 1) := by decide +kernel
theorem dX7_hitBy_2 : decode cX7_hitBy 2 = .ok (.invokevirtual 81, 3) := by decide +kernel
theorem dX7_hitBy_5 : decode cX7_hitBy 5 = .ok (.aload_n 0, 1) := by decide +kernel
theorem dX7_hitBy_6 : decode cX7_hitBy 6 = .ok (.iload_n 1, 1) := by decide +kernel
theorem dX7_hitBy_7 : decode cX7_hitBy 7 = .ok (.invokevirtual 85, 3) := by decide +kernel
theorem dX7_hitBy_10 : decode cX7_hitBy 10 = .ok (.aload_n 0, 1) := by decide +kernel
theorem dX7_hitBy_11 : decode cX7_hitBy 11 = .ok (.getfield 7, 3) := by decide +kernel
theorem dX7_hitBy_14 : decode cX7_hitBy 14 = .ok (.bipush 8, 2) := by decide +kernel
theorem dX7_hitBy_16 : decode cX7_hitBy 16 = .ok (.iload_n 1, 1) := by decide +kernel
theorem dX7_hitBy_17 : decode cX7_hitBy 17 = .ok (.iadd, 1) := by decide +kernel
theorem dX7_hitBy_18 : decode cX7_hitBy 18 = .ok (.iaload, 1) := by decide +kernel
theorem dX7_hitBy_19 : decode cX7_hitBy 19 = .ok (.istore_n 3, 1) := by decide +kernel
theorem dX7_hitBy_20 : decode cX7_hitBy 20 = .ok (.iconst 0, 1) := by decide +kernel
theorem dX7_hitBy_21 : decode cX7_hitBy 21 = .ok (.istore 4, 2) := by decide +kernel
theorem dX7_hitBy_23 : decode cX7_hitBy 23 = .ok (.iconst 0, 1) := by decide +kernel
theorem dX7_hitBy_24 : decode cX7_hitBy 24 = .ok (.istore 5, 2) := by decide +kernel
theorem dX7_hitBy_26 : decode cX7_hitBy 26 = .ok (.iconst 0, 1) := by decide +kernel
theorem dX7_hitBy_27 : decode cX7_hitBy 27 = .ok (.istore 6, 2) := by decide +kernel
theorem dX7_hitBy_29 : decode cX7_hitBy 29 = .ok (.iload 6, 2) := by decide +kernel
theorem dX7_hitBy_31 : decode cX7_hitBy 31 = .ok (.aload_n 0, 1) := by decide +kernel
theorem dX7_hitBy_32 : decode cX7_hitBy 32 = .ok (.getfield 7, 3) := by decide +kernel
theorem dX7_hitBy_35 : decode cX7_hitBy 35 = .ok (.iconst 0, 1) := by decide +kernel
theorem dX7_hitBy_36 : decode cX7_hitBy 36 = .ok (.iaload, 1) := by decide +kernel
theorem dX7_hitBy_37 : decode cX7_hitBy 37 = .ok (.if_icmp .gt 83, 3) := by decide +kernel
theorem dX7_hitBy_40 : decode cX7_hitBy 40 = .ok (.iload 4, 2) := by decide +kernel
theorem dX7_hitBy_42 : decode cX7_hitBy 42 = .ok (.ifCond .ne 24, 3) := by decide +kernel
theorem dX7_hitBy_45 : decode cX7_hitBy 45 = .ok (.aload_n 0, 1) := by decide +kernel
theorem dX7_hitBy_46 : decode cX7_hitBy 46 = .ok (.iload 6, 2) := by decide +kernel
theorem dX7_hitBy_48 : decode cX7_hitBy 48 = .ok (.aload_n 0, 1) := by decide +kernel
theorem dX7_hitBy_49 : decode cX7_hitBy 49 = .ok (.getfield 7, 3) := by decide +kernel
theorem dX7_hitBy_52 : decode cX7_hitBy 52 = .ok (.bipush 21, 2) := by decide +kernel
theorem dX7_hitBy_54 : decode cX7_hitBy 54 = .ok (.iaload, 1) := by decide +kernel
theorem dX7_hitBy_55 : decode cX7_hitBy 55 = .ok (.iload_n 3, 1) := by decide +kernel
theorem dX7_hitBy_56 : decode cX7_hitBy 56 = .ok (.sipush (-1000), 3) := by decide +kernel
theorem dX7_hitBy_59 : decode cX7_hitBy 59 = .ok (.iconst (-1), 1) := by decide +kernel
theorem dX7_hitBy_60 : decode cX7_hitBy 60 = .ok (.invokevirtual 88, 3) := by decide +kernel
theorem dX7_hitBy_63 : decode cX7_hitBy 63 = .ok (.ifCond .eq 7, 3) := by decide +kernel
theorem dX7_hitBy_66 : decode cX7_hitBy 66 = .ok (.iconst 1, 1) := by decide +kernel
theorem dX7_hitBy_67 : decode cX7_hitBy 67 = .ok (.goto 4, 3) := by decide +kernel
theorem dX7_hitBy_70 : decode cX7_hitBy 70 = .ok (.iconst 0, 1) := by decide +kernel
theorem dX7_hitBy_71 : decode cX7_hitBy 71 = .ok (.istore 4, 2) := by decide +kernel
theorem dX7_hitBy_73 : decode cX7_hitBy 73 = .ok (.iload 5, 2) := by decide +kernel
theorem dX7_hitBy_75 : decode cX7_hitBy 75 = .ok (.ifCond .ne 32, 3) := by decide +kernel
theorem dX7_hitBy_78 : decode cX7_hitBy 78 = .ok (.aload_n 0, 1) := by decide +kernel
theorem dX7_hitBy_79 : decode cX7_hitBy 79 = .ok (.getfield 7, 3) := by decide +kernel
theorem dX7_hitBy_82 : decode cX7_hitBy 82 = .ok (.bipush 22, 2) := by decide +kernel
theorem dX7_hitBy_84 : decode cX7_hitBy 84 = .ok (.iaload, 1) := by decide +kernel
theorem dX7_hitBy_85 : decode cX7_hitBy 85 = .ok (.ifCond .le 26, 3) := by decide +kernel
theorem dX7_hitBy_88 : decode cX7_hitBy 88 = .ok (.aload_n 0, 1) := by decide +kernel
theorem dX7_hitBy_89 : decode cX7_hitBy 89 = .ok (.iload 6, 2) := by decide +kernel
theorem dX7_hitBy_91 : decode cX7_hitBy 91 = .ok (.iconst 0, 1) := by decide +kernel
theorem dX7_hitBy_92 : decode cX7_hitBy 92 = .ok (.iload_n 3, 1) := by decide +kernel
theorem dX7_hitBy_93 : decode cX7_hitBy 93 = .ok (.iconst 1, 1) := by decide +kernel
theorem dX7_hitBy_94 : decode cX7_hitBy 94 = .ok (.aload_n 0, 1) := by decide +kernel
theorem dX7_hitBy_95 : decode cX7_hitBy 95 = .ok (.getfield 7, 3) := by decide +kernel
theorem dX7_hitBy_98 : decode cX7_hitBy 98 = .ok (.bipush 22, 2) := by decide +kernel
theorem dX7_hitBy_100 : decode cX7_hitBy 100 = .ok (.iaload, 1) := by decide +kernel
theorem dX7_hitBy_101 : decode cX7_hitBy 101 = .ok (.invokevirtual 88, 3) := by decide +kernel
theorem dX7_hitBy_104 : decode cX7_hitBy 104 = .ok (.ifCond .eq 7, 3) := by decide +kernel
theorem dX7_hitBy_107 : decode cX7_hitBy 107 = .ok (.iconst 1, 1) := by decide +kernel
theorem dX7_hitBy_108 : decode cX7_hitBy 108 = .ok (.goto 4, 3) := by decide +kernel
theorem dX7_hitBy_111 : decode cX7_hitBy 111 = .ok (.iconst 0, 1) := by decide +kernel
theorem dX7_hitBy_112 : decode cX7_hitBy 112 = .ok (.istore 5, 2) := by decide +kernel
theorem dX7_hitBy_114 : decode cX7_hitBy 114 = .ok (.iinc 6 1, 3) := by decide +kernel
theorem dX7_hitBy_117 : decode cX7_hitBy 117 = .ok (.goto (-88), 3) := by decide +kernel
theorem dX7_hitBy_120 : decode cX7_hitBy 120 = .ok (.iload 4, 2) := by decide +kernel
theorem dX7_hitBy_122 : decode cX7_hitBy 122 = .ok (.ifCond .ne 8, 3) := by decide +kernel
theorem dX7_hitBy_125 : decode cX7_hitBy 125 = .ok (.iload 5, 2) := by decide +kernel
theorem dX7_hitBy_127 : decode cX7_hitBy 127 = .ok (.ifCond .eq 14, 3) := by decide +kernel
theorem dX7_hitBy_130 : decode cX7_hitBy 130 = .ok (.iload 4, 2) := by decide +kernel
theorem dX7_hitBy_132 : decode cX7_hitBy 132 = .ok (.ifCond .eq 7, 3) := by decide +kernel
theorem dX7_hitBy_135 : decode cX7_hitBy 135 = .ok (.iconst 1, 1) := by decide +kernel
theorem dX7_hitBy_136 : decode cX7_hitBy 136 = .ok (.goto 4, 3) := by decide +kernel
theorem dX7_hitBy_139 : decode cX7_hitBy 139 = .ok (.iconst 2, 1) := by decide +kernel
theorem dX7_hitBy_140 : decode cX7_hitBy 140 = .ok (.ireturn, 1) := by decide +kernel
theorem dX7_hitBy_141 : decode cX7_hitBy 141 = .ok (.aload_n 0, 1) := by decide +kernel
theorem dX7_hitBy_142 : decode cX7_hitBy 142 = .ok (.iload_n 2, 1) := by decide +kernel
theorem dX7_hitBy_143 : decode cX7_hitBy 143 = .ok (.iconst 1, 1) := by decide +kernel
theorem dX7_hitBy_144 : decode cX7_hitBy 144 = .ok (.iload_n 1, 1) := by decide +kernel
theorem dX7_hitBy_145 : decode cX7_hitBy 145 = .ok (.ishl, 1) := by decide +kernel
theorem dX7_hitBy_146 : decode cX7_hitBy 146 = .ok (.ior, 1) := by decide +kernel
theorem dX7_hitBy_147 : decode cX7_hitBy 147 = .ok (.invokevirtual 81, 3) := by decide +kernel
theorem dX7_hitBy_150 : decode cX7_hitBy 150 = .ok (.iconst 0, 1) := by decide +kernel
theorem dX7_hitBy_151 : decode cX7_hitBy 151 = .ok (.istore 6, 2) := by decide +kernel
theorem dX7_hitBy_153 : decode cX7_hitBy 153 = .ok (.iconst 0, 1) := by decide +kernel
theorem dX7_hitBy_154 : decode cX7_hitBy 154 = .ok (.istore 7, 2) := by decide +kernel
theorem dX7_hitBy_156 : decode cX7_hitBy 156 = .ok (.iload 7, 2) := by decide +kernel
theorem dX7_hitBy_158 : decode cX7_hitBy 158 = .ok (.aload_n 0, 1) := by decide +kernel
theorem dX7_hitBy_159 : decode cX7_hitBy 159 = .ok (.getfield 7, 3) := by decide +kernel
theorem dX7_hitBy_162 : decode cX7_hitBy 162 = .ok (.iconst 0, 1) := by decide +kernel
theorem dX7_hitBy_163 : decode cX7_hitBy 163 = .ok (.iaload, 1) := by decide +kernel
theorem dX7_hitBy_164 : decode cX7_hitBy 164 = .ok (.if_icmp .gt 55, 3) := by decide +kernel
theorem dX7_hitBy_167 : decode cX7_hitBy 167 = .ok (.iload 7, 2) := by decide +kernel
theorem dX7_hitBy_169 : decode cX7_hitBy 169 = .ok (.iconst 2, 1) := by decide +kernel
theorem dX7_hitBy_170 : decode cX7_hitBy 170 = .ok (.iadd, 1) := by decide +kernel
theorem dX7_hitBy_171 : decode cX7_hitBy 171 = .ok (.istore 8, 2) := by decide +kernel
theorem dX7_hitBy_173 : decode cX7_hitBy 173 = .ok (.iload 8, 2) := by decide +kernel
theorem dX7_hitBy_175 : decode cX7_hitBy 175 = .ok (.aload_n 0, 1) := by decide +kernel
theorem dX7_hitBy_176 : decode cX7_hitBy 176 = .ok (.getfield 7, 3) := by decide +kernel
theorem dX7_hitBy_179 : decode cX7_hitBy 179 = .ok (.iconst 0, 1) := by decide +kernel
theorem dX7_hitBy_180 : decode cX7_hitBy 180 = .ok (.iaload, 1) := by decide +kernel
theorem dX7_hitBy_181 : decode cX7_hitBy 181 = .ok (.if_icmp .gt 32, 3) := by decide +kernel
theorem dX7_hitBy_184 : decode cX7_hitBy 184 = .ok (.iload 6, 2) := by decide +kernel
theorem dX7_hitBy_186 : decode cX7_hitBy 186 = .ok (.ifCond .ne 14, 3) := by decide +kernel
theorem dX7_hitBy_189 : decode cX7_hitBy 189 = .ok (.aload_n 0, 1) := by decide +kernel
theorem dX7_hitBy_190 : decode cX7_hitBy 190 = .ok (.iload 7, 2) := by decide +kernel
theorem dX7_hitBy_192 : decode cX7_hitBy 192 = .ok (.iload 8, 2) := by decide +kernel
theorem dX7_hitBy_194 : decode cX7_hitBy 194 = .ok (.invokevirtual 92, 3) := by decide +kernel
theorem dX7_hitBy_197 : decode cX7_hitBy 197 = .ok (.ifCond .eq 7, 3) := by decide +kernel
theorem dX7_hitBy_200 : decode cX7_hitBy 200 = .ok (.iconst 1, 1) := by decide +kernel
theorem dX7_hitBy_201 : decode cX7_hitBy 201 = .ok (.goto 4, 3) := by decide +kernel
theorem dX7_hitBy_204 : decode cX7_hitBy 204 = .ok (.iconst 0, 1) := by decide +kernel
theorem dX7_hitBy_205 : decode cX7_hitBy 205 = .ok (.istore 6, 2) := by decide +kernel
theorem dX7_hitBy_207 : decode cX7_hitBy 207 = .ok (.iinc 8 1, 3) := by decide +kernel
theorem dX7_hitBy_210 : decode cX7_hitBy 210 = .ok (.goto (-37), 3) := by decide +kernel
theorem dX7_hitBy_213 : decode cX7_hitBy 213 = .ok (.iinc 7 1, 3) := by decide +kernel
theorem dX7_hitBy_216 : decode cX7_hitBy 216 = .ok (.goto (-60), 3) := by decide +kernel
theorem dX7_hitBy_219 : decode cX7_hitBy 219 = .ok (.iload 6, 2) := by decide +kernel
theorem dX7_hitBy_221 : decode cX7_hitBy 221 = .ok (.ifCond .eq 7, 3) := by decide +kernel
theorem dX7_hitBy_224 : decode cX7_hitBy 224 = .ok (.iconst 3, 1) := by decide +kernel
theorem dX7_hitBy_225 : decode cX7_hitBy 225 = .ok (.goto 4, 3) := by decide +kernel
theorem dX7_hitBy_228 : decode cX7_hitBy 228 = .ok (.iconst 0, 1) := by decide +kernel
theorem dX7_hitBy_229 : decode cX7_hitBy 229 = .ok (.ireturn, 1) := by decide +kernel
set_option maxRecDepth 20000 in
theorem ggX7_isFree_X7_has : GoodIn wsX7_isFree wsX7_has := goodIn_r _ [4] (by decide +kernel) (by decide +kernel)
set_option maxRecDepth 20000 in
theorem gX7_isFree_X7_has : GoodIn wsX7_isFree (va_wsS RX7 70 yX7_has wsX7_has) := goodIn_app (goodIn_of _ (by decide +kernel)) ggX7_isFree_X7_has
set_option maxRecDepth 20000 in
theorem ggX7_isFree_X7_hitBy : GoodIn wsX7_isFree wsX7_hitBy := goodIn_r _ [8, 9, 10, 11, 12, 3, 13, 14, 15, 16, 17, 18, 19, 20, 21, 22, 1, 2, 4, 23, 24, 25, 26, 27, 28, 29, 30, 31, 32, 33, 34, 35, 36, 37, 38, 39, 40, 41, 42, 43, 44, 45, 46, 47, 48, 49, 50, 51, 52, 53, 54, 55, 56, 57, 58, 59] (by decide +kernel) (by decide +kernel)
set_option maxRecDepth 20000 in
theorem gX7_isFree_X7_hitBy : GoodIn wsX7_isFree (wsV RX7 95 RX7 yX7_hitBy wsX7_hitBy) := goodIn_app (goodIn_of _ (by decide +kernel)) ggX7_isFree_X7_hitBy
theorem dX7_isFree_0 : decode cX7_isFree 0 = .ok (.iload_n 2, 1) := by decide +kernel
theorem dX7_isFree_1 : decode cX7_isFree 1 = .ok (.iload_n 1, 1) := by decide +kernel
theorem dX7_isFree_2 : decode cX7_isFree 2 = .ok (.invokestatic 70, 3) := by decide +kernel
theorem dX7_isFree_5 : decode cX7_isFree 5 = .ok (.ifCond .ne 16, 3) := by decide +kernel
theorem dX7_isFree_8 : decode cX7_isFree 8 = .ok (.aload_n 0, 1) := by decide +kernel
theorem dX7_isFree_9 : decode cX7_isFree 9 = .ok (.iload_n 1, 1) := by decide +kernel
theorem dX7_isFree_10 : decode cX7_isFree 10 = .ok (.iload_n 2, 1) := by decide +kernel
theorem dX7_isFree_11 : decode cX7_isFree 11 = .ok (.invokevirtual 95, 3) := by decide +kernel
theorem dX7_isFree_14 : decode cX7_isFree 14 = .ok (.ifCond .ne 7, 3) := by decide +kernel
theorem dX7_isFree_17 : decode cX7_isFree 17 = .ok (.iconst 1, 1) := by decide +kernel
theorem dX7_isFree_18 : decode cX7_isFree 18 = .ok (.goto 4, 3) := by decide +kernel
theorem dX7_isFree_21 : decode cX7_isFree 21 = .ok (.iconst 0, 1) := by decide +kernel
theorem dX7_isFree_22 : decode cX7_isFree 22 = .ok (.ireturn, 1) := by decide +kernel
set_option maxRecDepth 20000 in
theorem ggX7_mayBend_X7_within : GoodIn wsX7_mayBend wsX7_within := goodIn_r _ [4] (by decide +kernel) (by decide +kernel)
set_option maxRecDepth 20000 in
theorem gX7_mayBend_X7_within : GoodIn wsX7_mayBend (va_wsS RX7 52 yX7_within wsX7_within) := goodIn_app (goodIn_of _ (by decide +kernel)) ggX7_mayBend_X7_within
theorem dX7_mayBend_0 : decode cX7_mayBend 0 = .ok (.iload_n 1, 1) := by decide +kernel
theorem dX7_mayBend_1 : decode cX7_mayBend 1 = .ok (.iconst 1, 1) := by decide +kernel
theorem dX7_mayBend_2 : decode cX7_mayBend 2 = .ok (.bipush 20, 2) := by decide +kernel
theorem dX7_mayBend_4 : decode cX7_mayBend 4 = .ok (.invokestatic 52, 3) := by decide +kernel
theorem dX7_mayBend_7 : decode cX7_mayBend 7 = .ok (.ifCond .eq 26, 3) := by decide +kernel
theorem dX7_mayBend_10 : decode cX7_mayBend 10 = .ok (.iload_n 2, 1) := by decide +kernel
theorem dX7_mayBend_11 : decode cX7_mayBend 11 = .ok (.iconst 1, 1) := by decide +kernel
theorem dX7_mayBend_12 : decode cX7_mayBend 12 = .ok (.if_icmp .eq 8, 3) := by decide +kernel
theorem dX7_mayBend_15 : decode cX7_mayBend 15 = .ok (.iload_n 2, 1) := by decide +kernel
theorem dX7_mayBend_16 : decode cX7_mayBend 16 = .ok (.iconst (-1), 1) := by decide +kernel
theorem dX7_mayBend_17 : decode cX7_mayBend 17 = .ok (.if_icmp .ne 16, 3) := by decide +kernel
theorem dX7_mayBend_20 : decode cX7_mayBend 20 = .ok (.iload_n 3, 1) := by decide +kernel
theorem dX7_mayBend_21 : decode cX7_mayBend 21 = .ok (.iconst 0, 1) := by decide +kernel
theorem dX7_mayBend_22 : decode cX7_mayBend 22 = .ok (.iconst 2, 1) := by decide +kernel
theorem dX7_mayBend_23 : decode cX7_mayBend 23 = .ok (.invokestatic 52, 3) := by decide +kernel
theorem dX7_mayBend_26 : decode cX7_mayBend 26 = .ok (.ifCond .eq 7, 3) := by decide +kernel
theorem dX7_mayBend_29 : decode cX7_mayBend 29 = .ok (.iconst 1, 1) := by decide +kernel
theorem dX7_mayBend_30 : decode cX7_mayBend 30 = .ok (.goto 4, 3) := by decide +kernel
theorem dX7_mayBend_33 : decode cX7_mayBend 33 = .ok (.iconst 0, 1) := by decide +kernel
theorem dX7_mayBend_34 : decode cX7_mayBend 34 = .ok (.ireturn, 1) := by decide +kernel
set_option maxRecDepth 20000 in
theorem ggX7_mayPress_X7_within : GoodIn wsX7_mayPress wsX7_within := goodIn_r _ [4] (by decide +kernel) (by decide +kernel)
set_option maxRecDepth 20000 in
theorem gX7_mayPress_X7_within : GoodIn wsX7_mayPress (va_wsS RX7 52 yX7_within wsX7_within) := goodIn_app (goodIn_of _ (by decide +kernel)) ggX7_mayPress_X7_within
theorem dX7_mayPress_0 : decode cX7_mayPress 0 = .ok (.iload_n 1, 1) := by decide +kernel
theorem dX7_mayPress_1 : decode cX7_mayPress 1 = .ok (.iconst 0, 1) := by decide +kernel
theorem dX7_mayPress_2 : decode cX7_mayPress 2 = .ok (.bipush 20, 2) := by decide +kernel
theorem dX7_mayPress_4 : decode cX7_mayPress 4 = .ok (.invokestatic 52, 3) := by decide +kernel
theorem dX7_mayPress_7 : decode cX7_mayPress 7 = .ok (.ifCond .eq 17, 3) := by decide +kernel
theorem dX7_mayPress_10 : decode cX7_mayPress 10 = .ok (.iload_n 2, 1) := by decide +kernel
theorem dX7_mayPress_11 : decode cX7_mayPress 11 = .ok (.iconst 0, 1) := by decide +kernel
theorem dX7_mayPress_12 : decode cX7_mayPress 12 = .ok (.bipush 40, 2) := by decide +kernel
theorem dX7_mayPress_14 : decode cX7_mayPress 14 = .ok (.invokestatic 52, 3) := by decide +kernel
theorem dX7_mayPress_17 : decode cX7_mayPress 17 = .ok (.ifCond .eq 7, 3) := by decide +kernel
theorem dX7_mayPress_20 : decode cX7_mayPress 20 = .ok (.iconst 1, 1) := by decide +kernel
theorem dX7_mayPress_21 : decode cX7_mayPress 21 = .ok (.goto 4, 3) := by decide +kernel
theorem dX7_mayPress_24 : decode cX7_mayPress 24 = .ok (.iconst 0, 1) := by decide +kernel
theorem dX7_mayPress_25 : decode cX7_mayPress 25 = .ok (.ireturn, 1) := by decide +kernel
set_option maxRecDepth 20000 in
theorem ggX7_mayTake_X7_within : GoodIn wsX7_mayTake wsX7_within := goodIn_r _ [4] (by decide +kernel) (by decide +kernel)
set_option maxRecDepth 20000 in
theorem gX7_mayTake_X7_within : GoodIn wsX7_mayTake (va_wsS RX7 52 yX7_within wsX7_within) := goodIn_app (goodIn_of _ (by decide +kernel)) ggX7_mayTake_X7_within
theorem dX7_mayTake_0 : decode cX7_mayTake 0 = .ok (.iload_n 1, 1) := by decide +kernel
theorem dX7_mayTake_1 : decode cX7_mayTake 1 = .ok (.iconst 0, 1) := by decide +kernel
theorem dX7_mayTake_2 : decode cX7_mayTake 2 = .ok (.iconst 2, 1) := by decide +kernel
theorem dX7_mayTake_3 : decode cX7_mayTake 3 = .ok (.invokestatic 52, 3) := by decide +kernel
theorem dX7_mayTake_6 : decode cX7_mayTake 6 = .ok (.ifCond .eq 17, 3) := by decide +kernel
theorem dX7_mayTake_9 : decode cX7_mayTake 9 = .ok (.iload_n 2, 1) := by decide +kernel
theorem dX7_mayTake_10 : decode cX7_mayTake 10 = .ok (.iconst 0, 1) := by decide +kernel
theorem dX7_mayTake_11 : decode cX7_mayTake 11 = .ok (.bipush 99, 2) := by decide +kernel
theorem dX7_mayTake_13 : decode cX7_mayTake 13 = .ok (.invokestatic 52, 3) := by decide +kernel
theorem dX7_mayTake_16 : decode cX7_mayTake 16 = .ok (.ifCond .eq 7, 3) := by decide +kernel
theorem dX7_mayTake_19 : decode cX7_mayTake 19 = .ok (.iconst 1, 1) := by decide +kernel
theorem dX7_mayTake_20 : decode cX7_mayTake 20 = .ok (.goto 4, 3) := by decide +kernel
theorem dX7_mayTake_23 : decode cX7_mayTake 23 = .ok (.iconst 0, 1) := by decide +kernel
theorem dX7_mayTake_24 : decode cX7_mayTake 24 = .ok (.ireturn, 1) := by decide +kernel
theorem dX7_strips_0 : decode cX7_strips 0 = .ok (.aload_n 0, 1) := by decide +kernel
theorem dX7_strips_1 : decode cX7_strips 1 = .ok (.getfield 7, 3) := by decide +kernel
end
section
theorem dX7_strips_4 : decode cX7_strips 4 = .ok (.iconst 0, 1) := by decide +kernel
theorem dX7_strips_5 : decode cX7_strips 5 = .ok (.iaload, 1) := by decide +kernel
theorem dX7_strips_6 : decode cX7_strips 6 = .ok (.iconst 1, 1) := by decide +kernel
theorem dX7_strips_7 : decode cX7_strips 7 = .ok (.iadd, 1) := by decide +kernel
theorem dX7_strips_8 : decode cX7_strips 8 = .ok (.istore_n 2, 1) := by decide +kernel
theorem dX7_strips_9 : decode cX7_strips 9 = .ok (.aload_n 0, 1) := by decide +kernel
theorem dX7_strips_10 : decode cX7_strips 10 = .ok (.getfield 7, 3) := by decide +kernel
theorem dX7_strips_13 : decode cX7_strips 13 = .ok (.iconst 0, 1) := by decide +kernel
theorem dX7_strips_14 : decode cX7_strips 14 = .ok (.iconst 0, 1) := by decide +kernel
theorem dX7_strips_15 : decode cX7_strips 15 = .ok (.iastore, 1) := by decide +kernel
theorem dX7_strips_16 : decode cX7_strips 16 = .ok (.aload_n 0, 1) := by decide +kernel
theorem dX7_strips_17 : decode cX7_strips 17 = .ok (.getfield 7, 3) := by decide +kernel
theorem dX7_strips_20 : decode cX7_strips 20 = .ok (.bipush 20, 2) := by decide +kernel
theorem dX7_strips_22 : decode cX7_strips 22 = .ok (.iconst 0, 1) := by decide +kernel
theorem dX7_strips_23 : decode cX7_strips 23 = .ok (.iastore, 1) := by decide +kernel
theorem dX7_strips_24 : decode cX7_strips 24 = .ok (.aload_n 0, 1) := by decide +kernel
theorem dX7_strips_25 : decode cX7_strips 25 = .ok (.getfield 7, 3) := by decide +kernel
theorem dX7_strips_28 : decode cX7_strips 28 = .ok (.iconst 1, 1) := by decide +kernel
theorem dX7_strips_29 : decode cX7_strips 29 = .ok (.iload_n 1, 1) := by decide +kernel
theorem dX7_strips_30 : decode cX7_strips 30 = .ok (.iastore, 1) := by decide +kernel
theorem dX7_strips_31 : decode cX7_strips 31 = .ok (.iload_n 2, 1) := by decide +kernel
theorem dX7_strips_32 : decode cX7_strips 32 = .ok (.ireturn, 1) := by decide +kernel
theorem dX7_adds_0 : decode cX7_adds 0 = .ok (.aload_n 0, 1) := by decide +kernel
theorem dX7_adds_1 : decode cX7_adds 1 = .ok (.getfield 7, 3) := by decide +kernel
theorem dX7_adds_4 : decode cX7_adds 4 = .ok (.iconst 0, 1) := by decide +kernel
theorem dX7_adds_5 : decode cX7_adds 5 = .ok (.iaload, 1) := by decide +kernel
theorem dX7_adds_6 : decode cX7_adds 6 = .ok (.istore 4, 2) := by decide +kernel
theorem dX7_adds_8 : decode cX7_adds 8 = .ok (.aload_n 0, 1) := by decide +kernel
theorem dX7_adds_9 : decode cX7_adds 9 = .ok (.getfield 7, 3) := by decide +kernel
theorem dX7_adds_12 : decode cX7_adds 12 = .ok (.iconst 1, 1) := by decide +kernel
theorem dX7_adds_13 : decode cX7_adds 13 = .ok (.iload 4, 2) := by decide +kernel
theorem dX7_adds_15 : decode cX7_adds 15 = .ok (.iadd, 1) := by decide +kernel
theorem dX7_adds_16 : decode cX7_adds 16 = .ok (.iconst 1, 1) := by decide +kernel
theorem dX7_adds_17 : decode cX7_adds 17 = .ok (.iadd, 1) := by decide +kernel
theorem dX7_adds_18 : decode cX7_adds 18 = .ok (.iload_n 1, 1) := by decide +kernel
theorem dX7_adds_19 : decode cX7_adds 19 = .ok (.iastore, 1) := by decide +kernel
theorem dX7_adds_20 : decode cX7_adds 20 = .ok (.aload_n 0, 1) := by decide +kernel
theorem dX7_adds_21 : decode cX7_adds 21 = .ok (.getfield 7, 3) := by decide +kernel
theorem dX7_adds_24 : decode cX7_adds 24 = .ok (.bipush 8, 2) := by decide +kernel
theorem dX7_adds_26 : decode cX7_adds 26 = .ok (.iload 4, 2) := by decide +kernel
theorem dX7_adds_28 : decode cX7_adds 28 = .ok (.iadd, 1) := by decide +kernel
theorem dX7_adds_29 : decode cX7_adds 29 = .ok (.iload_n 2, 1) := by decide +kernel
theorem dX7_adds_30 : decode cX7_adds 30 = .ok (.iastore, 1) := by decide +kernel
theorem dX7_adds_31 : decode cX7_adds 31 = .ok (.aload_n 0, 1) := by decide +kernel
theorem dX7_adds_32 : decode cX7_adds 32 = .ok (.getfield 7, 3) := by decide +kernel
theorem dX7_adds_35 : decode cX7_adds 35 = .ok (.bipush 14, 2) := by decide +kernel
theorem dX7_adds_37 : decode cX7_adds 37 = .ok (.iload 4, 2) := by decide +kernel
theorem dX7_adds_39 : decode cX7_adds 39 = .ok (.iadd, 1) := by decide +kernel
theorem dX7_adds_40 : decode cX7_adds 40 = .ok (.iload_n 3, 1) := by decide +kernel
theorem dX7_adds_41 : decode cX7_adds 41 = .ok (.iastore, 1) := by decide +kernel
theorem dX7_adds_42 : decode cX7_adds 42 = .ok (.aload_n 0, 1) := by decide +kernel
theorem dX7_adds_43 : decode cX7_adds 43 = .ok (.getfield 7, 3) := by decide +kernel
theorem dX7_adds_46 : decode cX7_adds 46 = .ok (.iconst 0, 1) := by decide +kernel
theorem dX7_adds_47 : decode cX7_adds 47 = .ok (.dup2, 1) := by decide +kernel
theorem dX7_adds_48 : decode cX7_adds 48 = .ok (.iaload, 1) := by decide +kernel
theorem dX7_adds_49 : decode cX7_adds 49 = .ok (.iconst 1, 1) := by decide +kernel
theorem dX7_adds_50 : decode cX7_adds 50 = .ok (.iadd, 1) := by decide +kernel
theorem dX7_adds_51 : decode cX7_adds 51 = .ok (.iastore, 1) := by decide +kernel
theorem dX7_adds_52 : decode cX7_adds 52 = .ok (.iload 4, 2) := by decide +kernel
theorem dX7_adds_54 : decode cX7_adds 54 = .ok (.ireturn, 1) := by decide +kernel
theorem dX7_presses_0 : decode cX7_presses 0 = .ok (.bipush 100, 2) := by decide +kernel
theorem dX7_presses_2 : decode cX7_presses 2 = .ok (.aload_n 0, 1) := by decide +kernel
theorem dX7_presses_3 : decode cX7_presses 3 = .ok (.getfield 7, 3) := by decide +kernel
theorem dX7_presses_6 : decode cX7_presses 6 = .ok (.bipush 21, 2) := by decide +kernel
theorem dX7_presses_8 : decode cX7_presses 8 = .ok (.iaload, 1) := by decide +kernel
theorem dX7_presses_9 : decode cX7_presses 9 = .ok (.imul, 1) := by decide +kernel
theorem dX7_presses_10 : decode cX7_presses 10 = .ok (.aload_n 0, 1) := by decide +kernel
theorem dX7_presses_11 : decode cX7_presses 11 = .ok (.getfield 7, 3) := by decide +kernel
theorem dX7_presses_14 : decode cX7_presses 14 = .ok (.bipush 22, 2) := by decide +kernel
theorem dX7_presses_16 : decode cX7_presses 16 = .ok (.iaload, 1) := by decide +kernel
theorem dX7_presses_17 : decode cX7_presses 17 = .ok (.iadd, 1) := by decide +kernel
theorem dX7_presses_18 : decode cX7_presses 18 = .ok (.istore_n 3, 1) := by decide +kernel
theorem dX7_presses_19 : decode cX7_presses 19 = .ok (.aload_n 0, 1) := by decide +kernel
theorem dX7_presses_20 : decode cX7_presses 20 = .ok (.getfield 7, 3) := by decide +kernel
theorem dX7_presses_23 : decode cX7_presses 23 = .ok (.bipush 21, 2) := by decide +kernel
theorem dX7_presses_25 : decode cX7_presses 25 = .ok (.iload_n 1, 1) := by decide +kernel
theorem dX7_presses_26 : decode cX7_presses 26 = .ok (.iastore, 1) := by decide +kernel
theorem dX7_presses_27 : decode cX7_presses 27 = .ok (.aload_n 0, 1) := by decide +kernel
theorem dX7_presses_28 : decode cX7_presses 28 = .ok (.getfield 7, 3) := by decide +kernel
theorem dX7_presses_31 : decode cX7_presses 31 = .ok (.bipush 22, 2) := by decide +kernel
theorem dX7_presses_33 : decode cX7_presses 33 = .ok (.iload_n 2, 1) := by decide +kernel
theorem dX7_presses_34 : decode cX7_presses 34 = .ok (.iastore, 1) := by decide +kernel
theorem dX7_presses_35 : decode cX7_presses 35 = .ok (.iload_n 3, 1) := by decide +kernel
theorem dX7_presses_36 : decode cX7_presses 36 = .ok (.ireturn, 1) := by decide +kernel
theorem dX7_takesNow_0 : decode cX7_takesNow 0 = .ok (.aload_n 0, 1) := by decide +kernel
theorem dX7_takesNow_1 : decode cX7_takesNow 1 = .ok (.getfield 7, 3) := by decide +kernel
theorem dX7_takesNow_4 : decode cX7_takesNow 4 = .ok (.bipush 23, 2) := by decide +kernel
theorem dX7_takesNow_6 : decode cX7_takesNow 6 = .ok (.iload_n 1, 1) := by decide +kernel
theorem dX7_takesNow_7 : decode cX7_takesNow 7 = .ok (.iadd, 1) := by decide +kernel
theorem dX7_takesNow_8 : decode cX7_takesNow 8 = .ok (.iaload, 1) := by decide +kernel
theorem dX7_takesNow_9 : decode cX7_takesNow 9 = .ok (.istore_n 3, 1) := by decide +kernel
theorem dX7_takesNow_10 : decode cX7_takesNow 10 = .ok (.aload_n 0, 1) := by decide +kernel
theorem dX7_takesNow_11 : decode cX7_takesNow 11 = .ok (.getfield 7, 3) := by decide +kernel
theorem dX7_takesNow_14 : decode cX7_takesNow 14 = .ok (.bipush 23, 2) := by decide +kernel
theorem dX7_takesNow_16 : decode cX7_takesNow 16 = .ok (.iload_n 1, 1) := by decide +kernel
theorem dX7_takesNow_17 : decode cX7_takesNow 17 = .ok (.iadd, 1) := by decide +kernel
theorem dX7_takesNow_18 : decode cX7_takesNow 18 = .ok (.iload_n 2, 1) := by decide +kernel
theorem dX7_takesNow_19 : decode cX7_takesNow 19 = .ok (.iastore, 1) := by decide +kernel
theorem dX7_takesNow_20 : decode cX7_takesNow 20 = .ok (.iload_n 3, 1) := by decide +kernel
theorem dX7_takesNow_21 : decode cX7_takesNow 21 = .ok (.ireturn, 1) := by decide +kernel
set_option maxRecDepth 20000 in
theorem ggX7_strip_X7_within : GoodIn wsX7_strip wsX7_within := goodIn_r _ [4] (by decide +kernel) (by decide +kernel)
set_option maxRecDepth 20000 in
theorem gX7_strip_X7_within : GoodIn wsX7_strip (va_wsS RX7 52 yX7_within wsX7_within) := goodIn_app (goodIn_of _ (by decide +kernel)) ggX7_strip_X7_within
set_option maxRecDepth 20000 in
theorem ggX7_strip_X7_counts : GoodIn wsX7_strip wsX7_counts := goodIn_r _ [8, 9, 21, 22, 23, 24, 25, 26, 27, 28, 29, 30, 31, 32, 33, 34, 35, 36, 37, 38, 39] (by decide +kernel) (by decide +kernel)
set_option maxRecDepth 20000 in
theorem gX7_strip_X7_counts : GoodIn wsX7_strip (wsV RX7 60 RX7 yX7_counts wsX7_counts) := goodIn_app (goodIn_of _ (by decide +kernel)) ggX7_strip_X7_counts
set_option maxRecDepth 20000 in
theorem ggX7_strip_X7_leaves : GoodIn wsX7_strip wsX7_leaves := goodIn_r _ [13, 14, 15, 16, 21, 22, 23, 24, 25, 26, 27, 28, 29, 30, 31, 32, 33, 34, 35, 36, 37, 38, 39] (by decide +kernel) (by decide +kernel)
set_option maxRecDepth 20000 in
theorem gX7_strip_X7_leaves : GoodIn wsX7_strip (wsV RX7 98 RX7 yX7_leaves wsX7_leaves) := goodIn_app (goodIn_of _ (by decide +kernel)) ggX7_strip_X7_leaves
set_option maxRecDepth 20000 in
theorem ggX7_strip_X7_strips : GoodIn wsX7_strip wsX7_strips := goodIn_r _ [20, 16, 21, 22, 23, 24, 25, 26, 27, 28, 29, 30, 31, 32, 33, 34, 35, 36, 37, 38, 39] (by decide +kernel) (by decide +kernel)
set_option maxRecDepth 20000 in
theorem gX7_strip_X7_strips : GoodIn wsX7_strip (wsV RX7 101 RX7 yX7_strips wsX7_strips) := goodIn_app (goodIn_of _ (by decide +kernel)) ggX7_strip_X7_strips
theorem dX7_strip_0 : decode cX7_strip 0 = .ok (.iload_n 1, 1) := by decide +kernel
theorem dX7_strip_1 : decode cX7_strip 1 = .ok (.iconst 1, 1) := by decide +kernel
theorem dX7_strip_2 : decode cX7_strip 2 = .ok (.bipush 20, 2) := by decide +kernel
theorem dX7_strip_4 : decode cX7_strip 4 = .ok (.invokestatic 52, 3) := by decide +kernel
theorem dX7_strip_7 : decode cX7_strip 7 = .ok (.ifCond .ne 11, 3) := by decide +kernel
theorem dX7_strip_10 : decode cX7_strip 10 = .ok (.aload_n 0, 1) := by decide +kernel
theorem dX7_strip_11 : decode cX7_strip 11 = .ok (.sipush (-1001), 3) := by decide +kernel
theorem dX7_strip_14 : decode cX7_strip 14 = .ok (.invokevirtual 60, 3) := by decide +kernel
theorem dX7_strip_17 : decode cX7_strip 17 = .ok (.ireturn, 1) := by decide +kernel
theorem dX7_strip_18 : decode cX7_strip 18 = .ok (.aload_n 0, 1) := by decide +kernel
theorem dX7_strip_19 : decode cX7_strip 19 = .ok (.invokevirtual 98, 3) := by decide +kernel
theorem dX7_strip_22 : decode cX7_strip 22 = .ok (.aload_n 0, 1) := by decide +kernel
theorem dX7_strip_23 : decode cX7_strip 23 = .ok (.iload_n 1, 1) := by decide +kernel
theorem dX7_strip_24 : decode cX7_strip 24 = .ok (.invokevirtual 101, 3) := by decide +kernel
theorem dX7_strip_27 : decode cX7_strip 27 = .ok (.ireturn, 1) := by decide +kernel
set_option maxRecDepth 20000 in
theorem ggX7_bend_X7_mayBend : GoodIn wsX7_bend wsX7_mayBend := goodIn_r _ [6, 7, 8, 5, 9] (by decide +kernel) (by decide +kernel)
set_option maxRecDepth 20000 in
theorem gX7_bend_X7_mayBend : GoodIn wsX7_bend (wsV RX7 104 RX7 yX7_mayBend wsX7_mayBend) := goodIn_app (goodIn_of _ (by decide +kernel)) ggX7_bend_X7_mayBend
set_option maxRecDepth 20000 in
theorem ggX7_bend_X7_counts : GoodIn wsX7_bend wsX7_counts := goodIn_r _ [13, 14, 25, 26, 27, 28, 29, 30, 31, 32, 33, 34, 35, 36, 37, 38, 39, 40, 41, 42, 43] (by decide +kernel) (by decide +kernel)
set_option maxRecDepth 20000 in
theorem gX7_bend_X7_counts : GoodIn wsX7_bend (wsV RX7 60 RX7 yX7_counts wsX7_counts) := goodIn_app (goodIn_of _ (by decide +kernel)) ggX7_bend_X7_counts
set_option maxRecDepth 20000 in
theorem ggX7_bend_X7_leaves : GoodIn wsX7_bend wsX7_leaves := goodIn_r _ [18, 19, 20, 1, 25, 26, 27, 28, 29, 30, 31, 32, 33, 34, 35, 36, 37, 38, 39, 40, 41, 42, 43] (by decide +kernel) (by decide +kernel)
set_option maxRecDepth 20000 in
theorem gX7_bend_X7_leaves : GoodIn wsX7_bend (wsV RX7 98 RX7 yX7_leaves wsX7_leaves) := goodIn_app (goodIn_of _ (by decide +kernel)) ggX7_bend_X7_leaves
set_option maxRecDepth 20000 in
theorem ggX7_bend_X7_adds : GoodIn wsX7_bend wsX7_adds := goodIn_r _ [24, 1, 25, 26, 27, 28, 29, 30, 31, 32, 33, 34, 35, 36, 37, 38, 39, 40, 41, 42, 43] (by decide +kernel) (by decide +kernel)
set_option maxRecDepth 20000 in
theorem gX7_bend_X7_adds : GoodIn wsX7_bend (wsV RX7 107 RX7 yX7_adds wsX7_adds) := goodIn_app (goodIn_of _ (by decide +kernel)) ggX7_bend_X7_adds
theorem dX7_bend_0 : decode cX7_bend 0 = .ok (.aload_n 0, 1) := by decide +kernel
theorem dX7_bend_1 : decode cX7_bend 1 = .ok (.iload_n 1, 1) := by decide +kernel
theorem dX7_bend_2 : decode cX7_bend 2 = .ok (.iload_n 2, 1) := by decide +kernel
theorem dX7_bend_3 : decode cX7_bend 3 = .ok (.iload_n 3, 1) := by decide +kernel
theorem dX7_bend_4 : decode cX7_bend 4 = .ok (.invokevirtual 104, 3) := by decide +kernel
theorem dX7_bend_7 : decode cX7_bend 7 = .ok (.ifCond .ne 11, 3) := by decide +kernel
theorem dX7_bend_10 : decode cX7_bend 10 = .ok (.aload_n 0, 1) := by decide +kernel
theorem dX7_bend_11 : decode cX7_bend 11 = .ok (.sipush (-1001), 3) := by decide +kernel
theorem dX7_bend_14 : decode cX7_bend 14 = .ok (.invokevirtual 60, 3) := by decide +kernel
theorem dX7_bend_17 : decode cX7_bend 17 = .ok (.ireturn, 1) := by decide +kernel
theorem dX7_bend_18 : decode cX7_bend 18 = .ok (.aload_n 0, 1) := by decide +kernel
theorem dX7_bend_19 : decode cX7_bend 19 = .ok (.getfield 7, 3) := by decide +kernel
theorem dX7_bend_22 : decode cX7_bend 22 = .ok (.iconst 0, 1) := by decide +kernel
theorem dX7_bend_23 : decode cX7_bend 23 = .ok (.iaload, 1) := by decide +kernel
theorem dX7_bend_24 : decode cX7_bend 24 = .ok (.bipush 6, 2) := by decide +kernel
theorem dX7_bend_26 : decode cX7_bend 26 = .ok (.if_icmp .ne 11, 3) := by decide +kernel
theorem dX7_bend_29 : decode cX7_bend 29 = .ok (.aload_n 0, 1) := by decide +kernel
theorem dX7_bend_30 : decode cX7_bend 30 = .ok (.sipush (-1003), 3) := by decide +kernel
theorem dX7_bend_33 : decode cX7_bend 33 = .ok (.invokevirtual 60, 3) := by decide +kernel
theorem dX7_bend_36 : decode cX7_bend 36 = .ok (.ireturn, 1) := by decide +kernel
theorem dX7_bend_37 : decode cX7_bend 37 = .ok (.aload_n 0, 1) := by decide +kernel
theorem dX7_bend_38 : decode cX7_bend 38 = .ok (.invokevirtual 98, 3) := by decide +kernel
theorem dX7_bend_41 : decode cX7_bend 41 = .ok (.aload_n 0, 1) := by decide +kernel
theorem dX7_bend_42 : decode cX7_bend 42 = .ok (.iload_n 1, 1) := by decide +kernel
theorem dX7_bend_43 : decode cX7_bend 43 = .ok (.iload_n 2, 1) := by decide +kernel
theorem dX7_bend_44 : decode cX7_bend 44 = .ok (.iload_n 3, 1) := by decide +kernel
theorem dX7_bend_45 : decode cX7_bend 45 = .ok (.invokevirtual 107, 3) := by decide +kernel
theorem dX7_bend_48 : decode cX7_bend 48 = .ok (.ireturn, 1) := by decide +kernel
set_option maxRecDepth 20000 in
theorem ggX7_press_X7_mayPress : GoodIn wsX7_press wsX7_mayPress := goodIn_r _ [5, 6, 7, 4, 8] (by decide +kernel) (by decide +kernel)
set_option maxRecDepth 20000 in
theorem gX7_press_X7_mayPress : GoodIn wsX7_press (wsV RX7 111 RX7 yX7_mayPress wsX7_mayPress) := goodIn_app (goodIn_of _ (by decide +kernel)) ggX7_press_X7_mayPress
set_option maxRecDepth 20000 in
theorem ggX7_press_X7_counts : GoodIn wsX7_press wsX7_counts := goodIn_r _ [12, 13, 25, 26, 27, 28, 29, 30, 31, 32, 33, 34, 35, 36, 37, 38, 39, 40, 41, 42, 43] (by decide +kernel) (by decide +kernel)
set_option maxRecDepth 20000 in
theorem gX7_press_X7_counts : GoodIn wsX7_press (wsV RX7 60 RX7 yX7_counts wsX7_counts) := goodIn_app (goodIn_of _ (by decide +kernel)) ggX7_press_X7_counts
set_option maxRecDepth 20000 in
theorem ggX7_press_X7_leaves : GoodIn wsX7_press wsX7_leaves := goodIn_r _ [17, 18, 19, 20, 25, 26, 27, 28, 29, 30, 31, 32, 33, 34, 35, 36, 37, 38, 39, 40, 41, 42, 43] (by decide +kernel) (by decide +kernel)
set_option maxRecDepth 20000 in
theorem gX7_press_X7_leaves : GoodIn wsX7_press (wsV RX7 98 RX7 yX7_leaves wsX7_leaves) := goodIn_app (goodIn_of _ (by decide +kernel)) ggX7_press_X7_leaves
set_option maxRecDepth 20000 in
theorem ggX7_press_X7_presses : GoodIn wsX7_press wsX7_presses := goodIn_r _ [24, 20, 25, 26, 27, 28, 29, 30, 31, 32, 33, 34, 35, 36, 37, 38, 39, 40, 41, 42, 43] (by decide +kernel) (by decide +kernel)
set_option maxRecDepth 20000 in
theorem gX7_press_X7_presses : GoodIn wsX7_press (wsV RX7 114 RX7 yX7_presses wsX7_presses) := goodIn_app (goodIn_of _ (by decide +kernel)) ggX7_press_X7_presses
theorem dX7_press_0 : decode cX7_press 0 = .ok (.aload_n 0, 1) := by decide +kernel
theorem dX7_press_1 : decode cX7_press 1 = .ok (.iload_n 1, 1) := by decide +kernel
theorem dX7_press_2 : decode cX7_press 2 = .ok (.iload_n 2, 1) := by decide +kernel
theorem dX7_press_3 : decode cX7_press 3 = .ok (.invokevirtual 111, 3) := by decide +kernel
theorem dX7_press_6 : decode cX7_press 6 = .ok (.ifCond .ne 11, 3) := by decide +kernel
theorem dX7_press_9 : decode cX7_press 9 = .ok (.aload_n 0, 1) := by decide +kernel
theorem dX7_press_10 : decode cX7_press 10 = .ok (.sipush (-1001), 3) := by decide +kernel
theorem dX7_press_13 : decode cX7_press 13 = .ok (.invokevirtual 60, 3) := by decide +kernel
theorem dX7_press_16 : decode cX7_press 16 = .ok (.ireturn, 1) := by decide +kernel
theorem dX7_press_17 : decode cX7_press 17 = .ok (.aload_n 0, 1) := by decide +kernel
theorem dX7_press_18 : decode cX7_press 18 = .ok (.invokevirtual 98, 3) := by decide +kernel
theorem dX7_press_21 : decode cX7_press 21 = .ok (.aload_n 0, 1) := by decide +kernel
theorem dX7_press_22 : decode cX7_press 22 = .ok (.iload_n 1, 1) := by decide +kernel
theorem dX7_press_23 : decode cX7_press 23 = .ok (.iload_n 2, 1) := by decide +kernel
theorem dX7_press_24 : decode cX7_press 24 = .ok (.invokevirtual 114, 3) := by decide +kernel
theorem dX7_press_27 : decode cX7_press 27 = .ok (.ireturn, 1) := by decide +kernel
set_option maxRecDepth 20000 in
theorem ggX7_takes_X7_mayTake : GoodIn wsX7_takes wsX7_mayTake := goodIn_r _ [5, 6, 7, 4, 8] (by decide +kernel) (by decide +kernel)
set_option maxRecDepth 20000 in
theorem gX7_takes_X7_mayTake : GoodIn wsX7_takes (wsV RX7 117 RX7 yX7_mayTake wsX7_mayTake) := goodIn_app (goodIn_of _ (by decide +kernel)) ggX7_takes_X7_mayTake
set_option maxRecDepth 20000 in
theorem ggX7_takes_X7_counts : GoodIn wsX7_takes wsX7_counts := goodIn_r _ [12, 13, 25, 26, 27, 28, 29, 30, 31, 32, 33, 34, 35, 36, 37, 38, 39, 40, 41, 42, 43] (by decide +kernel) (by decide +kernel)
set_option maxRecDepth 20000 in
theorem gX7_takes_X7_counts : GoodIn wsX7_takes (wsV RX7 60 RX7 yX7_counts wsX7_counts) := goodIn_app (goodIn_of _ (by decide +kernel)) ggX7_takes_X7_counts
set_option maxRecDepth 20000 in
theorem ggX7_takes_X7_leaves : GoodIn wsX7_takes wsX7_leaves := goodIn_r _ [17, 18, 19, 20, 25, 26, 27, 28, 29, 30, 31, 32, 33, 34, 35, 36, 37, 38, 39, 40, 41, 42, 43] (by decide +kernel) (by decide +kernel)
set_option maxRecDepth 20000 in
theorem gX7_takes_X7_leaves : GoodIn wsX7_takes (wsV RX7 98 RX7 yX7_leaves wsX7_leaves) := goodIn_app (goodIn_of _ (by decide +kernel)) ggX7_takes_X7_leaves
set_option maxRecDepth 20000 in
theorem ggX7_takes_X7_takesNow : GoodIn wsX7_takes wsX7_takesNow := goodIn_r _ [24, 20, 25, 26, 27, 28, 29, 30, 31, 32, 33, 34, 35, 36, 37, 38, 39, 40, 41, 42, 43] (by decide +kernel) (by decide +kernel)
set_option maxRecDepth 20000 in
theorem gX7_takes_X7_takesNow : GoodIn wsX7_takes (wsV RX7 120 RX7 yX7_takesNow wsX7_takesNow) := goodIn_app (goodIn_of _ (by decide +kernel)) ggX7_takes_X7_takesNow
theorem dX7_takes_0 : decode cX7_takes 0 = .ok (.aload_n 0, 1) := by decide +kernel
theorem dX7_takes_1 : decode cX7_takes 1 = .ok (.iload_n 1, 1) := by decide +kernel
theorem dX7_takes_2 : decode cX7_takes 2 = .ok (.iload_n 2, 1) := by decide +kernel
theorem dX7_takes_3 : decode cX7_takes 3 = .ok (.invokevirtual 117, 3) := by decide +kernel
theorem dX7_takes_6 : decode cX7_takes 6 = .ok (.ifCond .ne 11, 3) := by decide +kernel
theorem dX7_takes_9 : decode cX7_takes 9 = .ok (.aload_n 0, 1) := by decide +kernel
theorem dX7_takes_10 : decode cX7_takes 10 = .ok (.sipush (-1001), 3) := by decide +kernel
theorem dX7_takes_13 : decode cX7_takes 13 = .ok (.invokevirtual 60, 3) := by decide +kernel
theorem dX7_takes_16 : decode cX7_takes 16 = .ok (.ireturn, 1) := by decide +kernel
theorem dX7_takes_17 : decode cX7_takes 17 = .ok (.aload_n 0, 1) := by decide +kernel
theorem dX7_takes_18 : decode cX7_takes 18 = .ok (.invokevirtual 98, 3) := by decide +kernel
theorem dX7_takes_21 : decode cX7_takes 21 = .ok (.aload_n 0, 1) := by decide +kernel
theorem dX7_takes_22 : decode cX7_takes 22 = .ok (.iload_n 1, 1) := by decide +kernel
theorem dX7_takes_23 : decode cX7_takes 23 = .ok (.iload_n 2, 1) := by decide +kernel
theorem dX7_takes_24 : decode cX7_takes 24 = .ok (.invokevirtual 120, 3) := by decide +kernel
theorem dX7_takes_27 : decode cX7_takes 27 = .ok (.ireturn, 1) := by decide +kernel
set_option maxRecDepth 20000 in
theorem ggX7_makes_X7_isBend : GoodIn wsX7_makes wsX7_isBend := goodIn_r _ [6, 1, 7, 8, 5, 9, 66, 67, 68, 69, 70, 71, 72, 73, 74, 75, 76, 77, 78, 79, 80, 81, 82, 83, 84] (by decide +kernel) (by decide +kernel)
set_option maxRecDepth 20000 in
theorem gX7_makes_X7_isBend : GoodIn wsX7_makes (wsV RX7 123 RX7 yX7_isBend wsX7_isBend) := goodIn_app (goodIn_of _ (by decide +kernel)) ggX7_makes_X7_isBend
set_option maxRecDepth 20000 in
theorem ggX7_makes_X7_counts : GoodIn wsX7_makes wsX7_counts := goodIn_r _ [13, 14, 66, 67, 68, 69, 70, 71, 72, 73, 74, 75, 76, 77, 78, 79, 80, 81, 82, 83, 84] (by decide +kernel) (by decide +kernel)
set_option maxRecDepth 20000 in
theorem gX7_makes_X7_counts : GoodIn wsX7_makes (wsV RX7 60 RX7 yX7_counts wsX7_counts) := goodIn_app (goodIn_of _ (by decide +kernel)) ggX7_makes_X7_counts
set_option maxRecDepth 20000 in
theorem ggX7_makes_X7_isFree : GoodIn wsX7_makes wsX7_isFree := goodIn_r _ [18, 19, 20, 5, 21, 22, 23, 24, 25, 1, 26, 27, 28, 29, 30, 31, 32, 33, 34, 35, 36, 37, 38, 39, 40, 41, 42, 43, 44, 45, 46, 47, 48, 49, 50, 51, 52, 53, 54, 55, 56, 66, 67, 68, 69, 70, 71, 72, 73, 74, 75, 76, 77, 78, 79, 80, 81, 82, 83, 84] (by decide +kernel) (by decide +kernel)
set_option maxRecDepth 20000 in
theorem gX7_makes_X7_isFree : GoodIn wsX7_makes (wsV RX7 127 RX7 yX7_isFree wsX7_isFree) := goodIn_app (goodIn_of _ (by decide +kernel)) ggX7_makes_X7_isFree
set_option maxRecDepth 20000 in
theorem ggX7_makes_X7_leaves : GoodIn wsX7_makes wsX7_leaves := goodIn_r _ [60, 61, 62, 1, 66, 67, 68, 69, 70, 71, 72, 73, 74, 75, 76, 77, 78, 79, 80, 81, 82, 83, 84] (by decide +kernel) (by decide +kernel)
set_option maxRecDepth 20000 in
theorem gX7_makes_X7_leaves : GoodIn wsX7_makes (wsV RX7 98 RX7 yX7_leaves wsX7_leaves) := goodIn_app (goodIn_of _ (by decide +kernel)) ggX7_makes_X7_leaves
set_option maxRecDepth 20000 in
theorem ggX7_makes_X7_ones : GoodIn wsX7_makes wsX7_ones := goodIn_r _ [65] (by decide +kernel) (by decide +kernel)
set_option maxRecDepth 20000 in
theorem gX7_makes_X7_ones : GoodIn wsX7_makes (va_wsS RX7 130 yX7_ones wsX7_ones) := goodIn_app (goodIn_of _ (by decide +kernel)) ggX7_makes_X7_ones
theorem dX7_makes_0 : decode cX7_makes 0 = .ok (.aload_n 0, 1) := by decide +kernel
theorem dX7_makes_1 : decode cX7_makes 1 = .ok (.iload_n 1, 1) := by decide +kernel
theorem dX7_makes_2 : decode cX7_makes 2 = .ok (.invokevirtual 123, 3) := by decide +kernel
theorem dX7_makes_5 : decode cX7_makes 5 = .ok (.ifCond .ne 11, 3) := by decide +kernel
theorem dX7_makes_8 : decode cX7_makes 8 = .ok (.aload_n 0, 1) := by decide +kernel
theorem dX7_makes_9 : decode cX7_makes 9 = .ok (.sipush (-1001), 3) := by decide +kernel
theorem dX7_makes_12 : decode cX7_makes 12 = .ok (.invokevirtual 60, 3) := by decide +kernel
theorem dX7_makes_15 : decode cX7_makes 15 = .ok (.ireturn, 1) := by decide +kernel
theorem dX7_makes_16 : decode cX7_makes 16 = .ok (.aload_n 0, 1) := by decide +kernel
theorem dX7_makes_17 : decode cX7_makes 17 = .ok (.iload_n 1, 1) := by decide +kernel
theorem dX7_makes_18 : decode cX7_makes 18 = .ok (.aload_n 0, 1) := by decide +kernel
theorem dX7_makes_19 : decode cX7_makes 19 = .ok (.getfield 7, 3) := by decide +kernel
theorem dX7_makes_22 : decode cX7_makes 22 = .ok (.bipush 20, 2) := by decide +kernel
theorem dX7_makes_24 : decode cX7_makes 24 = .ok (.iaload, 1) := by decide +kernel
theorem dX7_makes_25 : decode cX7_makes 25 = .ok (.invokevirtual 127, 3) := by decide +kernel
theorem dX7_makes_28 : decode cX7_makes 28 = .ok (.ifCond .ne 11, 3) := by decide +kernel
theorem dX7_makes_31 : decode cX7_makes 31 = .ok (.aload_n 0, 1) := by decide +kernel
theorem dX7_makes_32 : decode cX7_makes 32 = .ok (.sipush (-1002), 3) := by decide +kernel
theorem dX7_makes_35 : decode cX7_makes 35 = .ok (.invokevirtual 60, 3) := by decide +kernel
theorem dX7_makes_38 : decode cX7_makes 38 = .ok (.ireturn, 1) := by decide +kernel
theorem dX7_makes_39 : decode cX7_makes 39 = .ok (.aload_n 0, 1) := by decide +kernel
theorem dX7_makes_40 : decode cX7_makes 40 = .ok (.invokevirtual 98, 3) := by decide +kernel
theorem dX7_makes_43 : decode cX7_makes 43 = .ok (.aload_n 0, 1) := by decide +kernel
theorem dX7_makes_44 : decode cX7_makes 44 = .ok (.getfield 7, 3) := by decide +kernel
theorem dX7_makes_47 : decode cX7_makes 47 = .ok (.bipush 20, 2) := by decide +kernel
theorem dX7_makes_49 : decode cX7_makes 49 = .ok (.dup2, 1) := by decide +kernel
theorem dX7_makes_50 : decode cX7_makes 50 = .ok (.iaload, 1) := by decide +kernel
theorem dX7_makes_51 : decode cX7_makes 51 = .ok (.iconst 1, 1) := by decide +kernel
theorem dX7_makes_52 : decode cX7_makes 52 = .ok (.iload_n 1, 1) := by decide +kernel
theorem dX7_makes_53 : decode cX7_makes 53 = .ok (.ishl, 1) := by decide +kernel
theorem dX7_makes_54 : decode cX7_makes 54 = .ok (.ior, 1) := by decide +kernel
theorem dX7_makes_55 : decode cX7_makes 55 = .ok (.iastore, 1) := by decide +kernel
theorem dX7_makes_56 : decode cX7_makes 56 = .ok (.aload_n 0, 1) := by decide +kernel
theorem dX7_makes_57 : decode cX7_makes 57 = .ok (.getfield 7, 3) := by decide +kernel
theorem dX7_makes_60 : decode cX7_makes 60 = .ok (.bipush 20, 2) := by decide +kernel
theorem dX7_makes_62 : decode cX7_makes 62 = .ok (.iaload, 1) := by decide +kernel
theorem dX7_makes_63 : decode cX7_makes 63 = .ok (.invokestatic 130, 3) := by decide +kernel
theorem dX7_makes_66 : decode cX7_makes 66 = .ok (.ireturn, 1) := by decide +kernel
set_option maxRecDepth 20000 in
theorem ggX7_unmakes_X7_isBend : GoodIn wsX7_unmakes wsX7_isBend := goodIn_r _ [6, 1, 7, 8, 5, 9, 27, 28, 29, 30, 31, 32, 33, 34, 35, 36, 37, 38, 39, 40, 41, 42, 43, 44, 45] (by decide +kernel) (by decide +kernel)
set_option maxRecDepth 20000 in
theorem gX7_unmakes_X7_isBend : GoodIn wsX7_unmakes (wsV RX7 123 RX7 yX7_isBend wsX7_isBend) := goodIn_app (goodIn_of _ (by decide +kernel)) ggX7_unmakes_X7_isBend
set_option maxRecDepth 20000 in
theorem ggX7_unmakes_X7_counts : GoodIn wsX7_unmakes wsX7_counts := goodIn_r _ [13, 14, 27, 28, 29, 30, 31, 32, 33, 34, 35, 36, 37, 38, 39, 40, 41, 42, 43, 44, 45] (by decide +kernel) (by decide +kernel)
set_option maxRecDepth 20000 in
theorem gX7_unmakes_X7_counts : GoodIn wsX7_unmakes (wsV RX7 60 RX7 yX7_counts wsX7_counts) := goodIn_app (goodIn_of _ (by decide +kernel)) ggX7_unmakes_X7_counts
set_option maxRecDepth 20000 in
theorem ggX7_unmakes_X7_has : GoodIn wsX7_unmakes wsX7_has := goodIn_r _ [17] (by decide +kernel) (by decide +kernel)
set_option maxRecDepth 20000 in
theorem gX7_unmakes_X7_has : GoodIn wsX7_unmakes (va_wsS RX7 70 yX7_has wsX7_has) := goodIn_app (goodIn_of _ (by decide +kernel)) ggX7_unmakes_X7_has
set_option maxRecDepth 20000 in
theorem ggX7_unmakes_X7_leaves : GoodIn wsX7_unmakes wsX7_leaves := goodIn_r _ [21, 22, 23, 1, 27, 28, 29, 30, 31, 32, 33, 34, 35, 36, 37, 38, 39, 40, 41, 42, 43, 44, 45] (by decide +kernel) (by decide +kernel)
set_option maxRecDepth 20000 in
theorem gX7_unmakes_X7_leaves : GoodIn wsX7_unmakes (wsV RX7 98 RX7 yX7_leaves wsX7_leaves) := goodIn_app (goodIn_of _ (by decide +kernel)) ggX7_unmakes_X7_leaves
set_option maxRecDepth 20000 in
theorem ggX7_unmakes_X7_ones : GoodIn wsX7_unmakes wsX7_ones := goodIn_r _ [26] (by decide +kernel) (by decide +kernel)
set_option maxRecDepth 20000 in
theorem gX7_unmakes_X7_ones : GoodIn wsX7_unmakes (va_wsS RX7 130 yX7_ones wsX7_ones) := goodIn_app (goodIn_of _ (by decide +kernel)) ggX7_unmakes_X7_ones
theorem dX7_unmakes_0 : decode cX7_unmakes 0 = .ok (.aload_n 0, 1) := by decide +kernel
theorem dX7_unmakes_1 : decode cX7_unmakes 1 = .ok (.iload_n 1, 1) := by decide +kernel
theorem dX7_unmakes_2 : decode cX7_unmakes 2 = .ok (.invokevirtual 123, 3) := by decide +kernel
theorem dX7_unmakes_5 : decode cX7_unmakes 5 = .ok (.ifCond .ne 11, 3) := by decide +kernel
theorem dX7_unmakes_8 : decode cX7_unmakes 8 = .ok (.aload_n 0, 1) := by decide +kernel
theorem dX7_unmakes_9 : decode cX7_unmakes 9 = .ok (.sipush (-1001), 3) := by decide +kernel
theorem dX7_unmakes_12 : decode cX7_unmakes 12 = .ok (.invokevirtual 60, 3) := by decide +kernel
theorem dX7_unmakes_15 : decode cX7_unmakes 15 = .ok (.ireturn, 1) := by decide +kernel
theorem dX7_unmakes_16 : decode cX7_unmakes 16 = .ok (.aload_n 0, 1) := by decide +kernel
theorem dX7_unmakes_17 : decode cX7_unmakes 17 = .ok (.getfield 7, 3) := by decide +kernel
theorem dX7_unmakes_20 : decode cX7_unmakes 20 = .ok (.bipush 20, 2) := by decide +kernel
theorem dX7_unmakes_22 : decode cX7_unmakes 22 = .ok (.iaload, 1) := by decide +kernel
theorem dX7_unmakes_23 : decode cX7_unmakes 23 = .ok (.iload_n 1, 1) := by decide +kernel
theorem dX7_unmakes_24 : decode cX7_unmakes 24 = .ok (.invokestatic 70, 3) := by decide +kernel
theorem dX7_unmakes_27 : decode cX7_unmakes 27 = .ok (.ifCond .ne 11, 3) := by decide +kernel
theorem dX7_unmakes_30 : decode cX7_unmakes 30 = .ok (.aload_n 0, 1) := by decide +kernel
theorem dX7_unmakes_31 : decode cX7_unmakes 31 = .ok (.sipush (-1002), 3) := by decide +kernel
theorem dX7_unmakes_34 : decode cX7_unmakes 34 = .ok (.invokevirtual 60, 3) := by decide +kernel
theorem dX7_unmakes_37 : decode cX7_unmakes 37 = .ok (.ireturn, 1) := by decide +kernel
theorem dX7_unmakes_38 : decode cX7_unmakes 38 = .ok (.aload_n 0, 1) := by decide +kernel
theorem dX7_unmakes_39 : decode cX7_unmakes 39 = .ok (.invokevirtual 98, 3) := by decide +kernel
theorem dX7_unmakes_42 : decode cX7_unmakes 42 = .ok (.aload_n 0, 1) := by decide +kernel
theorem dX7_unmakes_43 : decode cX7_unmakes 43 = .ok (.getfield 7, 3) := by decide +kernel
theorem dX7_unmakes_46 : decode cX7_unmakes 46 = .ok (.bipush 20, 2) := by decide +kernel
theorem dX7_unmakes_48 : decode cX7_unmakes 48 = .ok (.dup2, 1) := by decide +kernel
theorem dX7_unmakes_49 : decode cX7_unmakes 49 = .ok (.iaload, 1) := by decide +kernel
theorem dX7_unmakes_50 : decode cX7_unmakes 50 = .ok (.iconst 1, 1) := by decide +kernel
theorem dX7_unmakes_51 : decode cX7_unmakes 51 = .ok (.iload_n 1, 1) := by decide +kernel
theorem dX7_unmakes_52 : decode cX7_unmakes 52 = .ok (.ishl, 1) := by decide +kernel
theorem dX7_unmakes_53 : decode cX7_unmakes 53 = .ok (.iconst (-1), 1) := by decide +kernel
theorem dX7_unmakes_54 : decode cX7_unmakes 54 = .ok (.ixor, 1) := by decide +kernel
theorem dX7_unmakes_55 : decode cX7_unmakes 55 = .ok (.iand, 1) := by decide +kernel
theorem dX7_unmakes_56 : decode cX7_unmakes 56 = .ok (.iastore, 1) := by decide +kernel
theorem dX7_unmakes_57 : decode cX7_unmakes 57 = .ok (.aload_n 0, 1) := by decide +kernel
theorem dX7_unmakes_58 : decode cX7_unmakes 58 = .ok (.getfield 7, 3) := by decide +kernel
theorem dX7_unmakes_61 : decode cX7_unmakes 61 = .ok (.bipush 20, 2) := by decide +kernel
theorem dX7_unmakes_63 : decode cX7_unmakes 63 = .ok (.iaload, 1) := by decide +kernel
theorem dX7_unmakes_64 : decode cX7_unmakes 64 = .ok (.invokestatic 130, 3) := by decide +kernel
theorem dX7_unmakes_67 : decode cX7_unmakes 67 = .ok (.ireturn, 1) := by decide +kernel
set_option maxRecDepth 20000 in
theorem ggX7_again_X7_leaves : GoodIn wsX7_again wsX7_leaves := goodIn_r _ [6, 7, 8, 1, 12, 13, 14, 15, 16, 17, 18, 19, 20, 21, 22, 23, 24, 25, 26, 27, 28, 29, 30] (by decide +kernel) (by decide +kernel)
set_option maxRecDepth 20000 in
theorem gX7_again_X7_leaves : GoodIn wsX7_again (wsV RX7 98 RX7 yX7_leaves wsX7_leaves) := goodIn_app (goodIn_of _ (by decide +kernel)) ggX7_again_X7_leaves
set_option maxRecDepth 20000 in
theorem ggX7_again_X7_ones : GoodIn wsX7_again wsX7_ones := goodIn_r _ [11] (by decide +kernel) (by decide +kernel)
set_option maxRecDepth 20000 in
theorem gX7_again_X7_ones : GoodIn wsX7_again (va_wsS RX7 130 yX7_ones wsX7_ones) := goodIn_app (goodIn_of _ (by decide +kernel)) ggX7_again_X7_ones
theorem dX7_again_0 : decode cX7_again 0 = .ok (.aload_n 0, 1) := by decide +kernel
theorem dX7_again_1 : decode cX7_again 1 = .ok (.invokevirtual 98, 3) := by decide +kernel
theorem dX7_again_4 : decode cX7_again 4 = .ok (.aload_n 0, 1) := by decide +kernel
theorem dX7_again_5 : decode cX7_again 5 = .ok (.getfield 7, 3) := by decide +kernel
theorem dX7_again_8 : decode cX7_again 8 = .ok (.bipush 20, 2) := by decide +kernel
theorem dX7_again_10 : decode cX7_again 10 = .ok (.iaload, 1) := by decide +kernel
theorem dX7_again_11 : decode cX7_again 11 = .ok (.invokestatic 130, 3) := by decide +kernel
theorem dX7_again_14 : decode cX7_again 14 = .ok (.istore_n 1, 1) := by decide +kernel
theorem dX7_again_15 : decode cX7_again 15 = .ok (.aload_n 0, 1) := by decide +kernel
theorem dX7_again_16 : decode cX7_again 16 = .ok (.getfield 7, 3) := by decide +kernel
theorem dX7_again_19 : decode cX7_again 19 = .ok (.bipush 20, 2) := by decide +kernel
theorem dX7_again_21 : decode cX7_again 21 = .ok (.iconst 0, 1) := by decide +kernel
theorem dX7_again_22 : decode cX7_again 22 = .ok (.iastore, 1) := by decide +kernel
theorem dX7_again_23 : decode cX7_again 23 = .ok (.iload_n 1, 1) := by decide +kernel
theorem dX7_again_24 : decode cX7_again 24 = .ok (.ireturn, 1) := by decide +kernel
theorem dX7_ofBend_0 : decode cX7_ofBend 0 = .ok (.iload_n 2, 1) := by decide +kernel
theorem dX7_ofBend_1 : decode cX7_ofBend 1 = .ok (.ifCond .ne 16, 3) := by decide +kernel
theorem dX7_ofBend_4 : decode cX7_ofBend 4 = .ok (.aload_n 0, 1) := by decide +kernel
theorem dX7_ofBend_5 : decode cX7_ofBend 5 = .ok (.getfield 7, 3) := by decide +kernel
theorem dX7_ofBend_8 : decode cX7_ofBend 8 = .ok (.iconst 1, 1) := by decide +kernel
theorem dX7_ofBend_9 : decode cX7_ofBend 9 = .ok (.iload_n 1, 1) := by decide +kernel
theorem dX7_ofBend_10 : decode cX7_ofBend 10 = .ok (.iadd, 1) := by decide +kernel
theorem dX7_ofBend_11 : decode cX7_ofBend 11 = .ok (.iconst 1, 1) := by decide +kernel
theorem dX7_ofBend_12 : decode cX7_ofBend 12 = .ok (.iadd, 1) := by decide +kernel
theorem dX7_ofBend_13 : decode cX7_ofBend 13 = .ok (.iaload, 1) := by decide +kernel
theorem dX7_ofBend_14 : decode cX7_ofBend 14 = .ok (.goto 48, 3) := by decide +kernel
theorem dX7_ofBend_17 : decode cX7_ofBend 17 = .ok (.iload_n 2, 1) := by decide +kernel
theorem dX7_ofBend_18 : decode cX7_ofBend 18 = .ok (.iconst 1, 1) := by decide +kernel
theorem dX7_ofBend_19 : decode cX7_ofBend 19 = .ok (.if_icmp .ne 15, 3) := by decide +kernel
theorem dX7_ofBend_22 : decode cX7_ofBend 22 = .ok (.aload_n 0, 1) := by decide +kernel
theorem dX7_ofBend_23 : decode cX7_ofBend 23 = .ok (.getfield 7, 3) := by decide +kernel
theorem dX7_ofBend_26 : decode cX7_ofBend 26 = .ok (.bipush 8, 2) := by decide +kernel
theorem dX7_ofBend_28 : decode cX7_ofBend 28 = .ok (.iload_n 1, 1) := by decide +kernel
theorem dX7_ofBend_29 : decode cX7_ofBend 29 = .ok (.iadd, 1) := by decide +kernel
theorem dX7_ofBend_30 : decode cX7_ofBend 30 = .ok (.iaload, 1) := by decide +kernel
theorem dX7_ofBend_31 : decode cX7_ofBend 31 = .ok (.goto 31, 3) := by decide +kernel
theorem dX7_ofBend_34 : decode cX7_ofBend 34 = .ok (.iload_n 2, 1) := by decide +kernel
theorem dX7_ofBend_35 : decode cX7_ofBend 35 = .ok (.iconst 2, 1) := by decide +kernel
theorem dX7_ofBend_36 : decode cX7_ofBend 36 = .ok (.if_icmp .ne 15, 3) := by decide +kernel
theorem dX7_ofBend_39 : decode cX7_ofBend 39 = .ok (.aload_n 0, 1) := by decide +kernel
theorem dX7_ofBend_40 : decode cX7_ofBend 40 = .ok (.getfield 7, 3) := by decide +kernel
theorem dX7_ofBend_43 : decode cX7_ofBend 43 = .ok (.bipush 14, 2) := by decide +kernel
theorem dX7_ofBend_45 : decode cX7_ofBend 45 = .ok (.iload_n 1, 1) := by decide +kernel
theorem dX7_ofBend_46 : decode cX7_ofBend 46 = .ok (.iadd, 1) := by decide +kernel
theorem dX7_ofBend_47 : decode cX7_ofBend 47 = .ok (.iaload, 1) := by decide +kernel
theorem dX7_ofBend_48 : decode cX7_ofBend 48 = .ok (.goto 14, 3) := by decide +kernel
theorem dX7_ofBend_51 : decode cX7_ofBend 51 = .ok (.aload_n 0, 1) := by decide +kernel
theorem dX7_ofBend_52 : decode cX7_ofBend 52 = .ok (.getfield 7, 3) := by decide +kernel
theorem dX7_ofBend_55 : decode cX7_ofBend 55 = .ok (.bipush 20, 2) := by decide +kernel
theorem dX7_ofBend_57 : decode cX7_ofBend 57 = .ok (.iaload, 1) := by decide +kernel
theorem dX7_ofBend_58 : decode cX7_ofBend 58 = .ok (.iload_n 1, 1) := by decide +kernel
theorem dX7_ofBend_59 : decode cX7_ofBend 59 = .ok (.ishr, 1) := by decide +kernel
theorem dX7_ofBend_60 : decode cX7_ofBend 60 = .ok (.iconst 1, 1) := by decide +kernel
theorem dX7_ofBend_61 : decode cX7_ofBend 61 = .ok (.iand, 1) := by decide +kernel
theorem dX7_ofBend_62 : decode cX7_ofBend 62 = .ok (.ireturn, 1) := by decide +kernel
set_option maxRecDepth 20000 in
theorem ggX7_of_X7_isBend : GoodIn wsX7_of wsX7_isBend := goodIn_r _ [5, 6, 7, 8, 4, 9, 19, 20, 21, 22, 23, 24, 25, 26, 27, 28, 29, 30, 31, 32, 33, 34, 35, 36, 37] (by decide +kernel) (by decide +kernel)
set_option maxRecDepth 20000 in
theorem gX7_of_X7_isBend : GoodIn wsX7_of (wsV RX7 123 RX7 yX7_isBend wsX7_isBend) := goodIn_app (goodIn_of _ (by decide +kernel)) ggX7_of_X7_isBend
set_option maxRecDepth 20000 in
theorem ggX7_of_X7_within : GoodIn wsX7_of wsX7_within := goodIn_r _ [9] (by decide +kernel) (by decide +kernel)
set_option maxRecDepth 20000 in
theorem gX7_of_X7_within : GoodIn wsX7_of (va_wsS RX7 52 yX7_within wsX7_within) := goodIn_app (goodIn_of _ (by decide +kernel)) ggX7_of_X7_within
set_option maxRecDepth 20000 in
theorem ggX7_of_X7_ofBend : GoodIn wsX7_of wsX7_ofBend := goodIn_r _ [13, 6, 19, 20, 21, 22, 23, 24, 25, 26, 27, 28, 29, 30, 31, 32, 33, 34, 35, 36, 37] (by decide +kernel) (by decide +kernel)
set_option maxRecDepth 20000 in
theorem gX7_of_X7_ofBend : GoodIn wsX7_of (wsV RX7 133 RX7 yX7_ofBend wsX7_ofBend) := goodIn_app (goodIn_of _ (by decide +kernel)) ggX7_of_X7_ofBend
set_option maxRecDepth 20000 in
theorem ggX7_of_X7_counts : GoodIn wsX7_of wsX7_counts := goodIn_r _ [17, 18, 19, 20, 21, 22, 23, 24, 25, 26, 27, 28, 29, 30, 31, 32, 33, 34, 35, 36, 37] (by decide +kernel) (by decide +kernel)
set_option maxRecDepth 20000 in
theorem gX7_of_X7_counts : GoodIn wsX7_of (wsV RX7 60 RX7 yX7_counts wsX7_counts) := goodIn_app (goodIn_of _ (by decide +kernel)) ggX7_of_X7_counts
theorem dX7_of_0 : decode cX7_of 0 = .ok (.aload_n 0, 1) := by decide +kernel
theorem dX7_of_1 : decode cX7_of 1 = .ok (.iload_n 1, 1) := by decide +kernel
theorem dX7_of_2 : decode cX7_of 2 = .ok (.invokevirtual 123, 3) := by decide +kernel
theorem dX7_of_5 : decode cX7_of 5 = .ok (.ifCond .eq 21, 3) := by decide +kernel
theorem dX7_of_8 : decode cX7_of 8 = .ok (.iload_n 2, 1) := by decide +kernel
theorem dX7_of_9 : decode cX7_of 9 = .ok (.iconst 0, 1) := by decide +kernel
theorem dX7_of_10 : decode cX7_of 10 = .ok (.iconst 3, 1) := by decide +kernel
theorem dX7_of_11 : decode cX7_of 11 = .ok (.invokestatic 52, 3) := by decide +kernel
theorem dX7_of_14 : decode cX7_of 14 = .ok (.ifCond .eq 12, 3) := by decide +kernel
theorem dX7_of_17 : decode cX7_of 17 = .ok (.aload_n 0, 1) := by decide +kernel
theorem dX7_of_18 : decode cX7_of 18 = .ok (.iload_n 1, 1) := by decide +kernel
theorem dX7_of_19 : decode cX7_of 19 = .ok (.iload_n 2, 1) := by decide +kernel
theorem dX7_of_20 : decode cX7_of 20 = .ok (.invokevirtual 133, 3) := by decide +kernel
theorem dX7_of_23 : decode cX7_of 23 = .ok (.goto 10, 3) := by decide +kernel
theorem dX7_of_26 : decode cX7_of 26 = .ok (.aload_n 0, 1) := by decide +kernel
theorem dX7_of_27 : decode cX7_of 27 = .ok (.sipush (-1001), 3) := by decide +kernel
theorem dX7_of_30 : decode cX7_of 30 = .ok (.invokevirtual 60, 3) := by decide +kernel
theorem dX7_of_33 : decode cX7_of 33 = .ok (.ireturn, 1) := by decide +kernel
set_option maxRecDepth 20000 in
theorem ggX7_joint_X7_within : GoodIn wsX7_joint wsX7_within := goodIn_r _ [7] (by decide +kernel) (by decide +kernel)
set_option maxRecDepth 20000 in
theorem gX7_joint_X7_within : GoodIn wsX7_joint (va_wsS RX7 52 yX7_within wsX7_within) := goodIn_app (goodIn_of _ (by decide +kernel)) ggX7_joint_X7_within
set_option maxRecDepth 20000 in
theorem ggX7_joint_X7_counts : GoodIn wsX7_joint wsX7_counts := goodIn_r _ [11, 12, 27, 28, 29, 30, 31, 32, 33, 34, 35, 36, 37, 38, 39, 40, 41, 42, 43, 44, 45] (by decide +kernel) (by decide +kernel)
set_option maxRecDepth 20000 in
theorem gX7_joint_X7_counts : GoodIn wsX7_joint (wsV RX7 60 RX7 yX7_counts wsX7_counts) := goodIn_app (goodIn_of _ (by decide +kernel)) ggX7_joint_X7_counts
set_option maxRecDepth 20000 in
theorem ggX7_joint_X7_lays : GoodIn wsX7_joint wsX7_lays := goodIn_r _ [16, 2, 3, 1, 17, 18, 19, 6, 20, 21, 22, 23, 24, 25, 26, 27, 28, 29, 30, 31, 32, 33, 34, 35, 36, 37, 38, 39, 40, 41, 42, 43, 44, 45] (by decide +kernel) (by decide +kernel)
set_option maxRecDepth 20000 in
theorem gX7_joint_X7_lays : GoodIn wsX7_joint (wsV RX7 81 RX7 yX7_lays wsX7_lays) := goodIn_app (goodIn_of _ (by decide +kernel)) ggX7_joint_X7_lays
theorem dX7_joint_0 : decode cX7_joint 0 = .ok (.iload_n 1, 1) := by decide +kernel
theorem dX7_joint_1 : decode cX7_joint 1 = .ok (.iconst 0, 1) := by decide +kernel
theorem dX7_joint_2 : decode cX7_joint 2 = .ok (.aload_n 0, 1) := by decide +kernel
theorem dX7_joint_3 : decode cX7_joint 3 = .ok (.getfield 7, 3) := by decide +kernel
theorem dX7_joint_6 : decode cX7_joint 6 = .ok (.iconst 0, 1) := by decide +kernel
theorem dX7_joint_7 : decode cX7_joint 7 = .ok (.iaload, 1) := by decide +kernel
theorem dX7_joint_8 : decode cX7_joint 8 = .ok (.iconst 1, 1) := by decide +kernel
theorem dX7_joint_9 : decode cX7_joint 9 = .ok (.iadd, 1) := by decide +kernel
theorem dX7_joint_10 : decode cX7_joint 10 = .ok (.invokestatic 52, 3) := by decide +kernel
theorem dX7_joint_13 : decode cX7_joint 13 = .ok (.ifCond .eq 12, 3) := by decide +kernel
theorem dX7_joint_16 : decode cX7_joint 16 = .ok (.iload_n 2, 1) := by decide +kernel
theorem dX7_joint_17 : decode cX7_joint 17 = .ok (.iconst 0, 1) := by decide +kernel
theorem dX7_joint_18 : decode cX7_joint 18 = .ok (.iconst 1, 1) := by decide +kernel
theorem dX7_joint_19 : decode cX7_joint 19 = .ok (.invokestatic 52, 3) := by decide +kernel
theorem dX7_joint_22 : decode cX7_joint 22 = .ok (.ifCond .ne 11, 3) := by decide +kernel
theorem dX7_joint_25 : decode cX7_joint 25 = .ok (.aload_n 0, 1) := by decide +kernel
theorem dX7_joint_26 : decode cX7_joint 26 = .ok (.sipush (-1001), 3) := by decide +kernel
theorem dX7_joint_29 : decode cX7_joint 29 = .ok (.invokevirtual 60, 3) := by decide +kernel
theorem dX7_joint_32 : decode cX7_joint 32 = .ok (.ireturn, 1) := by decide +kernel
theorem dX7_joint_33 : decode cX7_joint 33 = .ok (.aload_n 0, 1) := by decide +kernel
theorem dX7_joint_34 : decode cX7_joint 34 = .ok (.aload_n 0, 1) := by decide +kernel
theorem dX7_joint_35 : decode cX7_joint 35 = .ok (.getfield 7, 3) := by decide +kernel
theorem dX7_joint_38 : decode cX7_joint 38 = .ok (.bipush 20, 2) := by decide +kernel
theorem dX7_joint_40 : decode cX7_joint 40 = .ok (.iaload, 1) := by decide +kernel
theorem dX7_joint_41 : decode cX7_joint 41 = .ok (.invokevirtual 81, 3) := by decide +kernel
theorem dX7_joint_44 : decode cX7_joint 44 = .ok (.iload_n 2, 1) := by decide +kernel
theorem dX7_joint_45 : decode cX7_joint 45 = .ok (.ifCond .ne 12, 3) := by decide +kernel
theorem dX7_joint_48 : decode cX7_joint 48 = .ok (.aload_n 0, 1) := by decide +kernel
theorem dX7_joint_49 : decode cX7_joint 49 = .ok (.getfield 25, 3) := by decide +kernel
theorem dX7_joint_52 : decode cX7_joint 52 = .ok (.iload_n 1, 1) := by decide +kernel
theorem dX7_joint_53 : decode cX7_joint 53 = .ok (.iaload, 1) := by decide +kernel
theorem dX7_joint_54 : decode cX7_joint 54 = .ok (.goto 9, 3) := by decide +kernel
theorem dX7_joint_57 : decode cX7_joint 57 = .ok (.aload_n 0, 1) := by decide +kernel
theorem dX7_joint_58 : decode cX7_joint 58 = .ok (.getfield 28, 3) := by decide +kernel
theorem dX7_joint_61 : decode cX7_joint 61 = .ok (.iload_n 1, 1) := by decide +kernel
theorem dX7_joint_62 : decode cX7_joint 62 = .ok (.iaload, 1) := by decide +kernel
theorem dX7_joint_63 : decode cX7_joint 63 = .ok (.ireturn, 1) := by decide +kernel
set_option maxRecDepth 20000 in
theorem ggX7_boxIs_X7_lays : GoodIn wsX7_boxIs wsX7_lays := goodIn_r _ [8, 2, 3, 1, 9, 10, 11, 7, 12, 13, 14, 15, 16, 17, 18, 25, 26, 27, 28, 29, 30, 31, 32, 33, 34, 35, 36, 37, 38, 39, 40, 41, 42, 43] (by decide +kernel) (by decide +kernel)
set_option maxRecDepth 20000 in
theorem gX7_boxIs_X7_lays : GoodIn wsX7_boxIs (wsV RX7 81 RX7 yX7_lays wsX7_lays) := goodIn_app (goodIn_of _ (by decide +kernel)) ggX7_boxIs_X7_lays
set_option maxRecDepth 20000 in
theorem ggX7_boxIs_X7_lesser : GoodIn wsX7_boxIs wsX7_lesser := goodIn_r _ [21] (by decide +kernel) (by decide +kernel)
set_option maxRecDepth 20000 in
theorem gX7_boxIs_X7_lesser : GoodIn wsX7_boxIs (va_wsS RX7 74 yX7_lesser wsX7_lesser) := goodIn_app (goodIn_of _ (by decide +kernel)) ggX7_boxIs_X7_lesser
set_option maxRecDepth 20000 in
theorem ggX7_boxIs_X7_greater : GoodIn wsX7_boxIs wsX7_greater := goodIn_r _ [24] (by decide +kernel) (by decide +kernel)
set_option maxRecDepth 20000 in
theorem gX7_boxIs_X7_greater : GoodIn wsX7_boxIs (va_wsS RX7 78 yX7_greater wsX7_greater) := goodIn_app (goodIn_of _ (by decide +kernel)) ggX7_boxIs_X7_greater
theorem dX7_boxIs_0 : decode cX7_boxIs 0 = .ok (.aload_n 0, 1) := by decide +kernel
theorem dX7_boxIs_1 : decode cX7_boxIs 1 = .ok (.aload_n 0, 1) := by decide +kernel
theorem dX7_boxIs_2 : decode cX7_boxIs 2 = .ok (.getfield 7, 3) := by decide +kernel
theorem dX7_boxIs_5 : decode cX7_boxIs 5 = .ok (.bipush 20, 2) := by decide +kernel
theorem dX7_boxIs_7 : decode cX7_boxIs 7 = .ok (.iaload, 1) := by decide +kernel
theorem dX7_boxIs_8 : decode cX7_boxIs 8 = .ok (.invokevirtual 81, 3) := by decide +kernel
theorem dX7_boxIs_11 : decode cX7_boxIs 11 = .ok (.iconst 0, 1) := by decide +kernel
theorem dX7_boxIs_12 : decode cX7_boxIs 12 = .ok (.istore_n 2, 1) := by decide +kernel
theorem dX7_boxIs_13 : decode cX7_boxIs 13 = .ok (.iconst 1, 1) := by decide +kernel
theorem dX7_boxIs_14 : decode cX7_boxIs 14 = .ok (.istore_n 3, 1) := by decide +kernel
theorem dX7_boxIs_15 : decode cX7_boxIs 15 = .ok (.iload_n 3, 1) := by decide +kernel
theorem dX7_boxIs_16 : decode cX7_boxIs 16 = .ok (.aload_n 0, 1) := by decide +kernel
theorem dX7_boxIs_17 : decode cX7_boxIs 17 = .ok (.getfield 7, 3) := by decide +kernel
theorem dX7_boxIs_20 : decode cX7_boxIs 20 = .ok (.iconst 0, 1) := by decide +kernel
theorem dX7_boxIs_21 : decode cX7_boxIs 21 = .ok (.iaload, 1) := by decide +kernel
theorem dX7_boxIs_22 : decode cX7_boxIs 22 = .ok (.iconst 2, 1) := by decide +kernel
theorem dX7_boxIs_23 : decode cX7_boxIs 23 = .ok (.iadd, 1) := by decide +kernel
theorem dX7_boxIs_24 : decode cX7_boxIs 24 = .ok (.if_icmp .ge 53, 3) := by decide +kernel
theorem dX7_boxIs_27 : decode cX7_boxIs 27 = .ok (.iload_n 1, 1) := by decide +kernel
theorem dX7_boxIs_28 : decode cX7_boxIs 28 = .ok (.iconst 2, 1) := by decide +kernel
theorem dX7_boxIs_29 : decode cX7_boxIs 29 = .ok (.irem, 1) := by decide +kernel
theorem dX7_boxIs_30 : decode cX7_boxIs 30 = .ok (.ifCond .ne 12, 3) := by decide +kernel
theorem dX7_boxIs_33 : decode cX7_boxIs 33 = .ok (.aload_n 0, 1) := by decide +kernel
theorem dX7_boxIs_34 : decode cX7_boxIs 34 = .ok (.getfield 25, 3) := by decide +kernel
theorem dX7_boxIs_37 : decode cX7_boxIs 37 = .ok (.iload_n 3, 1) := by decide +kernel
theorem dX7_boxIs_38 : decode cX7_boxIs 38 = .ok (.iaload, 1) := by decide +kernel
theorem dX7_boxIs_39 : decode cX7_boxIs 39 = .ok (.goto 9, 3) := by decide +kernel
theorem dX7_boxIs_42 : decode cX7_boxIs 42 = .ok (.aload_n 0, 1) := by decide +kernel
theorem dX7_boxIs_43 : decode cX7_boxIs 43 = .ok (.getfield 28, 3) := by decide +kernel
theorem dX7_boxIs_46 : decode cX7_boxIs 46 = .ok (.iload_n 3, 1) := by decide +kernel
theorem dX7_boxIs_47 : decode cX7_boxIs 47 = .ok (.iaload, 1) := by decide +kernel
theorem dX7_boxIs_48 : decode cX7_boxIs 48 = .ok (.istore 4, 2) := by decide +kernel
theorem dX7_boxIs_50 : decode cX7_boxIs 50 = .ok (.iload_n 1, 1) := by decide +kernel
theorem dX7_boxIs_51 : decode cX7_boxIs 51 = .ok (.iconst 2, 1) := by decide +kernel
theorem dX7_boxIs_52 : decode cX7_boxIs 52 = .ok (.if_icmp .ge 12, 3) := by decide +kernel
theorem dX7_boxIs_55 : decode cX7_boxIs 55 = .ok (.iload_n 2, 1) := by decide +kernel
theorem dX7_boxIs_56 : decode cX7_boxIs 56 = .ok (.iload 4, 2) := by decide +kernel
theorem dX7_boxIs_58 : decode cX7_boxIs 58 = .ok (.invokestatic 74, 3) := by decide +kernel
theorem dX7_boxIs_61 : decode cX7_boxIs 61 = .ok (.goto 9, 3) := by decide +kernel
theorem dX7_boxIs_64 : decode cX7_boxIs 64 = .ok (.iload_n 2, 1) := by decide +kernel
theorem dX7_boxIs_65 : decode cX7_boxIs 65 = .ok (.iload 4, 2) := by decide +kernel
theorem dX7_boxIs_67 : decode cX7_boxIs 67 = .ok (.invokestatic 78, 3) := by decide +kernel
theorem dX7_boxIs_70 : decode cX7_boxIs 70 = .ok (.istore_n 2, 1) := by decide +kernel
theorem dX7_boxIs_71 : decode cX7_boxIs 71 = .ok (.iinc 3 1, 3) := by decide +kernel
theorem dX7_boxIs_74 : decode cX7_boxIs 74 = .ok (.goto (-59), 3) := by decide +kernel
theorem dX7_boxIs_77 : decode cX7_boxIs 77 = .ok (.iload_n 2, 1) := by decide +kernel
theorem dX7_boxIs_78 : decode cX7_boxIs 78 = .ok (.ireturn, 1) := by decide +kernel
set_option maxRecDepth 20000 in
theorem ggX7_box_X7_within : GoodIn wsX7_box wsX7_within := goodIn_r _ [4] (by decide +kernel) (by decide +kernel)
set_option maxRecDepth 20000 in
theorem gX7_box_X7_within : GoodIn wsX7_box (va_wsS RX7 52 yX7_within wsX7_within) := goodIn_app (goodIn_of _ (by decide +kernel)) ggX7_box_X7_within
set_option maxRecDepth 20000 in
theorem ggX7_box_X7_boxIs : GoodIn wsX7_box wsX7_boxIs := goodIn_r _ [8, 9, 10, 11, 12, 13, 14, 3, 15, 16, 17, 18, 19, 20, 21, 22, 23, 24, 25, 26, 27, 28, 29, 30, 31, 37, 38, 39, 40, 41, 42, 43, 44, 45, 46, 47, 48, 49, 50, 51, 52, 53, 54, 55] (by decide +kernel) (by decide +kernel)
set_option maxRecDepth 20000 in
theorem gX7_box_X7_boxIs : GoodIn wsX7_box (wsV RX7 136 RX7 yX7_boxIs wsX7_boxIs) := goodIn_app (goodIn_of _ (by decide +kernel)) ggX7_box_X7_boxIs
set_option maxRecDepth 20000 in
theorem ggX7_box_X7_counts : GoodIn wsX7_box wsX7_counts := goodIn_r _ [35, 36, 37, 38, 39, 40, 41, 42, 43, 44, 45, 46, 47, 48, 49, 50, 51, 52, 53, 54, 55] (by decide +kernel) (by decide +kernel)
set_option maxRecDepth 20000 in
theorem gX7_box_X7_counts : GoodIn wsX7_box (wsV RX7 60 RX7 yX7_counts wsX7_counts) := goodIn_app (goodIn_of _ (by decide +kernel)) ggX7_box_X7_counts
theorem dX7_box_0 : decode cX7_box 0 = .ok (.iload_n 1, 1) := by decide +kernel
theorem dX7_box_1 : decode cX7_box 1 = .ok (.iconst 0, 1) := by decide +kernel
theorem dX7_box_2 : decode cX7_box 2 = .ok (.iconst 3, 1) := by decide +kernel
theorem dX7_box_3 : decode cX7_box 3 = .ok (.invokestatic 52, 3) := by decide +kernel
theorem dX7_box_6 : decode cX7_box 6 = .ok (.ifCond .eq 11, 3) := by decide +kernel
theorem dX7_box_9 : decode cX7_box 9 = .ok (.aload_n 0, 1) := by decide +kernel
theorem dX7_box_10 : decode cX7_box 10 = .ok (.iload_n 1, 1) := by decide +kernel
theorem dX7_box_11 : decode cX7_box 11 = .ok (.invokevirtual 136, 3) := by decide +kernel
theorem dX7_box_14 : decode cX7_box 14 = .ok (.goto 10, 3) := by decide +kernel
theorem dX7_box_17 : decode cX7_box 17 = .ok (.aload_n 0, 1) := by decide +kernel
theorem dX7_box_18 : decode cX7_box 18 = .ok (.sipush (-1001), 3) := by decide +kernel
theorem dX7_box_21 : decode cX7_box 21 = .ok (.invokevirtual 60, 3) := by decide +kernel
theorem dX7_box_24 : decode cX7_box 24 = .ok (.ireturn, 1) := by decide +kernel
set_option maxRecDepth 20000 in
theorem ggX7_hits_X7_isBend : GoodIn wsX7_hits wsX7_isBend := goodIn_r _ [6, 1, 7, 8, 5, 9, 53, 54, 55, 56, 57, 58, 59, 60, 61, 62, 63, 64, 65, 66, 67, 68, 69, 70, 71] (by decide +kernel) (by decide +kernel)
set_option maxRecDepth 20000 in
theorem gX7_hits_X7_isBend : GoodIn wsX7_hits (wsV RX7 123 RX7 yX7_isBend wsX7_isBend) := goodIn_app (goodIn_of _ (by decide +kernel)) ggX7_hits_X7_isBend
set_option maxRecDepth 20000 in
theorem ggX7_hits_X7_counts : GoodIn wsX7_hits wsX7_counts := goodIn_r _ [13, 14, 53, 54, 55, 56, 57, 58, 59, 60, 61, 62, 63, 64, 65, 66, 67, 68, 69, 70, 71] (by decide +kernel) (by decide +kernel)
set_option maxRecDepth 20000 in
theorem gX7_hits_X7_counts : GoodIn wsX7_hits (wsV RX7 60 RX7 yX7_counts wsX7_counts) := goodIn_app (goodIn_of _ (by decide +kernel)) ggX7_hits_X7_counts
set_option maxRecDepth 20000 in
theorem ggX7_hits_X7_has : GoodIn wsX7_hits wsX7_has := goodIn_r _ [17] (by decide +kernel) (by decide +kernel)
set_option maxRecDepth 20000 in
theorem gX7_hits_X7_has : GoodIn wsX7_hits (va_wsS RX7 70 yX7_has wsX7_has) := goodIn_app (goodIn_of _ (by decide +kernel)) ggX7_hits_X7_has
set_option maxRecDepth 20000 in
theorem ggX7_hits_X7_hitBy : GoodIn wsX7_hits wsX7_hitBy := goodIn_r _ [21, 1, 22, 23, 24, 5, 25, 26, 27, 28, 29, 30, 31, 32, 33, 34, 15, 16, 17, 35, 36, 37, 38, 39, 40, 41, 42, 43, 44, 45, 46, 47, 48, 49, 50, 51, 52, 53, 54, 55, 56, 57, 58, 59, 60, 61, 62, 63, 64, 65, 66, 67, 68, 69, 70, 71] (by decide +kernel) (by decide +kernel)
set_option maxRecDepth 20000 in
theorem gX7_hits_X7_hitBy : GoodIn wsX7_hits (wsV RX7 95 RX7 yX7_hitBy wsX7_hitBy) := goodIn_app (goodIn_of _ (by decide +kernel)) ggX7_hits_X7_hitBy
theorem dX7_hits_0 : decode cX7_hits 0 = .ok (.aload_n 0, 1) := by decide +kernel
theorem dX7_hits_1 : decode cX7_hits 1 = .ok (.iload_n 1, 1) := by decide +kernel
theorem dX7_hits_2 : decode cX7_hits 2 = .ok (.invokevirtual 123, 3) := by decide +kernel
theorem dX7_hits_5 : decode cX7_hits 5 = .ok (.ifCond .ne 11, 3) := by decide +kernel
theorem dX7_hits_8 : decode cX7_hits 8 = .ok (.aload_n 0, 1) := by decide +kernel
theorem dX7_hits_9 : decode cX7_hits 9 = .ok (.sipush (-1001), 3) := by decide +kernel
theorem dX7_hits_12 : decode cX7_hits 12 = .ok (.invokevirtual 60, 3) := by decide +kernel
theorem dX7_hits_15 : decode cX7_hits 15 = .ok (.ireturn, 1) := by decide +kernel
theorem dX7_hits_16 : decode cX7_hits 16 = .ok (.aload_n 0, 1) := by decide +kernel
theorem dX7_hits_17 : decode cX7_hits 17 = .ok (.getfield 7, 3) := by decide +kernel
theorem dX7_hits_20 : decode cX7_hits 20 = .ok (.bipush 20, 2) := by decide +kernel
theorem dX7_hits_22 : decode cX7_hits 22 = .ok (.iaload, 1) := by decide +kernel
theorem dX7_hits_23 : decode cX7_hits 23 = .ok (.iload_n 1, 1) := by decide +kernel
theorem dX7_hits_24 : decode cX7_hits 24 = .ok (.invokestatic 70, 3) := by decide +kernel
theorem dX7_hits_27 : decode cX7_hits 27 = .ok (.ifCond .eq 13, 3) := by decide +kernel
theorem dX7_hits_30 : decode cX7_hits 30 = .ok (.aload_n 0, 1) := by decide +kernel
theorem dX7_hits_31 : decode cX7_hits 31 = .ok (.sipush (-1002), 3) := by decide +kernel
theorem dX7_hits_34 : decode cX7_hits 34 = .ok (.invokevirtual 60, 3) := by decide +kernel
theorem dX7_hits_37 : decode cX7_hits 37 = .ok (.goto 15, 3) := by decide +kernel
theorem dX7_hits_40 : decode cX7_hits 40 = .ok (.aload_n 0, 1) := by decide +kernel
theorem dX7_hits_41 : decode cX7_hits 41 = .ok (.iload_n 1, 1) := by decide +kernel
theorem dX7_hits_42 : decode cX7_hits 42 = .ok (.aload_n 0, 1) := by decide +kernel
theorem dX7_hits_43 : decode cX7_hits 43 = .ok (.getfield 7, 3) := by decide +kernel
theorem dX7_hits_46 : decode cX7_hits 46 = .ok (.bipush 20, 2) := by decide +kernel
theorem dX7_hits_48 : decode cX7_hits 48 = .ok (.iaload, 1) := by decide +kernel
theorem dX7_hits_49 : decode cX7_hits 49 = .ok (.invokevirtual 95, 3) := by decide +kernel
theorem dX7_hits_52 : decode cX7_hits 52 = .ok (.ireturn, 1) := by decide +kernel
set_option maxRecDepth 20000 in
theorem ggX7_free_X7_isFree : GoodIn wsX7_free wsX7_isFree := goodIn_r _ [6, 7, 8, 5, 9, 10, 11, 12, 13, 1, 14, 15, 16, 17, 18, 19, 20, 21, 22, 23, 24, 25, 26, 27, 28, 29, 30, 31, 32, 33, 34, 35, 36, 37, 38, 39, 40, 41, 42, 43, 44, 45, 46, 47, 48, 49, 50, 51, 52, 53, 54, 55, 56, 57, 58, 59, 60, 61, 62, 63] (by decide +kernel) (by decide +kernel)
set_option maxRecDepth 20000 in
theorem gX7_free_X7_isFree : GoodIn wsX7_free (wsV RX7 127 RX7 yX7_isFree wsX7_isFree) := goodIn_app (goodIn_of _ (by decide +kernel)) ggX7_free_X7_isFree
theorem dX7_free_0 : decode cX7_free 0 = .ok (.iconst 0, 1) := by decide +kernel
theorem dX7_free_1 : decode cX7_free 1 = .ok (.istore_n 1, 1) := by decide +kernel
theorem dX7_free_2 : decode cX7_free 2 = .ok (.iconst 0, 1) := by decide +kernel
theorem dX7_free_3 : decode cX7_free 3 = .ok (.istore_n 2, 1) := by decide +kernel
theorem dX7_free_4 : decode cX7_free 4 = .ok (.iload_n 2, 1) := by decide +kernel
theorem dX7_free_5 : decode cX7_free 5 = .ok (.aload_n 0, 1) := by decide +kernel
theorem dX7_free_6 : decode cX7_free 6 = .ok (.getfield 7, 3) := by decide +kernel
theorem dX7_free_9 : decode cX7_free 9 = .ok (.iconst 0, 1) := by decide +kernel
theorem dX7_free_10 : decode cX7_free 10 = .ok (.iaload, 1) := by decide +kernel
theorem dX7_free_11 : decode cX7_free 11 = .ok (.if_icmp .ge 34, 3) := by decide +kernel
theorem dX7_free_14 : decode cX7_free 14 = .ok (.iload_n 1, 1) := by decide +kernel
theorem dX7_free_15 : decode cX7_free 15 = .ok (.aload_n 0, 1) := by decide +kernel
theorem dX7_free_16 : decode cX7_free 16 = .ok (.iload_n 2, 1) := by decide +kernel
theorem dX7_free_17 : decode cX7_free 17 = .ok (.aload_n 0, 1) := by decide +kernel
theorem dX7_free_18 : decode cX7_free 18 = .ok (.getfield 7, 3) := by decide +kernel
theorem dX7_free_21 : decode cX7_free 21 = .ok (.bipush 20, 2) := by decide +kernel
theorem dX7_free_23 : decode cX7_free 23 = .ok (.iaload, 1) := by decide +kernel
theorem dX7_free_24 : decode cX7_free 24 = .ok (.invokevirtual 127, 3) := by decide +kernel
theorem dX7_free_27 : decode cX7_free 27 = .ok (.ifCond .eq 9, 3) := by decide +kernel
theorem dX7_free_30 : decode cX7_free 30 = .ok (.iconst 1, 1) := by decide +kernel
theorem dX7_free_31 : decode cX7_free 31 = .ok (.iload_n 2, 1) := by decide +kernel
theorem dX7_free_32 : decode cX7_free 32 = .ok (.ishl, 1) := by decide +kernel
theorem dX7_free_33 : decode cX7_free 33 = .ok (.goto 4, 3) := by decide +kernel
theorem dX7_free_36 : decode cX7_free 36 = .ok (.iconst 0, 1) := by decide +kernel
theorem dX7_free_37 : decode cX7_free 37 = .ok (.ior, 1) := by decide +kernel
theorem dX7_free_38 : decode cX7_free 38 = .ok (.istore_n 1, 1) := by decide +kernel
theorem dX7_free_39 : decode cX7_free 39 = .ok (.iinc 2 1, 3) := by decide +kernel
theorem dX7_free_42 : decode cX7_free 42 = .ok (.goto (-38), 3) := by decide +kernel
theorem dX7_free_45 : decode cX7_free 45 = .ok (.iload_n 1, 1) := by decide +kernel
theorem dX7_free_46 : decode cX7_free 46 = .ok (.ireturn, 1) := by decide +kernel
set_option maxRecDepth 20000 in
theorem ggX7_laysOrders_X7_allMade : GoodIn wsX7_laysOrders wsX7_allMade := goodIn_r _ [9, 4, 56, 57, 58, 59, 60, 61, 62, 63, 64, 65, 66, 67, 68, 69, 70, 71, 72, 73, 74] (by decide +kernel) (by decide +kernel)
set_option maxRecDepth 20000 in
theorem gX7_laysOrders_X7_allMade : GoodIn wsX7_laysOrders (wsV RX7 139 RX7 yX7_allMade wsX7_allMade) := goodIn_app (goodIn_of _ (by decide +kernel)) ggX7_laysOrders_X7_allMade
set_option maxRecDepth 20000 in
theorem ggX7_laysOrders_X7_isFree : GoodIn wsX7_laysOrders wsX7_isFree := goodIn_r _ [13, 14, 15, 8, 16, 17, 18, 19, 20, 4, 21, 22, 23, 24, 25, 26, 27, 28, 29, 30, 31, 32, 33, 34, 35, 36, 37, 38, 39, 40, 41, 42, 43, 44, 45, 46, 47, 48, 49, 50, 51, 56, 57, 58, 59, 60, 61, 62, 63, 64, 65, 66, 67, 68, 69, 70, 71, 72, 73, 74] (by decide +kernel) (by decide +kernel)
set_option maxRecDepth 20000 in
theorem gX7_laysOrders_X7_isFree : GoodIn wsX7_laysOrders (wsV RX7 127 RX7 yX7_isFree wsX7_isFree) := goodIn_app (goodIn_of _ (by decide +kernel)) ggX7_laysOrders_X7_isFree
set_option maxRecDepth 20000 in
theorem ggX7_laysOrders_X7_changesBy : GoodIn wsX7_laysOrders wsX7_changesBy := goodIn_r _ [55, 4, 3, 56, 57, 58, 59, 60, 61, 62, 63, 64, 65, 66, 67, 68, 69, 70, 71, 72, 73, 74] (by decide +kernel) (by decide +kernel)
set_option maxRecDepth 20000 in
theorem gX7_laysOrders_X7_changesBy : GoodIn wsX7_laysOrders (wsV RX7 143 RX7 yX7_changesBy wsX7_changesBy) := goodIn_app (goodIn_of _ (by decide +kernel)) ggX7_laysOrders_X7_changesBy
set_option maxRecDepth 20000 in
theorem ggX7_laysOrders_X7_lesser : GoodIn wsX7_laysOrders wsX7_lesser := goodIn_r _ [44] (by decide +kernel) (by decide +kernel)
set_option maxRecDepth 20000 in
theorem gX7_laysOrders_X7_lesser : GoodIn wsX7_laysOrders (va_wsS RX7 74 yX7_lesser wsX7_lesser) := goodIn_app (goodIn_of _ (by decide +kernel)) ggX7_laysOrders_X7_lesser
theorem dX7_laysOrders_0 : decode cX7_laysOrders 0 = .ok (.aload_n 0, 1) := by decide +kernel
theorem dX7_laysOrders_1 : decode cX7_laysOrders 1 = .ok (.invokevirtual 139, 3) := by decide +kernel
theorem dX7_laysOrders_4 : decode cX7_laysOrders 4 = .ok (.istore_n 1, 1) := by decide +kernel
theorem dX7_laysOrders_5 : decode cX7_laysOrders 5 = .ok (.iload_n 1, 1) := by decide +kernel
theorem dX7_laysOrders_6 : decode cX7_laysOrders 6 = .ok (.ifCond .lt 174, 3) := by decide +kernel
theorem dX7_laysOrders_9 : decode cX7_laysOrders 9 = .ok (.aload_n 0, 1) := by decide +kernel
theorem dX7_laysOrders_10 : decode cX7_laysOrders 10 = .ok (.getfield 34, 3) := by decide +kernel
theorem dX7_laysOrders_13 : decode cX7_laysOrders 13 = .ok (.iload_n 1, 1) := by decide +kernel
theorem dX7_laysOrders_14 : decode cX7_laysOrders 14 = .ok (.iconst 0, 1) := by decide +kernel
theorem dX7_laysOrders_15 : decode cX7_laysOrders 15 = .ok (.iastore, 1) := by decide +kernel
theorem dX7_laysOrders_16 : decode cX7_laysOrders 16 = .ok (.aload_n 0, 1) := by decide +kernel
theorem dX7_laysOrders_17 : decode cX7_laysOrders 17 = .ok (.getfield 37, 3) := by decide +kernel
theorem dX7_laysOrders_20 : decode cX7_laysOrders 20 = .ok (.iload_n 1, 1) := by decide +kernel
theorem dX7_laysOrders_21 : decode cX7_laysOrders 21 = .ok (.iload_n 1, 1) := by decide +kernel
theorem dX7_laysOrders_22 : decode cX7_laysOrders 22 = .ok (.aload_n 0, 1) := by decide +kernel
theorem dX7_laysOrders_23 : decode cX7_laysOrders 23 = .ok (.invokevirtual 139, 3) := by decide +kernel
theorem dX7_laysOrders_26 : decode cX7_laysOrders 26 = .ok (.if_icmp .ne 7, 3) := by decide +kernel
theorem dX7_laysOrders_29 : decode cX7_laysOrders 29 = .ok (.iconst 1, 1) := by decide +kernel
theorem dX7_laysOrders_30 : decode cX7_laysOrders 30 = .ok (.goto 4, 3) := by decide +kernel
theorem dX7_laysOrders_33 : decode cX7_laysOrders 33 = .ok (.iconst 0, 1) := by decide +kernel
theorem dX7_laysOrders_34 : decode cX7_laysOrders 34 = .ok (.iastore, 1) := by decide +kernel
theorem dX7_laysOrders_35 : decode cX7_laysOrders 35 = .ok (.iconst 0, 1) := by decide +kernel
theorem dX7_laysOrders_36 : decode cX7_laysOrders 36 = .ok (.istore_n 2, 1) := by decide +kernel
theorem dX7_laysOrders_37 : decode cX7_laysOrders 37 = .ok (.iload_n 2, 1) := by decide +kernel
theorem dX7_laysOrders_38 : decode cX7_laysOrders 38 = .ok (.iconst 4, 1) := by decide +kernel
theorem dX7_laysOrders_39 : decode cX7_laysOrders 39 = .ok (.if_icmp .ge 34, 3) := by decide +kernel
theorem dX7_laysOrders_42 : decode cX7_laysOrders 42 = .ok (.aload_n 0, 1) := by decide +kernel
theorem dX7_laysOrders_43 : decode cX7_laysOrders 43 = .ok (.getfield 40, 3) := by decide +kernel
theorem dX7_laysOrders_46 : decode cX7_laysOrders 46 = .ok (.iconst 4, 1) := by decide +kernel
theorem dX7_laysOrders_47 : decode cX7_laysOrders 47 = .ok (.iload_n 1, 1) := by decide +kernel
theorem dX7_laysOrders_48 : decode cX7_laysOrders 48 = .ok (.imul, 1) := by decide +kernel
theorem dX7_laysOrders_49 : decode cX7_laysOrders 49 = .ok (.iload_n 2, 1) := by decide +kernel
theorem dX7_laysOrders_50 : decode cX7_laysOrders 50 = .ok (.iadd, 1) := by decide +kernel
theorem dX7_laysOrders_51 : decode cX7_laysOrders 51 = .ok (.iload_n 1, 1) := by decide +kernel
theorem dX7_laysOrders_52 : decode cX7_laysOrders 52 = .ok (.aload_n 0, 1) := by decide +kernel
theorem dX7_laysOrders_53 : decode cX7_laysOrders 53 = .ok (.invokevirtual 139, 3) := by decide +kernel
theorem dX7_laysOrders_56 : decode cX7_laysOrders 56 = .ok (.if_icmp .ne 7, 3) := by decide +kernel
theorem dX7_laysOrders_59 : decode cX7_laysOrders 59 = .ok (.iconst 0, 1) := by decide +kernel
theorem dX7_laysOrders_60 : decode cX7_laysOrders 60 = .ok (.goto 6, 3) := by decide +kernel
theorem dX7_laysOrders_63 : decode cX7_laysOrders 63 = .ok (.sipush 1000, 3) := by decide +kernel
theorem dX7_laysOrders_66 : decode cX7_laysOrders 66 = .ok (.iastore, 1) := by decide +kernel
theorem dX7_laysOrders_67 : decode cX7_laysOrders 67 = .ok (.iinc 2 1, 3) := by decide +kernel
theorem dX7_laysOrders_70 : decode cX7_laysOrders 70 = .ok (.goto (-33), 3) := by decide +kernel
theorem dX7_laysOrders_73 : decode cX7_laysOrders 73 = .ok (.iconst 0, 1) := by decide +kernel
theorem dX7_laysOrders_74 : decode cX7_laysOrders 74 = .ok (.istore_n 2, 1) := by decide +kernel
theorem dX7_laysOrders_75 : decode cX7_laysOrders 75 = .ok (.iload_n 2, 1) := by decide +kernel
theorem dX7_laysOrders_76 : decode cX7_laysOrders 76 = .ok (.aload_n 0, 1) := by decide +kernel
theorem dX7_laysOrders_77 : decode cX7_laysOrders 77 = .ok (.getfield 7, 3) := by decide +kernel
theorem dX7_laysOrders_80 : decode cX7_laysOrders 80 = .ok (.iconst 0, 1) := by decide +kernel
theorem dX7_laysOrders_81 : decode cX7_laysOrders 81 = .ok (.iaload, 1) := by decide +kernel
theorem dX7_laysOrders_82 : decode cX7_laysOrders 82 = .ok (.if_icmp .ge 92, 3) := by decide +kernel
theorem dX7_laysOrders_85 : decode cX7_laysOrders 85 = .ok (.aload_n 0, 1) := by decide +kernel
theorem dX7_laysOrders_86 : decode cX7_laysOrders 86 = .ok (.iload_n 2, 1) := by decide +kernel
theorem dX7_laysOrders_87 : decode cX7_laysOrders 87 = .ok (.iload_n 1, 1) := by decide +kernel
theorem dX7_laysOrders_88 : decode cX7_laysOrders 88 = .ok (.invokevirtual 127, 3) := by decide +kernel
theorem dX7_laysOrders_91 : decode cX7_laysOrders 91 = .ok (.ifCond .eq 77, 3) := by decide +kernel
theorem dX7_laysOrders_94 : decode cX7_laysOrders 94 = .ok (.aload_n 0, 1) := by decide +kernel
theorem dX7_laysOrders_95 : decode cX7_laysOrders 95 = .ok (.getfield 34, 3) := by decide +kernel
theorem dX7_laysOrders_98 : decode cX7_laysOrders 98 = .ok (.iload_n 1, 1) := by decide +kernel
theorem dX7_laysOrders_99 : decode cX7_laysOrders 99 = .ok (.dup2, 1) := by decide +kernel
theorem dX7_laysOrders_100 : decode cX7_laysOrders 100 = .ok (.iaload, 1) := by decide +kernel
theorem dX7_laysOrders_101 : decode cX7_laysOrders 101 = .ok (.iconst 1, 1) := by decide +kernel
theorem dX7_laysOrders_102 : decode cX7_laysOrders 102 = .ok (.iload_n 2, 1) := by decide +kernel
theorem dX7_laysOrders_103 : decode cX7_laysOrders 103 = .ok (.ishl, 1) := by decide +kernel
theorem dX7_laysOrders_104 : decode cX7_laysOrders 104 = .ok (.ior, 1) := by decide +kernel
theorem dX7_laysOrders_105 : decode cX7_laysOrders 105 = .ok (.iastore, 1) := by decide +kernel
theorem dX7_laysOrders_106 : decode cX7_laysOrders 106 = .ok (.aload_n 0, 1) := by decide +kernel
theorem dX7_laysOrders_107 : decode cX7_laysOrders 107 = .ok (.getfield 37, 3) := by decide +kernel
theorem dX7_laysOrders_110 : decode cX7_laysOrders 110 = .ok (.iload_n 1, 1) := by decide +kernel
theorem dX7_laysOrders_111 : decode cX7_laysOrders 111 = .ok (.dup2, 1) := by decide +kernel
theorem dX7_laysOrders_112 : decode cX7_laysOrders 112 = .ok (.iaload, 1) := by decide +kernel
theorem dX7_laysOrders_113 : decode cX7_laysOrders 113 = .ok (.aload_n 0, 1) := by decide +kernel
theorem dX7_laysOrders_114 : decode cX7_laysOrders 114 = .ok (.getfield 37, 3) := by decide +kernel
theorem dX7_laysOrders_117 : decode cX7_laysOrders 117 = .ok (.iload_n 1, 1) := by decide +kernel
theorem dX7_laysOrders_118 : decode cX7_laysOrders 118 = .ok (.iconst 1, 1) := by decide +kernel
theorem dX7_laysOrders_119 : decode cX7_laysOrders 119 = .ok (.iload_n 2, 1) := by decide +kernel
theorem dX7_laysOrders_120 : decode cX7_laysOrders 120 = .ok (.ishl, 1) := by decide +kernel
theorem dX7_laysOrders_121 : decode cX7_laysOrders 121 = .ok (.ior, 1) := by decide +kernel
theorem dX7_laysOrders_122 : decode cX7_laysOrders 122 = .ok (.iaload, 1) := by decide +kernel
theorem dX7_laysOrders_123 : decode cX7_laysOrders 123 = .ok (.iadd, 1) := by decide +kernel
theorem dX7_laysOrders_124 : decode cX7_laysOrders 124 = .ok (.iastore, 1) := by decide +kernel
theorem dX7_laysOrders_125 : decode cX7_laysOrders 125 = .ok (.iconst 0, 1) := by decide +kernel
theorem dX7_laysOrders_126 : decode cX7_laysOrders 126 = .ok (.istore_n 3, 1) := by decide +kernel
theorem dX7_laysOrders_127 : decode cX7_laysOrders 127 = .ok (.iload_n 3, 1) := by decide +kernel
theorem dX7_laysOrders_128 : decode cX7_laysOrders 128 = .ok (.iconst 4, 1) := by decide +kernel
theorem dX7_laysOrders_129 : decode cX7_laysOrders 129 = .ok (.if_icmp .ge 39, 3) := by decide +kernel
theorem dX7_laysOrders_132 : decode cX7_laysOrders 132 = .ok (.aload_n 0, 1) := by decide +kernel
theorem dX7_laysOrders_133 : decode cX7_laysOrders 133 = .ok (.getfield 40, 3) := by decide +kernel
theorem dX7_laysOrders_136 : decode cX7_laysOrders 136 = .ok (.iconst 4, 1) := by decide +kernel
theorem dX7_laysOrders_137 : decode cX7_laysOrders 137 = .ok (.iload_n 1, 1) := by decide +kernel
theorem dX7_laysOrders_138 : decode cX7_laysOrders 138 = .ok (.imul, 1) := by decide +kernel
theorem dX7_laysOrders_139 : decode cX7_laysOrders 139 = .ok (.iload_n 3, 1) := by decide +kernel
theorem dX7_laysOrders_140 : decode cX7_laysOrders 140 = .ok (.iadd, 1) := by decide +kernel
theorem dX7_laysOrders_141 : decode cX7_laysOrders 141 = .ok (.aload_n 0, 1) := by decide +kernel
theorem dX7_laysOrders_142 : decode cX7_laysOrders 142 = .ok (.getfield 40, 3) := by decide +kernel
theorem dX7_laysOrders_145 : decode cX7_laysOrders 145 = .ok (.iconst 4, 1) := by decide +kernel
theorem dX7_laysOrders_146 : decode cX7_laysOrders 146 = .ok (.iload_n 1, 1) := by decide +kernel
theorem dX7_laysOrders_147 : decode cX7_laysOrders 147 = .ok (.imul, 1) := by decide +kernel
theorem dX7_laysOrders_148 : decode cX7_laysOrders 148 = .ok (.iload_n 3, 1) := by decide +kernel
theorem dX7_laysOrders_149 : decode cX7_laysOrders 149 = .ok (.iadd, 1) := by decide +kernel
theorem dX7_laysOrders_150 : decode cX7_laysOrders 150 = .ok (.iaload, 1) := by decide +kernel
theorem dX7_laysOrders_151 : decode cX7_laysOrders 151 = .ok (.aload_n 0, 1) := by decide +kernel
theorem dX7_laysOrders_152 : decode cX7_laysOrders 152 = .ok (.iload_n 1, 1) := by decide +kernel
theorem dX7_laysOrders_153 : decode cX7_laysOrders 153 = .ok (.iload_n 3, 1) := by decide +kernel
theorem dX7_laysOrders_154 : decode cX7_laysOrders 154 = .ok (.iload_n 2, 1) := by decide +kernel
theorem dX7_laysOrders_155 : decode cX7_laysOrders 155 = .ok (.invokevirtual 143, 3) := by decide +kernel
theorem dX7_laysOrders_158 : decode cX7_laysOrders 158 = .ok (.invokestatic 74, 3) := by decide +kernel
theorem dX7_laysOrders_161 : decode cX7_laysOrders 161 = .ok (.iastore, 1) := by decide +kernel
theorem dX7_laysOrders_162 : decode cX7_laysOrders 162 = .ok (.iinc 3 1, 3) := by decide +kernel
theorem dX7_laysOrders_165 : decode cX7_laysOrders 165 = .ok (.goto (-38), 3) := by decide +kernel
theorem dX7_laysOrders_168 : decode cX7_laysOrders 168 = .ok (.iinc 2 1, 3) := by decide +kernel
theorem dX7_laysOrders_171 : decode cX7_laysOrders 171 = .ok (.goto (-96), 3) := by decide +kernel
theorem dX7_laysOrders_174 : decode cX7_laysOrders 174 = .ok (.iinc 1 (-1), 3) := by decide +kernel
theorem dX7_laysOrders_177 : decode cX7_laysOrders 177 = .ok (.goto (-172), 3) := by decide +kernel
theorem dX7_laysOrders_180 : decode cX7_laysOrders 180 = .ok (.return_, 1) := by decide +kernel
theorem dX7_changesBy_0 : decode cX7_changesBy 0 = .ok (.aload_n 0, 1) := by decide +kernel
theorem dX7_changesBy_1 : decode cX7_changesBy 1 = .ok (.getfield 7, 3) := by decide +kernel
theorem dX7_changesBy_4 : decode cX7_changesBy 4 = .ok (.bipush 14, 2) := by decide +kernel
theorem dX7_changesBy_6 : decode cX7_changesBy 6 = .ok (.iload_n 3, 1) := by decide +kernel
theorem dX7_changesBy_7 : decode cX7_changesBy 7 = .ok (.iadd, 1) := by decide +kernel
theorem dX7_changesBy_8 : decode cX7_changesBy 8 = .ok (.iaload, 1) := by decide +kernel
theorem dX7_changesBy_9 : decode cX7_changesBy 9 = .ok (.istore 4, 2) := by decide +kernel
theorem dX7_changesBy_11 : decode cX7_changesBy 11 = .ok (.aload_n 0, 1) := by decide +kernel
theorem dX7_changesBy_12 : decode cX7_changesBy 12 = .ok (.getfield 40, 3) := by decide +kernel
theorem dX7_changesBy_15 : decode cX7_changesBy 15 = .ok (.iconst 4, 1) := by decide +kernel
theorem dX7_changesBy_16 : decode cX7_changesBy 16 = .ok (.iload_n 1, 1) := by decide +kernel
theorem dX7_changesBy_17 : decode cX7_changesBy 17 = .ok (.iconst 1, 1) := by decide +kernel
theorem dX7_changesBy_18 : decode cX7_changesBy 18 = .ok (.iload_n 3, 1) := by decide +kernel
theorem dX7_changesBy_19 : decode cX7_changesBy 19 = .ok (.ishl, 1) := by decide +kernel
theorem dX7_changesBy_20 : decode cX7_changesBy 20 = .ok (.ior, 1) := by decide +kernel
theorem dX7_changesBy_21 : decode cX7_changesBy 21 = .ok (.imul, 1) := by decide +kernel
theorem dX7_changesBy_22 : decode cX7_changesBy 22 = .ok (.iload 4, 2) := by decide +kernel
theorem dX7_changesBy_24 : decode cX7_changesBy 24 = .ok (.iadd, 1) := by decide +kernel
theorem dX7_changesBy_25 : decode cX7_changesBy 25 = .ok (.iaload, 1) := by decide +kernel
theorem dX7_changesBy_26 : decode cX7_changesBy 26 = .ok (.iload_n 2, 1) := by decide +kernel
theorem dX7_changesBy_27 : decode cX7_changesBy 27 = .ok (.iconst 3, 1) := by decide +kernel
theorem dX7_changesBy_28 : decode cX7_changesBy 28 = .ok (.if_icmp .ge 13, 3) := by decide +kernel
theorem dX7_changesBy_31 : decode cX7_changesBy 31 = .ok (.iload_n 2, 1) := by decide +kernel
theorem dX7_changesBy_32 : decode cX7_changesBy 32 = .ok (.iload 4, 2) := by decide +kernel
theorem dX7_changesBy_34 : decode cX7_changesBy 34 = .ok (.if_icmp .eq 7, 3) := by decide +kernel
theorem dX7_changesBy_37 : decode cX7_changesBy 37 = .ok (.iconst 1, 1) := by decide +kernel
theorem dX7_changesBy_38 : decode cX7_changesBy 38 = .ok (.goto 4, 3) := by decide +kernel
theorem dX7_changesBy_41 : decode cX7_changesBy 41 = .ok (.iconst 0, 1) := by decide +kernel
theorem dX7_changesBy_42 : decode cX7_changesBy 42 = .ok (.iadd, 1) := by decide +kernel
theorem dX7_changesBy_43 : decode cX7_changesBy 43 = .ok (.ireturn, 1) := by decide +kernel
set_option maxRecDepth 20000 in
theorem ggX7_orders_X7_laysOrders : GoodIn wsX7_orders wsX7_laysOrders := goodIn_r _ [6, 7, 1, 8, 9, 10, 11, 12, 5, 13, 14, 15, 16, 17, 18, 19, 20, 21, 22, 23, 24, 25, 26, 27, 28, 29, 30, 31, 32, 33, 34, 35, 36, 37, 38, 39, 40, 41, 42, 43, 44, 45, 46, 47, 48, 49, 50, 51, 52, 53, 54, 55, 56, 57, 58, 59, 60, 61, 62, 63, 64, 65, 66, 67, 68, 69, 70, 71, 72, 73, 74, 75, 76, 77, 78] (by decide +kernel) (by decide +kernel)
set_option maxRecDepth 20000 in
theorem gX7_orders_X7_laysOrders : GoodIn wsX7_orders (wsV RX7 146 RX7 yX7_laysOrders wsX7_laysOrders) := goodIn_app (goodIn_of _ (by decide +kernel)) ggX7_orders_X7_laysOrders
theorem dX7_orders_0 : decode cX7_orders 0 = .ok (.aload_n 0, 1) := by decide +kernel
theorem dX7_orders_1 : decode cX7_orders 1 = .ok (.invokevirtual 146, 3) := by decide +kernel
theorem dX7_orders_4 : decode cX7_orders 4 = .ok (.aload_n 0, 1) := by decide +kernel
theorem dX7_orders_5 : decode cX7_orders 5 = .ok (.getfield 37, 3) := by decide +kernel
theorem dX7_orders_8 : decode cX7_orders 8 = .ok (.iconst 0, 1) := by decide +kernel
theorem dX7_orders_9 : decode cX7_orders 9 = .ok (.iaload, 1) := by decide +kernel
theorem dX7_orders_10 : decode cX7_orders 10 = .ok (.ireturn, 1) := by decide +kernel
set_option maxRecDepth 20000 in
theorem ggX7_laysRow_X7_has : GoodIn wsX7_laysRow wsX7_has := goodIn_r _ [9] (by decide +kernel) (by decide +kernel)
set_option maxRecDepth 20000 in
theorem gX7_laysRow_X7_has : GoodIn wsX7_laysRow (va_wsS RX7 70 yX7_has wsX7_has) := goodIn_app (goodIn_of _ (by decide +kernel)) ggX7_laysRow_X7_has
set_option maxRecDepth 20000 in
theorem ggX7_laysRow_X7_changesBy : GoodIn wsX7_laysRow wsX7_changesBy := goodIn_r _ [13, 1, 4, 14, 15, 16, 17, 18, 19, 20, 21, 22, 23, 24, 25, 26, 27, 28, 29, 30, 31, 32] (by decide +kernel) (by decide +kernel)
set_option maxRecDepth 20000 in
theorem gX7_laysRow_X7_changesBy : GoodIn wsX7_laysRow (wsV RX7 143 RX7 yX7_changesBy wsX7_changesBy) := goodIn_app (goodIn_of _ (by decide +kernel)) ggX7_laysRow_X7_changesBy
theorem dX7_laysRow_0 : decode cX7_laysRow 0 = .ok (.iconst 0, 1) := by decide +kernel
theorem dX7_laysRow_1 : decode cX7_laysRow 1 = .ok (.istore_n 2, 1) := by decide +kernel
theorem dX7_laysRow_2 : decode cX7_laysRow 2 = .ok (.iconst 3, 1) := by decide +kernel
theorem dX7_laysRow_3 : decode cX7_laysRow 3 = .ok (.istore_n 3, 1) := by decide +kernel
theorem dX7_laysRow_4 : decode cX7_laysRow 4 = .ok (.iconst 0, 1) := by decide +kernel
theorem dX7_laysRow_5 : decode cX7_laysRow 5 = .ok (.istore 4, 2) := by decide +kernel
theorem dX7_laysRow_7 : decode cX7_laysRow 7 = .ok (.iconst 0, 1) := by decide +kernel
theorem dX7_laysRow_8 : decode cX7_laysRow 8 = .ok (.istore 5, 2) := by decide +kernel
theorem dX7_laysRow_10 : decode cX7_laysRow 10 = .ok (.iload 5, 2) := by decide +kernel
theorem dX7_laysRow_12 : decode cX7_laysRow 12 = .ok (.aload_n 0, 1) := by decide +kernel
theorem dX7_laysRow_13 : decode cX7_laysRow 13 = .ok (.getfield 7, 3) := by decide +kernel
theorem dX7_laysRow_16 : decode cX7_laysRow 16 = .ok (.iconst 0, 1) := by decide +kernel
theorem dX7_laysRow_17 : decode cX7_laysRow 17 = .ok (.iaload, 1) := by decide +kernel
theorem dX7_laysRow_18 : decode cX7_laysRow 18 = .ok (.if_icmp .ge 128, 3) := by decide +kernel
theorem dX7_laysRow_21 : decode cX7_laysRow 21 = .ok (.iconst 0, 1) := by decide +kernel
theorem dX7_laysRow_22 : decode cX7_laysRow 22 = .ok (.istore 6, 2) := by decide +kernel
theorem dX7_laysRow_24 : decode cX7_laysRow 24 = .ok (.aload_n 0, 1) := by decide +kernel
theorem dX7_laysRow_25 : decode cX7_laysRow 25 = .ok (.getfield 34, 3) := by decide +kernel
theorem dX7_laysRow_28 : decode cX7_laysRow 28 = .ok (.iload_n 2, 1) := by decide +kernel
theorem dX7_laysRow_29 : decode cX7_laysRow 29 = .ok (.iaload, 1) := by decide +kernel
theorem dX7_laysRow_30 : decode cX7_laysRow 30 = .ok (.iload 6, 2) := by decide +kernel
theorem dX7_laysRow_32 : decode cX7_laysRow 32 = .ok (.invokestatic 70, 3) := by decide +kernel
theorem dX7_laysRow_35 : decode cX7_laysRow 35 = .ok (.ifCond .eq 43, 3) := by decide +kernel
theorem dX7_laysRow_38 : decode cX7_laysRow 38 = .ok (.aload_n 0, 1) := by decide +kernel
theorem dX7_laysRow_39 : decode cX7_laysRow 39 = .ok (.getfield 37, 3) := by decide +kernel
theorem dX7_laysRow_42 : decode cX7_laysRow 42 = .ok (.iload_n 2, 1) := by decide +kernel
theorem dX7_laysRow_43 : decode cX7_laysRow 43 = .ok (.iconst 1, 1) := by decide +kernel
theorem dX7_laysRow_44 : decode cX7_laysRow 44 = .ok (.iload 6, 2) := by decide +kernel
theorem dX7_laysRow_46 : decode cX7_laysRow 46 = .ok (.ishl, 1) := by decide +kernel
theorem dX7_laysRow_47 : decode cX7_laysRow 47 = .ok (.ior, 1) := by decide +kernel
theorem dX7_laysRow_48 : decode cX7_laysRow 48 = .ok (.iaload, 1) := by decide +kernel
theorem dX7_laysRow_49 : decode cX7_laysRow 49 = .ok (.ifCond .eq 29, 3) := by decide +kernel
theorem dX7_laysRow_52 : decode cX7_laysRow 52 = .ok (.iload_n 1, 1) := by decide +kernel
theorem dX7_laysRow_53 : decode cX7_laysRow 53 = .ok (.iconst 1, 1) := by decide +kernel
theorem dX7_laysRow_54 : decode cX7_laysRow 54 = .ok (.if_icmp .ne 30, 3) := by decide +kernel
theorem dX7_laysRow_57 : decode cX7_laysRow 57 = .ok (.aload_n 0, 1) := by decide +kernel
theorem dX7_laysRow_58 : decode cX7_laysRow 58 = .ok (.iload_n 2, 1) := by decide +kernel
theorem dX7_laysRow_59 : decode cX7_laysRow 59 = .ok (.iload_n 3, 1) := by decide +kernel
theorem dX7_laysRow_60 : decode cX7_laysRow 60 = .ok (.iload 6, 2) := by decide +kernel
theorem dX7_laysRow_62 : decode cX7_laysRow 62 = .ok (.invokevirtual 143, 3) := by decide +kernel
theorem dX7_laysRow_65 : decode cX7_laysRow 65 = .ok (.aload_n 0, 1) := by decide +kernel
theorem dX7_laysRow_66 : decode cX7_laysRow 66 = .ok (.getfield 40, 3) := by decide +kernel
theorem dX7_laysRow_69 : decode cX7_laysRow 69 = .ok (.iconst 4, 1) := by decide +kernel
theorem dX7_laysRow_70 : decode cX7_laysRow 70 = .ok (.iload_n 2, 1) := by decide +kernel
theorem dX7_laysRow_71 : decode cX7_laysRow 71 = .ok (.imul, 1) := by decide +kernel
theorem dX7_laysRow_72 : decode cX7_laysRow 72 = .ok (.iload_n 3, 1) := by decide +kernel
theorem dX7_laysRow_73 : decode cX7_laysRow 73 = .ok (.iadd, 1) := by decide +kernel
theorem dX7_laysRow_74 : decode cX7_laysRow 74 = .ok (.iaload, 1) := by decide +kernel
theorem dX7_laysRow_75 : decode cX7_laysRow 75 = .ok (.if_icmp .eq 9, 3) := by decide +kernel
theorem dX7_laysRow_78 : decode cX7_laysRow 78 = .ok (.iinc 6 1, 3) := by decide +kernel
theorem dX7_laysRow_81 : decode cX7_laysRow 81 = .ok (.goto (-57), 3) := by decide +kernel
theorem dX7_laysRow_84 : decode cX7_laysRow 84 = .ok (.iload 4, 2) := by decide +kernel
theorem dX7_laysRow_86 : decode cX7_laysRow 86 = .ok (.iload_n 3, 1) := by decide +kernel
theorem dX7_laysRow_87 : decode cX7_laysRow 87 = .ok (.iconst 3, 1) := by decide +kernel
theorem dX7_laysRow_88 : decode cX7_laysRow 88 = .ok (.if_icmp .ge 21, 3) := by decide +kernel
theorem dX7_laysRow_91 : decode cX7_laysRow 91 = .ok (.iload_n 3, 1) := by decide +kernel
theorem dX7_laysRow_92 : decode cX7_laysRow 92 = .ok (.aload_n 0, 1) := by decide +kernel
theorem dX7_laysRow_93 : decode cX7_laysRow 93 = .ok (.getfield 7, 3) := by decide +kernel
theorem dX7_laysRow_96 : decode cX7_laysRow 96 = .ok (.bipush 14, 2) := by decide +kernel
theorem dX7_laysRow_98 : decode cX7_laysRow 98 = .ok (.iload 6, 2) := by decide +kernel
theorem dX7_laysRow_100 : decode cX7_laysRow 100 = .ok (.iadd, 1) := by decide +kernel
theorem dX7_laysRow_101 : decode cX7_laysRow 101 = .ok (.iaload, 1) := by decide +kernel
theorem dX7_laysRow_102 : decode cX7_laysRow 102 = .ok (.if_icmp .eq 7, 3) := by decide +kernel
theorem dX7_laysRow_105 : decode cX7_laysRow 105 = .ok (.iconst 1, 1) := by decide +kernel
theorem dX7_laysRow_106 : decode cX7_laysRow 106 = .ok (.goto 4, 3) := by decide +kernel
theorem dX7_laysRow_109 : decode cX7_laysRow 109 = .ok (.iconst 0, 1) := by decide +kernel
theorem dX7_laysRow_110 : decode cX7_laysRow 110 = .ok (.iadd, 1) := by decide +kernel
theorem dX7_laysRow_111 : decode cX7_laysRow 111 = .ok (.istore 4, 2) := by decide +kernel
theorem dX7_laysRow_113 : decode cX7_laysRow 113 = .ok (.aload_n 0, 1) := by decide +kernel
theorem dX7_laysRow_114 : decode cX7_laysRow 114 = .ok (.getfield 43, 3) := by decide +kernel
theorem dX7_laysRow_117 : decode cX7_laysRow 117 = .ok (.iload 5, 2) := by decide +kernel
theorem dX7_laysRow_119 : decode cX7_laysRow 119 = .ok (.iload 6, 2) := by decide +kernel
theorem dX7_laysRow_121 : decode cX7_laysRow 121 = .ok (.iastore, 1) := by decide +kernel
theorem dX7_laysRow_122 : decode cX7_laysRow 122 = .ok (.iload_n 2, 1) := by decide +kernel
theorem dX7_laysRow_123 : decode cX7_laysRow 123 = .ok (.iconst 1, 1) := by decide +kernel
theorem dX7_laysRow_124 : decode cX7_laysRow 124 = .ok (.iload 6, 2) := by decide +kernel
theorem dX7_laysRow_126 : decode cX7_laysRow 126 = .ok (.ishl, 1) := by decide +kernel
theorem dX7_laysRow_127 : decode cX7_laysRow 127 = .ok (.ior, 1) := by decide +kernel
theorem dX7_laysRow_128 : decode cX7_laysRow 128 = .ok (.istore_n 2, 1) := by decide +kernel
theorem dX7_laysRow_129 : decode cX7_laysRow 129 = .ok (.aload_n 0, 1) := by decide +kernel
theorem dX7_laysRow_130 : decode cX7_laysRow 130 = .ok (.getfield 7, 3) := by decide +kernel
theorem dX7_laysRow_133 : decode cX7_laysRow 133 = .ok (.bipush 14, 2) := by decide +kernel
theorem dX7_laysRow_135 : decode cX7_laysRow 135 = .ok (.iload 6, 2) := by decide +kernel
theorem dX7_laysRow_137 : decode cX7_laysRow 137 = .ok (.iadd, 1) := by decide +kernel
theorem dX7_laysRow_138 : decode cX7_laysRow 138 = .ok (.iaload, 1) := by decide +kernel
theorem dX7_laysRow_139 : decode cX7_laysRow 139 = .ok (.istore_n 3, 1) := by decide +kernel
theorem dX7_laysRow_140 : decode cX7_laysRow 140 = .ok (.iinc 5 1, 3) := by decide +kernel
theorem dX7_laysRow_143 : decode cX7_laysRow 143 = .ok (.goto (-133), 3) := by decide +kernel
theorem dX7_laysRow_146 : decode cX7_laysRow 146 = .ok (.iload 4, 2) := by decide +kernel
theorem dX7_laysRow_148 : decode cX7_laysRow 148 = .ok (.ireturn, 1) := by decide +kernel
set_option maxRecDepth 20000 in
theorem ggX7_order_X7_isBend : GoodIn wsX7_order wsX7_isBend := goodIn_r _ [6, 7, 8, 9, 5, 10, 81, 82, 83, 84, 85, 86, 87, 88, 89, 90, 91, 92, 93, 94, 95, 96, 97, 98, 99] (by decide +kernel) (by decide +kernel)
set_option maxRecDepth 20000 in
theorem gX7_order_X7_isBend : GoodIn wsX7_order (wsV RX7 123 RX7 yX7_isBend wsX7_isBend) := goodIn_app (goodIn_of _ (by decide +kernel)) ggX7_order_X7_isBend
set_option maxRecDepth 20000 in
theorem ggX7_order_X7_within : GoodIn wsX7_order wsX7_within := goodIn_r _ [10] (by decide +kernel) (by decide +kernel)
set_option maxRecDepth 20000 in
theorem gX7_order_X7_within : GoodIn wsX7_order (va_wsS RX7 52 yX7_within wsX7_within) := goodIn_app (goodIn_of _ (by decide +kernel)) ggX7_order_X7_within
set_option maxRecDepth 20000 in
theorem ggX7_order_X7_counts : GoodIn wsX7_order wsX7_counts := goodIn_r _ [14, 15, 81, 82, 83, 84, 85, 86, 87, 88, 89, 90, 91, 92, 93, 94, 95, 96, 97, 98, 99] (by decide +kernel) (by decide +kernel)
set_option maxRecDepth 20000 in
theorem gX7_order_X7_counts : GoodIn wsX7_order (wsV RX7 60 RX7 yX7_counts wsX7_counts) := goodIn_app (goodIn_of _ (by decide +kernel)) ggX7_order_X7_counts
set_option maxRecDepth 20000 in
theorem ggX7_order_X7_orders : GoodIn wsX7_order wsX7_orders := goodIn_r _ [19, 20, 21, 22, 23, 5, 24, 25, 26, 7, 27, 28, 29, 30, 31, 32, 33, 34, 35, 36, 37, 38, 39, 40, 41, 42, 43, 44, 45, 46, 47, 48, 49, 50, 51, 52, 53, 54, 55, 56, 57, 58, 59, 60, 61, 62, 63, 64, 65, 66, 67, 68, 69, 70, 71, 72, 73, 74, 75, 76, 81, 82, 83, 84, 85, 86, 87, 88, 89, 90, 91, 92, 93, 94, 95, 96, 97, 98, 99] (by decide +kernel) (by decide +kernel)
set_option maxRecDepth 20000 in
theorem gX7_order_X7_orders : GoodIn wsX7_order (wsV RX7 149 RX7 yX7_orders wsX7_orders) := goodIn_app (goodIn_of _ (by decide +kernel)) ggX7_order_X7_orders
set_option maxRecDepth 20000 in
theorem ggX7_order_X7_laysRow : GoodIn wsX7_order wsX7_laysRow := goodIn_r _ [80, 7, 25, 20, 26, 1, 35, 36, 5, 37, 73, 74, 75, 76, 81, 82, 83, 84, 85, 86, 87, 88, 89, 90, 91, 92, 93, 94, 95, 96, 97, 98, 99] (by decide +kernel) (by decide +kernel)
set_option maxRecDepth 20000 in
theorem gX7_order_X7_laysRow : GoodIn wsX7_order (wsV RX7 152 RX7 yX7_laysRow wsX7_laysRow) := goodIn_app (goodIn_of _ (by decide +kernel)) ggX7_order_X7_laysRow
theorem dX7_order_0 : decode cX7_order 0 = .ok (.aload_n 0, 1) := by decide +kernel
theorem dX7_order_1 : decode cX7_order 1 = .ok (.iload_n 1, 1) := by decide +kernel
theorem dX7_order_2 : decode cX7_order 2 = .ok (.invokevirtual 123, 3) := by decide +kernel
theorem dX7_order_5 : decode cX7_order 5 = .ok (.ifCond .eq 12, 3) := by decide +kernel
theorem dX7_order_8 : decode cX7_order 8 = .ok (.iload_n 2, 1) := by decide +kernel
theorem dX7_order_9 : decode cX7_order 9 = .ok (.iconst 0, 1) := by decide +kernel
theorem dX7_order_10 : decode cX7_order 10 = .ok (.iconst 1, 1) := by decide +kernel
theorem dX7_order_11 : decode cX7_order 11 = .ok (.invokestatic 52, 3) := by decide +kernel
theorem dX7_order_14 : decode cX7_order 14 = .ok (.ifCond .ne 11, 3) := by decide +kernel
theorem dX7_order_17 : decode cX7_order 17 = .ok (.aload_n 0, 1) := by decide +kernel
theorem dX7_order_18 : decode cX7_order 18 = .ok (.sipush (-1001), 3) := by decide +kernel
theorem dX7_order_21 : decode cX7_order 21 = .ok (.invokevirtual 60, 3) := by decide +kernel
theorem dX7_order_24 : decode cX7_order 24 = .ok (.ireturn, 1) := by decide +kernel
theorem dX7_order_25 : decode cX7_order 25 = .ok (.aload_n 0, 1) := by decide +kernel
theorem dX7_order_26 : decode cX7_order 26 = .ok (.invokevirtual 149, 3) := by decide +kernel
theorem dX7_order_29 : decode cX7_order 29 = .ok (.ifCond .ne 7, 3) := by decide +kernel
theorem dX7_order_32 : decode cX7_order 32 = .ok (.sipush (-1000), 3) := by decide +kernel
theorem dX7_order_35 : decode cX7_order 35 = .ok (.ireturn, 1) := by decide +kernel
theorem dX7_order_36 : decode cX7_order 36 = .ok (.aload_n 0, 1) := by decide +kernel
theorem dX7_order_37 : decode cX7_order 37 = .ok (.iload_n 2, 1) := by decide +kernel
theorem dX7_order_38 : decode cX7_order 38 = .ok (.invokevirtual 152, 3) := by decide +kernel
theorem dX7_order_41 : decode cX7_order 41 = .ok (.pop, 1) := by decide +kernel
theorem dX7_order_42 : decode cX7_order 42 = .ok (.aload_n 0, 1) := by decide +kernel
theorem dX7_order_43 : decode cX7_order 43 = .ok (.getfield 43, 3) := by decide +kernel
theorem dX7_order_46 : decode cX7_order 46 = .ok (.iload_n 1, 1) := by decide +kernel
theorem dX7_order_47 : decode cX7_order 47 = .ok (.iaload, 1) := by decide +kernel
theorem dX7_order_48 : decode cX7_order 48 = .ok (.ireturn, 1) := by decide +kernel
set_option maxRecDepth 20000 in
theorem ggX7_changesIs_X7_laysRow : GoodIn wsX7_changesIs wsX7_laysRow := goodIn_r _ [6, 7, 8, 1, 9, 10, 11, 12, 5, 13, 14, 15, 16, 17, 18, 19, 20, 21, 22, 23, 24, 25, 26, 27, 28, 29, 30, 31, 32, 33, 34, 35, 36] (by decide +kernel) (by decide +kernel)
set_option maxRecDepth 20000 in
theorem gX7_changesIs_X7_laysRow : GoodIn wsX7_changesIs (wsV RX7 152 RX7 yX7_laysRow wsX7_laysRow) := goodIn_app (goodIn_of _ (by decide +kernel)) ggX7_changesIs_X7_laysRow
theorem dX7_changesIs_0 : decode cX7_changesIs 0 = .ok (.aload_n 0, 1) := by decide +kernel
theorem dX7_changesIs_1 : decode cX7_changesIs 1 = .ok (.getfield 37, 3) := by decide +kernel
theorem dX7_changesIs_4 : decode cX7_changesIs 4 = .ok (.iconst 0, 1) := by decide +kernel
theorem dX7_changesIs_5 : decode cX7_changesIs 5 = .ok (.iaload, 1) := by decide +kernel
theorem dX7_changesIs_6 : decode cX7_changesIs 6 = .ok (.ifCond .ne 9, 3) := by decide +kernel
theorem dX7_changesIs_9 : decode cX7_changesIs 9 = .ok (.sipush (-1000), 3) := by decide +kernel
theorem dX7_changesIs_12 : decode cX7_changesIs 12 = .ok (.goto 10, 3) := by decide +kernel
theorem dX7_changesIs_15 : decode cX7_changesIs 15 = .ok (.aload_n 0, 1) := by decide +kernel
theorem dX7_changesIs_16 : decode cX7_changesIs 16 = .ok (.iconst 1, 1) := by decide +kernel
theorem dX7_changesIs_17 : decode cX7_changesIs 17 = .ok (.iload_n 1, 1) := by decide +kernel
theorem dX7_changesIs_18 : decode cX7_changesIs 18 = .ok (.isub, 1) := by decide +kernel
theorem dX7_changesIs_19 : decode cX7_changesIs 19 = .ok (.invokevirtual 152, 3) := by decide +kernel
theorem dX7_changesIs_22 : decode cX7_changesIs 22 = .ok (.ireturn, 1) := by decide +kernel
set_option maxRecDepth 20000 in
theorem ggX7_changes_X7_within : GoodIn wsX7_changes wsX7_within := goodIn_r _ [4] (by decide +kernel) (by decide +kernel)
set_option maxRecDepth 20000 in
theorem gX7_changes_X7_within : GoodIn wsX7_changes (va_wsS RX7 52 yX7_within wsX7_within) := goodIn_app (goodIn_of _ (by decide +kernel)) ggX7_changes_X7_within
end
section
set_option maxRecDepth 20000 in
theorem ggX7_changes_X7_counts : GoodIn wsX7_changes wsX7_counts := goodIn_r _ [8, 9, 77, 78, 79, 80, 81, 82, 83, 84, 85, 86, 87, 88, 89, 90, 91, 92, 93, 94, 95] (by decide +kernel) (by decide +kernel)
set_option maxRecDepth 20000 in
theorem gX7_changes_X7_counts : GoodIn wsX7_changes (wsV RX7 60 RX7 yX7_counts wsX7_counts) := goodIn_app (goodIn_of _ (by decide +kernel)) ggX7_changes_X7_counts
set_option maxRecDepth 20000 in
theorem ggX7_changes_X7_laysOrders : GoodIn wsX7_changes wsX7_laysOrders := goodIn_r _ [13, 14, 15, 16, 17, 18, 19, 20, 3, 21, 22, 23, 24, 25, 26, 27, 28, 29, 30, 31, 32, 33, 34, 35, 36, 37, 38, 39, 40, 41, 42, 43, 44, 45, 46, 47, 48, 49, 50, 51, 52, 53, 54, 55, 56, 57, 58, 59, 60, 61, 62, 63, 64, 65, 66, 67, 77, 78, 79, 80, 81, 82, 83, 84, 85, 86, 87, 88, 89, 90, 91, 92, 93, 94, 95] (by decide +kernel) (by decide +kernel)
set_option maxRecDepth 20000 in
theorem gX7_changes_X7_laysOrders : GoodIn wsX7_changes (wsV RX7 146 RX7 yX7_laysOrders wsX7_laysOrders) := goodIn_app (goodIn_of _ (by decide +kernel)) ggX7_changes_X7_laysOrders
set_option maxRecDepth 20000 in
theorem ggX7_changes_X7_changesIs : GoodIn wsX7_changes wsX7_changesIs := goodIn_r _ [71, 15, 72, 73, 74, 3, 75, 17, 14, 16, 76, 26, 27, 28, 64, 65, 66, 67, 77, 78, 79, 80, 81, 82, 83, 84, 85, 86, 87, 88, 89, 90, 91, 92, 93, 94, 95] (by decide +kernel) (by decide +kernel)
set_option maxRecDepth 20000 in
theorem gX7_changes_X7_changesIs : GoodIn wsX7_changes (wsV RX7 155 RX7 yX7_changesIs wsX7_changesIs) := goodIn_app (goodIn_of _ (by decide +kernel)) ggX7_changes_X7_changesIs
theorem dX7_changes_0 : decode cX7_changes 0 = .ok (.iload_n 1, 1) := by decide +kernel
theorem dX7_changes_1 : decode cX7_changes 1 = .ok (.iconst 0, 1) := by decide +kernel
theorem dX7_changes_2 : decode cX7_changes 2 = .ok (.iconst 1, 1) := by decide +kernel
theorem dX7_changes_3 : decode cX7_changes 3 = .ok (.invokestatic 52, 3) := by decide +kernel
theorem dX7_changes_6 : decode cX7_changes 6 = .ok (.ifCond .ne 11, 3) := by decide +kernel
theorem dX7_changes_9 : decode cX7_changes 9 = .ok (.aload_n 0, 1) := by decide +kernel
theorem dX7_changes_10 : decode cX7_changes 10 = .ok (.sipush (-1001), 3) := by decide +kernel
theorem dX7_changes_13 : decode cX7_changes 13 = .ok (.invokevirtual 60, 3) := by decide +kernel
theorem dX7_changes_16 : decode cX7_changes 16 = .ok (.ireturn, 1) := by decide +kernel
theorem dX7_changes_17 : decode cX7_changes 17 = .ok (.aload_n 0, 1) := by decide +kernel
theorem dX7_changes_18 : decode cX7_changes 18 = .ok (.invokevirtual 146, 3) := by decide +kernel
theorem dX7_changes_21 : decode cX7_changes 21 = .ok (.aload_n 0, 1) := by decide +kernel
theorem dX7_changes_22 : decode cX7_changes 22 = .ok (.iload_n 1, 1) := by decide +kernel
theorem dX7_changes_23 : decode cX7_changes 23 = .ok (.invokevirtual 155, 3) := by decide +kernel
theorem dX7_changes_26 : decode cX7_changes 26 = .ok (.ireturn, 1) := by decide +kernel
set_option maxRecDepth 20000 in
theorem ggX7_ways_X7_laysOrders : GoodIn wsX7_ways wsX7_laysOrders := goodIn_r _ [7, 8, 1, 9, 2, 10, 11, 12, 6, 13, 14, 15, 16, 17, 18, 19, 20, 21, 22, 23, 24, 25, 26, 27, 28, 29, 30, 31, 32, 33, 34, 35, 36, 37, 38, 39, 40, 41, 42, 43, 44, 45, 46, 47, 48, 49, 50, 51, 52, 53, 54, 55, 56, 57, 58, 59, 60, 61, 62, 63, 64, 65, 66, 67, 68, 69, 70, 71, 72, 73, 74, 75, 76, 77, 78] (by decide +kernel) (by decide +kernel)
set_option maxRecDepth 20000 in
theorem gX7_ways_X7_laysOrders : GoodIn wsX7_ways (wsV RX7 146 RX7 yX7_laysOrders wsX7_laysOrders) := goodIn_app (goodIn_of _ (by decide +kernel)) ggX7_ways_X7_laysOrders
theorem dX7_ways_0 : decode cX7_ways 0 = .ok (.aload_n 0, 1) := by decide +kernel
theorem dX7_ways_1 : decode cX7_ways 1 = .ok (.invokevirtual 146, 3) := by decide +kernel
theorem dX7_ways_4 : decode cX7_ways 4 = .ok (.aload_n 0, 1) := by decide +kernel
theorem dX7_ways_5 : decode cX7_ways 5 = .ok (.getfield 37, 3) := by decide +kernel
theorem dX7_ways_8 : decode cX7_ways 8 = .ok (.aload_n 0, 1) := by decide +kernel
theorem dX7_ways_9 : decode cX7_ways 9 = .ok (.getfield 7, 3) := by decide +kernel
theorem dX7_ways_12 : decode cX7_ways 12 = .ok (.bipush 20, 2) := by decide +kernel
theorem dX7_ways_14 : decode cX7_ways 14 = .ok (.iaload, 1) := by decide +kernel
theorem dX7_ways_15 : decode cX7_ways 15 = .ok (.iaload, 1) := by decide +kernel
theorem dX7_ways_16 : decode cX7_ways 16 = .ok (.ireturn, 1) := by decide +kernel
set_option maxRecDepth 20000 in
theorem ggX7_longBy_X7_has : GoodIn wsX7_longBy wsX7_has := goodIn_r _ [5] (by decide +kernel) (by decide +kernel)
set_option maxRecDepth 20000 in
theorem gX7_longBy_X7_has : GoodIn wsX7_longBy (va_wsS RX7 70 yX7_has wsX7_has) := goodIn_app (goodIn_of _ (by decide +kernel)) ggX7_longBy_X7_has
theorem dX7_longBy_0 : decode cX7_longBy 0 = .ok (.bipush 10, 2) := by decide +kernel
theorem dX7_longBy_2 : decode cX7_longBy 2 = .ok (.aload_n 0, 1) := by decide +kernel
theorem dX7_longBy_3 : decode cX7_longBy 3 = .ok (.getfield 7, 3) := by decide +kernel
theorem dX7_longBy_6 : decode cX7_longBy 6 = .ok (.iconst 1, 1) := by decide +kernel
theorem dX7_longBy_7 : decode cX7_longBy 7 = .ok (.iaload, 1) := by decide +kernel
theorem dX7_longBy_8 : decode cX7_longBy 8 = .ok (.imul, 1) := by decide +kernel
theorem dX7_longBy_9 : decode cX7_longBy 9 = .ok (.istore_n 2, 1) := by decide +kernel
theorem dX7_longBy_10 : decode cX7_longBy 10 = .ok (.iconst 0, 1) := by decide +kernel
theorem dX7_longBy_11 : decode cX7_longBy 11 = .ok (.istore_n 3, 1) := by decide +kernel
theorem dX7_longBy_12 : decode cX7_longBy 12 = .ok (.iload_n 3, 1) := by decide +kernel
theorem dX7_longBy_13 : decode cX7_longBy 13 = .ok (.aload_n 0, 1) := by decide +kernel
theorem dX7_longBy_14 : decode cX7_longBy 14 = .ok (.getfield 7, 3) := by decide +kernel
theorem dX7_longBy_17 : decode cX7_longBy 17 = .ok (.iconst 0, 1) := by decide +kernel
theorem dX7_longBy_18 : decode cX7_longBy 18 = .ok (.iaload, 1) := by decide +kernel
theorem dX7_longBy_19 : decode cX7_longBy 19 = .ok (.if_icmp .ge 55, 3) := by decide +kernel
theorem dX7_longBy_22 : decode cX7_longBy 22 = .ok (.iload_n 2, 1) := by decide +kernel
theorem dX7_longBy_23 : decode cX7_longBy 23 = .ok (.bipush 10, 2) := by decide +kernel
theorem dX7_longBy_25 : decode cX7_longBy 25 = .ok (.aload_n 0, 1) := by decide +kernel
theorem dX7_longBy_26 : decode cX7_longBy 26 = .ok (.getfield 7, 3) := by decide +kernel
theorem dX7_longBy_29 : decode cX7_longBy 29 = .ok (.iconst 1, 1) := by decide +kernel
theorem dX7_longBy_30 : decode cX7_longBy 30 = .ok (.iload_n 3, 1) := by decide +kernel
theorem dX7_longBy_31 : decode cX7_longBy 31 = .ok (.iadd, 1) := by decide +kernel
theorem dX7_longBy_32 : decode cX7_longBy 32 = .ok (.iconst 1, 1) := by decide +kernel
theorem dX7_longBy_33 : decode cX7_longBy 33 = .ok (.iadd, 1) := by decide +kernel
theorem dX7_longBy_34 : decode cX7_longBy 34 = .ok (.iaload, 1) := by decide +kernel
theorem dX7_longBy_35 : decode cX7_longBy 35 = .ok (.imul, 1) := by decide +kernel
theorem dX7_longBy_36 : decode cX7_longBy 36 = .ok (.iload_n 1, 1) := by decide +kernel
theorem dX7_longBy_37 : decode cX7_longBy 37 = .ok (.iload_n 3, 1) := by decide +kernel
theorem dX7_longBy_38 : decode cX7_longBy 38 = .ok (.invokestatic 70, 3) := by decide +kernel
theorem dX7_longBy_41 : decode cX7_longBy 41 = .ok (.ifCond .eq 23, 3) := by decide +kernel
theorem dX7_longBy_44 : decode cX7_longBy 44 = .ok (.aload_n 0, 1) := by decide +kernel
theorem dX7_longBy_45 : decode cX7_longBy 45 = .ok (.getfield 7, 3) := by decide +kernel
theorem dX7_longBy_48 : decode cX7_longBy 48 = .ok (.bipush 23, 2) := by decide +kernel
theorem dX7_longBy_50 : decode cX7_longBy 50 = .ok (.aload_n 0, 1) := by decide +kernel
theorem dX7_longBy_51 : decode cX7_longBy 51 = .ok (.getfield 7, 3) := by decide +kernel
theorem dX7_longBy_54 : decode cX7_longBy 54 = .ok (.bipush 14, 2) := by decide +kernel
theorem dX7_longBy_56 : decode cX7_longBy 56 = .ok (.iload_n 3, 1) := by decide +kernel
theorem dX7_longBy_57 : decode cX7_longBy 57 = .ok (.iadd, 1) := by decide +kernel
theorem dX7_longBy_58 : decode cX7_longBy 58 = .ok (.iaload, 1) := by decide +kernel
theorem dX7_longBy_59 : decode cX7_longBy 59 = .ok (.iadd, 1) := by decide +kernel
theorem dX7_longBy_60 : decode cX7_longBy 60 = .ok (.iaload, 1) := by decide +kernel
theorem dX7_longBy_61 : decode cX7_longBy 61 = .ok (.goto 4, 3) := by decide +kernel
theorem dX7_longBy_64 : decode cX7_longBy 64 = .ok (.iconst 0, 1) := by decide +kernel
theorem dX7_longBy_65 : decode cX7_longBy 65 = .ok (.isub, 1) := by decide +kernel
theorem dX7_longBy_66 : decode cX7_longBy 66 = .ok (.iadd, 1) := by decide +kernel
theorem dX7_longBy_67 : decode cX7_longBy 67 = .ok (.istore_n 2, 1) := by decide +kernel
theorem dX7_longBy_68 : decode cX7_longBy 68 = .ok (.iinc 3 1, 3) := by decide +kernel
theorem dX7_longBy_71 : decode cX7_longBy 71 = .ok (.goto (-59), 3) := by decide +kernel
theorem dX7_longBy_74 : decode cX7_longBy 74 = .ok (.iload_n 2, 1) := by decide +kernel
theorem dX7_longBy_75 : decode cX7_longBy 75 = .ok (.ireturn, 1) := by decide +kernel
set_option maxRecDepth 20000 in
theorem ggX7_countIs_X7_ones : GoodIn wsX7_countIs wsX7_ones := goodIn_r _ [5] (by decide +kernel) (by decide +kernel)
set_option maxRecDepth 20000 in
theorem gX7_countIs_X7_ones : GoodIn wsX7_countIs (va_wsS RX7 130 yX7_ones wsX7_ones) := goodIn_app (goodIn_of _ (by decide +kernel)) ggX7_countIs_X7_ones
set_option maxRecDepth 20000 in
theorem ggX7_countIs_X7_allMade : GoodIn wsX7_countIs wsX7_allMade := goodIn_r _ [9, 1, 17, 18, 19, 20, 21, 22, 23, 24, 25, 26, 27, 28, 29, 30, 31, 32, 33, 34, 35] (by decide +kernel) (by decide +kernel)
set_option maxRecDepth 20000 in
theorem gX7_countIs_X7_allMade : GoodIn wsX7_countIs (wsV RX7 139 RX7 yX7_allMade wsX7_allMade) := goodIn_app (goodIn_of _ (by decide +kernel)) ggX7_countIs_X7_allMade
set_option maxRecDepth 20000 in
theorem ggX7_countIs_X7_longBy : GoodIn wsX7_countIs wsX7_longBy := goodIn_r _ [13, 1, 14, 15, 4, 16, 17, 18, 19, 20, 21, 22, 23, 24, 25, 26, 27, 28, 29, 30, 31, 32, 33, 34, 35] (by decide +kernel) (by decide +kernel)
set_option maxRecDepth 20000 in
theorem gX7_countIs_X7_longBy : GoodIn wsX7_countIs (wsV RX7 158 RX7 yX7_longBy wsX7_longBy) := goodIn_app (goodIn_of _ (by decide +kernel)) ggX7_countIs_X7_longBy
theorem dX7_countIs_0 : decode cX7_countIs 0 = .ok (.iload_n 1, 1) := by decide +kernel
theorem dX7_countIs_1 : decode cX7_countIs 1 = .ok (.tableswitch 115 0 10 #[59, 66, 77, 115, 115, 115, 115, 115, 85, 94, 106], 59) := by decide +kernel
theorem dX7_countIs_60 : decode cX7_countIs 60 = .ok (.aload_n 0, 1) := by decide +kernel
theorem dX7_countIs_61 : decode cX7_countIs 61 = .ok (.getfield 7, 3) := by decide +kernel
theorem dX7_countIs_64 : decode cX7_countIs 64 = .ok (.iconst 0, 1) := by decide +kernel
theorem dX7_countIs_65 : decode cX7_countIs 65 = .ok (.iaload, 1) := by decide +kernel
theorem dX7_countIs_66 : decode cX7_countIs 66 = .ok (.ireturn, 1) := by decide +kernel
theorem dX7_countIs_67 : decode cX7_countIs 67 = .ok (.aload_n 0, 1) := by decide +kernel
theorem dX7_countIs_68 : decode cX7_countIs 68 = .ok (.getfield 7, 3) := by decide +kernel
theorem dX7_countIs_71 : decode cX7_countIs 71 = .ok (.bipush 20, 2) := by decide +kernel
theorem dX7_countIs_73 : decode cX7_countIs 73 = .ok (.iaload, 1) := by decide +kernel
theorem dX7_countIs_74 : decode cX7_countIs 74 = .ok (.invokestatic 130, 3) := by decide +kernel
theorem dX7_countIs_77 : decode cX7_countIs 77 = .ok (.ireturn, 1) := by decide +kernel
theorem dX7_countIs_78 : decode cX7_countIs 78 = .ok (.aload_n 0, 1) := by decide +kernel
theorem dX7_countIs_79 : decode cX7_countIs 79 = .ok (.getfield 7, 3) := by decide +kernel
theorem dX7_countIs_82 : decode cX7_countIs 82 = .ok (.bipush 20, 2) := by decide +kernel
theorem dX7_countIs_84 : decode cX7_countIs 84 = .ok (.iaload, 1) := by decide +kernel
theorem dX7_countIs_85 : decode cX7_countIs 85 = .ok (.ireturn, 1) := by decide +kernel
theorem dX7_countIs_86 : decode cX7_countIs 86 = .ok (.aload_n 0, 1) := by decide +kernel
theorem dX7_countIs_87 : decode cX7_countIs 87 = .ok (.aload_n 0, 1) := by decide +kernel
theorem dX7_countIs_88 : decode cX7_countIs 88 = .ok (.invokevirtual 139, 3) := by decide +kernel
theorem dX7_countIs_91 : decode cX7_countIs 91 = .ok (.invokevirtual 158, 3) := by decide +kernel
theorem dX7_countIs_94 : decode cX7_countIs 94 = .ok (.ireturn, 1) := by decide +kernel
theorem dX7_countIs_95 : decode cX7_countIs 95 = .ok (.aload_n 0, 1) := by decide +kernel
theorem dX7_countIs_96 : decode cX7_countIs 96 = .ok (.aload_n 0, 1) := by decide +kernel
theorem dX7_countIs_97 : decode cX7_countIs 97 = .ok (.getfield 7, 3) := by decide +kernel
theorem dX7_countIs_100 : decode cX7_countIs 100 = .ok (.bipush 20, 2) := by decide +kernel
theorem dX7_countIs_102 : decode cX7_countIs 102 = .ok (.iaload, 1) := by decide +kernel
theorem dX7_countIs_103 : decode cX7_countIs 103 = .ok (.invokevirtual 158, 3) := by decide +kernel
theorem dX7_countIs_106 : decode cX7_countIs 106 = .ok (.ireturn, 1) := by decide +kernel
theorem dX7_countIs_107 : decode cX7_countIs 107 = .ok (.aload_n 0, 1) := by decide +kernel
theorem dX7_countIs_108 : decode cX7_countIs 108 = .ok (.iconst 0, 1) := by decide +kernel
theorem dX7_countIs_109 : decode cX7_countIs 109 = .ok (.invokevirtual 158, 3) := by decide +kernel
theorem dX7_countIs_112 : decode cX7_countIs 112 = .ok (.bipush 10, 2) := by decide +kernel
theorem dX7_countIs_114 : decode cX7_countIs 114 = .ok (.idiv, 1) := by decide +kernel
theorem dX7_countIs_115 : decode cX7_countIs 115 = .ok (.ireturn, 1) := by decide +kernel
theorem dX7_countIs_116 : decode cX7_countIs 116 = .ok (.aload_n 0, 1) := by decide +kernel
theorem dX7_countIs_117 : decode cX7_countIs 117 = .ok (.getfield 7, 3) := by decide +kernel
theorem dX7_countIs_120 : decode cX7_countIs 120 = .ok (.bipush 21, 2) := by decide +kernel
theorem dX7_countIs_122 : decode cX7_countIs 122 = .ok (.iload_n 1, 1) := by decide +kernel
theorem dX7_countIs_123 : decode cX7_countIs 123 = .ok (.iadd, 1) := by decide +kernel
theorem dX7_countIs_124 : decode cX7_countIs 124 = .ok (.iconst 3, 1) := by decide +kernel
theorem dX7_countIs_125 : decode cX7_countIs 125 = .ok (.isub, 1) := by decide +kernel
theorem dX7_countIs_126 : decode cX7_countIs 126 = .ok (.iaload, 1) := by decide +kernel
theorem dX7_countIs_127 : decode cX7_countIs 127 = .ok (.ireturn, 1) := by decide +kernel
set_option maxRecDepth 20000 in
theorem ggX7_count_X7_within : GoodIn wsX7_count wsX7_within := goodIn_r _ [4] (by decide +kernel) (by decide +kernel)
set_option maxRecDepth 20000 in
theorem gX7_count_X7_within : GoodIn wsX7_count (va_wsS RX7 52 yX7_within wsX7_within) := goodIn_app (goodIn_of _ (by decide +kernel)) ggX7_count_X7_within
set_option maxRecDepth 20000 in
theorem ggX7_count_X7_countIs : GoodIn wsX7_count wsX7_countIs := goodIn_r _ [8, 9, 10, 11, 3, 12, 13, 14, 15, 16, 17, 18, 19, 20, 21, 22, 23, 29, 30, 31, 32, 33, 34, 35, 36, 37, 38, 39, 40, 41, 42, 43, 44, 45, 46, 47] (by decide +kernel) (by decide +kernel)
set_option maxRecDepth 20000 in
theorem gX7_count_X7_countIs : GoodIn wsX7_count (wsV RX7 161 RX7 yX7_countIs wsX7_countIs) := goodIn_app (goodIn_of _ (by decide +kernel)) ggX7_count_X7_countIs
set_option maxRecDepth 20000 in
theorem ggX7_count_X7_counts : GoodIn wsX7_count wsX7_counts := goodIn_r _ [27, 28, 29, 30, 31, 32, 33, 34, 35, 36, 37, 38, 39, 40, 41, 42, 43, 44, 45, 46, 47] (by decide +kernel) (by decide +kernel)
set_option maxRecDepth 20000 in
theorem gX7_count_X7_counts : GoodIn wsX7_count (wsV RX7 60 RX7 yX7_counts wsX7_counts) := goodIn_app (goodIn_of _ (by decide +kernel)) ggX7_count_X7_counts
theorem dX7_count_0 : decode cX7_count 0 = .ok (.iload_n 1, 1) := by decide +kernel
theorem dX7_count_1 : decode cX7_count 1 = .ok (.iconst 0, 1) := by decide +kernel
theorem dX7_count_2 : decode cX7_count 2 = .ok (.bipush 10, 2) := by decide +kernel
theorem dX7_count_4 : decode cX7_count 4 = .ok (.invokestatic 52, 3) := by decide +kernel
theorem dX7_count_7 : decode cX7_count 7 = .ok (.ifCond .eq 11, 3) := by decide +kernel
theorem dX7_count_10 : decode cX7_count 10 = .ok (.aload_n 0, 1) := by decide +kernel
theorem dX7_count_11 : decode cX7_count 11 = .ok (.iload_n 1, 1) := by decide +kernel
theorem dX7_count_12 : decode cX7_count 12 = .ok (.invokevirtual 161, 3) := by decide +kernel
theorem dX7_count_15 : decode cX7_count 15 = .ok (.goto 10, 3) := by decide +kernel
theorem dX7_count_18 : decode cX7_count 18 = .ok (.aload_n 0, 1) := by decide +kernel
theorem dX7_count_19 : decode cX7_count 19 = .ok (.sipush (-1001), 3) := by decide +kernel
theorem dX7_count_22 : decode cX7_count 22 = .ok (.invokevirtual 60, 3) := by decide +kernel
theorem dX7_count_25 : decode cX7_count 25 = .ok (.ireturn, 1) := by decide +kernel
set_option maxRecDepth 20000 in
theorem ggX7_type_X7_within : GoodIn wsX7_type wsX7_within := goodIn_r _ [6] (by decide +kernel) (by decide +kernel)
set_option maxRecDepth 20000 in
theorem gX7_type_X7_within : GoodIn wsX7_type (va_wsS RX7 52 yX7_within wsX7_within) := goodIn_app (goodIn_of _ (by decide +kernel)) ggX7_type_X7_within
set_option maxRecDepth 20000 in
theorem ggX7_type_X7_counts : GoodIn wsX7_type wsX7_counts := goodIn_r _ [10, 11, 12, 13, 14, 15, 16, 17, 18, 19, 20, 21, 22, 23, 24, 25, 26, 27, 28, 29, 30] (by decide +kernel) (by decide +kernel)
set_option maxRecDepth 20000 in
theorem gX7_type_X7_counts : GoodIn wsX7_type (wsV RX7 60 RX7 yX7_counts wsX7_counts) := goodIn_app (goodIn_of _ (by decide +kernel)) ggX7_type_X7_counts
theorem dX7_type_0 : decode cX7_type 0 = .ok (.iload_n 1, 1) := by decide +kernel
theorem dX7_type_1 : decode cX7_type 1 = .ok (.iconst 0, 1) := by decide +kernel
theorem dX7_type_2 : decode cX7_type 2 = .ok (.bipush 127, 2) := by decide +kernel
theorem dX7_type_4 : decode cX7_type 4 = .ok (.invokestatic 52, 3) := by decide +kernel
theorem dX7_type_7 : decode cX7_type 7 = .ok (.ifCond .ne 11, 3) := by decide +kernel
theorem dX7_type_10 : decode cX7_type 10 = .ok (.aload_n 0, 1) := by decide +kernel
theorem dX7_type_11 : decode cX7_type 11 = .ok (.sipush (-1001), 3) := by decide +kernel
theorem dX7_type_14 : decode cX7_type 14 = .ok (.invokevirtual 60, 3) := by decide +kernel
theorem dX7_type_17 : decode cX7_type 17 = .ok (.ireturn, 1) := by decide +kernel
theorem dX7_type_18 : decode cX7_type 18 = .ok (.aload_n 0, 1) := by decide +kernel
theorem dX7_type_19 : decode cX7_type 19 = .ok (.getfield 164, 3) := by decide +kernel
theorem dX7_type_22 : decode cX7_type 22 = .ok (.bipush 120, 2) := by decide +kernel
theorem dX7_type_24 : decode cX7_type 24 = .ok (.if_icmp .ne 11, 3) := by decide +kernel
theorem dX7_type_27 : decode cX7_type 27 = .ok (.aload_n 0, 1) := by decide +kernel
theorem dX7_type_28 : decode cX7_type 28 = .ok (.sipush (-1003), 3) := by decide +kernel
theorem dX7_type_31 : decode cX7_type 31 = .ok (.invokevirtual 60, 3) := by decide +kernel
theorem dX7_type_34 : decode cX7_type 34 = .ok (.ireturn, 1) := by decide +kernel
theorem dX7_type_35 : decode cX7_type 35 = .ok (.aload_n 0, 1) := by decide +kernel
theorem dX7_type_36 : decode cX7_type 36 = .ok (.getfield 22, 3) := by decide +kernel
theorem dX7_type_39 : decode cX7_type 39 = .ok (.aload_n 0, 1) := by decide +kernel
theorem dX7_type_40 : decode cX7_type 40 = .ok (.getfield 164, 3) := by decide +kernel
theorem dX7_type_43 : decode cX7_type 43 = .ok (.iload_n 1, 1) := by decide +kernel
theorem dX7_type_44 : decode cX7_type 44 = .ok (.iastore, 1) := by decide +kernel
theorem dX7_type_45 : decode cX7_type 45 = .ok (.aload_n 0, 1) := by decide +kernel
theorem dX7_type_46 : decode cX7_type 46 = .ok (.dup, 1) := by decide +kernel
theorem dX7_type_47 : decode cX7_type 47 = .ok (.getfield 164, 3) := by decide +kernel
theorem dX7_type_50 : decode cX7_type 50 = .ok (.iconst 1, 1) := by decide +kernel
theorem dX7_type_51 : decode cX7_type 51 = .ok (.iadd, 1) := by decide +kernel
theorem dX7_type_52 : decode cX7_type 52 = .ok (.putfield 164, 3) := by decide +kernel
theorem dX7_type_55 : decode cX7_type 55 = .ok (.aload_n 0, 1) := by decide +kernel
theorem dX7_type_56 : decode cX7_type 56 = .ok (.getfield 164, 3) := by decide +kernel
theorem dX7_type_59 : decode cX7_type 59 = .ok (.ireturn, 1) := by decide +kernel
theorem dX7_clear_0 : decode cX7_clear 0 = .ok (.aload_n 0, 1) := by decide +kernel
theorem dX7_clear_1 : decode cX7_clear 1 = .ok (.getfield 164, 3) := by decide +kernel
theorem dX7_clear_4 : decode cX7_clear 4 = .ok (.istore_n 1, 1) := by decide +kernel
theorem dX7_clear_5 : decode cX7_clear 5 = .ok (.aload_n 0, 1) := by decide +kernel
theorem dX7_clear_6 : decode cX7_clear 6 = .ok (.iconst 0, 1) := by decide +kernel
theorem dX7_clear_7 : decode cX7_clear 7 = .ok (.putfield 164, 3) := by decide +kernel
theorem dX7_clear_10 : decode cX7_clear 10 = .ok (.iload_n 1, 1) := by decide +kernel
theorem dX7_clear_11 : decode cX7_clear 11 = .ok (.ireturn, 1) := by decide +kernel
theorem dX7_here_0 : decode cX7_here 0 = .ok (.aload_n 0, 1) := by decide +kernel
theorem dX7_here_1 : decode cX7_here 1 = .ok (.getfield 167, 3) := by decide +kernel
theorem dX7_here_4 : decode cX7_here 4 = .ok (.aload_n 0, 1) := by decide +kernel
theorem dX7_here_5 : decode cX7_here 5 = .ok (.getfield 164, 3) := by decide +kernel
theorem dX7_here_8 : decode cX7_here 8 = .ok (.if_icmp .ge 15, 3) := by decide +kernel
theorem dX7_here_11 : decode cX7_here 11 = .ok (.aload_n 0, 1) := by decide +kernel
theorem dX7_here_12 : decode cX7_here 12 = .ok (.getfield 22, 3) := by decide +kernel
theorem dX7_here_15 : decode cX7_here 15 = .ok (.aload_n 0, 1) := by decide +kernel
theorem dX7_here_16 : decode cX7_here 16 = .ok (.getfield 167, 3) := by decide +kernel
theorem dX7_here_19 : decode cX7_here 19 = .ok (.iaload, 1) := by decide +kernel
theorem dX7_here_20 : decode cX7_here 20 = .ok (.goto 4, 3) := by decide +kernel
theorem dX7_here_23 : decode cX7_here 23 = .ok (.iconst (-1), 1) := by decide +kernel
theorem dX7_here_24 : decode cX7_here 24 = .ok (.ireturn, 1) := by decide +kernel
set_option maxRecDepth 20000 in
theorem ggX7_blanks_X7_here : GoodIn wsX7_blanks wsX7_here := goodIn_r _ [6, 1, 7, 8, 9, 10, 11, 12, 13, 14, 15, 16, 17, 18, 19, 20, 21, 22, 23, 24, 25, 26, 27] (by decide +kernel) (by decide +kernel)
set_option maxRecDepth 20000 in
theorem gX7_blanks_X7_here : GoodIn wsX7_blanks (wsV RX7 170 RX7 yX7_here wsX7_here) := goodIn_app (goodIn_of _ (by decide +kernel)) ggX7_blanks_X7_here
theorem dX7_blanks_0 : decode cX7_blanks 0 = .ok (.aload_n 0, 1) := by decide +kernel
theorem dX7_blanks_1 : decode cX7_blanks 1 = .ok (.invokevirtual 170, 3) := by decide +kernel
theorem dX7_blanks_4 : decode cX7_blanks 4 = .ok (.bipush 32, 2) := by decide +kernel
theorem dX7_blanks_6 : decode cX7_blanks 6 = .ok (.if_icmp .ne 16, 3) := by decide +kernel
theorem dX7_blanks_9 : decode cX7_blanks 9 = .ok (.aload_n 0, 1) := by decide +kernel
theorem dX7_blanks_10 : decode cX7_blanks 10 = .ok (.dup, 1) := by decide +kernel
theorem dX7_blanks_11 : decode cX7_blanks 11 = .ok (.getfield 167, 3) := by decide +kernel
theorem dX7_blanks_14 : decode cX7_blanks 14 = .ok (.iconst 1, 1) := by decide +kernel
theorem dX7_blanks_15 : decode cX7_blanks 15 = .ok (.iadd, 1) := by decide +kernel
theorem dX7_blanks_16 : decode cX7_blanks 16 = .ok (.putfield 167, 3) := by decide +kernel
theorem dX7_blanks_19 : decode cX7_blanks 19 = .ok (.goto (-19), 3) := by decide +kernel
theorem dX7_blanks_22 : decode cX7_blanks 22 = .ok (.return_, 1) := by decide +kernel
set_option maxRecDepth 20000 in
theorem ggX7_passesNumber_X7_blanks : GoodIn wsX7_passesNumber wsX7_blanks := goodIn_r _ [7, 1, 8, 9, 10, 6, 11, 12, 13, 17, 18, 19, 20, 21, 22, 23, 24, 25, 26, 27, 28, 29, 30, 31, 32, 33, 34, 35] (by decide +kernel) (by decide +kernel)
set_option maxRecDepth 20000 in
theorem gX7_passesNumber_X7_blanks : GoodIn wsX7_passesNumber (wsV RX7 173 RX7 yX7_blanks wsX7_blanks) := goodIn_app (goodIn_of _ (by decide +kernel)) ggX7_passesNumber_X7_blanks
set_option maxRecDepth 20000 in
theorem ggX7_passesNumber_X7_here : GoodIn wsX7_passesNumber wsX7_here := goodIn_r _ [11, 1, 12, 13, 17, 18, 19, 20, 21, 22, 23, 24, 25, 26, 27, 28, 29, 30, 31, 32, 33, 34, 35] (by decide +kernel) (by decide +kernel)
set_option maxRecDepth 20000 in
theorem gX7_passesNumber_X7_here : GoodIn wsX7_passesNumber (wsV RX7 170 RX7 yX7_here wsX7_here) := goodIn_app (goodIn_of _ (by decide +kernel)) ggX7_passesNumber_X7_here
set_option maxRecDepth 20000 in
theorem ggX7_passesNumber_X7_within : GoodIn wsX7_passesNumber wsX7_within := goodIn_r _ [16] (by decide +kernel) (by decide +kernel)
set_option maxRecDepth 20000 in
theorem gX7_passesNumber_X7_within : GoodIn wsX7_passesNumber (va_wsS RX7 52 yX7_within wsX7_within) := goodIn_app (goodIn_of _ (by decide +kernel)) ggX7_passesNumber_X7_within
theorem dX7_passesNumber_0 : decode cX7_passesNumber 0 = .ok (.aload_n 0, 1) := by decide +kernel
theorem dX7_passesNumber_1 : decode cX7_passesNumber 1 = .ok (.invokevirtual 173, 3) := by decide +kernel
theorem dX7_passesNumber_4 : decode cX7_passesNumber 4 = .ok (.iconst 0, 1) := by decide +kernel
theorem dX7_passesNumber_5 : decode cX7_passesNumber 5 = .ok (.istore_n 2, 1) := by decide +kernel
theorem dX7_passesNumber_6 : decode cX7_passesNumber 6 = .ok (.iconst 0, 1) := by decide +kernel
theorem dX7_passesNumber_7 : decode cX7_passesNumber 7 = .ok (.istore_n 3, 1) := by decide +kernel
theorem dX7_passesNumber_8 : decode cX7_passesNumber 8 = .ok (.aload_n 0, 1) := by decide +kernel
theorem dX7_passesNumber_9 : decode cX7_passesNumber 9 = .ok (.invokevirtual 170, 3) := by decide +kernel
theorem dX7_passesNumber_12 : decode cX7_passesNumber 12 = .ok (.bipush 48, 2) := by decide +kernel
theorem dX7_passesNumber_14 : decode cX7_passesNumber 14 = .ok (.bipush 57, 2) := by decide +kernel
theorem dX7_passesNumber_16 : decode cX7_passesNumber 16 = .ok (.invokestatic 52, 3) := by decide +kernel
theorem dX7_passesNumber_19 : decode cX7_passesNumber 19 = .ok (.ifCond .eq 37, 3) := by decide +kernel
theorem dX7_passesNumber_22 : decode cX7_passesNumber 22 = .ok (.iload_n 3, 1) := by decide +kernel
theorem dX7_passesNumber_23 : decode cX7_passesNumber 23 = .ok (.iconst 2, 1) := by decide +kernel
theorem dX7_passesNumber_24 : decode cX7_passesNumber 24 = .ok (.if_icmp .ge 32, 3) := by decide +kernel
theorem dX7_passesNumber_27 : decode cX7_passesNumber 27 = .ok (.bipush 10, 2) := by decide +kernel
theorem dX7_passesNumber_29 : decode cX7_passesNumber 29 = .ok (.iload_n 2, 1) := by decide +kernel
theorem dX7_passesNumber_30 : decode cX7_passesNumber 30 = .ok (.imul, 1) := by decide +kernel
theorem dX7_passesNumber_31 : decode cX7_passesNumber 31 = .ok (.aload_n 0, 1) := by decide +kernel
theorem dX7_passesNumber_32 : decode cX7_passesNumber 32 = .ok (.invokevirtual 170, 3) := by decide +kernel
theorem dX7_passesNumber_35 : decode cX7_passesNumber 35 = .ok (.iadd, 1) := by decide +kernel
theorem dX7_passesNumber_36 : decode cX7_passesNumber 36 = .ok (.bipush 48, 2) := by decide +kernel
theorem dX7_passesNumber_38 : decode cX7_passesNumber 38 = .ok (.isub, 1) := by decide +kernel
theorem dX7_passesNumber_39 : decode cX7_passesNumber 39 = .ok (.istore_n 2, 1) := by decide +kernel
theorem dX7_passesNumber_40 : decode cX7_passesNumber 40 = .ok (.aload_n 0, 1) := by decide +kernel
theorem dX7_passesNumber_41 : decode cX7_passesNumber 41 = .ok (.dup, 1) := by decide +kernel
theorem dX7_passesNumber_42 : decode cX7_passesNumber 42 = .ok (.getfield 167, 3) := by decide +kernel
theorem dX7_passesNumber_45 : decode cX7_passesNumber 45 = .ok (.iconst 1, 1) := by decide +kernel
theorem dX7_passesNumber_46 : decode cX7_passesNumber 46 = .ok (.iadd, 1) := by decide +kernel
theorem dX7_passesNumber_47 : decode cX7_passesNumber 47 = .ok (.putfield 167, 3) := by decide +kernel
theorem dX7_passesNumber_50 : decode cX7_passesNumber 50 = .ok (.iinc 3 1, 3) := by decide +kernel
theorem dX7_passesNumber_53 : decode cX7_passesNumber 53 = .ok (.goto (-45), 3) := by decide +kernel
theorem dX7_passesNumber_56 : decode cX7_passesNumber 56 = .ok (.aload_n 0, 1) := by decide +kernel
theorem dX7_passesNumber_57 : decode cX7_passesNumber 57 = .ok (.getfield 49, 3) := by decide +kernel
theorem dX7_passesNumber_60 : decode cX7_passesNumber 60 = .ok (.iload_n 1, 1) := by decide +kernel
theorem dX7_passesNumber_61 : decode cX7_passesNumber 61 = .ok (.iload_n 2, 1) := by decide +kernel
theorem dX7_passesNumber_62 : decode cX7_passesNumber 62 = .ok (.iastore, 1) := by decide +kernel
theorem dX7_passesNumber_63 : decode cX7_passesNumber 63 = .ok (.iload_n 3, 1) := by decide +kernel
theorem dX7_passesNumber_64 : decode cX7_passesNumber 64 = .ok (.ifCond .le 21, 3) := by decide +kernel
theorem dX7_passesNumber_67 : decode cX7_passesNumber 67 = .ok (.aload_n 0, 1) := by decide +kernel
theorem dX7_passesNumber_68 : decode cX7_passesNumber 68 = .ok (.invokevirtual 170, 3) := by decide +kernel
theorem dX7_passesNumber_71 : decode cX7_passesNumber 71 = .ok (.bipush 48, 2) := by decide +kernel
theorem dX7_passesNumber_73 : decode cX7_passesNumber 73 = .ok (.bipush 57, 2) := by decide +kernel
theorem dX7_passesNumber_75 : decode cX7_passesNumber 75 = .ok (.invokestatic 52, 3) := by decide +kernel
theorem dX7_passesNumber_78 : decode cX7_passesNumber 78 = .ok (.ifCond .ne 7, 3) := by decide +kernel
theorem dX7_passesNumber_81 : decode cX7_passesNumber 81 = .ok (.iconst 1, 1) := by decide +kernel
theorem dX7_passesNumber_82 : decode cX7_passesNumber 82 = .ok (.goto 4, 3) := by decide +kernel
theorem dX7_passesNumber_85 : decode cX7_passesNumber 85 = .ok (.iconst 0, 1) := by decide +kernel
theorem dX7_passesNumber_86 : decode cX7_passesNumber 86 = .ok (.ireturn, 1) := by decide +kernel
theorem dX7_numbersOf_0 : decode cX7_numbersOf 0 = .ok (.iload_n 0, 1) := by decide +kernel
theorem dX7_numbersOf_1 : decode cX7_numbersOf 1 = .ok (.tableswitch 107 97 117 #[99, 105, 107, 107, 107, 107, 107, 107, 107, 107, 103, 107, 101, 107, 107, 103, 107, 107, 101, 107, 101], 99) := by decide +kernel
theorem dX7_numbersOf_100 : decode cX7_numbersOf 100 = .ok (.iconst 0, 1) := by decide +kernel
theorem dX7_numbersOf_101 : decode cX7_numbersOf 101 = .ok (.ireturn, 1) := by decide +kernel
theorem dX7_numbersOf_102 : decode cX7_numbersOf 102 = .ok (.iconst 1, 1) := by decide +kernel
theorem dX7_numbersOf_103 : decode cX7_numbersOf 103 = .ok (.ireturn, 1) := by decide +kernel
theorem dX7_numbersOf_104 : decode cX7_numbersOf 104 = .ok (.iconst 2, 1) := by decide +kernel
theorem dX7_numbersOf_105 : decode cX7_numbersOf 105 = .ok (.ireturn, 1) := by decide +kernel
theorem dX7_numbersOf_106 : decode cX7_numbersOf 106 = .ok (.iconst 3, 1) := by decide +kernel
theorem dX7_numbersOf_107 : decode cX7_numbersOf 107 = .ok (.ireturn, 1) := by decide +kernel
theorem dX7_numbersOf_108 : decode cX7_numbersOf 108 = .ok (.iconst (-1), 1) := by decide +kernel
theorem dX7_numbersOf_109 : decode cX7_numbersOf 109 = .ok (.ireturn, 1) := by decide +kernel
set_option maxRecDepth 20000 in
theorem ggX7_passesOne_X7_here : GoodIn wsX7_passesOne wsX7_here := goodIn_r _ [8, 3, 9, 10, 26, 27, 28, 29, 30, 31, 32, 33, 34, 35, 36, 37, 38, 39, 40, 41, 42, 43, 44] (by decide +kernel) (by decide +kernel)
set_option maxRecDepth 20000 in
theorem gX7_passesOne_X7_here : GoodIn wsX7_passesOne (wsV RX7 170 RX7 yX7_here wsX7_here) := goodIn_app (goodIn_of _ (by decide +kernel)) ggX7_passesOne_X7_here
set_option maxRecDepth 20000 in
theorem ggX7_passesOne_X7_numbersOf : GoodIn wsX7_passesOne wsX7_numbersOf := goodIn_r _ [13] (by decide +kernel) (by decide +kernel)
set_option maxRecDepth 20000 in
theorem gX7_passesOne_X7_numbersOf : GoodIn wsX7_passesOne (va_wsS RX7 176 yX7_numbersOf wsX7_numbersOf) := goodIn_app (goodIn_of _ (by decide +kernel)) ggX7_passesOne_X7_numbersOf
set_option maxRecDepth 20000 in
theorem ggX7_passesOne_X7_passesNumber : GoodIn wsX7_passesOne wsX7_passesNumber := goodIn_r _ [17, 3, 18, 19, 20, 21, 7, 22, 4, 5, 6, 8, 9, 10, 23, 24, 25, 26, 27, 28, 29, 30, 31, 32, 33, 34, 35, 36, 37, 38, 39, 40, 41, 42, 43, 44] (by decide +kernel) (by decide +kernel)
set_option maxRecDepth 20000 in
theorem gX7_passesOne_X7_passesNumber : GoodIn wsX7_passesOne (wsV RX7 182 RX7 yX7_passesNumber wsX7_passesNumber) := goodIn_app (goodIn_of _ (by decide +kernel)) ggX7_passesOne_X7_passesNumber
set_option maxRecDepth 20000 in
theorem ggX7_passesOne_X7_blanks : GoodIn wsX7_passesOne wsX7_blanks := goodIn_r _ [22, 3, 4, 5, 6, 7, 8, 9, 10, 26, 27, 28, 29, 30, 31, 32, 33, 34, 35, 36, 37, 38, 39, 40, 41, 42, 43, 44] (by decide +kernel) (by decide +kernel)
set_option maxRecDepth 20000 in
theorem gX7_passesOne_X7_blanks : GoodIn wsX7_passesOne (wsV RX7 173 RX7 yX7_blanks wsX7_blanks) := goodIn_app (goodIn_of _ (by decide +kernel)) ggX7_passesOne_X7_blanks
theorem dX7_passesOne_0 : decode cX7_passesOne 0 = .ok (.aload_n 0, 1) := by decide +kernel
theorem dX7_passesOne_1 : decode cX7_passesOne 1 = .ok (.invokevirtual 170, 3) := by decide +kernel
theorem dX7_passesOne_4 : decode cX7_passesOne 4 = .ok (.invokestatic 176, 3) := by decide +kernel
theorem dX7_passesOne_7 : decode cX7_passesOne 7 = .ok (.istore_n 1, 1) := by decide +kernel
theorem dX7_passesOne_8 : decode cX7_passesOne 8 = .ok (.iload_n 1, 1) := by decide +kernel
theorem dX7_passesOne_9 : decode cX7_passesOne 9 = .ok (.ifCond .ge 5, 3) := by decide +kernel
theorem dX7_passesOne_12 : decode cX7_passesOne 12 = .ok (.iconst 0, 1) := by decide +kernel
theorem dX7_passesOne_13 : decode cX7_passesOne 13 = .ok (.ireturn, 1) := by decide +kernel
theorem dX7_passesOne_14 : decode cX7_passesOne 14 = .ok (.aload_n 0, 1) := by decide +kernel
theorem dX7_passesOne_15 : decode cX7_passesOne 15 = .ok (.getfield 46, 3) := by decide +kernel
theorem dX7_passesOne_18 : decode cX7_passesOne 18 = .ok (.aload_n 0, 1) := by decide +kernel
theorem dX7_passesOne_19 : decode cX7_passesOne 19 = .ok (.getfield 179, 3) := by decide +kernel
theorem dX7_passesOne_22 : decode cX7_passesOne 22 = .ok (.aload_n 0, 1) := by decide +kernel
theorem dX7_passesOne_23 : decode cX7_passesOne 23 = .ok (.invokevirtual 170, 3) := by decide +kernel
theorem dX7_passesOne_26 : decode cX7_passesOne 26 = .ok (.iastore, 1) := by decide +kernel
theorem dX7_passesOne_27 : decode cX7_passesOne 27 = .ok (.aload_n 0, 1) := by decide +kernel
theorem dX7_passesOne_28 : decode cX7_passesOne 28 = .ok (.dup, 1) := by decide +kernel
theorem dX7_passesOne_29 : decode cX7_passesOne 29 = .ok (.getfield 167, 3) := by decide +kernel
theorem dX7_passesOne_32 : decode cX7_passesOne 32 = .ok (.iconst 1, 1) := by decide +kernel
theorem dX7_passesOne_33 : decode cX7_passesOne 33 = .ok (.iadd, 1) := by decide +kernel
theorem dX7_passesOne_34 : decode cX7_passesOne 34 = .ok (.putfield 167, 3) := by decide +kernel
theorem dX7_passesOne_37 : decode cX7_passesOne 37 = .ok (.iconst 0, 1) := by decide +kernel
theorem dX7_passesOne_38 : decode cX7_passesOne 38 = .ok (.istore_n 2, 1) := by decide +kernel
theorem dX7_passesOne_39 : decode cX7_passesOne 39 = .ok (.iload_n 2, 1) := by decide +kernel
theorem dX7_passesOne_40 : decode cX7_passesOne 40 = .ok (.iload_n 1, 1) := by decide +kernel
theorem dX7_passesOne_41 : decode cX7_passesOne 41 = .ok (.if_icmp .ge 26, 3) := by decide +kernel
theorem dX7_passesOne_44 : decode cX7_passesOne 44 = .ok (.aload_n 0, 1) := by decide +kernel
theorem dX7_passesOne_45 : decode cX7_passesOne 45 = .ok (.iconst 3, 1) := by decide +kernel
theorem dX7_passesOne_46 : decode cX7_passesOne 46 = .ok (.aload_n 0, 1) := by decide +kernel
theorem dX7_passesOne_47 : decode cX7_passesOne 47 = .ok (.getfield 179, 3) := by decide +kernel
theorem dX7_passesOne_50 : decode cX7_passesOne 50 = .ok (.imul, 1) := by decide +kernel
theorem dX7_passesOne_51 : decode cX7_passesOne 51 = .ok (.iload_n 2, 1) := by decide +kernel
theorem dX7_passesOne_52 : decode cX7_passesOne 52 = .ok (.iadd, 1) := by decide +kernel
theorem dX7_passesOne_53 : decode cX7_passesOne 53 = .ok (.invokevirtual 182, 3) := by decide +kernel
theorem dX7_passesOne_56 : decode cX7_passesOne 56 = .ok (.ifCond .ne 5, 3) := by decide +kernel
theorem dX7_passesOne_59 : decode cX7_passesOne 59 = .ok (.iconst 0, 1) := by decide +kernel
theorem dX7_passesOne_60 : decode cX7_passesOne 60 = .ok (.ireturn, 1) := by decide +kernel
theorem dX7_passesOne_61 : decode cX7_passesOne 61 = .ok (.iinc 2 1, 3) := by decide +kernel
theorem dX7_passesOne_64 : decode cX7_passesOne 64 = .ok (.goto (-25), 3) := by decide +kernel
theorem dX7_passesOne_67 : decode cX7_passesOne 67 = .ok (.aload_n 0, 1) := by decide +kernel
theorem dX7_passesOne_68 : decode cX7_passesOne 68 = .ok (.invokevirtual 173, 3) := by decide +kernel
theorem dX7_passesOne_71 : decode cX7_passesOne 71 = .ok (.aload_n 0, 1) := by decide +kernel
theorem dX7_passesOne_72 : decode cX7_passesOne 72 = .ok (.invokevirtual 170, 3) := by decide +kernel
theorem dX7_passesOne_75 : decode cX7_passesOne 75 = .ok (.bipush 59, 2) := by decide +kernel
theorem dX7_passesOne_77 : decode cX7_passesOne 77 = .ok (.if_icmp .eq 5, 3) := by decide +kernel
theorem dX7_passesOne_80 : decode cX7_passesOne 80 = .ok (.iconst 0, 1) := by decide +kernel
theorem dX7_passesOne_81 : decode cX7_passesOne 81 = .ok (.ireturn, 1) := by decide +kernel
theorem dX7_passesOne_82 : decode cX7_passesOne 82 = .ok (.aload_n 0, 1) := by decide +kernel
theorem dX7_passesOne_83 : decode cX7_passesOne 83 = .ok (.dup, 1) := by decide +kernel
theorem dX7_passesOne_84 : decode cX7_passesOne 84 = .ok (.getfield 167, 3) := by decide +kernel
theorem dX7_passesOne_87 : decode cX7_passesOne 87 = .ok (.iconst 1, 1) := by decide +kernel
theorem dX7_passesOne_88 : decode cX7_passesOne 88 = .ok (.iadd, 1) := by decide +kernel
theorem dX7_passesOne_89 : decode cX7_passesOne 89 = .ok (.putfield 167, 3) := by decide +kernel
theorem dX7_passesOne_92 : decode cX7_passesOne 92 = .ok (.aload_n 0, 1) := by decide +kernel
theorem dX7_passesOne_93 : decode cX7_passesOne 93 = .ok (.dup, 1) := by decide +kernel
theorem dX7_passesOne_94 : decode cX7_passesOne 94 = .ok (.getfield 179, 3) := by decide +kernel
theorem dX7_passesOne_97 : decode cX7_passesOne 97 = .ok (.iconst 1, 1) := by decide +kernel
theorem dX7_passesOne_98 : decode cX7_passesOne 98 = .ok (.iadd, 1) := by decide +kernel
theorem dX7_passesOne_99 : decode cX7_passesOne 99 = .ok (.putfield 179, 3) := by decide +kernel
theorem dX7_passesOne_102 : decode cX7_passesOne 102 = .ok (.aload_n 0, 1) := by decide +kernel
theorem dX7_passesOne_103 : decode cX7_passesOne 103 = .ok (.invokevirtual 173, 3) := by decide +kernel
theorem dX7_passesOne_106 : decode cX7_passesOne 106 = .ok (.iconst 1, 1) := by decide +kernel
theorem dX7_passesOne_107 : decode cX7_passesOne 107 = .ok (.ireturn, 1) := by decide +kernel
set_option maxRecDepth 20000 in
theorem ggX7_isRead_X7_blanks : GoodIn wsX7_isRead wsX7_blanks := goodIn_r _ [8, 1, 9, 10, 11, 7, 12, 3, 13, 30, 31, 32, 33, 34, 35, 36, 37, 38, 39, 40, 41, 42, 43, 44, 45, 46, 47, 48] (by decide +kernel) (by decide +kernel)
set_option maxRecDepth 20000 in
theorem gX7_isRead_X7_blanks : GoodIn wsX7_isRead (wsV RX7 173 RX7 yX7_blanks wsX7_blanks) := goodIn_app (goodIn_of _ (by decide +kernel)) ggX7_isRead_X7_blanks
set_option maxRecDepth 20000 in
theorem ggX7_isRead_X7_passesOne : GoodIn wsX7_isRead wsX7_passesOne := goodIn_r _ [17, 18, 2, 1, 9, 10, 11, 7, 12, 3, 13, 19, 20, 21, 22, 23, 24, 25, 26, 4, 5, 6, 8, 27, 28, 29, 30, 31, 32, 33, 34, 35, 36, 37, 38, 39, 40, 41, 42, 43, 44, 45, 46, 47, 48] (by decide +kernel) (by decide +kernel)
set_option maxRecDepth 20000 in
theorem gX7_isRead_X7_passesOne : GoodIn wsX7_isRead (wsV RX7 185 RX7 yX7_passesOne wsX7_passesOne) := goodIn_app (goodIn_of _ (by decide +kernel)) ggX7_isRead_X7_passesOne
theorem dX7_isRead_0 : decode cX7_isRead 0 = .ok (.aload_n 0, 1) := by decide +kernel
theorem dX7_isRead_1 : decode cX7_isRead 1 = .ok (.iconst 0, 1) := by decide +kernel
theorem dX7_isRead_2 : decode cX7_isRead 2 = .ok (.putfield 167, 3) := by decide +kernel
theorem dX7_isRead_5 : decode cX7_isRead 5 = .ok (.aload_n 0, 1) := by decide +kernel
theorem dX7_isRead_6 : decode cX7_isRead 6 = .ok (.iconst 0, 1) := by decide +kernel
theorem dX7_isRead_7 : decode cX7_isRead 7 = .ok (.putfield 179, 3) := by decide +kernel
theorem dX7_isRead_10 : decode cX7_isRead 10 = .ok (.aload_n 0, 1) := by decide +kernel
theorem dX7_isRead_11 : decode cX7_isRead 11 = .ok (.invokevirtual 173, 3) := by decide +kernel
theorem dX7_isRead_14 : decode cX7_isRead 14 = .ok (.aload_n 0, 1) := by decide +kernel
theorem dX7_isRead_15 : decode cX7_isRead 15 = .ok (.invokevirtual 185, 3) := by decide +kernel
theorem dX7_isRead_18 : decode cX7_isRead 18 = .ok (.istore_n 1, 1) := by decide +kernel
theorem dX7_isRead_19 : decode cX7_isRead 19 = .ok (.iload_n 1, 1) := by decide +kernel
theorem dX7_isRead_20 : decode cX7_isRead 20 = .ok (.ifCond .eq 22, 3) := by decide +kernel
theorem dX7_isRead_23 : decode cX7_isRead 23 = .ok (.aload_n 0, 1) := by decide +kernel
theorem dX7_isRead_24 : decode cX7_isRead 24 = .ok (.getfield 167, 3) := by decide +kernel
theorem dX7_isRead_27 : decode cX7_isRead 27 = .ok (.aload_n 0, 1) := by decide +kernel
theorem dX7_isRead_28 : decode cX7_isRead 28 = .ok (.getfield 164, 3) := by decide +kernel
theorem dX7_isRead_31 : decode cX7_isRead 31 = .ok (.if_icmp .ge 11, 3) := by decide +kernel
theorem dX7_isRead_34 : decode cX7_isRead 34 = .ok (.aload_n 0, 1) := by decide +kernel
theorem dX7_isRead_35 : decode cX7_isRead 35 = .ok (.invokevirtual 185, 3) := by decide +kernel
theorem dX7_isRead_38 : decode cX7_isRead 38 = .ok (.istore_n 1, 1) := by decide +kernel
theorem dX7_isRead_39 : decode cX7_isRead 39 = .ok (.goto (-20), 3) := by decide +kernel
theorem dX7_isRead_42 : decode cX7_isRead 42 = .ok (.iload_n 1, 1) := by decide +kernel
theorem dX7_isRead_43 : decode cX7_isRead 43 = .ok (.ireturn, 1) := by decide +kernel
set_option maxRecDepth 20000 in
theorem ggX7_isDone_X7_within : GoodIn wsX7_isDone wsX7_within := goodIn_r _ [7] (by decide +kernel) (by decide +kernel)
set_option maxRecDepth 20000 in
theorem gX7_isDone_X7_within : GoodIn wsX7_isDone (va_wsS RX7 52 yX7_within wsX7_within) := goodIn_app (goodIn_of _ (by decide +kernel)) ggX7_isDone_X7_within
set_option maxRecDepth 20000 in
theorem ggX7_isDone_X7_strips : GoodIn wsX7_isDone wsX7_strips := goodIn_r _ [11, 3, 82, 83, 84, 85, 86, 87, 88, 89, 90, 91, 92, 93, 94, 95, 96, 97, 98, 99, 100] (by decide +kernel) (by decide +kernel)
set_option maxRecDepth 20000 in
theorem gX7_isDone_X7_strips : GoodIn wsX7_isDone (wsV RX7 101 RX7 yX7_strips wsX7_strips) := goodIn_app (goodIn_of _ (by decide +kernel)) ggX7_isDone_X7_strips
set_option maxRecDepth 20000 in
theorem ggX7_isDone_X7_mayBend : GoodIn wsX7_isDone wsX7_mayBend := goodIn_r _ [15, 4, 5, 6, 7] (by decide +kernel) (by decide +kernel)
set_option maxRecDepth 20000 in
theorem gX7_isDone_X7_mayBend : GoodIn wsX7_isDone (wsV RX7 104 RX7 yX7_mayBend wsX7_mayBend) := goodIn_app (goodIn_of _ (by decide +kernel)) ggX7_isDone_X7_mayBend
set_option maxRecDepth 20000 in
theorem ggX7_isDone_X7_adds : GoodIn wsX7_isDone wsX7_adds := goodIn_r _ [19, 3, 82, 83, 84, 85, 86, 87, 88, 89, 90, 91, 92, 93, 94, 95, 96, 97, 98, 99, 100] (by decide +kernel) (by decide +kernel)
set_option maxRecDepth 20000 in
theorem gX7_isDone_X7_adds : GoodIn wsX7_isDone (wsV RX7 107 RX7 yX7_adds wsX7_adds) := goodIn_app (goodIn_of _ (by decide +kernel)) ggX7_isDone_X7_adds
set_option maxRecDepth 20000 in
theorem ggX7_isDone_X7_isBend : GoodIn wsX7_isDone wsX7_isBend := goodIn_r _ [23, 3, 4, 5, 6, 7, 82, 83, 84, 85, 86, 87, 88, 89, 90, 91, 92, 93, 94, 95, 96, 97, 98, 99, 100] (by decide +kernel) (by decide +kernel)
set_option maxRecDepth 20000 in
theorem gX7_isDone_X7_isBend : GoodIn wsX7_isDone (wsV RX7 123 RX7 yX7_isBend wsX7_isBend) := goodIn_app (goodIn_of _ (by decide +kernel)) ggX7_isDone_X7_isBend
set_option maxRecDepth 20000 in
theorem ggX7_isDone_X7_isFree : GoodIn wsX7_isDone wsX7_isFree := goodIn_r _ [27, 28, 29, 6, 30, 31, 32, 33, 34, 3, 35, 36, 37, 38, 39, 40, 41, 42, 43, 44, 45, 46, 47, 48, 49, 50, 51, 52, 53, 54, 55, 56, 57, 58, 59, 60, 61, 62, 63, 64, 65, 82, 83, 84, 85, 86, 87, 88, 89, 90, 91, 92, 93, 94, 95, 96, 97, 98, 99, 100] (by decide +kernel) (by decide +kernel)
set_option maxRecDepth 20000 in
theorem gX7_isDone_X7_isFree : GoodIn wsX7_isDone (wsV RX7 127 RX7 yX7_isFree wsX7_isFree) := goodIn_app (goodIn_of _ (by decide +kernel)) ggX7_isDone_X7_isFree
set_option maxRecDepth 20000 in
theorem ggX7_isDone_X7_has : GoodIn wsX7_isDone wsX7_has := goodIn_r _ [30] (by decide +kernel) (by decide +kernel)
set_option maxRecDepth 20000 in
theorem gX7_isDone_X7_has : GoodIn wsX7_isDone (va_wsS RX7 70 yX7_has wsX7_has) := goodIn_app (goodIn_of _ (by decide +kernel)) ggX7_isDone_X7_has
set_option maxRecDepth 20000 in
theorem ggX7_isDone_X7_mayPress : GoodIn wsX7_isDone wsX7_mayPress := goodIn_r _ [69, 4, 5, 6, 7] (by decide +kernel) (by decide +kernel)
set_option maxRecDepth 20000 in
theorem gX7_isDone_X7_mayPress : GoodIn wsX7_isDone (wsV RX7 111 RX7 yX7_mayPress wsX7_mayPress) := goodIn_app (goodIn_of _ (by decide +kernel)) ggX7_isDone_X7_mayPress
set_option maxRecDepth 20000 in
theorem ggX7_isDone_X7_presses : GoodIn wsX7_isDone wsX7_presses := goodIn_r _ [73, 3, 82, 83, 84, 85, 86, 87, 88, 89, 90, 91, 92, 93, 94, 95, 96, 97, 98, 99, 100] (by decide +kernel) (by decide +kernel)
set_option maxRecDepth 20000 in
theorem gX7_isDone_X7_presses : GoodIn wsX7_isDone (wsV RX7 114 RX7 yX7_presses wsX7_presses) := goodIn_app (goodIn_of _ (by decide +kernel)) ggX7_isDone_X7_presses
set_option maxRecDepth 20000 in
theorem ggX7_isDone_X7_mayTake : GoodIn wsX7_isDone wsX7_mayTake := goodIn_r _ [77, 4, 5, 6, 7] (by decide +kernel) (by decide +kernel)
set_option maxRecDepth 20000 in
theorem gX7_isDone_X7_mayTake : GoodIn wsX7_isDone (wsV RX7 117 RX7 yX7_mayTake wsX7_mayTake) := goodIn_app (goodIn_of _ (by decide +kernel)) ggX7_isDone_X7_mayTake
set_option maxRecDepth 20000 in
theorem ggX7_isDone_X7_takesNow : GoodIn wsX7_isDone wsX7_takesNow := goodIn_r _ [81, 3, 82, 83, 84, 85, 86, 87, 88, 89, 90, 91, 92, 93, 94, 95, 96, 97, 98, 99, 100] (by decide +kernel) (by decide +kernel)
set_option maxRecDepth 20000 in
theorem gX7_isDone_X7_takesNow : GoodIn wsX7_isDone (wsV RX7 120 RX7 yX7_takesNow wsX7_takesNow) := goodIn_app (goodIn_of _ (by decide +kernel)) ggX7_isDone_X7_takesNow
theorem dX7_isDone_0 : decode cX7_isDone 0 = .ok (.aload_n 0, 1) := by decide +kernel
theorem dX7_isDone_1 : decode cX7_isDone 1 = .ok (.getfield 49, 3) := by decide +kernel
theorem dX7_isDone_4 : decode cX7_isDone 4 = .ok (.iconst 3, 1) := by decide +kernel
theorem dX7_isDone_5 : decode cX7_isDone 5 = .ok (.iload_n 1, 1) := by decide +kernel
theorem dX7_isDone_6 : decode cX7_isDone 6 = .ok (.imul, 1) := by decide +kernel
theorem dX7_isDone_7 : decode cX7_isDone 7 = .ok (.iaload, 1) := by decide +kernel
theorem dX7_isDone_8 : decode cX7_isDone 8 = .ok (.istore_n 2, 1) := by decide +kernel
theorem dX7_isDone_9 : decode cX7_isDone 9 = .ok (.aload_n 0, 1) := by decide +kernel
theorem dX7_isDone_10 : decode cX7_isDone 10 = .ok (.getfield 49, 3) := by decide +kernel
theorem dX7_isDone_13 : decode cX7_isDone 13 = .ok (.iconst 3, 1) := by decide +kernel
theorem dX7_isDone_14 : decode cX7_isDone 14 = .ok (.iload_n 1, 1) := by decide +kernel
theorem dX7_isDone_15 : decode cX7_isDone 15 = .ok (.imul, 1) := by decide +kernel
theorem dX7_isDone_16 : decode cX7_isDone 16 = .ok (.iconst 1, 1) := by decide +kernel
theorem dX7_isDone_17 : decode cX7_isDone 17 = .ok (.iadd, 1) := by decide +kernel
theorem dX7_isDone_18 : decode cX7_isDone 18 = .ok (.iaload, 1) := by decide +kernel
theorem dX7_isDone_19 : decode cX7_isDone 19 = .ok (.istore_n 3, 1) := by decide +kernel
theorem dX7_isDone_20 : decode cX7_isDone 20 = .ok (.aload_n 0, 1) := by decide +kernel
theorem dX7_isDone_21 : decode cX7_isDone 21 = .ok (.getfield 49, 3) := by decide +kernel
theorem dX7_isDone_24 : decode cX7_isDone 24 = .ok (.iconst 3, 1) := by decide +kernel
theorem dX7_isDone_25 : decode cX7_isDone 25 = .ok (.iload_n 1, 1) := by decide +kernel
theorem dX7_isDone_26 : decode cX7_isDone 26 = .ok (.imul, 1) := by decide +kernel
theorem dX7_isDone_27 : decode cX7_isDone 27 = .ok (.iconst 2, 1) := by decide +kernel
theorem dX7_isDone_28 : decode cX7_isDone 28 = .ok (.iadd, 1) := by decide +kernel
theorem dX7_isDone_29 : decode cX7_isDone 29 = .ok (.iaload, 1) := by decide +kernel
theorem dX7_isDone_30 : decode cX7_isDone 30 = .ok (.istore 4, 2) := by decide +kernel
theorem dX7_isDone_32 : decode cX7_isDone 32 = .ok (.iload_n 3, 1) := by decide +kernel
theorem dX7_isDone_33 : decode cX7_isDone 33 = .ok (.ifCond .ne 7, 3) := by decide +kernel
theorem dX7_isDone_36 : decode cX7_isDone 36 = .ok (.iconst 1, 1) := by decide +kernel
theorem dX7_isDone_37 : decode cX7_isDone 37 = .ok (.goto 13, 3) := by decide +kernel
theorem dX7_isDone_40 : decode cX7_isDone 40 = .ok (.iload_n 3, 1) := by decide +kernel
theorem dX7_isDone_41 : decode cX7_isDone 41 = .ok (.iconst 1, 1) := by decide +kernel
theorem dX7_isDone_42 : decode cX7_isDone 42 = .ok (.if_icmp .ne 7, 3) := by decide +kernel
theorem dX7_isDone_45 : decode cX7_isDone 45 = .ok (.iconst (-1), 1) := by decide +kernel
theorem dX7_isDone_46 : decode cX7_isDone 46 = .ok (.goto 4, 3) := by decide +kernel
theorem dX7_isDone_49 : decode cX7_isDone 49 = .ok (.iconst 0, 1) := by decide +kernel
theorem dX7_isDone_50 : decode cX7_isDone 50 = .ok (.istore 5, 2) := by decide +kernel
theorem dX7_isDone_52 : decode cX7_isDone 52 = .ok (.aload_n 0, 1) := by decide +kernel
theorem dX7_isDone_53 : decode cX7_isDone 53 = .ok (.getfield 46, 3) := by decide +kernel
theorem dX7_isDone_56 : decode cX7_isDone 56 = .ok (.iload_n 1, 1) := by decide +kernel
theorem dX7_isDone_57 : decode cX7_isDone 57 = .ok (.iaload, 1) := by decide +kernel
theorem dX7_isDone_58 : decode cX7_isDone 58 = .ok (.tableswitch 322 98 117 #[117, 322, 322, 322, 322, 322, 322, 322, 322, 299, 322, 165, 322, 322, 276, 322, 322, 94, 322, 220], 94) := by decide +kernel
theorem dX7_isDone_152 : decode cX7_isDone 152 = .ok (.iload_n 2, 1) := by decide +kernel
theorem dX7_isDone_153 : decode cX7_isDone 153 = .ok (.iconst 1, 1) := by decide +kernel
theorem dX7_isDone_154 : decode cX7_isDone 154 = .ok (.bipush 20, 2) := by decide +kernel
theorem dX7_isDone_156 : decode cX7_isDone 156 = .ok (.invokestatic 52, 3) := by decide +kernel
theorem dX7_isDone_159 : decode cX7_isDone 159 = .ok (.istore 6, 2) := by decide +kernel
theorem dX7_isDone_161 : decode cX7_isDone 161 = .ok (.iload 6, 2) := by decide +kernel
theorem dX7_isDone_163 : decode cX7_isDone 163 = .ok (.ifCond .eq 9, 3) := by decide +kernel
theorem dX7_isDone_166 : decode cX7_isDone 166 = .ok (.aload_n 0, 1) := by decide +kernel
theorem dX7_isDone_167 : decode cX7_isDone 167 = .ok (.iload_n 2, 1) := by decide +kernel
theorem dX7_isDone_168 : decode cX7_isDone 168 = .ok (.invokevirtual 101, 3) := by decide +kernel
theorem dX7_isDone_171 : decode cX7_isDone 171 = .ok (.pop, 1) := by decide +kernel
theorem dX7_isDone_172 : decode cX7_isDone 172 = .ok (.iload 6, 2) := by decide +kernel
theorem dX7_isDone_174 : decode cX7_isDone 174 = .ok (.ireturn, 1) := by decide +kernel
theorem dX7_isDone_175 : decode cX7_isDone 175 = .ok (.aload_n 0, 1) := by decide +kernel
theorem dX7_isDone_176 : decode cX7_isDone 176 = .ok (.iload_n 2, 1) := by decide +kernel
theorem dX7_isDone_177 : decode cX7_isDone 177 = .ok (.iload 5, 2) := by decide +kernel
theorem dX7_isDone_179 : decode cX7_isDone 179 = .ok (.iload 4, 2) := by decide +kernel
theorem dX7_isDone_181 : decode cX7_isDone 181 = .ok (.invokevirtual 104, 3) := by decide +kernel
theorem dX7_isDone_184 : decode cX7_isDone 184 = .ok (.ifCond .eq 18, 3) := by decide +kernel
theorem dX7_isDone_187 : decode cX7_isDone 187 = .ok (.aload_n 0, 1) := by decide +kernel
theorem dX7_isDone_188 : decode cX7_isDone 188 = .ok (.getfield 7, 3) := by decide +kernel
theorem dX7_isDone_191 : decode cX7_isDone 191 = .ok (.iconst 0, 1) := by decide +kernel
theorem dX7_isDone_192 : decode cX7_isDone 192 = .ok (.iaload, 1) := by decide +kernel
theorem dX7_isDone_193 : decode cX7_isDone 193 = .ok (.bipush 6, 2) := by decide +kernel
theorem dX7_isDone_195 : decode cX7_isDone 195 = .ok (.if_icmp .ge 7, 3) := by decide +kernel
theorem dX7_isDone_198 : decode cX7_isDone 198 = .ok (.iconst 1, 1) := by decide +kernel
theorem dX7_isDone_199 : decode cX7_isDone 199 = .ok (.goto 4, 3) := by decide +kernel
theorem dX7_isDone_202 : decode cX7_isDone 202 = .ok (.iconst 0, 1) := by decide +kernel
theorem dX7_isDone_203 : decode cX7_isDone 203 = .ok (.istore 6, 2) := by decide +kernel
theorem dX7_isDone_205 : decode cX7_isDone 205 = .ok (.iload 6, 2) := by decide +kernel
theorem dX7_isDone_207 : decode cX7_isDone 207 = .ok (.ifCond .eq 13, 3) := by decide +kernel
theorem dX7_isDone_210 : decode cX7_isDone 210 = .ok (.aload_n 0, 1) := by decide +kernel
theorem dX7_isDone_211 : decode cX7_isDone 211 = .ok (.iload_n 2, 1) := by decide +kernel
theorem dX7_isDone_212 : decode cX7_isDone 212 = .ok (.iload 5, 2) := by decide +kernel
theorem dX7_isDone_214 : decode cX7_isDone 214 = .ok (.iload 4, 2) := by decide +kernel
theorem dX7_isDone_216 : decode cX7_isDone 216 = .ok (.invokevirtual 107, 3) := by decide +kernel
theorem dX7_isDone_219 : decode cX7_isDone 219 = .ok (.pop, 1) := by decide +kernel
theorem dX7_isDone_220 : decode cX7_isDone 220 = .ok (.iload 6, 2) := by decide +kernel
theorem dX7_isDone_222 : decode cX7_isDone 222 = .ok (.ireturn, 1) := by decide +kernel
theorem dX7_isDone_223 : decode cX7_isDone 223 = .ok (.aload_n 0, 1) := by decide +kernel
theorem dX7_isDone_224 : decode cX7_isDone 224 = .ok (.iload_n 2, 1) := by decide +kernel
theorem dX7_isDone_225 : decode cX7_isDone 225 = .ok (.invokevirtual 123, 3) := by decide +kernel
theorem dX7_isDone_228 : decode cX7_isDone 228 = .ok (.ifCond .eq 22, 3) := by decide +kernel
theorem dX7_isDone_231 : decode cX7_isDone 231 = .ok (.aload_n 0, 1) := by decide +kernel
theorem dX7_isDone_232 : decode cX7_isDone 232 = .ok (.iload_n 2, 1) := by decide +kernel
theorem dX7_isDone_233 : decode cX7_isDone 233 = .ok (.aload_n 0, 1) := by decide +kernel
theorem dX7_isDone_234 : decode cX7_isDone 234 = .ok (.getfield 7, 3) := by decide +kernel
theorem dX7_isDone_237 : decode cX7_isDone 237 = .ok (.bipush 20, 2) := by decide +kernel
theorem dX7_isDone_239 : decode cX7_isDone 239 = .ok (.iaload, 1) := by decide +kernel
theorem dX7_isDone_240 : decode cX7_isDone 240 = .ok (.invokevirtual 127, 3) := by decide +kernel
theorem dX7_isDone_243 : decode cX7_isDone 243 = .ok (.ifCond .eq 7, 3) := by decide +kernel
theorem dX7_isDone_246 : decode cX7_isDone 246 = .ok (.iconst 1, 1) := by decide +kernel
theorem dX7_isDone_247 : decode cX7_isDone 247 = .ok (.goto 4, 3) := by decide +kernel
theorem dX7_isDone_250 : decode cX7_isDone 250 = .ok (.iconst 0, 1) := by decide +kernel
theorem dX7_isDone_251 : decode cX7_isDone 251 = .ok (.istore 6, 2) := by decide +kernel
theorem dX7_isDone_253 : decode cX7_isDone 253 = .ok (.aload_n 0, 1) := by decide +kernel
theorem dX7_isDone_254 : decode cX7_isDone 254 = .ok (.getfield 7, 3) := by decide +kernel
theorem dX7_isDone_257 : decode cX7_isDone 257 = .ok (.bipush 20, 2) := by decide +kernel
theorem dX7_isDone_259 : decode cX7_isDone 259 = .ok (.dup2, 1) := by decide +kernel
theorem dX7_isDone_260 : decode cX7_isDone 260 = .ok (.iaload, 1) := by decide +kernel
theorem dX7_isDone_261 : decode cX7_isDone 261 = .ok (.iload 6, 2) := by decide +kernel
theorem dX7_isDone_263 : decode cX7_isDone 263 = .ok (.ifCond .eq 9, 3) := by decide +kernel
theorem dX7_isDone_266 : decode cX7_isDone 266 = .ok (.iconst 1, 1) := by decide +kernel
theorem dX7_isDone_267 : decode cX7_isDone 267 = .ok (.iload_n 2, 1) := by decide +kernel
theorem dX7_isDone_268 : decode cX7_isDone 268 = .ok (.ishl, 1) := by decide +kernel
theorem dX7_isDone_269 : decode cX7_isDone 269 = .ok (.goto 4, 3) := by decide +kernel
theorem dX7_isDone_272 : decode cX7_isDone 272 = .ok (.iconst 0, 1) := by decide +kernel
theorem dX7_isDone_273 : decode cX7_isDone 273 = .ok (.ior, 1) := by decide +kernel
theorem dX7_isDone_274 : decode cX7_isDone 274 = .ok (.iastore, 1) := by decide +kernel
theorem dX7_isDone_275 : decode cX7_isDone 275 = .ok (.iload 6, 2) := by decide +kernel
theorem dX7_isDone_277 : decode cX7_isDone 277 = .ok (.ireturn, 1) := by decide +kernel
theorem dX7_isDone_278 : decode cX7_isDone 278 = .ok (.aload_n 0, 1) := by decide +kernel
theorem dX7_isDone_279 : decode cX7_isDone 279 = .ok (.iload_n 2, 1) := by decide +kernel
theorem dX7_isDone_280 : decode cX7_isDone 280 = .ok (.invokevirtual 123, 3) := by decide +kernel
theorem dX7_isDone_283 : decode cX7_isDone 283 = .ok (.ifCond .eq 21, 3) := by decide +kernel
theorem dX7_isDone_286 : decode cX7_isDone 286 = .ok (.aload_n 0, 1) := by decide +kernel
theorem dX7_isDone_287 : decode cX7_isDone 287 = .ok (.getfield 7, 3) := by decide +kernel
theorem dX7_isDone_290 : decode cX7_isDone 290 = .ok (.bipush 20, 2) := by decide +kernel
theorem dX7_isDone_292 : decode cX7_isDone 292 = .ok (.iaload, 1) := by decide +kernel
theorem dX7_isDone_293 : decode cX7_isDone 293 = .ok (.iload_n 2, 1) := by decide +kernel
theorem dX7_isDone_294 : decode cX7_isDone 294 = .ok (.invokestatic 70, 3) := by decide +kernel
theorem dX7_isDone_297 : decode cX7_isDone 297 = .ok (.ifCond .eq 7, 3) := by decide +kernel
theorem dX7_isDone_300 : decode cX7_isDone 300 = .ok (.iconst 1, 1) := by decide +kernel
theorem dX7_isDone_301 : decode cX7_isDone 301 = .ok (.goto 4, 3) := by decide +kernel
theorem dX7_isDone_304 : decode cX7_isDone 304 = .ok (.iconst 0, 1) := by decide +kernel
theorem dX7_isDone_305 : decode cX7_isDone 305 = .ok (.istore 6, 2) := by decide +kernel
theorem dX7_isDone_307 : decode cX7_isDone 307 = .ok (.aload_n 0, 1) := by decide +kernel
theorem dX7_isDone_308 : decode cX7_isDone 308 = .ok (.getfield 7, 3) := by decide +kernel
theorem dX7_isDone_311 : decode cX7_isDone 311 = .ok (.bipush 20, 2) := by decide +kernel
theorem dX7_isDone_313 : decode cX7_isDone 313 = .ok (.dup2, 1) := by decide +kernel
theorem dX7_isDone_314 : decode cX7_isDone 314 = .ok (.iaload, 1) := by decide +kernel
theorem dX7_isDone_315 : decode cX7_isDone 315 = .ok (.iload 6, 2) := by decide +kernel
theorem dX7_isDone_317 : decode cX7_isDone 317 = .ok (.ifCond .eq 11, 3) := by decide +kernel
theorem dX7_isDone_320 : decode cX7_isDone 320 = .ok (.iconst 1, 1) := by decide +kernel
theorem dX7_isDone_321 : decode cX7_isDone 321 = .ok (.iload_n 2, 1) := by decide +kernel
theorem dX7_isDone_322 : decode cX7_isDone 322 = .ok (.ishl, 1) := by decide +kernel
theorem dX7_isDone_323 : decode cX7_isDone 323 = .ok (.iconst (-1), 1) := by decide +kernel
theorem dX7_isDone_324 : decode cX7_isDone 324 = .ok (.ixor, 1) := by decide +kernel
theorem dX7_isDone_325 : decode cX7_isDone 325 = .ok (.goto 4, 3) := by decide +kernel
theorem dX7_isDone_328 : decode cX7_isDone 328 = .ok (.iconst (-1), 1) := by decide +kernel
theorem dX7_isDone_329 : decode cX7_isDone 329 = .ok (.iand, 1) := by decide +kernel
theorem dX7_isDone_330 : decode cX7_isDone 330 = .ok (.iastore, 1) := by decide +kernel
theorem dX7_isDone_331 : decode cX7_isDone 331 = .ok (.iload 6, 2) := by decide +kernel
theorem dX7_isDone_333 : decode cX7_isDone 333 = .ok (.ireturn, 1) := by decide +kernel
theorem dX7_isDone_334 : decode cX7_isDone 334 = .ok (.aload_n 0, 1) := by decide +kernel
theorem dX7_isDone_335 : decode cX7_isDone 335 = .ok (.iload_n 2, 1) := by decide +kernel
theorem dX7_isDone_336 : decode cX7_isDone 336 = .ok (.iload_n 3, 1) := by decide +kernel
theorem dX7_isDone_337 : decode cX7_isDone 337 = .ok (.invokevirtual 111, 3) := by decide +kernel
theorem dX7_isDone_340 : decode cX7_isDone 340 = .ok (.istore 6, 2) := by decide +kernel
theorem dX7_isDone_342 : decode cX7_isDone 342 = .ok (.iload 6, 2) := by decide +kernel
theorem dX7_isDone_344 : decode cX7_isDone 344 = .ok (.ifCond .eq 10, 3) := by decide +kernel
theorem dX7_isDone_347 : decode cX7_isDone 347 = .ok (.aload_n 0, 1) := by decide +kernel
theorem dX7_isDone_348 : decode cX7_isDone 348 = .ok (.iload_n 2, 1) := by decide +kernel
theorem dX7_isDone_349 : decode cX7_isDone 349 = .ok (.iload_n 3, 1) := by decide +kernel
theorem dX7_isDone_350 : decode cX7_isDone 350 = .ok (.invokevirtual 114, 3) := by decide +kernel
theorem dX7_isDone_353 : decode cX7_isDone 353 = .ok (.pop, 1) := by decide +kernel
theorem dX7_isDone_354 : decode cX7_isDone 354 = .ok (.iload 6, 2) := by decide +kernel
theorem dX7_isDone_356 : decode cX7_isDone 356 = .ok (.ireturn, 1) := by decide +kernel
theorem dX7_isDone_357 : decode cX7_isDone 357 = .ok (.aload_n 0, 1) := by decide +kernel
theorem dX7_isDone_358 : decode cX7_isDone 358 = .ok (.iload_n 2, 1) := by decide +kernel
theorem dX7_isDone_359 : decode cX7_isDone 359 = .ok (.iload_n 3, 1) := by decide +kernel
theorem dX7_isDone_360 : decode cX7_isDone 360 = .ok (.invokevirtual 117, 3) := by decide +kernel
theorem dX7_isDone_363 : decode cX7_isDone 363 = .ok (.istore 6, 2) := by decide +kernel
theorem dX7_isDone_365 : decode cX7_isDone 365 = .ok (.iload 6, 2) := by decide +kernel
theorem dX7_isDone_367 : decode cX7_isDone 367 = .ok (.ifCond .eq 10, 3) := by decide +kernel
theorem dX7_isDone_370 : decode cX7_isDone 370 = .ok (.aload_n 0, 1) := by decide +kernel
theorem dX7_isDone_371 : decode cX7_isDone 371 = .ok (.iload_n 2, 1) := by decide +kernel
theorem dX7_isDone_372 : decode cX7_isDone 372 = .ok (.iload_n 3, 1) := by decide +kernel
theorem dX7_isDone_373 : decode cX7_isDone 373 = .ok (.invokevirtual 120, 3) := by decide +kernel
theorem dX7_isDone_376 : decode cX7_isDone 376 = .ok (.pop, 1) := by decide +kernel
theorem dX7_isDone_377 : decode cX7_isDone 377 = .ok (.iload 6, 2) := by decide +kernel
theorem dX7_isDone_379 : decode cX7_isDone 379 = .ok (.ireturn, 1) := by decide +kernel
theorem dX7_isDone_380 : decode cX7_isDone 380 = .ok (.aload_n 0, 1) := by decide +kernel
theorem dX7_isDone_381 : decode cX7_isDone 381 = .ok (.getfield 7, 3) := by decide +kernel
theorem dX7_isDone_384 : decode cX7_isDone 384 = .ok (.bipush 20, 2) := by decide +kernel
theorem dX7_isDone_386 : decode cX7_isDone 386 = .ok (.iconst 0, 1) := by decide +kernel
theorem dX7_isDone_387 : decode cX7_isDone 387 = .ok (.iastore, 1) := by decide +kernel
theorem dX7_isDone_388 : decode cX7_isDone 388 = .ok (.iconst 1, 1) := by decide +kernel
theorem dX7_isDone_389 : decode cX7_isDone 389 = .ok (.ireturn, 1) := by decide +kernel
theorem dX7_changesAside_0 : decode cX7_changesAside 0 = .ok (.iconst 0, 1) := by decide +kernel
theorem dX7_changesAside_1 : decode cX7_changesAside 1 = .ok (.istore_n 1, 1) := by decide +kernel
theorem dX7_changesAside_2 : decode cX7_changesAside 2 = .ok (.iload_n 1, 1) := by decide +kernel
theorem dX7_changesAside_3 : decode cX7_changesAside 3 = .ok (.bipush 26, 2) := by decide +kernel
theorem dX7_changesAside_5 : decode cX7_changesAside 5 = .ok (.if_icmp .ge 35, 3) := by decide +kernel
theorem dX7_changesAside_8 : decode cX7_changesAside 8 = .ok (.aload_n 0, 1) := by decide +kernel
theorem dX7_changesAside_9 : decode cX7_changesAside 9 = .ok (.getfield 7, 3) := by decide +kernel
theorem dX7_changesAside_12 : decode cX7_changesAside 12 = .ok (.iload_n 1, 1) := by decide +kernel
theorem dX7_changesAside_13 : decode cX7_changesAside 13 = .ok (.iaload, 1) := by decide +kernel
theorem dX7_changesAside_14 : decode cX7_changesAside 14 = .ok (.istore_n 2, 1) := by decide +kernel
theorem dX7_changesAside_15 : decode cX7_changesAside 15 = .ok (.aload_n 0, 1) := by decide +kernel
theorem dX7_changesAside_16 : decode cX7_changesAside 16 = .ok (.getfield 7, 3) := by decide +kernel
theorem dX7_changesAside_19 : decode cX7_changesAside 19 = .ok (.iload_n 1, 1) := by decide +kernel
theorem dX7_changesAside_20 : decode cX7_changesAside 20 = .ok (.aload_n 0, 1) := by decide +kernel
theorem dX7_changesAside_21 : decode cX7_changesAside 21 = .ok (.getfield 13, 3) := by decide +kernel
theorem dX7_changesAside_24 : decode cX7_changesAside 24 = .ok (.iload_n 1, 1) := by decide +kernel
theorem dX7_changesAside_25 : decode cX7_changesAside 25 = .ok (.iaload, 1) := by decide +kernel
theorem dX7_changesAside_26 : decode cX7_changesAside 26 = .ok (.iastore, 1) := by decide +kernel
theorem dX7_changesAside_27 : decode cX7_changesAside 27 = .ok (.aload_n 0, 1) := by decide +kernel
theorem dX7_changesAside_28 : decode cX7_changesAside 28 = .ok (.getfield 13, 3) := by decide +kernel
theorem dX7_changesAside_31 : decode cX7_changesAside 31 = .ok (.iload_n 1, 1) := by decide +kernel
theorem dX7_changesAside_32 : decode cX7_changesAside 32 = .ok (.iload_n 2, 1) := by decide +kernel
theorem dX7_changesAside_33 : decode cX7_changesAside 33 = .ok (.iastore, 1) := by decide +kernel
theorem dX7_changesAside_34 : decode cX7_changesAside 34 = .ok (.iinc 1 1, 3) := by decide +kernel
theorem dX7_changesAside_37 : decode cX7_changesAside 37 = .ok (.goto (-35), 3) := by decide +kernel
theorem dX7_changesAside_40 : decode cX7_changesAside 40 = .ok (.return_, 1) := by decide +kernel
set_option maxRecDepth 20000 in
theorem ggX7_does_X7_isRead : GoodIn wsX7_does wsX7_isRead := goodIn_r _ [9, 1, 4, 10, 11, 12, 13, 8, 14, 15, 16, 17, 18, 19, 20, 21, 22, 23, 24, 25, 26, 27, 28, 29, 30, 31, 32, 33, 34, 35, 124, 125, 126, 127, 128, 129, 130, 131, 132, 133, 134, 135, 136, 137, 138, 139, 140, 141, 142] (by decide +kernel) (by decide +kernel)
set_option maxRecDepth 20000 in
theorem gX7_does_X7_isRead : GoodIn wsX7_does (wsV RX7 189 RX7 yX7_isRead wsX7_isRead) := goodIn_app (goodIn_of _ (by decide +kernel)) ggX7_does_X7_isRead
set_option maxRecDepth 20000 in
theorem ggX7_does_X7_isDone : GoodIn wsX7_does wsX7_isDone := goodIn_r _ [39, 32, 24, 3, 33, 34, 8, 35, 40, 41, 42, 43, 44, 45, 46, 47, 48, 49, 50, 51, 52, 53, 54, 55, 56, 57, 58, 59, 60, 61, 62, 63, 64, 65, 66, 67, 68, 69, 70, 71, 72, 73, 74, 75, 76, 77, 78, 79, 80, 81, 82, 83, 84, 85, 86, 87, 88, 89, 90, 91, 92, 93, 94, 95, 96, 97, 98, 99, 100, 101, 102, 103, 104, 105, 106, 107, 108, 109, 110, 111, 112, 113, 124, 125, 126, 127, 128, 129, 130, 131, 132, 133, 134, 135, 136, 137, 138, 139, 140, 141, 142] (by decide +kernel) (by decide +kernel)
set_option maxRecDepth 20000 in
theorem gX7_does_X7_isDone : GoodIn wsX7_does (wsV RX7 192 RX7 yX7_isDone wsX7_isDone) := goodIn_app (goodIn_of _ (by decide +kernel)) ggX7_does_X7_isDone
set_option maxRecDepth 20000 in
theorem ggX7_does_X7_changesAside : GoodIn wsX7_does wsX7_changesAside := goodIn_r _ [117, 3, 2, 124, 125, 126, 127, 128, 129, 130, 131, 132, 133, 134, 135, 136, 137, 138, 139, 140, 141, 142] (by decide +kernel) (by decide +kernel)
set_option maxRecDepth 20000 in
theorem gX7_does_X7_changesAside : GoodIn wsX7_does (wsV RX7 195 RX7 yX7_changesAside wsX7_changesAside) := goodIn_app (goodIn_of _ (by decide +kernel)) ggX7_does_X7_changesAside
set_option maxRecDepth 20000 in
theorem ggX7_does_X7_leaves : GoodIn wsX7_does wsX7_leaves := goodIn_r _ [121, 122, 123, 3, 124, 125, 126, 127, 128, 129, 130, 131, 132, 133, 134, 135, 136, 137, 138, 139, 140, 141, 142] (by decide +kernel) (by decide +kernel)
set_option maxRecDepth 20000 in
theorem gX7_does_X7_leaves : GoodIn wsX7_does (wsV RX7 98 RX7 yX7_leaves wsX7_leaves) := goodIn_app (goodIn_of _ (by decide +kernel)) ggX7_does_X7_leaves
theorem dX7_does_0 : decode cX7_does 0 = .ok (.aload_n 0, 1) := by decide +kernel
theorem dX7_does_1 : decode cX7_does 1 = .ok (.invokevirtual 189, 3) := by decide +kernel
theorem dX7_does_4 : decode cX7_does 4 = .ok (.ifCond .ne 11, 3) := by decide +kernel
theorem dX7_does_7 : decode cX7_does 7 = .ok (.bipush (-10), 2) := by decide +kernel
theorem dX7_does_9 : decode cX7_does 9 = .ok (.aload_n 0, 1) := by decide +kernel
theorem dX7_does_10 : decode cX7_does 10 = .ok (.getfield 167, 3) := by decide +kernel
theorem dX7_does_13 : decode cX7_does 13 = .ok (.isub, 1) := by decide +kernel
theorem dX7_does_14 : decode cX7_does 14 = .ok (.ireturn, 1) := by decide +kernel
theorem dX7_does_15 : decode cX7_does 15 = .ok (.iconst 0, 1) := by decide +kernel
theorem dX7_does_16 : decode cX7_does 16 = .ok (.istore_n 1, 1) := by decide +kernel
theorem dX7_does_17 : decode cX7_does 17 = .ok (.iload_n 1, 1) := by decide +kernel
theorem dX7_does_18 : decode cX7_does 18 = .ok (.bipush 26, 2) := by decide +kernel
theorem dX7_does_20 : decode cX7_does 20 = .ok (.if_icmp .ge 21, 3) := by decide +kernel
theorem dX7_does_23 : decode cX7_does 23 = .ok (.aload_n 0, 1) := by decide +kernel
theorem dX7_does_24 : decode cX7_does 24 = .ok (.getfield 13, 3) := by decide +kernel
theorem dX7_does_27 : decode cX7_does 27 = .ok (.iload_n 1, 1) := by decide +kernel
theorem dX7_does_28 : decode cX7_does 28 = .ok (.aload_n 0, 1) := by decide +kernel
theorem dX7_does_29 : decode cX7_does 29 = .ok (.getfield 7, 3) := by decide +kernel
theorem dX7_does_32 : decode cX7_does 32 = .ok (.iload_n 1, 1) := by decide +kernel
theorem dX7_does_33 : decode cX7_does 33 = .ok (.iaload, 1) := by decide +kernel
theorem dX7_does_34 : decode cX7_does 34 = .ok (.iastore, 1) := by decide +kernel
theorem dX7_does_35 : decode cX7_does 35 = .ok (.iinc 1 1, 3) := by decide +kernel
theorem dX7_does_38 : decode cX7_does 38 = .ok (.goto (-21), 3) := by decide +kernel
theorem dX7_does_41 : decode cX7_does 41 = .ok (.iconst 0, 1) := by decide +kernel
theorem dX7_does_42 : decode cX7_does 42 = .ok (.istore_n 1, 1) := by decide +kernel
theorem dX7_does_43 : decode cX7_does 43 = .ok (.iload_n 1, 1) := by decide +kernel
theorem dX7_does_44 : decode cX7_does 44 = .ok (.aload_n 0, 1) := by decide +kernel
theorem dX7_does_45 : decode cX7_does 45 = .ok (.getfield 179, 3) := by decide +kernel
theorem dX7_does_48 : decode cX7_does 48 = .ok (.if_icmp .ge 17, 3) := by decide +kernel
theorem dX7_does_51 : decode cX7_does 51 = .ok (.aload_n 0, 1) := by decide +kernel
theorem dX7_does_52 : decode cX7_does 52 = .ok (.iload_n 1, 1) := by decide +kernel
theorem dX7_does_53 : decode cX7_does 53 = .ok (.invokevirtual 192, 3) := by decide +kernel
theorem dX7_does_56 : decode cX7_does 56 = .ok (.ifCond .eq 9, 3) := by decide +kernel
theorem dX7_does_59 : decode cX7_does 59 = .ok (.iinc 1 1, 3) := by decide +kernel
theorem dX7_does_62 : decode cX7_does 62 = .ok (.goto (-19), 3) := by decide +kernel
theorem dX7_does_65 : decode cX7_does 65 = .ok (.aload_n 0, 1) := by decide +kernel
theorem dX7_does_66 : decode cX7_does 66 = .ok (.invokevirtual 195, 3) := by decide +kernel
theorem dX7_does_69 : decode cX7_does 69 = .ok (.iload_n 1, 1) := by decide +kernel
theorem dX7_does_70 : decode cX7_does 70 = .ok (.aload_n 0, 1) := by decide +kernel
theorem dX7_does_71 : decode cX7_does 71 = .ok (.getfield 179, 3) := by decide +kernel
theorem dX7_does_74 : decode cX7_does 74 = .ok (.if_icmp .ge 9, 3) := by decide +kernel
theorem dX7_does_77 : decode cX7_does 77 = .ok (.sipush (-2000), 3) := by decide +kernel
theorem dX7_does_80 : decode cX7_does 80 = .ok (.iload_n 1, 1) := by decide +kernel
theorem dX7_does_81 : decode cX7_does 81 = .ok (.isub, 1) := by decide +kernel
theorem dX7_does_82 : decode cX7_does 82 = .ok (.ireturn, 1) := by decide +kernel
theorem dX7_does_83 : decode cX7_does 83 = .ok (.aload_n 0, 1) := by decide +kernel
theorem dX7_does_84 : decode cX7_does 84 = .ok (.invokevirtual 98, 3) := by decide +kernel
theorem dX7_does_87 : decode cX7_does 87 = .ok (.aload_n 0, 1) := by decide +kernel
theorem dX7_does_88 : decode cX7_does 88 = .ok (.invokevirtual 195, 3) := by decide +kernel
theorem dX7_does_91 : decode cX7_does 91 = .ok (.aload_n 0, 1) := by decide +kernel
theorem dX7_does_92 : decode cX7_does 92 = .ok (.getfield 179, 3) := by decide +kernel
theorem dX7_does_95 : decode cX7_does 95 = .ok (.ireturn, 1) := by decide +kernel
theorem dX7_toldIs_0 : decode cX7_toldIs 0 = .ok (.iload_n 1, 1) := by decide +kernel
theorem dX7_toldIs_1 : decode cX7_toldIs 1 = .ok (.iconst 3, 1) := by decide +kernel
theorem dX7_toldIs_2 : decode cX7_toldIs 2 = .ok (.if_icmp .ge 12, 3) := by decide +kernel
theorem dX7_toldIs_5 : decode cX7_toldIs 5 = .ok (.aload_n 0, 1) := by decide +kernel
theorem dX7_toldIs_6 : decode cX7_toldIs 6 = .ok (.getfield 19, 3) := by decide +kernel
theorem dX7_toldIs_9 : decode cX7_toldIs 9 = .ok (.iload_n 1, 1) := by decide +kernel
theorem dX7_toldIs_10 : decode cX7_toldIs 10 = .ok (.iaload, 1) := by decide +kernel
theorem dX7_toldIs_11 : decode cX7_toldIs 11 = .ok (.goto 19, 3) := by decide +kernel
theorem dX7_toldIs_14 : decode cX7_toldIs 14 = .ok (.iload_n 1, 1) := by decide +kernel
theorem dX7_toldIs_15 : decode cX7_toldIs 15 = .ok (.iconst 3, 1) := by decide +kernel
theorem dX7_toldIs_16 : decode cX7_toldIs 16 = .ok (.if_icmp .ne 10, 3) := by decide +kernel
theorem dX7_toldIs_19 : decode cX7_toldIs 19 = .ok (.aload_n 0, 1) := by decide +kernel
theorem dX7_toldIs_20 : decode cX7_toldIs 20 = .ok (.getfield 164, 3) := by decide +kernel
theorem dX7_toldIs_23 : decode cX7_toldIs 23 = .ok (.goto 7, 3) := by decide +kernel
theorem dX7_toldIs_26 : decode cX7_toldIs 26 = .ok (.aload_n 0, 1) := by decide +kernel
theorem dX7_toldIs_27 : decode cX7_toldIs 27 = .ok (.getfield 56, 3) := by decide +kernel
theorem dX7_toldIs_30 : decode cX7_toldIs 30 = .ok (.ireturn, 1) := by decide +kernel
set_option maxRecDepth 20000 in
theorem ggX7_told_X7_within : GoodIn wsX7_told wsX7_within := goodIn_r _ [4] (by decide +kernel) (by decide +kernel)
set_option maxRecDepth 20000 in
theorem gX7_told_X7_within : GoodIn wsX7_told (va_wsS RX7 52 yX7_within wsX7_within) := goodIn_app (goodIn_of _ (by decide +kernel)) ggX7_told_X7_within
set_option maxRecDepth 20000 in
theorem ggX7_told_X7_toldIs : GoodIn wsX7_told wsX7_toldIs := goodIn_r _ [8, 9, 10, 11, 16, 17, 18, 19, 20, 21, 22, 23, 24, 25, 26, 27, 28, 29, 30, 31, 32, 33, 34] (by decide +kernel) (by decide +kernel)
set_option maxRecDepth 20000 in
theorem gX7_told_X7_toldIs : GoodIn wsX7_told (wsV RX7 198 RX7 yX7_toldIs wsX7_toldIs) := goodIn_app (goodIn_of _ (by decide +kernel)) ggX7_told_X7_toldIs
set_option maxRecDepth 20000 in
theorem ggX7_told_X7_counts : GoodIn wsX7_told wsX7_counts := goodIn_r _ [15, 9, 16, 17, 18, 19, 20, 21, 22, 23, 24, 25, 26, 27, 28, 29, 30, 31, 32, 33, 34] (by decide +kernel) (by decide +kernel)
set_option maxRecDepth 20000 in
theorem gX7_told_X7_counts : GoodIn wsX7_told (wsV RX7 60 RX7 yX7_counts wsX7_counts) := goodIn_app (goodIn_of _ (by decide +kernel)) ggX7_told_X7_counts
theorem dX7_told_0 : decode cX7_told 0 = .ok (.iload_n 1, 1) := by decide +kernel
theorem dX7_told_1 : decode cX7_told 1 = .ok (.iconst 0, 1) := by decide +kernel
theorem dX7_told_2 : decode cX7_told 2 = .ok (.iconst 4, 1) := by decide +kernel
theorem dX7_told_3 : decode cX7_told 3 = .ok (.invokestatic 52, 3) := by decide +kernel
theorem dX7_told_6 : decode cX7_told 6 = .ok (.ifCond .eq 11, 3) := by decide +kernel
theorem dX7_told_9 : decode cX7_told 9 = .ok (.aload_n 0, 1) := by decide +kernel
theorem dX7_told_10 : decode cX7_told 10 = .ok (.iload_n 1, 1) := by decide +kernel
theorem dX7_told_11 : decode cX7_told 11 = .ok (.invokevirtual 198, 3) := by decide +kernel
theorem dX7_told_14 : decode cX7_told 14 = .ok (.goto 10, 3) := by decide +kernel
theorem dX7_told_17 : decode cX7_told 17 = .ok (.aload_n 0, 1) := by decide +kernel
theorem dX7_told_18 : decode cX7_told 18 = .ok (.sipush (-1001), 3) := by decide +kernel
theorem dX7_told_21 : decode cX7_told 21 = .ok (.invokevirtual 60, 3) := by decide +kernel
theorem dX7_told_24 : decode cX7_told 24 = .ok (.ireturn, 1) := by decide +kernel
theorem dX7_mix_0 : decode cX7_mix 0 = .ok (.aload_n 0, 1) := by decide +kernel
end
section
theorem dX7_mix_1 : decode cX7_mix 1 = .ok (.ldc2_w 201, 3) := by decide +kernel
theorem dX7_mix_4 : decode cX7_mix 4 = .ok (.aload_n 0, 1) := by decide +kernel
theorem dX7_mix_5 : decode cX7_mix 5 = .ok (.getfield 203, 3) := by decide +kernel
theorem dX7_mix_8 : decode cX7_mix 8 = .ok (.lmul, 1) := by decide +kernel
theorem dX7_mix_9 : decode cX7_mix 9 = .ok (.iload_n 1, 1) := by decide +kernel
theorem dX7_mix_10 : decode cX7_mix 10 = .ok (.i2l, 1) := by decide +kernel
theorem dX7_mix_11 : decode cX7_mix 11 = .ok (.ladd, 1) := by decide +kernel
theorem dX7_mix_12 : decode cX7_mix 12 = .ok (.putfield 203, 3) := by decide +kernel
theorem dX7_mix_15 : decode cX7_mix 15 = .ok (.return_, 1) := by decide +kernel
set_option maxRecDepth 20000 in
theorem ggX7_digest_X7_toldIs : GoodIn wsX7_digest wsX7_toldIs := goodIn_r _ [11, 12, 13, 14, 106, 107, 108, 109, 110, 111, 112, 113, 114, 115, 116, 117, 118, 119, 120, 121, 122, 123, 124] (by decide +kernel) (by decide +kernel)
set_option maxRecDepth 20000 in
theorem gX7_digest_X7_toldIs : GoodIn wsX7_digest (wsV RX7 198 RX7 yX7_toldIs wsX7_toldIs) := goodIn_app (goodIn_of _ (by decide +kernel)) ggX7_digest_X7_toldIs
set_option maxRecDepth 20000 in
theorem ggX7_digest_X7_mix : GoodIn wsX7_digest wsX7_mix := goodIn_r _ [18, 19, 2, 106, 107, 108, 109, 110, 111, 112, 113, 114, 115, 116, 117, 118, 119, 120, 121, 122, 123, 124] (by decide +kernel) (by decide +kernel)
set_option maxRecDepth 20000 in
theorem gX7_digest_X7_mix : GoodIn wsX7_digest (wsV RX7 209 RX7 yX7_mix wsX7_mix) := goodIn_app (goodIn_of _ (by decide +kernel)) ggX7_digest_X7_mix
set_option maxRecDepth 20000 in
theorem ggX7_digest_X7_countIs : GoodIn wsX7_digest wsX7_countIs := goodIn_r _ [23, 3, 24, 25, 10, 26, 27, 28, 29, 30, 31, 32, 33, 34, 35, 36, 37, 106, 107, 108, 109, 110, 111, 112, 113, 114, 115, 116, 117, 118, 119, 120, 121, 122, 123, 124] (by decide +kernel) (by decide +kernel)
set_option maxRecDepth 20000 in
theorem gX7_digest_X7_countIs : GoodIn wsX7_digest (wsV RX7 161 RX7 yX7_countIs wsX7_countIs) := goodIn_app (goodIn_of _ (by decide +kernel)) ggX7_digest_X7_countIs
set_option maxRecDepth 20000 in
theorem ggX7_digest_X7_ofBend : GoodIn wsX7_digest wsX7_ofBend := goodIn_r _ [41, 3, 106, 107, 108, 109, 110, 111, 112, 113, 114, 115, 116, 117, 118, 119, 120, 121, 122, 123, 124] (by decide +kernel) (by decide +kernel)
set_option maxRecDepth 20000 in
theorem gX7_digest_X7_ofBend : GoodIn wsX7_digest (wsV RX7 133 RX7 yX7_ofBend wsX7_ofBend) := goodIn_app (goodIn_of _ (by decide +kernel)) ggX7_digest_X7_ofBend
set_option maxRecDepth 20000 in
theorem ggX7_digest_X7_lays : GoodIn wsX7_digest wsX7_lays := goodIn_r _ [45, 4, 5, 3, 46, 47, 48, 10, 49, 50, 51, 52, 35, 36, 37, 106, 107, 108, 109, 110, 111, 112, 113, 114, 115, 116, 117, 118, 119, 120, 121, 122, 123, 124] (by decide +kernel) (by decide +kernel)
set_option maxRecDepth 20000 in
theorem gX7_digest_X7_lays : GoodIn wsX7_digest (wsV RX7 81 RX7 yX7_lays wsX7_lays) := goodIn_app (goodIn_of _ (by decide +kernel)) ggX7_digest_X7_lays
set_option maxRecDepth 20000 in
theorem ggX7_digest_X7_boxIs : GoodIn wsX7_digest wsX7_boxIs := goodIn_r _ [56, 3, 4, 5, 42, 43, 44, 10, 45, 46, 47, 48, 49, 50, 51, 52, 35, 36, 37, 57, 58, 59, 60, 61, 62, 106, 107, 108, 109, 110, 111, 112, 113, 114, 115, 116, 117, 118, 119, 120, 121, 122, 123, 124] (by decide +kernel) (by decide +kernel)
set_option maxRecDepth 20000 in
theorem gX7_digest_X7_boxIs : GoodIn wsX7_digest (wsV RX7 136 RX7 yX7_boxIs wsX7_boxIs) := goodIn_app (goodIn_of _ (by decide +kernel)) ggX7_digest_X7_boxIs
set_option maxRecDepth 20000 in
theorem ggX7_digest_X7_free : GoodIn wsX7_digest wsX7_free := goodIn_r _ [66, 3, 67, 68, 69, 10, 70, 35, 36, 37, 71, 72, 73, 74, 42, 43, 44, 45, 4, 5, 46, 47, 48, 49, 50, 51, 52, 75, 76, 77, 78, 79, 80, 81, 82, 57, 58, 59, 60, 61, 62, 83, 84, 85, 86, 106, 107, 108, 109, 110, 111, 112, 113, 114, 115, 116, 117, 118, 119, 120, 121, 122, 123, 124] (by decide +kernel) (by decide +kernel)
set_option maxRecDepth 20000 in
theorem gX7_digest_X7_free : GoodIn wsX7_digest (wsV RX7 212 RX7 yX7_free wsX7_free) := goodIn_app (goodIn_of _ (by decide +kernel)) ggX7_digest_X7_free
set_option maxRecDepth 20000 in
theorem ggX7_digest_X7_laysOrders : GoodIn wsX7_digest wsX7_laysOrders := goodIn_r _ [90, 91, 6, 92, 3, 27, 28, 29, 10, 30, 67, 68, 69, 70, 35, 36, 37, 71, 72, 73, 74, 42, 43, 44, 45, 4, 5, 46, 47, 48, 49, 50, 51, 52, 75, 76, 77, 78, 79, 80, 81, 82, 57, 58, 59, 60, 61, 62, 83, 84, 85, 86, 93, 94, 95, 96, 106, 107, 108, 109, 110, 111, 112, 113, 114, 115, 116, 117, 118, 119, 120, 121, 122, 123, 124] (by decide +kernel) (by decide +kernel)
set_option maxRecDepth 20000 in
theorem gX7_digest_X7_laysOrders : GoodIn wsX7_digest (wsV RX7 146 RX7 yX7_laysOrders wsX7_laysOrders) := goodIn_app (goodIn_of _ (by decide +kernel)) ggX7_digest_X7_laysOrders
set_option maxRecDepth 20000 in
theorem ggX7_digest_X7_changesIs : GoodIn wsX7_digest wsX7_changesIs := goodIn_r _ [100, 6, 101, 102, 103, 10, 104, 3, 91, 92, 105, 35, 36, 37, 93, 94, 95, 96, 106, 107, 108, 109, 110, 111, 112, 113, 114, 115, 116, 117, 118, 119, 120, 121, 122, 123, 124] (by decide +kernel) (by decide +kernel)
set_option maxRecDepth 20000 in
theorem gX7_digest_X7_changesIs : GoodIn wsX7_digest (wsV RX7 155 RX7 yX7_changesIs wsX7_changesIs) := goodIn_app (goodIn_of _ (by decide +kernel)) ggX7_digest_X7_changesIs
theorem dX7_digest_0 : decode cX7_digest 0 = .ok (.aload_n 0, 1) := by decide +kernel
theorem dX7_digest_1 : decode cX7_digest 1 = .ok (.ldc2_w 207, 3) := by decide +kernel
theorem dX7_digest_4 : decode cX7_digest 4 = .ok (.putfield 203, 3) := by decide +kernel
theorem dX7_digest_7 : decode cX7_digest 7 = .ok (.iconst 0, 1) := by decide +kernel
theorem dX7_digest_8 : decode cX7_digest 8 = .ok (.istore_n 1, 1) := by decide +kernel
theorem dX7_digest_9 : decode cX7_digest 9 = .ok (.iload_n 1, 1) := by decide +kernel
theorem dX7_digest_10 : decode cX7_digest 10 = .ok (.iconst 5, 1) := by decide +kernel
theorem dX7_digest_11 : decode cX7_digest 11 = .ok (.if_icmp .ge 18, 3) := by decide +kernel
theorem dX7_digest_14 : decode cX7_digest 14 = .ok (.aload_n 0, 1) := by decide +kernel
theorem dX7_digest_15 : decode cX7_digest 15 = .ok (.aload_n 0, 1) := by decide +kernel
theorem dX7_digest_16 : decode cX7_digest 16 = .ok (.iload_n 1, 1) := by decide +kernel
theorem dX7_digest_17 : decode cX7_digest 17 = .ok (.invokevirtual 198, 3) := by decide +kernel
theorem dX7_digest_20 : decode cX7_digest 20 = .ok (.invokevirtual 209, 3) := by decide +kernel
theorem dX7_digest_23 : decode cX7_digest 23 = .ok (.iinc 1 1, 3) := by decide +kernel
theorem dX7_digest_26 : decode cX7_digest 26 = .ok (.goto (-17), 3) := by decide +kernel
theorem dX7_digest_29 : decode cX7_digest 29 = .ok (.iconst 0, 1) := by decide +kernel
theorem dX7_digest_30 : decode cX7_digest 30 = .ok (.istore_n 1, 1) := by decide +kernel
theorem dX7_digest_31 : decode cX7_digest 31 = .ok (.iload_n 1, 1) := by decide +kernel
theorem dX7_digest_32 : decode cX7_digest 32 = .ok (.bipush 11, 2) := by decide +kernel
theorem dX7_digest_34 : decode cX7_digest 34 = .ok (.if_icmp .ge 18, 3) := by decide +kernel
theorem dX7_digest_37 : decode cX7_digest 37 = .ok (.aload_n 0, 1) := by decide +kernel
theorem dX7_digest_38 : decode cX7_digest 38 = .ok (.aload_n 0, 1) := by decide +kernel
theorem dX7_digest_39 : decode cX7_digest 39 = .ok (.iload_n 1, 1) := by decide +kernel
theorem dX7_digest_40 : decode cX7_digest 40 = .ok (.invokevirtual 161, 3) := by decide +kernel
theorem dX7_digest_43 : decode cX7_digest 43 = .ok (.invokevirtual 209, 3) := by decide +kernel
theorem dX7_digest_46 : decode cX7_digest 46 = .ok (.iinc 1 1, 3) := by decide +kernel
theorem dX7_digest_49 : decode cX7_digest 49 = .ok (.goto (-18), 3) := by decide +kernel
theorem dX7_digest_52 : decode cX7_digest 52 = .ok (.aload_n 0, 1) := by decide +kernel
theorem dX7_digest_53 : decode cX7_digest 53 = .ok (.aload_n 0, 1) := by decide +kernel
theorem dX7_digest_54 : decode cX7_digest 54 = .ok (.getfield 7, 3) := by decide +kernel
theorem dX7_digest_57 : decode cX7_digest 57 = .ok (.iconst 1, 1) := by decide +kernel
theorem dX7_digest_58 : decode cX7_digest 58 = .ok (.iaload, 1) := by decide +kernel
theorem dX7_digest_59 : decode cX7_digest 59 = .ok (.invokevirtual 209, 3) := by decide +kernel
theorem dX7_digest_62 : decode cX7_digest 62 = .ok (.iconst 0, 1) := by decide +kernel
theorem dX7_digest_63 : decode cX7_digest 63 = .ok (.istore_n 1, 1) := by decide +kernel
theorem dX7_digest_64 : decode cX7_digest 64 = .ok (.iload_n 1, 1) := by decide +kernel
theorem dX7_digest_65 : decode cX7_digest 65 = .ok (.iconst 4, 1) := by decide +kernel
theorem dX7_digest_66 : decode cX7_digest 66 = .ok (.aload_n 0, 1) := by decide +kernel
theorem dX7_digest_67 : decode cX7_digest 67 = .ok (.getfield 7, 3) := by decide +kernel
theorem dX7_digest_70 : decode cX7_digest 70 = .ok (.iconst 0, 1) := by decide +kernel
theorem dX7_digest_71 : decode cX7_digest 71 = .ok (.iaload, 1) := by decide +kernel
theorem dX7_digest_72 : decode cX7_digest 72 = .ok (.imul, 1) := by decide +kernel
theorem dX7_digest_73 : decode cX7_digest 73 = .ok (.if_icmp .ge 23, 3) := by decide +kernel
theorem dX7_digest_76 : decode cX7_digest 76 = .ok (.aload_n 0, 1) := by decide +kernel
theorem dX7_digest_77 : decode cX7_digest 77 = .ok (.aload_n 0, 1) := by decide +kernel
theorem dX7_digest_78 : decode cX7_digest 78 = .ok (.iload_n 1, 1) := by decide +kernel
theorem dX7_digest_79 : decode cX7_digest 79 = .ok (.iconst 4, 1) := by decide +kernel
theorem dX7_digest_80 : decode cX7_digest 80 = .ok (.idiv, 1) := by decide +kernel
theorem dX7_digest_81 : decode cX7_digest 81 = .ok (.iload_n 1, 1) := by decide +kernel
theorem dX7_digest_82 : decode cX7_digest 82 = .ok (.iconst 4, 1) := by decide +kernel
theorem dX7_digest_83 : decode cX7_digest 83 = .ok (.irem, 1) := by decide +kernel
theorem dX7_digest_84 : decode cX7_digest 84 = .ok (.invokevirtual 133, 3) := by decide +kernel
theorem dX7_digest_87 : decode cX7_digest 87 = .ok (.invokevirtual 209, 3) := by decide +kernel
theorem dX7_digest_90 : decode cX7_digest 90 = .ok (.iinc 1 1, 3) := by decide +kernel
theorem dX7_digest_93 : decode cX7_digest 93 = .ok (.goto (-29), 3) := by decide +kernel
theorem dX7_digest_96 : decode cX7_digest 96 = .ok (.aload_n 0, 1) := by decide +kernel
theorem dX7_digest_97 : decode cX7_digest 97 = .ok (.aload_n 0, 1) := by decide +kernel
theorem dX7_digest_98 : decode cX7_digest 98 = .ok (.getfield 7, 3) := by decide +kernel
theorem dX7_digest_101 : decode cX7_digest 101 = .ok (.bipush 20, 2) := by decide +kernel
theorem dX7_digest_103 : decode cX7_digest 103 = .ok (.iaload, 1) := by decide +kernel
theorem dX7_digest_104 : decode cX7_digest 104 = .ok (.invokevirtual 81, 3) := by decide +kernel
theorem dX7_digest_107 : decode cX7_digest 107 = .ok (.iconst 0, 1) := by decide +kernel
theorem dX7_digest_108 : decode cX7_digest 108 = .ok (.istore_n 1, 1) := by decide +kernel
theorem dX7_digest_109 : decode cX7_digest 109 = .ok (.iload_n 1, 1) := by decide +kernel
theorem dX7_digest_110 : decode cX7_digest 110 = .ok (.aload_n 0, 1) := by decide +kernel
theorem dX7_digest_111 : decode cX7_digest 111 = .ok (.getfield 7, 3) := by decide +kernel
theorem dX7_digest_114 : decode cX7_digest 114 = .ok (.iconst 0, 1) := by decide +kernel
theorem dX7_digest_115 : decode cX7_digest 115 = .ok (.iaload, 1) := by decide +kernel
theorem dX7_digest_116 : decode cX7_digest 116 = .ok (.iconst 2, 1) := by decide +kernel
theorem dX7_digest_117 : decode cX7_digest 117 = .ok (.iadd, 1) := by decide +kernel
theorem dX7_digest_118 : decode cX7_digest 118 = .ok (.if_icmp .ge 29, 3) := by decide +kernel
theorem dX7_digest_121 : decode cX7_digest 121 = .ok (.aload_n 0, 1) := by decide +kernel
theorem dX7_digest_122 : decode cX7_digest 122 = .ok (.aload_n 0, 1) := by decide +kernel
theorem dX7_digest_123 : decode cX7_digest 123 = .ok (.getfield 25, 3) := by decide +kernel
theorem dX7_digest_126 : decode cX7_digest 126 = .ok (.iload_n 1, 1) := by decide +kernel
theorem dX7_digest_127 : decode cX7_digest 127 = .ok (.iaload, 1) := by decide +kernel
theorem dX7_digest_128 : decode cX7_digest 128 = .ok (.invokevirtual 209, 3) := by decide +kernel
theorem dX7_digest_131 : decode cX7_digest 131 = .ok (.aload_n 0, 1) := by decide +kernel
theorem dX7_digest_132 : decode cX7_digest 132 = .ok (.aload_n 0, 1) := by decide +kernel
theorem dX7_digest_133 : decode cX7_digest 133 = .ok (.getfield 28, 3) := by decide +kernel
theorem dX7_digest_136 : decode cX7_digest 136 = .ok (.iload_n 1, 1) := by decide +kernel
theorem dX7_digest_137 : decode cX7_digest 137 = .ok (.iaload, 1) := by decide +kernel
theorem dX7_digest_138 : decode cX7_digest 138 = .ok (.invokevirtual 209, 3) := by decide +kernel
theorem dX7_digest_141 : decode cX7_digest 141 = .ok (.iinc 1 1, 3) := by decide +kernel
theorem dX7_digest_144 : decode cX7_digest 144 = .ok (.goto (-35), 3) := by decide +kernel
theorem dX7_digest_147 : decode cX7_digest 147 = .ok (.iconst 0, 1) := by decide +kernel
theorem dX7_digest_148 : decode cX7_digest 148 = .ok (.istore_n 1, 1) := by decide +kernel
theorem dX7_digest_149 : decode cX7_digest 149 = .ok (.iload_n 1, 1) := by decide +kernel
theorem dX7_digest_150 : decode cX7_digest 150 = .ok (.iconst 4, 1) := by decide +kernel
theorem dX7_digest_151 : decode cX7_digest 151 = .ok (.if_icmp .ge 18, 3) := by decide +kernel
theorem dX7_digest_154 : decode cX7_digest 154 = .ok (.aload_n 0, 1) := by decide +kernel
theorem dX7_digest_155 : decode cX7_digest 155 = .ok (.aload_n 0, 1) := by decide +kernel
theorem dX7_digest_156 : decode cX7_digest 156 = .ok (.iload_n 1, 1) := by decide +kernel
theorem dX7_digest_157 : decode cX7_digest 157 = .ok (.invokevirtual 136, 3) := by decide +kernel
theorem dX7_digest_160 : decode cX7_digest 160 = .ok (.invokevirtual 209, 3) := by decide +kernel
theorem dX7_digest_163 : decode cX7_digest 163 = .ok (.iinc 1 1, 3) := by decide +kernel
theorem dX7_digest_166 : decode cX7_digest 166 = .ok (.goto (-17), 3) := by decide +kernel
theorem dX7_digest_169 : decode cX7_digest 169 = .ok (.aload_n 0, 1) := by decide +kernel
theorem dX7_digest_170 : decode cX7_digest 170 = .ok (.aload_n 0, 1) := by decide +kernel
theorem dX7_digest_171 : decode cX7_digest 171 = .ok (.invokevirtual 212, 3) := by decide +kernel
theorem dX7_digest_174 : decode cX7_digest 174 = .ok (.invokevirtual 209, 3) := by decide +kernel
theorem dX7_digest_177 : decode cX7_digest 177 = .ok (.aload_n 0, 1) := by decide +kernel
theorem dX7_digest_178 : decode cX7_digest 178 = .ok (.invokevirtual 146, 3) := by decide +kernel
theorem dX7_digest_181 : decode cX7_digest 181 = .ok (.aload_n 0, 1) := by decide +kernel
theorem dX7_digest_182 : decode cX7_digest 182 = .ok (.aload_n 0, 1) := by decide +kernel
theorem dX7_digest_183 : decode cX7_digest 183 = .ok (.getfield 37, 3) := by decide +kernel
theorem dX7_digest_186 : decode cX7_digest 186 = .ok (.iconst 0, 1) := by decide +kernel
theorem dX7_digest_187 : decode cX7_digest 187 = .ok (.iaload, 1) := by decide +kernel
theorem dX7_digest_188 : decode cX7_digest 188 = .ok (.invokevirtual 209, 3) := by decide +kernel
theorem dX7_digest_191 : decode cX7_digest 191 = .ok (.aload_n 0, 1) := by decide +kernel
theorem dX7_digest_192 : decode cX7_digest 192 = .ok (.aload_n 0, 1) := by decide +kernel
theorem dX7_digest_193 : decode cX7_digest 193 = .ok (.iconst 0, 1) := by decide +kernel
theorem dX7_digest_194 : decode cX7_digest 194 = .ok (.invokevirtual 155, 3) := by decide +kernel
theorem dX7_digest_197 : decode cX7_digest 197 = .ok (.invokevirtual 209, 3) := by decide +kernel
theorem dX7_digest_200 : decode cX7_digest 200 = .ok (.aload_n 0, 1) := by decide +kernel
theorem dX7_digest_201 : decode cX7_digest 201 = .ok (.aload_n 0, 1) := by decide +kernel
theorem dX7_digest_202 : decode cX7_digest 202 = .ok (.iconst 1, 1) := by decide +kernel
theorem dX7_digest_203 : decode cX7_digest 203 = .ok (.invokevirtual 155, 3) := by decide +kernel
theorem dX7_digest_206 : decode cX7_digest 206 = .ok (.invokevirtual 209, 3) := by decide +kernel
theorem dX7_digest_209 : decode cX7_digest 209 = .ok (.aload_n 0, 1) := by decide +kernel
theorem dX7_digest_210 : decode cX7_digest 210 = .ok (.aload_n 0, 1) := by decide +kernel
theorem dX7_digest_211 : decode cX7_digest 211 = .ok (.getfield 37, 3) := by decide +kernel
theorem dX7_digest_214 : decode cX7_digest 214 = .ok (.aload_n 0, 1) := by decide +kernel
theorem dX7_digest_215 : decode cX7_digest 215 = .ok (.getfield 7, 3) := by decide +kernel
theorem dX7_digest_218 : decode cX7_digest 218 = .ok (.bipush 20, 2) := by decide +kernel
theorem dX7_digest_220 : decode cX7_digest 220 = .ok (.iaload, 1) := by decide +kernel
theorem dX7_digest_221 : decode cX7_digest 221 = .ok (.iaload, 1) := by decide +kernel
theorem dX7_digest_222 : decode cX7_digest 222 = .ok (.invokevirtual 209, 3) := by decide +kernel
theorem dX7_digest_225 : decode cX7_digest 225 = .ok (.aload_n 0, 1) := by decide +kernel
theorem dX7_digest_226 : decode cX7_digest 226 = .ok (.getfield 203, 3) := by decide +kernel
theorem dX7_digest_229 : decode cX7_digest 229 = .ok (.lreturn, 1) := by decide +kernel
theorem dJ6_bitCount_0f7a4_0 : decode cJ6_bitCount_0f7a4 0 = .ok (.iload_n 0, 1) := by decide +kernel
theorem dJ6_bitCount_0f7a4_1 : decode cJ6_bitCount_0f7a4 1 = .ok (.iload_n 0, 1) := by decide +kernel
theorem dJ6_bitCount_0f7a4_2 : decode cJ6_bitCount_0f7a4 2 = .ok (.iconst 1, 1) := by decide +kernel
theorem dJ6_bitCount_0f7a4_3 : decode cJ6_bitCount_0f7a4 3 = .ok (.iushr, 1) := by decide +kernel
theorem dJ6_bitCount_0f7a4_4 : decode cJ6_bitCount_0f7a4 4 = .ok (.ldc_w 265, 3) := by decide +kernel
theorem dJ6_bitCount_0f7a4_7 : decode cJ6_bitCount_0f7a4 7 = .ok (.iand, 1) := by decide +kernel
theorem dJ6_bitCount_0f7a4_8 : decode cJ6_bitCount_0f7a4 8 = .ok (.isub, 1) := by decide +kernel
theorem dJ6_bitCount_0f7a4_9 : decode cJ6_bitCount_0f7a4 9 = .ok (.istore_n 0, 1) := by decide +kernel
theorem dJ6_bitCount_0f7a4_10 : decode cJ6_bitCount_0f7a4 10 = .ok (.iload_n 0, 1) := by decide +kernel
theorem dJ6_bitCount_0f7a4_11 : decode cJ6_bitCount_0f7a4 11 = .ok (.ldc_w 266, 3) := by decide +kernel
theorem dJ6_bitCount_0f7a4_14 : decode cJ6_bitCount_0f7a4 14 = .ok (.iand, 1) := by decide +kernel
theorem dJ6_bitCount_0f7a4_15 : decode cJ6_bitCount_0f7a4 15 = .ok (.iload_n 0, 1) := by decide +kernel
theorem dJ6_bitCount_0f7a4_16 : decode cJ6_bitCount_0f7a4 16 = .ok (.iconst 2, 1) := by decide +kernel
theorem dJ6_bitCount_0f7a4_17 : decode cJ6_bitCount_0f7a4 17 = .ok (.iushr, 1) := by decide +kernel
theorem dJ6_bitCount_0f7a4_18 : decode cJ6_bitCount_0f7a4 18 = .ok (.ldc_w 266, 3) := by decide +kernel
theorem dJ6_bitCount_0f7a4_21 : decode cJ6_bitCount_0f7a4 21 = .ok (.iand, 1) := by decide +kernel
theorem dJ6_bitCount_0f7a4_22 : decode cJ6_bitCount_0f7a4 22 = .ok (.iadd, 1) := by decide +kernel
theorem dJ6_bitCount_0f7a4_23 : decode cJ6_bitCount_0f7a4 23 = .ok (.istore_n 0, 1) := by decide +kernel
theorem dJ6_bitCount_0f7a4_24 : decode cJ6_bitCount_0f7a4 24 = .ok (.iload_n 0, 1) := by decide +kernel
theorem dJ6_bitCount_0f7a4_25 : decode cJ6_bitCount_0f7a4 25 = .ok (.iload_n 0, 1) := by decide +kernel
theorem dJ6_bitCount_0f7a4_26 : decode cJ6_bitCount_0f7a4 26 = .ok (.iconst 4, 1) := by decide +kernel
theorem dJ6_bitCount_0f7a4_27 : decode cJ6_bitCount_0f7a4 27 = .ok (.iushr, 1) := by decide +kernel
theorem dJ6_bitCount_0f7a4_28 : decode cJ6_bitCount_0f7a4 28 = .ok (.iadd, 1) := by decide +kernel
theorem dJ6_bitCount_0f7a4_29 : decode cJ6_bitCount_0f7a4 29 = .ok (.ldc_w 267, 3) := by decide +kernel
theorem dJ6_bitCount_0f7a4_32 : decode cJ6_bitCount_0f7a4 32 = .ok (.iand, 1) := by decide +kernel
theorem dJ6_bitCount_0f7a4_33 : decode cJ6_bitCount_0f7a4 33 = .ok (.istore_n 0, 1) := by decide +kernel
theorem dJ6_bitCount_0f7a4_34 : decode cJ6_bitCount_0f7a4 34 = .ok (.iload_n 0, 1) := by decide +kernel
theorem dJ6_bitCount_0f7a4_35 : decode cJ6_bitCount_0f7a4 35 = .ok (.iload_n 0, 1) := by decide +kernel
theorem dJ6_bitCount_0f7a4_36 : decode cJ6_bitCount_0f7a4 36 = .ok (.bipush 8, 2) := by decide +kernel
theorem dJ6_bitCount_0f7a4_38 : decode cJ6_bitCount_0f7a4 38 = .ok (.iushr, 1) := by decide +kernel
theorem dJ6_bitCount_0f7a4_39 : decode cJ6_bitCount_0f7a4 39 = .ok (.iadd, 1) := by decide +kernel
theorem dJ6_bitCount_0f7a4_40 : decode cJ6_bitCount_0f7a4 40 = .ok (.istore_n 0, 1) := by decide +kernel
theorem dJ6_bitCount_0f7a4_41 : decode cJ6_bitCount_0f7a4 41 = .ok (.iload_n 0, 1) := by decide +kernel
theorem dJ6_bitCount_0f7a4_42 : decode cJ6_bitCount_0f7a4 42 = .ok (.iload_n 0, 1) := by decide +kernel
theorem dJ6_bitCount_0f7a4_43 : decode cJ6_bitCount_0f7a4 43 = .ok (.bipush 16, 2) := by decide +kernel
theorem dJ6_bitCount_0f7a4_45 : decode cJ6_bitCount_0f7a4 45 = .ok (.iushr, 1) := by decide +kernel
theorem dJ6_bitCount_0f7a4_46 : decode cJ6_bitCount_0f7a4 46 = .ok (.iadd, 1) := by decide +kernel
theorem dJ6_bitCount_0f7a4_47 : decode cJ6_bitCount_0f7a4 47 = .ok (.istore_n 0, 1) := by decide +kernel
theorem dJ6_bitCount_0f7a4_48 : decode cJ6_bitCount_0f7a4 48 = .ok (.iload_n 0, 1) := by decide +kernel
theorem dJ6_bitCount_0f7a4_49 : decode cJ6_bitCount_0f7a4 49 = .ok (.bipush 63, 2) := by decide +kernel
theorem dJ6_bitCount_0f7a4_51 : decode cJ6_bitCount_0f7a4 51 = .ok (.iand, 1) := by decide +kernel
theorem dJ6_bitCount_0f7a4_52 : decode cJ6_bitCount_0f7a4 52 = .ok (.ireturn, 1) := by decide +kernel
theorem dJ9_max_7cf53_0 : decode cJ9_max_7cf53 0 = .ok (.iload_n 0, 1) := by decide +kernel
theorem dJ9_max_7cf53_1 : decode cJ9_max_7cf53 1 = .ok (.iload_n 1, 1) := by decide +kernel
theorem dJ9_max_7cf53_2 : decode cJ9_max_7cf53 2 = .ok (.if_icmp .lt 7, 3) := by decide +kernel
theorem dJ9_max_7cf53_5 : decode cJ9_max_7cf53 5 = .ok (.iload_n 0, 1) := by decide +kernel
theorem dJ9_max_7cf53_6 : decode cJ9_max_7cf53 6 = .ok (.goto 4, 3) := by decide +kernel
theorem dJ9_max_7cf53_9 : decode cJ9_max_7cf53 9 = .ok (.iload_n 1, 1) := by decide +kernel
theorem dJ9_max_7cf53_10 : decode cJ9_max_7cf53 10 = .ok (.ireturn, 1) := by decide +kernel
theorem dJ9_min_7cf53_0 : decode cJ9_min_7cf53 0 = .ok (.iload_n 0, 1) := by decide +kernel
theorem dJ9_min_7cf53_1 : decode cJ9_min_7cf53 1 = .ok (.iload_n 1, 1) := by decide +kernel
theorem dJ9_min_7cf53_2 : decode cJ9_min_7cf53 2 = .ok (.if_icmp .gt 7, 3) := by decide +kernel
theorem dJ9_min_7cf53_5 : decode cJ9_min_7cf53 5 = .ok (.iload_n 0, 1) := by decide +kernel
theorem dJ9_min_7cf53_6 : decode cJ9_min_7cf53 6 = .ok (.goto 4, 3) := by decide +kernel
theorem dJ9_min_7cf53_9 : decode cJ9_min_7cf53 9 = .ok (.iload_n 1, 1) := by decide +kernel
theorem dJ9_min_7cf53_10 : decode cJ9_min_7cf53 10 = .ok (.ireturn, 1) := by decide +kernel
theorem dJ7_fill_53178_0 : decode cJ7_fill_53178 0 = .ok (.iconst 0, 1) := by decide +kernel
theorem dJ7_fill_53178_1 : decode cJ7_fill_53178 1 = .ok (.istore_n 2, 1) := by decide +kernel
theorem dJ7_fill_53178_2 : decode cJ7_fill_53178 2 = .ok (.aload_n 0, 1) := by decide +kernel
theorem dJ7_fill_53178_3 : decode cJ7_fill_53178 3 = .ok (.arraylength, 1) := by decide +kernel
theorem dJ7_fill_53178_4 : decode cJ7_fill_53178 4 = .ok (.istore_n 3, 1) := by decide +kernel
theorem dJ7_fill_53178_5 : decode cJ7_fill_53178 5 = .ok (.iload_n 2, 1) := by decide +kernel
theorem dJ7_fill_53178_6 : decode cJ7_fill_53178 6 = .ok (.iload_n 3, 1) := by decide +kernel
theorem dJ7_fill_53178_7 : decode cJ7_fill_53178 7 = .ok (.if_icmp .ge 13, 3) := by decide +kernel
theorem dJ7_fill_53178_10 : decode cJ7_fill_53178 10 = .ok (.aload_n 0, 1) := by decide +kernel
theorem dJ7_fill_53178_11 : decode cJ7_fill_53178 11 = .ok (.iload_n 2, 1) := by decide +kernel
theorem dJ7_fill_53178_12 : decode cJ7_fill_53178 12 = .ok (.iload_n 1, 1) := by decide +kernel
theorem dJ7_fill_53178_13 : decode cJ7_fill_53178 13 = .ok (.iastore, 1) := by decide +kernel
theorem dJ7_fill_53178_14 : decode cJ7_fill_53178 14 = .ok (.iinc 2 1, 3) := by decide +kernel
theorem dJ7_fill_53178_17 : decode cJ7_fill_53178 17 = .ok (.goto (-12), 3) := by decide +kernel
theorem dJ7_fill_53178_20 : decode cJ7_fill_53178 20 = .ok (.return_, 1) := by decide +kernel
end
section
/-! the cells: 0 .. 53 the folder, 54 .. 68 the reference -/
def shF (k : Nat) : List Fk := [some (some (k + 1)), some (some (k + 2)), some (some (k + 3)), some (some (k + 4)), none, none, none, none]
def ringK (j : Nat) : Nat := 20 + 5 * j
def shL : List Sh := [.inr (.inl (6, [some (some 1), some (some 6), some (some 10), some (some 17), some (some 18), some (some 50), none, none, none])), .inr (.inl (4, shF 1)), .inl 7, .inl 6, .inl 6, .inl 3, .inr (.inl (3, [some (some 7), some (some 8), some (some 9), none])), .inl 8, .inl 8, .inl 7, .inr (.inl (1, [some (some 1), some (some 6), some (some 11), some (some 12), some (some 13), some (some 14), none, some (some 15), some (some 16), none, none, none])), .inl 64, .inl 64, .inl 64, .inl 256, .inl 6, .inl 6, .inr (.inl (5, [some (some 1), some (some 10)])), .inr (.inl (0, [some (some 19), none, none])), .inr (.inr (6, ringK)), .inr (.inl (4, shF 20)), .inl 7, .inl 6, .inl 6, .inl 3, .inr (.inl (4, shF 25)), .inl 7, .inl 6, .inl 6, .inl 3, .inr (.inl (4, shF 30)), .inl 7, .inl 6, .inl 6, .inl 3, .inr (.inl (4, shF 35)), .inl 7, .inl 6, .inl 6, .inl 3, .inr (.inl (4, shF 40)), .inl 7, .inl 6, .inl 6, .inl 3, .inr (.inl (4, shF 45)), .inl 7, .inl 6, .inl 6, .inl 3, .inr (.inl (2, [some (some 51), some (some 52), some (some 53), none, none, none])), .inl 120, .inl 60, .inl 180, .inr (.inl (7, [some (some 55), some (some 56), some (some 57), none, some (some 58), some (some 59), none, some (some 60), some (some 61), some (some 62), some (some 63), some (some 64), some (some 65), some (some 66), none, none, some (some 67), some (some 68), some none])), .inl 26, .inl 26, .inl 130, .inl 3, .inl 120, .inl 8, .inl 8, .inl 7, .inl 64, .inl 64, .inl 256, .inl 6, .inl 60, .inl 180]
def sh (k : Nat) : Sh := shL.getD k (.inl 0)
def SC : Sg := (0, 54, sh)
def SM : Sg := (54, 15, sh)
theorem ce_0 : Ce SC 0 (.inr (.inl (6, [some (some 1), some (some 6), some (some 10), some (some 17), some (some 18), some (some 50), none, none, none]))) := ⟨by decide, by decide, rfl⟩
theorem ce_1 : Ce SC 1 (.inr (.inl (4, shF 1))) := ⟨by decide, by decide, rfl⟩
theorem ce_2 : Ce SC 2 (.inl 7) := ⟨by decide, by decide, rfl⟩
theorem ce_3 : Ce SC 3 (.inl 6) := ⟨by decide, by decide, rfl⟩
theorem ce_4 : Ce SC 4 (.inl 6) := ⟨by decide, by decide, rfl⟩
theorem ce_5 : Ce SC 5 (.inl 3) := ⟨by decide, by decide, rfl⟩
theorem ce_6 : Ce SC 6 (.inr (.inl (3, [some (some 7), some (some 8), some (some 9), none]))) := ⟨by decide, by decide, rfl⟩
theorem ce_7 : Ce SC 7 (.inl 8) := ⟨by decide, by decide, rfl⟩
theorem ce_8 : Ce SC 8 (.inl 8) := ⟨by decide, by decide, rfl⟩
theorem ce_9 : Ce SC 9 (.inl 7) := ⟨by decide, by decide, rfl⟩
theorem ce_10 : Ce SC 10 (.inr (.inl (1, [some (some 1), some (some 6), some (some 11), some (some 12), some (some 13), some (some 14), none, some (some 15), some (some 16), none, none, none]))) := ⟨by decide, by decide, rfl⟩
theorem ce_11 : Ce SC 11 (.inl 64) := ⟨by decide, by decide, rfl⟩
theorem ce_12 : Ce SC 12 (.inl 64) := ⟨by decide, by decide, rfl⟩
theorem ce_13 : Ce SC 13 (.inl 64) := ⟨by decide, by decide, rfl⟩
theorem ce_14 : Ce SC 14 (.inl 256) := ⟨by decide, by decide, rfl⟩
theorem ce_15 : Ce SC 15 (.inl 6) := ⟨by decide, by decide, rfl⟩
theorem ce_16 : Ce SC 16 (.inl 6) := ⟨by decide, by decide, rfl⟩
theorem ce_17 : Ce SC 17 (.inr (.inl (5, [some (some 1), some (some 10)]))) := ⟨by decide, by decide, rfl⟩
theorem ce_18 : Ce SC 18 (.inr (.inl (0, [some (some 19), none, none]))) := ⟨by decide, by decide, rfl⟩
theorem ce_19 : Ce SC 19 (.inr (.inr (6, ringK))) := ⟨by decide, by decide, rfl⟩
theorem ce_50 : Ce SC 50 (.inr (.inl (2, [some (some 51), some (some 52), some (some 53), none, none, none]))) := ⟨by decide, by decide, rfl⟩
theorem ce_51 : Ce SC 51 (.inl 120) := ⟨by decide, by decide, rfl⟩
theorem ce_52 : Ce SC 52 (.inl 60) := ⟨by decide, by decide, rfl⟩
theorem ce_53 : Ce SC 53 (.inl 180) := ⟨by decide, by decide, rfl⟩
theorem ce_54 : Ce SM 54 (.inr (.inl (7, [some (some 55), some (some 56), some (some 57), none, some (some 58), some (some 59), none, some (some 60), some (some 61), some (some 62), some (some 63), some (some 64), some (some 65), some (some 66), none, none, some (some 67), some (some 68), some none]))) := ⟨by decide, by decide, rfl⟩
theorem ce_55 : Ce SM 55 (.inl 26) := ⟨by decide, by decide, rfl⟩
theorem ce_56 : Ce SM 56 (.inl 26) := ⟨by decide, by decide, rfl⟩
theorem ce_57 : Ce SM 57 (.inl 130) := ⟨by decide, by decide, rfl⟩
theorem ce_58 : Ce SM 58 (.inl 3) := ⟨by decide, by decide, rfl⟩
theorem ce_59 : Ce SM 59 (.inl 120) := ⟨by decide, by decide, rfl⟩
theorem ce_60 : Ce SM 60 (.inl 8) := ⟨by decide, by decide, rfl⟩
theorem ce_61 : Ce SM 61 (.inl 8) := ⟨by decide, by decide, rfl⟩
theorem ce_62 : Ce SM 62 (.inl 7) := ⟨by decide, by decide, rfl⟩
theorem ce_63 : Ce SM 63 (.inl 64) := ⟨by decide, by decide, rfl⟩
theorem ce_64 : Ce SM 64 (.inl 64) := ⟨by decide, by decide, rfl⟩
theorem ce_65 : Ce SM 65 (.inl 256) := ⟨by decide, by decide, rfl⟩
theorem ce_66 : Ce SM 66 (.inl 6) := ⟨by decide, by decide, rfl⟩
theorem ce_67 : Ce SM 67 (.inl 60) := ⟨by decide, by decide, rfl⟩
theorem ce_68 : Ce SM 68 (.inl 180) := ⟨by decide, by decide, rfl⟩
def isSh (k : Nat) : Prop := k = 1 ∨ ∃ j, j < 6 ∧ k = ringK j
theorem isSh_one : isSh 1 := Or.inl rfl
theorem ringK_sh {j : Nat} (h : j < 6) : isSh (ringK j) := Or.inr ⟨j, h, rfl⟩
theorem isSh_o {k : Nat} (h : isSh k) : Ce SC k (.inr (.inl (4, shF k))) := by
  rcases h with rfl | ⟨j, hj, rfl⟩
  · exact ⟨by decide, by decide, rfl⟩
  · rcases (show j = 0 ∨ j = 1 ∨ j = 2 ∨ j = 3 ∨ j = 4 ∨ j = 5 by omega) with rfl | rfl | rfl | rfl | rfl | rfl <;> exact ⟨by decide, by decide, rfl⟩
theorem isSh_1 {k : Nat} (h : isSh k) : Ce SC (k + 1) (.inl 7) := by
  rcases h with rfl | ⟨j, hj, rfl⟩
  · exact ⟨by decide, by decide, rfl⟩
  · rcases (show j = 0 ∨ j = 1 ∨ j = 2 ∨ j = 3 ∨ j = 4 ∨ j = 5 by omega) with rfl | rfl | rfl | rfl | rfl | rfl <;> exact ⟨by decide, by decide, rfl⟩
theorem isSh_2 {k : Nat} (h : isSh k) : Ce SC (k + 2) (.inl 6) := by
  rcases h with rfl | ⟨j, hj, rfl⟩
  · exact ⟨by decide, by decide, rfl⟩
  · rcases (show j = 0 ∨ j = 1 ∨ j = 2 ∨ j = 3 ∨ j = 4 ∨ j = 5 by omega) with rfl | rfl | rfl | rfl | rfl | rfl <;> exact ⟨by decide, by decide, rfl⟩
theorem isSh_3 {k : Nat} (h : isSh k) : Ce SC (k + 3) (.inl 6) := by
  rcases h with rfl | ⟨j, hj, rfl⟩
  · exact ⟨by decide, by decide, rfl⟩
  · rcases (show j = 0 ∨ j = 1 ∨ j = 2 ∨ j = 3 ∨ j = 4 ∨ j = 5 by omega) with rfl | rfl | rfl | rfl | rfl | rfl <;> exact ⟨by decide, by decide, rfl⟩
theorem isSh_4 {k : Nat} (h : isSh k) : Ce SC (k + 4) (.inl 3) := by
  rcases h with rfl | ⟨j, hj, rfl⟩
  · exact ⟨by decide, by decide, rfl⟩
  · rcases (show j = 0 ∨ j = 1 ∨ j = 2 ∨ j = 3 ∨ j = 4 ∨ j = 5 by omega) with rfl | rfl | rfl | rfl | rfl | rfl <;> exact ⟨by decide, by decide, rfl⟩
def irm (x y : Int32) : Int32 := x - x / y * y
theorem j_irm {ρ μ : Type} {X : Cx} {V : Vx μ} {z : ρ} {o : Option ρ} {M : μ} {pc : Nat} {lv : List (Nat × Value)} {st : List Value} {cc : ByteArray} {Ts : List Cond} {own : String} {rt : Option FieldType} {rm : Room} (F : Ok X V cc Ts own rt rm) {x y : Int32} (hne : ¬ y = 0) (hdg : decode cc pc = .ok (.irem, 1)) (k : Jg X V z o M (pc + 1) lv (.int (irm x y) :: st)) : Jg X V z o M pc lv (.int y :: .int x :: st) := j_irem F hne hdg k
end
section
/-! java/lang/Integer.bitCount -/
def fJ6_bitCount_0f7a4 (a0 : Int32) (M : Mm) : Option (Int32 × Mm) := lt (a0 - ((ush a0 (1 : Int32)) &&& (1431655765 : Int32))) (fun x1 => lt ((x1 &&& (858993459 : Int32)) + ((ush x1 (2 : Int32)) &&& (858993459 : Int32))) (fun x2 => lt ((x2 + (ush x2 (4 : Int32))) &&& (252645135 : Int32)) (fun x3 => lt (x3 + (ush x3 (8 : Int32))) (fun x4 => lt (x4 + (ush x4 (16 : Int32))) (fun x5 => some ((x5 &&& (63 : Int32)), M))))))
def rmJ6_bitCount_0f7a4 : Room := { frames := 0, cells := 0, slots := 0, locals := 0 }
theorem kJ6_bitCount_0f7a4 : Kc yJ6_bitCount_0f7a4 cJ6_bitCount_0f7a4 1 (some .int) wsJ6_bitCount_0f7a4 1 := ⟨⟨_, rfl⟩, by decide +kernel, by decide +kernel, by decide +kernel⟩
theorem kc_J6_bitCount_0f7a4_265 : Cond.constant RJ6 265 (1431655765) ∈ wsJ6_bitCount_0f7a4 := by decide +kernel
theorem kc_J6_bitCount_0f7a4_266 : Cond.constant RJ6 266 (858993459) ∈ wsJ6_bitCount_0f7a4 := by decide +kernel
theorem kc_J6_bitCount_0f7a4_267 : Cond.constant RJ6 267 (252645135) ∈ wsJ6_bitCount_0f7a4 := by decide +kernel
set_option maxHeartbeats 4000000 in
set_option maxRecDepth 100000 in
theorem mJ6_bitCount_0f7a4 (l : Launch) (G : Gg) (a0 : Int32) : Ci l G SC yJ6_bitCount_0f7a4 wsJ6_bitCount_0f7a4 rmJ6_bitCount_0f7a4 [.int a0] (fJ6_bitCount_0f7a4 a0) := by
  refine Ci.intro (lv := [(0, .int a0)]) RJ6 rfl (by decide) kJ6_bitCount_0f7a4 (Nat.le_of_ble_eq_true rfl) rfl (fun X V M z F D hX hml E => ?_)
  unfold fJ6_bitCount_0f7a4
  refine j_iload_n F dJ6_bitCount_0f7a4_0 rfl 0 rfl ?_
  refine j_iload_n F dJ6_bitCount_0f7a4_1 rfl 0 rfl ?_
  refine j_iconst (v := (1 : Int32)) F dJ6_bitCount_0f7a4_2 (by decide) ?_
  refine j_iushr (v := (ush a0 (1 : Int32))) F rfl dJ6_bitCount_0f7a4_3 ?_
  refine j_ldcw (v := (1431655765 : Int32)) F kc_J6_bitCount_0f7a4_265 dJ6_bitCount_0f7a4_4 ?_
  refine j_iand F dJ6_bitCount_0f7a4_7 ?_
  refine j_isub F dJ6_bitCount_0f7a4_8 ?_
  refine j_let (f := Value.int) (fun x1 => ?_)
  refine j_istore_n (lv' := [(0, .int x1)]) F dJ6_bitCount_0f7a4_9 rfl (by rw [← hml]; decide) rfl ?_
  refine j_iload_n F dJ6_bitCount_0f7a4_10 rfl 0 rfl ?_
  refine j_ldcw (v := (858993459 : Int32)) F kc_J6_bitCount_0f7a4_266 dJ6_bitCount_0f7a4_11 ?_
  refine j_iand F dJ6_bitCount_0f7a4_14 ?_
  refine j_iload_n F dJ6_bitCount_0f7a4_15 rfl 0 rfl ?_
  refine j_iconst (v := (2 : Int32)) F dJ6_bitCount_0f7a4_16 (by decide) ?_
  refine j_iushr (v := (ush x1 (2 : Int32))) F rfl dJ6_bitCount_0f7a4_17 ?_
  refine j_ldcw (v := (858993459 : Int32)) F kc_J6_bitCount_0f7a4_266 dJ6_bitCount_0f7a4_18 ?_
  refine j_iand F dJ6_bitCount_0f7a4_21 ?_
  refine j_iadd F dJ6_bitCount_0f7a4_22 ?_
  refine j_let (f := Value.int) (fun x2 => ?_)
  refine j_istore_n (lv' := [(0, .int x2)]) F dJ6_bitCount_0f7a4_23 rfl (by rw [← hml]; decide) rfl ?_
  refine j_iload_n F dJ6_bitCount_0f7a4_24 rfl 0 rfl ?_
  refine j_iload_n F dJ6_bitCount_0f7a4_25 rfl 0 rfl ?_
  refine j_iconst (v := (4 : Int32)) F dJ6_bitCount_0f7a4_26 (by decide) ?_
  refine j_iushr (v := (ush x2 (4 : Int32))) F rfl dJ6_bitCount_0f7a4_27 ?_
  refine j_iadd F dJ6_bitCount_0f7a4_28 ?_
  refine j_ldcw (v := (252645135 : Int32)) F kc_J6_bitCount_0f7a4_267 dJ6_bitCount_0f7a4_29 ?_
  refine j_iand F dJ6_bitCount_0f7a4_32 ?_
  refine j_let (f := Value.int) (fun x3 => ?_)
  refine j_istore_n (lv' := [(0, .int x3)]) F dJ6_bitCount_0f7a4_33 rfl (by rw [← hml]; decide) rfl ?_
  refine j_iload_n F dJ6_bitCount_0f7a4_34 rfl 0 rfl ?_
  refine j_iload_n F dJ6_bitCount_0f7a4_35 rfl 0 rfl ?_
  refine j_bipush (v := (8 : Int32)) F dJ6_bitCount_0f7a4_36 (by decide) ?_
  refine j_iushr (v := (ush x3 (8 : Int32))) F rfl dJ6_bitCount_0f7a4_38 ?_
  refine j_iadd F dJ6_bitCount_0f7a4_39 ?_
  refine j_let (f := Value.int) (fun x4 => ?_)
  refine j_istore_n (lv' := [(0, .int x4)]) F dJ6_bitCount_0f7a4_40 rfl (by rw [← hml]; decide) rfl ?_
  refine j_iload_n F dJ6_bitCount_0f7a4_41 rfl 0 rfl ?_
  refine j_iload_n F dJ6_bitCount_0f7a4_42 rfl 0 rfl ?_
  refine j_bipush (v := (16 : Int32)) F dJ6_bitCount_0f7a4_43 (by decide) ?_
  refine j_iushr (v := (ush x4 (16 : Int32))) F rfl dJ6_bitCount_0f7a4_45 ?_
  refine j_iadd F dJ6_bitCount_0f7a4_46 ?_
  refine j_let (f := Value.int) (fun x5 => ?_)
  refine j_istore_n (lv' := [(0, .int x5)]) F dJ6_bitCount_0f7a4_47 rfl (by rw [← hml]; decide) rfl ?_
  refine j_iload_n F dJ6_bitCount_0f7a4_48 rfl 0 rfl ?_
  refine j_bipush (v := (63 : Int32)) F dJ6_bitCount_0f7a4_49 (by decide) ?_
  refine j_iand F dJ6_bitCount_0f7a4_51 ?_
  exact j_iret F D E rfl dJ6_bitCount_0f7a4_52

/-! java/util/Arrays.fill -/
def lJ7_fill_53178_5 (K6 : Mm → Option (Unit × Mm)) (kr : Nat) (nr : Nat) (c2 : Int32) (c4 : Int32) : Nat → Int32 → Mm → Option (Unit × Mm)
  | 0, _, _ => none
  | n9 + 1, x3, N5 => (if c4 ≤ x3 then K6 N5 else (wr N5 kr nr x3 c2).bind (fun N10 => lJ7_fill_53178_5 K6 kr nr c2 c4 n9 (x3 + (1 : Int32)) N10))
def fJ7_fill_53178 (kr : Nat) (nr : Nat) (a0 : Int32) (M : Mm) : Option (Unit × Mm) := lt (Int32.ofNat nr) (fun x1 => lJ7_fill_53178_5 (fun (N7 : Mm) => some ((), N7)) kr nr a0 x1 fu (0 : Int32) M)
def rmJ7_fill_53178 : Room := { frames := 0, cells := 0, slots := 0, locals := 0 }
theorem kJ7_fill_53178 : Kc yJ7_fill_53178 cJ7_fill_53178 4 none wsJ7_fill_53178 2 := ⟨⟨_, rfl⟩, by decide +kernel, by decide +kernel, by decide +kernel⟩
set_option maxHeartbeats 4000000 in
set_option maxRecDepth 100000 in
theorem mJ7_fill_53178 (l : Launch) (G : Gg) (kr : Nat) (nr : Nat) (a0 : Int32) (hc_kr : Ce SC kr (.inl nr)) : Cv l G SC yJ7_fill_53178 wsJ7_fill_53178 rmJ7_fill_53178 [.ref (G.2.1 kr), .int a0] (fJ7_fill_53178 kr nr a0) := by
  refine Cv.intro (lv := [(0, .ref (G.2.1 kr)), (1, .int a0)]) RJ7 rfl (by decide) kJ7_fill_53178 (Nat.le_of_ble_eq_true rfl) rfl (fun X V M z F D hX hml E => ?_)
  unfold fJ7_fill_53178
  refine j_iconst (v := (0 : Int32)) F dJ7_fill_53178_0 (by decide) ?_
  refine j_istore_n (lv' := [(2, .int (0 : Int32)), (0, .ref (G.2.1 kr)), (1, .int a0)]) F dJ7_fill_53178_1 rfl (by rw [← hml]; decide) rfl ?_
  refine j_aload_n F dJ7_fill_53178_2 rfl 1 rfl ?_
  refine j_alen (v := (Int32.ofNat nr)) F D hc_kr rfl dJ7_fill_53178_3 ?_
  refine j_let (f := Value.int) (fun x1 => ?_)
  refine j_istore_n (lv' := [(3, .int x1), (2, .int (0 : Int32)), (0, .ref (G.2.1 kr)), (1, .int a0)]) F dJ7_fill_53178_4 rfl (by rw [← hml]; decide) rfl ?_
  have hL11 : ∀ (K6 : Mm → Option (Unit × Mm)) (c2 : Int32) (c4 : Int32), (∀ (N7 : Mm), Jg X V z (K6 N7) N7 20 [] []) → ∀ (n9 : Nat) (x3 : Int32) (N5 : Mm), Jg X V z (lJ7_fill_53178_5 K6 kr nr c2 c4 n9 x3 N5) N5 5 [(0, .ref (G.2.1 kr)), (1, .int c2), (2, .int x3), (3, .int c4)] [] := by
    intro K6 c2 c4 hK6 n9
    induction n9 with
    | zero => intro x3 N5; rw [lJ7_fill_53178_5]; exact j_none
    | succ n9 ih8 =>
      intro x3 N5
      rw [lJ7_fill_53178_5]
      refine j_iload_n F dJ7_fill_53178_5 rfl 2 rfl ?_
      refine j_iload_n F dJ7_fill_53178_6 rfl 3 rfl ?_
      refine j_icmp_ge (tgt := 20) F dJ7_fill_53178_7 (by decide) ?_ ?_
      · exact j_sub [] rfl (hK6 N5)
      · refine j_aload_n F dJ7_fill_53178_10 rfl 0 rfl ?_
        refine j_iload_n F dJ7_fill_53178_11 rfl 2 rfl ?_
        refine j_iload_n F dJ7_fill_53178_12 rfl 1 rfl ?_
        refine j_iast F D hc_kr dJ7_fill_53178_13 (fun N10 => ?_)
        refine j_iinc (v := (x3 + (1 : Int32))) (lv' := [(2, .int (x3 + (1 : Int32))), (0, .ref (G.2.1 kr)), (1, .int c2), (3, .int c4)]) F dJ7_fill_53178_14 2 rfl rfl (by rw [← hml]; decide) rfl ?_
        refine j_goto (tgt := 5) F dJ7_fill_53178_17 (by decide) ?_
        exact j_sub [1, 2, 0, 3] rfl (ih8 (x3 + (1 : Int32)) N10)
  refine j_sub [2, 3, 1, 0] rfl (hL11 _ a0 x1 ?_ fu (0 : Int32) M)
  intro N7
  exact j_vret F D E dJ7_fill_53178_20
end
section
/-! FlangeFolder$Sheet.copyFrom -/
def fX4_copyFrom (kt : Nat) (ko : Nat) (M : Mm) : Option (Unit × Mm) := (cpy M (ko + 1) 7 (kt + 1) 7 (0 : Int32) (0 : Int32) (7 : Int32)).bind (fun N1 => (cpy N1 (ko + 2) 6 (kt + 2) 6 (0 : Int32) (0 : Int32) (6 : Int32)).bind (fun N2 => (cpy N2 (ko + 3) 6 (kt + 3) 6 (0 : Int32) (0 : Int32) (6 : Int32)).bind (fun N3 => (cpy N3 (ko + 4) 3 (kt + 4) 3 (0 : Int32) (0 : Int32) (3 : Int32)).bind (fun N4 => lt (stI N4 kt 4 (N4.1 ko 4)) (fun N5 => lt (stI N5 kt 5 (N5.1 ko 5)) (fun N6 => lt (stI N6 kt 6 (N6.1 ko 6)) (fun N7 => lt (stI N7 kt 7 (N7.1 ko 7)) (fun N8 => some ((), N8)))))))))
def rmX4_copyFrom : Room := { frames := 1, cells := 0, slots := 0, locals := 60 }
theorem kX4_copyFrom : Kc yX4_copyFrom cX4_copyFrom 2 none wsX4_copyFrom 1 := ⟨⟨_, rfl⟩, by decide +kernel, by decide +kernel, by decide +kernel⟩
theorem ic_X4_copyFrom_X4 : ∀ w ∈ u_ws RX4 TX4 8, w ∈ wsX4_copyFrom := by decide +kernel
theorem fl_X4_copyFrom_9 : Fl wsX4_copyFrom RX4 9 4 0 := ⟨RX4, TX4, 8, rfl, by decide, ic_X4_copyFrom_X4, by decide +kernel⟩
theorem kq_X4_copyFrom_37 : Cond.methodLink RX4 37 arraycopyName ∈ wsX4_copyFrom := by decide +kernel
theorem kr_X4_copyFrom : Cond.native arraycopyName ∈ wsX4_copyFrom := by decide +kernel
theorem ks_X4_copyFrom : Cond.static arraycopyName ∈ wsX4_copyFrom := by decide +kernel
theorem kt_X4_copyFrom : Cond.initialized "java/lang/System" ∈ wsX4_copyFrom := by decide +kernel
theorem fl_X4_copyFrom_15 : Fl wsX4_copyFrom RX4 15 4 1 := ⟨RX4, TX4, 8, rfl, by decide, ic_X4_copyFrom_X4, by decide +kernel⟩
theorem fl_X4_copyFrom_18 : Fl wsX4_copyFrom RX4 18 4 2 := ⟨RX4, TX4, 8, rfl, by decide, ic_X4_copyFrom_X4, by decide +kernel⟩
theorem fl_X4_copyFrom_21 : Fl wsX4_copyFrom RX4 21 4 3 := ⟨RX4, TX4, 8, rfl, by decide, ic_X4_copyFrom_X4, by decide +kernel⟩
theorem fl_X4_copyFrom_24 : Fl wsX4_copyFrom RX4 24 4 4 := ⟨RX4, TX4, 8, rfl, by decide, ic_X4_copyFrom_X4, by decide +kernel⟩
theorem fp_X4_copyFrom_24 : Fp wsX4_copyFrom RX4 24 4 4 .int := ⟨RX4, TX4, 8, tyX4, rfl, by decide, ic_X4_copyFrom_X4, by decide +kernel, tyX4_ok, nmX4, rfl, rfl⟩
theorem fl_X4_copyFrom_28 : Fl wsX4_copyFrom RX4 28 4 5 := ⟨RX4, TX4, 8, rfl, by decide, ic_X4_copyFrom_X4, by decide +kernel⟩
theorem fp_X4_copyFrom_28 : Fp wsX4_copyFrom RX4 28 4 5 .int := ⟨RX4, TX4, 8, tyX4, rfl, by decide, ic_X4_copyFrom_X4, by decide +kernel, tyX4_ok, nmX4, rfl, rfl⟩
theorem fl_X4_copyFrom_31 : Fl wsX4_copyFrom RX4 31 4 6 := ⟨RX4, TX4, 8, rfl, by decide, ic_X4_copyFrom_X4, by decide +kernel⟩
theorem fp_X4_copyFrom_31 : Fp wsX4_copyFrom RX4 31 4 6 .int := ⟨RX4, TX4, 8, tyX4, rfl, by decide, ic_X4_copyFrom_X4, by decide +kernel, tyX4_ok, nmX4, rfl, rfl⟩
theorem fl_X4_copyFrom_34 : Fl wsX4_copyFrom RX4 34 4 7 := ⟨RX4, TX4, 8, rfl, by decide, ic_X4_copyFrom_X4, by decide +kernel⟩
theorem fp_X4_copyFrom_34 : Fp wsX4_copyFrom RX4 34 4 7 .int := ⟨RX4, TX4, 8, tyX4, rfl, by decide, ic_X4_copyFrom_X4, by decide +kernel, tyX4_ok, nmX4, rfl, rfl⟩
set_option maxHeartbeats 4000000 in
set_option maxRecDepth 100000 in
theorem mX4_copyFrom (l : Launch) (G : Gg) (kt : Nat) (ko : Nat) (hs_kt : isSh kt) (hs_ko : isSh ko) : Cv l G SC yX4_copyFrom wsX4_copyFrom rmX4_copyFrom [.ref (G.2.1 kt), .ref (G.2.1 ko)] (fX4_copyFrom kt ko) := by
  refine Cv.intro (lv := [(0, .ref (G.2.1 kt)), (1, .ref (G.2.1 ko))]) RX4 rfl (by decide) kX4_copyFrom (Nat.le_of_ble_eq_true rfl) rfl (fun X V M z F D hX hml E => ?_)
  unfold fX4_copyFrom
  refine j_aload_n F dX4_copyFrom_0 rfl 1 rfl ?_
  refine j_getr (r := (ko + 1)) F D (isSh_o hs_ko) fl_X4_copyFrom_9 rfl dX4_copyFrom_1 ?_
  refine j_iconst (v := (0 : Int32)) F dX4_copyFrom_4 (by decide) ?_
  refine j_aload_n F dX4_copyFrom_5 rfl 0 rfl ?_
  refine j_getr (r := (kt + 1)) F D (isSh_o hs_kt) fl_X4_copyFrom_9 rfl dX4_copyFrom_6 ?_
  refine j_iconst (v := (0 : Int32)) F dX4_copyFrom_9 (by decide) ?_
  refine j_bipush (v := (7 : Int32)) F dX4_copyFrom_10 (by decide) ?_
  refine j_copy F D (isSh_1 hs_ko) (isSh_1 hs_kt) kq_X4_copyFrom_37 kr_X4_copyFrom ks_X4_copyFrom kt_X4_copyFrom ⟨Nat.le_of_ble_eq_true rfl, Nat.le_of_ble_eq_true rfl⟩ dX4_copyFrom_12 (fun N1 => ?_)
  refine j_aload_n F dX4_copyFrom_15 rfl 1 rfl ?_
  refine j_getr (r := (ko + 2)) F D (isSh_o hs_ko) fl_X4_copyFrom_15 rfl dX4_copyFrom_16 ?_
  refine j_iconst (v := (0 : Int32)) F dX4_copyFrom_19 (by decide) ?_
  refine j_aload_n F dX4_copyFrom_20 rfl 0 rfl ?_
  refine j_getr (r := (kt + 2)) F D (isSh_o hs_kt) fl_X4_copyFrom_15 rfl dX4_copyFrom_21 ?_
  refine j_iconst (v := (0 : Int32)) F dX4_copyFrom_24 (by decide) ?_
  refine j_bipush (v := (6 : Int32)) F dX4_copyFrom_25 (by decide) ?_
  refine j_copy F D (isSh_2 hs_ko) (isSh_2 hs_kt) kq_X4_copyFrom_37 kr_X4_copyFrom ks_X4_copyFrom kt_X4_copyFrom ⟨Nat.le_of_ble_eq_true rfl, Nat.le_of_ble_eq_true rfl⟩ dX4_copyFrom_27 (fun N2 => ?_)
  refine j_aload_n F dX4_copyFrom_30 rfl 1 rfl ?_
  refine j_getr (r := (ko + 3)) F D (isSh_o hs_ko) fl_X4_copyFrom_18 rfl dX4_copyFrom_31 ?_
  refine j_iconst (v := (0 : Int32)) F dX4_copyFrom_34 (by decide) ?_
  refine j_aload_n F dX4_copyFrom_35 rfl 0 rfl ?_
  refine j_getr (r := (kt + 3)) F D (isSh_o hs_kt) fl_X4_copyFrom_18 rfl dX4_copyFrom_36 ?_
  refine j_iconst (v := (0 : Int32)) F dX4_copyFrom_39 (by decide) ?_
  refine j_bipush (v := (6 : Int32)) F dX4_copyFrom_40 (by decide) ?_
  refine j_copy F D (isSh_3 hs_ko) (isSh_3 hs_kt) kq_X4_copyFrom_37 kr_X4_copyFrom ks_X4_copyFrom kt_X4_copyFrom ⟨Nat.le_of_ble_eq_true rfl, Nat.le_of_ble_eq_true rfl⟩ dX4_copyFrom_42 (fun N3 => ?_)
  refine j_aload_n F dX4_copyFrom_45 rfl 1 rfl ?_
  refine j_getr (r := (ko + 4)) F D (isSh_o hs_ko) fl_X4_copyFrom_21 rfl dX4_copyFrom_46 ?_
  refine j_iconst (v := (0 : Int32)) F dX4_copyFrom_49 (by decide) ?_
  refine j_aload_n F dX4_copyFrom_50 rfl 0 rfl ?_
  refine j_getr (r := (kt + 4)) F D (isSh_o hs_kt) fl_X4_copyFrom_21 rfl dX4_copyFrom_51 ?_
  refine j_iconst (v := (0 : Int32)) F dX4_copyFrom_54 (by decide) ?_
  refine j_iconst (v := (3 : Int32)) F dX4_copyFrom_55 (by decide) ?_
  refine j_copy F D (isSh_4 hs_ko) (isSh_4 hs_kt) kq_X4_copyFrom_37 kr_X4_copyFrom ks_X4_copyFrom kt_X4_copyFrom ⟨Nat.le_of_ble_eq_true rfl, Nat.le_of_ble_eq_true rfl⟩ dX4_copyFrom_56 (fun N4 => ?_)
  refine j_aload_n F dX4_copyFrom_59 rfl 0 rfl ?_
  refine j_aload_n F dX4_copyFrom_60 rfl 1 rfl ?_
  refine j_geti F D (isSh_o hs_ko) fl_X4_copyFrom_24 rfl dX4_copyFrom_61 ?_
  refine j_puti F D (isSh_o hs_kt) fp_X4_copyFrom_24 rfl rfl rfl dX4_copyFrom_64 ?_
  refine j_letM (fun N5 => ?_)
  refine j_aload_n F dX4_copyFrom_67 rfl 0 rfl ?_
  refine j_aload_n F dX4_copyFrom_68 rfl 1 rfl ?_
  refine j_geti F D (isSh_o hs_ko) fl_X4_copyFrom_28 rfl dX4_copyFrom_69 ?_
  refine j_puti F D (isSh_o hs_kt) fp_X4_copyFrom_28 rfl rfl rfl dX4_copyFrom_72 ?_
  refine j_letM (fun N6 => ?_)
  refine j_aload_n F dX4_copyFrom_75 rfl 0 rfl ?_
  refine j_aload_n F dX4_copyFrom_76 rfl 1 rfl ?_
  refine j_geti F D (isSh_o hs_ko) fl_X4_copyFrom_31 rfl dX4_copyFrom_77 ?_
  refine j_puti F D (isSh_o hs_kt) fp_X4_copyFrom_31 rfl rfl rfl dX4_copyFrom_80 ?_
  refine j_letM (fun N7 => ?_)
  refine j_aload_n F dX4_copyFrom_83 rfl 0 rfl ?_
  refine j_aload_n F dX4_copyFrom_84 rfl 1 rfl ?_
  refine j_geti F D (isSh_o hs_ko) fl_X4_copyFrom_34 rfl dX4_copyFrom_85 ?_
  refine j_puti F D (isSh_o hs_kt) fp_X4_copyFrom_34 rfl rfl rfl dX4_copyFrom_88 ?_
  refine j_letM (fun N8 => ?_)
  exact j_vret F D E dX4_copyFrom_91

/-! FlangeFolder$Sheet.hasBend -/
def fX4_hasBend (a0 : Int32) (M : Mm) : Option (Int32 × Mm) := (if a0 < (0 : Int32) then some ((0 : Int32), M) else (if (M.1 1 4) ≤ a0 then some ((0 : Int32), M) else some ((1 : Int32), M)))
def rmX4_hasBend : Room := { frames := 0, cells := 0, slots := 0, locals := 0 }
theorem kX4_hasBend : Kc yX4_hasBend cX4_hasBend 2 (some .boolean) wsX4_hasBend 1 := ⟨⟨_, rfl⟩, by decide +kernel, by decide +kernel, by decide +kernel⟩
theorem ic_X4_hasBend_X4 : ∀ w ∈ u_ws RX4 TX4 8, w ∈ wsX4_hasBend := by decide +kernel
theorem fl_X4_hasBend_24 : Fl wsX4_hasBend RX4 24 4 4 := ⟨RX4, TX4, 8, rfl, by decide, ic_X4_hasBend_X4, by decide +kernel⟩
set_option maxHeartbeats 4000000 in
set_option maxRecDepth 100000 in
theorem mX4_hasBend (l : Launch) (G : Gg) (a0 : Int32) : Ci l G SC yX4_hasBend wsX4_hasBend rmX4_hasBend [.ref (G.2.1 1), .int a0] (fX4_hasBend a0) := by
  refine Ci.intro (lv := [(0, .ref (G.2.1 1)), (1, .int a0)]) RX4 rfl (by decide) kX4_hasBend (Nat.le_of_ble_eq_true rfl) rfl (fun X V M z F D hX hml E => ?_)
  unfold fX4_hasBend
  refine j_iload_n F dX4_hasBend_0 rfl 1 rfl ?_
  refine j_if_lt (tgt := 16) F dX4_hasBend_1 (by decide) ?_ ?_
  · refine j_iconst (v := (0 : Int32)) F dX4_hasBend_16 (by decide) ?_
    exact j_iret F D E rfl dX4_hasBend_17
  · refine j_iload_n F dX4_hasBend_4 rfl 1 rfl ?_
    refine j_aload_n F dX4_hasBend_5 rfl 0 rfl ?_
    refine j_geti F D ce_1 fl_X4_hasBend_24 rfl dX4_hasBend_6 ?_
    refine j_icmp_ge (tgt := 16) F dX4_hasBend_9 (by decide) ?_ ?_
    · refine j_iconst (v := (0 : Int32)) F dX4_hasBend_16 (by decide) ?_
      exact j_iret F D E rfl dX4_hasBend_17
    · refine j_iconst (v := (1 : Int32)) F dX4_hasBend_12 (by decide) ?_
      refine j_goto (tgt := 17) F dX4_hasBend_13 (by decide) ?_
      exact j_iret F D E rfl dX4_hasBend_17

/-! FlangeFolder$Sheet.isMade -/
def fX4_isMade (a0 : Int32) (M : Mm) : Option (Int32 × Mm) := (if (((M.1 1 5) >>> (a0 &&& 31)) &&& (1 : Int32)) = (1 : Int32) then some ((1 : Int32), M) else some ((0 : Int32), M))
def rmX4_isMade : Room := { frames := 0, cells := 0, slots := 0, locals := 0 }
theorem kX4_isMade : Kc yX4_isMade cX4_isMade 2 (some .boolean) wsX4_isMade 1 := ⟨⟨_, rfl⟩, by decide +kernel, by decide +kernel, by decide +kernel⟩
theorem ic_X4_isMade_X4 : ∀ w ∈ u_ws RX4 TX4 8, w ∈ wsX4_isMade := by decide +kernel
theorem fl_X4_isMade_28 : Fl wsX4_isMade RX4 28 4 5 := ⟨RX4, TX4, 8, rfl, by decide, ic_X4_isMade_X4, by decide +kernel⟩
set_option maxHeartbeats 4000000 in
set_option maxRecDepth 100000 in
theorem mX4_isMade (l : Launch) (G : Gg) (a0 : Int32) : Ci l G SC yX4_isMade wsX4_isMade rmX4_isMade [.ref (G.2.1 1), .int a0] (fX4_isMade a0) := by
  refine Ci.intro (lv := [(0, .ref (G.2.1 1)), (1, .int a0)]) RX4 rfl (by decide) kX4_isMade (Nat.le_of_ble_eq_true rfl) rfl (fun X V M z F D hX hml E => ?_)
  unfold fX4_isMade
  refine j_aload_n F dX4_isMade_0 rfl 0 rfl ?_
  refine j_geti F D ce_1 fl_X4_isMade_28 rfl dX4_isMade_1 ?_
  refine j_iload_n F dX4_isMade_4 rfl 1 rfl ?_
  refine j_ishr F dX4_isMade_5 ?_
  refine j_iconst (v := (1 : Int32)) F dX4_isMade_6 (by decide) ?_
  refine j_iand F dX4_isMade_7 ?_
  refine j_iconst (v := (1 : Int32)) F dX4_isMade_8 (by decide) ?_
  refine j_icmp_ne (tgt := 16) F dX4_isMade_9 (by decide) ?_ ?_
  · refine j_iconst (v := (0 : Int32)) F dX4_isMade_16 (by decide) ?_
    exact j_iret F D E rfl dX4_isMade_17
  · refine j_iconst (v := (1 : Int32)) F dX4_isMade_12 (by decide) ?_
    refine j_goto (tgt := 17) F dX4_isMade_13 (by decide) ?_
    exact j_iret F D E rfl dX4_isMade_17

/-! FlangeFolder$Sheet.allBends -/
def fX4_allBends (M : Mm) : Option (Int32 × Mm) := some ((((1 : Int32) <<< ((M.1 1 4) &&& 31)) - (1 : Int32)), M)
def rmX4_allBends : Room := { frames := 0, cells := 0, slots := 0, locals := 0 }
theorem kX4_allBends : Kc yX4_allBends cX4_allBends 1 (some .int) wsX4_allBends 0 := ⟨⟨_, rfl⟩, by decide +kernel, by decide +kernel, by decide +kernel⟩
theorem ic_X4_allBends_X4 : ∀ w ∈ u_ws RX4 TX4 8, w ∈ wsX4_allBends := by decide +kernel
theorem fl_X4_allBends_24 : Fl wsX4_allBends RX4 24 4 4 := ⟨RX4, TX4, 8, rfl, by decide, ic_X4_allBends_X4, by decide +kernel⟩
set_option maxHeartbeats 4000000 in
set_option maxRecDepth 100000 in
theorem mX4_allBends (l : Launch) (G : Gg) : Ci l G SC yX4_allBends wsX4_allBends rmX4_allBends [.ref (G.2.1 1)] fX4_allBends := by
  refine Ci.intro (lv := [(0, .ref (G.2.1 1))]) RX4 rfl (by decide) kX4_allBends (Nat.le_of_ble_eq_true rfl) rfl (fun X V M z F D hX hml E => ?_)
  unfold fX4_allBends
  refine j_iconst (v := (1 : Int32)) F dX4_allBends_0 (by decide) ?_
  refine j_aload_n F dX4_allBends_1 rfl 0 rfl ?_
  refine j_geti F D ce_1 fl_X4_allBends_24 rfl dX4_allBends_2 ?_
  refine j_ishl F dX4_allBends_5 ?_
  refine j_iconst (v := (1 : Int32)) F dX4_allBends_6 (by decide) ?_
  refine j_isub F dX4_allBends_7 ?_
  exact j_iret F D E rfl dX4_allBends_8

/-! FlangeFolder$Sheet.allLengths -/
def lX4_allLengths_4 (K4 : Int32 → Option (Int32 × Mm)) (N3 : Mm) : Nat → Int32 → Int32 → Option (Int32 × Mm)
  | 0, _, _ => none
  | n7 + 1, x1, x2 => (if (N3.1 1 4) < x2 then K4 x1 else (rd N3 2 7 x2).bind (fun v8 => lt (x1 + v8) (fun x9 => lX4_allLengths_4 K4 N3 n7 x9 (x2 + (1 : Int32)))))
def fX4_allLengths (M : Mm) : Option (Int32 × Mm) := lX4_allLengths_4 (fun (x5 : Int32) => some (x5, M)) M fu (0 : Int32) (0 : Int32)
def rmX4_allLengths : Room := { frames := 0, cells := 0, slots := 0, locals := 0 }
theorem kX4_allLengths : Kc yX4_allLengths cX4_allLengths 3 (some .int) wsX4_allLengths 0 := ⟨⟨_, rfl⟩, by decide +kernel, by decide +kernel, by decide +kernel⟩
theorem ic_X4_allLengths_X4 : ∀ w ∈ u_ws RX4 TX4 8, w ∈ wsX4_allLengths := by decide +kernel
theorem fl_X4_allLengths_24 : Fl wsX4_allLengths RX4 24 4 4 := ⟨RX4, TX4, 8, rfl, by decide, ic_X4_allLengths_X4, by decide +kernel⟩
theorem fl_X4_allLengths_9 : Fl wsX4_allLengths RX4 9 4 0 := ⟨RX4, TX4, 8, rfl, by decide, ic_X4_allLengths_X4, by decide +kernel⟩
set_option maxHeartbeats 4000000 in
set_option maxRecDepth 100000 in
theorem mX4_allLengths (l : Launch) (G : Gg) : Ci l G SC yX4_allLengths wsX4_allLengths rmX4_allLengths [.ref (G.2.1 1)] fX4_allLengths := by
  refine Ci.intro (lv := [(0, .ref (G.2.1 1))]) RX4 rfl (by decide) kX4_allLengths (Nat.le_of_ble_eq_true rfl) rfl (fun X V M z F D hX hml E => ?_)
  unfold fX4_allLengths
  refine j_iconst (v := (0 : Int32)) F dX4_allLengths_0 (by decide) ?_
  refine j_istore_n (lv' := [(1, .int (0 : Int32)), (0, .ref (G.2.1 1))]) F dX4_allLengths_1 rfl (by rw [← hml]; decide) rfl ?_
  refine j_iconst (v := (0 : Int32)) F dX4_allLengths_2 (by decide) ?_
  refine j_istore_n (lv' := [(2, .int (0 : Int32)), (1, .int (0 : Int32)), (0, .ref (G.2.1 1))]) F dX4_allLengths_3 rfl (by rw [← hml]; decide) rfl ?_
  have hL10 : ∀ (K4 : Int32 → Option (Int32 × Mm)) (N3 : Mm), (∀ (x5 : Int32), Jg X V z (K4 x5) N3 27 [(1, .int x5)] []) → ∀ (n7 : Nat) (x1 : Int32) (x2 : Int32), Jg X V z (lX4_allLengths_4 K4 N3 n7 x1 x2) N3 4 [(0, .ref (G.2.1 1)), (1, .int x1), (2, .int x2)] [] := by
    intro K4 N3 hK4 n7
    induction n7 with
    | zero => intro x1 x2; rw [lX4_allLengths_4]; exact j_none
    | succ n7 ih6 =>
      intro x1 x2
      rw [lX4_allLengths_4]
      refine j_iload_n F dX4_allLengths_4 rfl 2 rfl ?_
      refine j_aload_n F dX4_allLengths_5 rfl 0 rfl ?_
      refine j_geti F D ce_1 fl_X4_allLengths_24 rfl dX4_allLengths_6 ?_
      refine j_icmp_gt (tgt := 27) F dX4_allLengths_9 (by decide) ?_ ?_
      · exact j_sub [1] rfl (hK4 x1)
      · refine j_iload_n F dX4_allLengths_12 rfl 1 rfl ?_
        refine j_aload_n F dX4_allLengths_13 rfl 0 rfl ?_
        refine j_getr (r := 2) F D ce_1 fl_X4_allLengths_9 rfl dX4_allLengths_14 ?_
        refine j_iload_n F dX4_allLengths_17 rfl 2 rfl ?_
        refine j_iald F D ce_2 dX4_allLengths_18 (fun v8 => ?_)
        refine j_iadd F dX4_allLengths_19 ?_
        refine j_let (f := Value.int) (fun x9 => ?_)
        refine j_istore_n (lv' := [(1, .int x9), (0, .ref (G.2.1 1)), (2, .int x2)]) F dX4_allLengths_20 rfl (by rw [← hml]; decide) rfl ?_
        refine j_iinc (v := (x2 + (1 : Int32))) (lv' := [(2, .int (x2 + (1 : Int32))), (1, .int x9), (0, .ref (G.2.1 1))]) F dX4_allLengths_21 2 rfl rfl (by rw [← hml]; decide) rfl ?_
        refine j_goto (tgt := 4) F dX4_allLengths_24 (by decide) ?_
        exact j_sub [2, 1, 0] rfl (ih6 x9 (x2 + (1 : Int32)))
  refine j_sub [2, 1, 0] rfl (hL10 _ M ?_ fu (0 : Int32) (0 : Int32))
  intro x5
  refine j_iload_n F dX4_allLengths_27 rfl 0 rfl ?_
  exact j_iret F D E rfl dX4_allLengths_28

/-! FlangeFolder$Sheet.lengthLess -/
def lX4_lengthLess_10 (K7 : Int32 → Option (Int32 × Mm)) (c3 : Int32) (N6 : Mm) : Nat → Int32 → Int32 → Option (Int32 × Mm)
  | 0, _, _ => none
  | n10 + 1, x4, x5 => (if (N6.1 1 4) ≤ x5 then K7 x4 else (if ((c3 >>> (x5 &&& 31)) &&& (1 : Int32)) = (1 : Int32) then (rd N6 4 6 x5).bind (fun v11 => (rd N6 5 3 v11).bind (fun v12 => lt (x4 - v12) (fun x13 => lX4_lengthLess_10 K7 c3 N6 n10 x13 (x5 + (1 : Int32))))) else lX4_lengthLess_10 K7 c3 N6 n10 x4 (x5 + (1 : Int32))))
def fX4_lengthLess (a0 : Int32) (M : Mm) : Option (Int32 × Mm) := (fX4_allLengths M).bind (fun w1 => lt ((10 : Int32) * w1.1) (fun x2 => lX4_lengthLess_10 (fun (x8 : Int32) => some (x8, w1.2)) a0 w1.2 fu x2 (0 : Int32)))
def rmX4_lengthLess : Room := { frames := 1, cells := 0, slots := 0, locals := 22 }
theorem kX4_lengthLess : Kc yX4_lengthLess cX4_lengthLess 4 (some .int) wsX4_lengthLess 1 := ⟨⟨_, rfl⟩, by decide +kernel, by decide +kernel, by decide +kernel⟩
theorem ic_X4_lengthLess_X4 : ∀ w ∈ u_ws RX4 TX4 8, w ∈ wsX4_lengthLess := by decide +kernel
theorem fl_X4_lengthLess_24 : Fl wsX4_lengthLess RX4 24 4 4 := ⟨RX4, TX4, 8, rfl, by decide, ic_X4_lengthLess_X4, by decide +kernel⟩
theorem fl_X4_lengthLess_21 : Fl wsX4_lengthLess RX4 21 4 3 := ⟨RX4, TX4, 8, rfl, by decide, ic_X4_lengthLess_X4, by decide +kernel⟩
theorem fl_X4_lengthLess_18 : Fl wsX4_lengthLess RX4 18 4 2 := ⟨RX4, TX4, 8, rfl, by decide, ic_X4_lengthLess_X4, by decide +kernel⟩
set_option maxHeartbeats 4000000 in
set_option maxRecDepth 100000 in
theorem mX4_lengthLess (l : Launch) (G : Gg) (a0 : Int32) : Ci l G SC yX4_lengthLess wsX4_lengthLess rmX4_lengthLess [.ref (G.2.1 1), .int a0] (fX4_lengthLess a0) := by
  refine Ci.intro (lv := [(0, .ref (G.2.1 1)), (1, .int a0)]) RX4 rfl (by decide) kX4_lengthLess (Nat.le_of_ble_eq_true rfl) rfl (fun X V M z F D hX hml E => ?_)
  unfold fX4_lengthLess
  refine j_bipush (v := (10 : Int32)) F dX4_lengthLess_0 (by decide) ?_
  refine j_aload_n F dX4_lengthLess_2 rfl 0 rfl ?_
  refine j_callVi (As := []) F D hX (mX4_allLengths l G) ce_1 rfl kX4_allLengths rfl gX4_lengthLess_X4_allLengths ⟨rfl, rfl⟩ ⟨Nat.le_of_ble_eq_true rfl, Nat.le_of_ble_eq_true rfl⟩ rfl (Nat.le_of_ble_eq_true rfl) rfl dX4_lengthLess_3 (fun w1 => ?_)
  refine j_imul F dX4_lengthLess_6 ?_
  refine j_let (f := Value.int) (fun x2 => ?_)
  refine j_istore_n (lv' := [(2, .int x2), (0, .ref (G.2.1 1)), (1, .int a0)]) F dX4_lengthLess_7 rfl (by rw [← hml]; decide) rfl ?_
  refine j_iconst (v := (0 : Int32)) F dX4_lengthLess_8 (by decide) ?_
  refine j_istore_n (lv' := [(3, .int (0 : Int32)), (2, .int x2), (0, .ref (G.2.1 1)), (1, .int a0)]) F dX4_lengthLess_9 rfl (by rw [← hml]; decide) rfl ?_
  have hL14 : ∀ (K7 : Int32 → Option (Int32 × Mm)) (c3 : Int32) (N6 : Mm), (∀ (x8 : Int32), Jg X V z (K7 x8) N6 47 [(2, .int x8)] []) → ∀ (n10 : Nat) (x4 : Int32) (x5 : Int32), Jg X V z (lX4_lengthLess_10 K7 c3 N6 n10 x4 x5) N6 10 [(0, .ref (G.2.1 1)), (1, .int c3), (2, .int x4), (3, .int x5)] [] := by
    intro K7 c3 N6 hK7 n10
    induction n10 with
    | zero => intro x4 x5; rw [lX4_lengthLess_10]; exact j_none
    | succ n10 ih9 =>
      intro x4 x5
      rw [lX4_lengthLess_10]
      refine j_iload_n F dX4_lengthLess_10 rfl 3 rfl ?_
      refine j_aload_n F dX4_lengthLess_11 rfl 0 rfl ?_
      refine j_geti F D ce_1 fl_X4_lengthLess_24 rfl dX4_lengthLess_12 ?_
      refine j_icmp_ge (tgt := 47) F dX4_lengthLess_15 (by decide) ?_ ?_
      · exact j_sub [2] rfl (hK7 x4)
      · refine j_iload_n F dX4_lengthLess_18 rfl 1 rfl ?_
        refine j_iload_n F dX4_lengthLess_19 rfl 3 rfl ?_
        refine j_ishr F dX4_lengthLess_20 ?_
        refine j_iconst (v := (1 : Int32)) F dX4_lengthLess_21 (by decide) ?_
        refine j_iand F dX4_lengthLess_22 ?_
        refine j_iconst (v := (1 : Int32)) F dX4_lengthLess_23 (by decide) ?_
        refine j_icmp_ne (tgt := 41) F dX4_lengthLess_24 (by decide) ?_ ?_
        · refine j_iinc (v := (x5 + (1 : Int32))) (lv' := [(3, .int (x5 + (1 : Int32))), (0, .ref (G.2.1 1)), (1, .int c3), (2, .int x4)]) F dX4_lengthLess_41 3 rfl rfl (by rw [← hml]; decide) rfl ?_
          refine j_goto (tgt := 10) F dX4_lengthLess_44 (by decide) ?_
          exact j_sub [1, 2, 3, 0] rfl (ih9 x4 (x5 + (1 : Int32)))
        · refine j_iload_n F dX4_lengthLess_27 rfl 2 rfl ?_
          refine j_aload_n F dX4_lengthLess_28 rfl 0 rfl ?_
          refine j_getr (r := 5) F D ce_1 fl_X4_lengthLess_21 rfl dX4_lengthLess_29 ?_
          refine j_aload_n F dX4_lengthLess_32 rfl 0 rfl ?_
          refine j_getr (r := 4) F D ce_1 fl_X4_lengthLess_18 rfl dX4_lengthLess_33 ?_
          refine j_iload_n F dX4_lengthLess_36 rfl 3 rfl ?_
          refine j_iald F D ce_4 dX4_lengthLess_37 (fun v11 => ?_)
          refine j_iald F D ce_5 dX4_lengthLess_38 (fun v12 => ?_)
          refine j_isub F dX4_lengthLess_39 ?_
          refine j_let (f := Value.int) (fun x13 => ?_)
          refine j_istore_n (lv' := [(2, .int x13), (0, .ref (G.2.1 1)), (1, .int c3), (3, .int x5)]) F dX4_lengthLess_40 rfl (by rw [← hml]; decide) rfl ?_
          refine j_iinc (v := (x5 + (1 : Int32))) (lv' := [(3, .int (x5 + (1 : Int32))), (2, .int x13), (0, .ref (G.2.1 1)), (1, .int c3)]) F dX4_lengthLess_41 3 rfl rfl (by rw [← hml]; decide) rfl ?_
          refine j_goto (tgt := 10) F dX4_lengthLess_44 (by decide) ?_
          exact j_sub [2, 3, 1, 0] rfl (ih9 x13 (x5 + (1 : Int32)))
  refine j_sub [2, 3, 1, 0] rfl (hL14 _ a0 w1.2 ?_ fu x2 (0 : Int32))
  intro x8
  refine j_iload_n F dX4_lengthLess_47 rfl 0 rfl ?_
  exact j_iret F D E rfl dX4_lengthLess_48
end
