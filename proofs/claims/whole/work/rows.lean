section
-- ===== PART A: goes FIRST, ahead of the names: the tables' words, and 'selects' of the private methods out of them =====
/-- a private method of a class that the tables say can be made, by its rows of tables_1 -/
def lw_okq (q : MethodName × Nat) : Prop := (q.1.cls ≠ "java/lang/invoke/MethodHandle" ∧ q.1.cls ≠ "java/lang/invoke/VarHandle") ∧ Cond.instantiable q.1.cls q.2 ∈ tables_1 ∧ Cond.privateMethod q.1 ∈ tables_1 ∧ Cond.instanceMethod q.1 ∈ tables_1
theorem lw_p0 : lw_okq (⟨"TimeFlood$Reader", "takes", "(C)Z"⟩, 4) := ⟨⟨by decide +kernel, by decide +kernel⟩, List.mem_of_getElem? (i := 22) (by decide +kernel), List.mem_of_getElem? (i := 297) (by decide +kernel), List.mem_of_getElem? (i := 298) (by decide +kernel)⟩
theorem lw_p1 : lw_okq (⟨"TimeFlood$Reader", "takesItem", "(C)Z"⟩, 4) := ⟨⟨by decide +kernel, by decide +kernel⟩, List.mem_of_getElem? (i := 22) (by decide +kernel), List.mem_of_getElem? (i := 301) (by decide +kernel), List.mem_of_getElem? (i := 302) (by decide +kernel)⟩
theorem lw_p2 : lw_okq (⟨"TimeFlood$Reader", "takesOfHead", "(I)Z"⟩, 4) := ⟨⟨by decide +kernel, by decide +kernel⟩, List.mem_of_getElem? (i := 22) (by decide +kernel), List.mem_of_getElem? (i := 309) (by decide +kernel), List.mem_of_getElem? (i := 310) (by decide +kernel)⟩
theorem lw_p3 : lw_okq (⟨"TimeFlood$Reader", "takesOfItem", "(I)Z"⟩, 4) := ⟨⟨by decide +kernel, by decide +kernel⟩, List.mem_of_getElem? (i := 22) (by decide +kernel), List.mem_of_getElem? (i := 313) (by decide +kernel), List.mem_of_getElem? (i := 314) (by decide +kernel)⟩
theorem lw_p4 : lw_okq (⟨"TimeFlood", "hasNode", "(I)Z"⟩, 12) := ⟨⟨by decide +kernel, by decide +kernel⟩, List.mem_of_getElem? (i := 14) (by decide +kernel), List.mem_of_getElem? (i := 426) (by decide +kernel), List.mem_of_getElem? (i := 427) (by decide +kernel)⟩
theorem lw_p5 : lw_okq (⟨"TimeFlood", "hasLink", "(I)Z"⟩, 12) := ⟨⟨by decide +kernel, by decide +kernel⟩, List.mem_of_getElem? (i := 14) (by decide +kernel), List.mem_of_getElem? (i := 446) (by decide +kernel), List.mem_of_getElem? (i := 447) (by decide +kernel)⟩
theorem lw_p6 : lw_okq (⟨"TimeFlood$Flood", "receive", "(LTimeFlood$State;I)V"⟩, 5) := ⟨⟨by decide +kernel, by decide +kernel⟩, List.mem_of_getElem? (i := 102) (by decide +kernel), List.mem_of_getElem? (i := 494) (by decide +kernel), List.mem_of_getElem? (i := 495) (by decide +kernel)⟩
theorem lw_p7 : lw_okq (⟨"TimeFlood$Flood", "hear", "(LTimeFlood$State;II)V"⟩, 5) := ⟨⟨by decide +kernel, by decide +kernel⟩, List.mem_of_getElem? (i := 102) (by decide +kernel), List.mem_of_getElem? (i := 499) (by decide +kernel), List.mem_of_getElem? (i := 500) (by decide +kernel)⟩
theorem lw_p8 : lw_okq (⟨"TimeFlood", "holdsOnTrial", "(III)Z"⟩, 12) := ⟨⟨by decide +kernel, by decide +kernel⟩, List.mem_of_getElem? (i := 14) (by decide +kernel), List.mem_of_getElem? (i := 574) (by decide +kernel), List.mem_of_getElem? (i := 575) (by decide +kernel)⟩
theorem lw_p9 : lw_okq (⟨"TimeFlood", "failureExplains", "(I)Z"⟩, 12) := ⟨⟨by decide +kernel, by decide +kernel⟩, List.mem_of_getElem? (i := 14) (by decide +kernel), List.mem_of_getElem? (i := 596) (by decide +kernel), List.mem_of_getElem? (i := 597) (by decide +kernel)⟩
theorem lw_p10 : lw_okq (⟨"TimeFlood", "worth", "(I)I"⟩, 12) := ⟨⟨by decide +kernel, by decide +kernel⟩, List.mem_of_getElem? (i := 14) (by decide +kernel), List.mem_of_getElem? (i := 612) (by decide +kernel), List.mem_of_getElem? (i := 613) (by decide +kernel)⟩
theorem lw_p11 : lw_okq (⟨"TimeFlood", "weightOfFailing", "(II)J"⟩, 12) := ⟨⟨by decide +kernel, by decide +kernel⟩, List.mem_of_getElem? (i := 14) (by decide +kernel), List.mem_of_getElem? (i := 633) (by decide +kernel), List.mem_of_getElem? (i := 634) (by decide +kernel)⟩
theorem lw_p12 : lw_okq (⟨"TimeFlood", "unitesWithout", "(II)Z"⟩, 12) := ⟨⟨by decide +kernel, by decide +kernel⟩, List.mem_of_getElem? (i := 14) (by decide +kernel), List.mem_of_getElem? (i := 637) (by decide +kernel), List.mem_of_getElem? (i := 638) (by decide +kernel)⟩
theorem lw_p13 : lw_okq (⟨"TimeFlood", "tenToTheUpLinks", "()J"⟩, 12) := ⟨⟨by decide +kernel, by decide +kernel⟩, List.mem_of_getElem? (i := 14) (by decide +kernel), List.mem_of_getElem? (i := 641) (by decide +kernel), List.mem_of_getElem? (i := 642) (by decide +kernel)⟩
theorem lw_p14 : lw_okq (⟨"TimeFloodModel", "readText", "()I"⟩, 39) := ⟨⟨by decide +kernel, by decide +kernel⟩, List.mem_of_getElem? (i := 664) (by decide +kernel), List.mem_of_getElem? (i := 804) (by decide +kernel), List.mem_of_getElem? (i := 805) (by decide +kernel)⟩
theorem lw_p15 : lw_okq (⟨"TimeFloodModel", "take", "(I)Z"⟩, 39) := ⟨⟨by decide +kernel, by decide +kernel⟩, List.mem_of_getElem? (i := 664) (by decide +kernel), List.mem_of_getElem? (i := 808) (by decide +kernel), List.mem_of_getElem? (i := 809) (by decide +kernel)⟩
def lw_privs_1 : List (MethodName × Nat) := [(⟨"TimeFlood$Reader", "takes", "(C)Z"⟩, 4), (⟨"TimeFlood$Reader", "takesItem", "(C)Z"⟩, 4), (⟨"TimeFlood$Reader", "takesOfHead", "(I)Z"⟩, 4), (⟨"TimeFlood$Reader", "takesOfItem", "(I)Z"⟩, 4), (⟨"TimeFlood", "hasNode", "(I)Z"⟩, 12), (⟨"TimeFlood", "hasLink", "(I)Z"⟩, 12), (⟨"TimeFlood$Flood", "receive", "(LTimeFlood$State;I)V"⟩, 5), (⟨"TimeFlood$Flood", "hear", "(LTimeFlood$State;II)V"⟩, 5), (⟨"TimeFlood", "holdsOnTrial", "(III)Z"⟩, 12), (⟨"TimeFlood", "failureExplains", "(I)Z"⟩, 12), (⟨"TimeFlood", "worth", "(I)I"⟩, 12), (⟨"TimeFlood", "weightOfFailing", "(II)J"⟩, 12), (⟨"TimeFlood", "unitesWithout", "(II)Z"⟩, 12), (⟨"TimeFlood", "tenToTheUpLinks", "()J"⟩, 12), (⟨"TimeFloodModel", "readText", "()I"⟩, 39), (⟨"TimeFloodModel", "take", "(I)Z"⟩, 39)]
theorem lw_r1 : ∀ q ∈ lw_privs_1, lw_okq q := List.forall_mem_cons.mpr ⟨lw_p0, List.forall_mem_cons.mpr ⟨lw_p1, List.forall_mem_cons.mpr ⟨lw_p2, List.forall_mem_cons.mpr ⟨lw_p3, List.forall_mem_cons.mpr ⟨lw_p4, List.forall_mem_cons.mpr ⟨lw_p5, List.forall_mem_cons.mpr ⟨lw_p6, List.forall_mem_cons.mpr ⟨lw_p7, List.forall_mem_cons.mpr ⟨lw_p8, List.forall_mem_cons.mpr ⟨lw_p9, List.forall_mem_cons.mpr ⟨lw_p10, List.forall_mem_cons.mpr ⟨lw_p11, List.forall_mem_cons.mpr ⟨lw_p12, List.forall_mem_cons.mpr ⟨lw_p13, List.forall_mem_cons.mpr ⟨lw_p14, List.forall_mem_cons.mpr ⟨lw_p15, fun _ h => absurd h List.not_mem_nil⟩⟩⟩⟩⟩⟩⟩⟩⟩⟩⟩⟩⟩⟩⟩⟩
theorem lw_p16 : lw_okq (⟨"TimeFloodModel", "takeHead", "(I)Z"⟩, 39) := ⟨⟨by decide +kernel, by decide +kernel⟩, List.mem_of_getElem? (i := 664) (by decide +kernel), List.mem_of_getElem? (i := 812) (by decide +kernel), List.mem_of_getElem? (i := 813) (by decide +kernel)⟩
theorem lw_p17 : lw_okq (⟨"TimeFloodModel", "takeOfNode", "(I)Z"⟩, 39) := ⟨⟨by decide +kernel, by decide +kernel⟩, List.mem_of_getElem? (i := 664) (by decide +kernel), List.mem_of_getElem? (i := 820) (by decide +kernel), List.mem_of_getElem? (i := 821) (by decide +kernel)⟩
theorem lw_p18 : lw_okq (⟨"TimeFloodModel", "takeOfLink", "(I)Z"⟩, 39) := ⟨⟨by decide +kernel, by decide +kernel⟩, List.mem_of_getElem? (i := 664) (by decide +kernel), List.mem_of_getElem? (i := 825) (by decide +kernel), List.mem_of_getElem? (i := 826) (by decide +kernel)⟩
theorem lw_p19 : lw_okq (⟨"TimeFloodModel", "isFullAsRead", "(I)Z"⟩, 39) := ⟨⟨by decide +kernel, by decide +kernel⟩, List.mem_of_getElem? (i := 664) (by decide +kernel), List.mem_of_getElem? (i := 829) (by decide +kernel), List.mem_of_getElem? (i := 830) (by decide +kernel)⟩
theorem lw_p20 : lw_okq (⟨"TimeFloodModel", "areLinkedAsRead", "(II)Z"⟩, 39) := ⟨⟨by decide +kernel, by decide +kernel⟩, List.mem_of_getElem? (i := 664) (by decide +kernel), List.mem_of_getElem? (i := 833) (by decide +kernel), List.mem_of_getElem? (i := 834) (by decide +kernel)⟩
theorem lw_p21 : lw_okq (⟨"TimeFloodModel", "mayLink", "()Z"⟩, 39) := ⟨⟨by decide +kernel, by decide +kernel⟩, List.mem_of_getElem? (i := 664) (by decide +kernel), List.mem_of_getElem? (i := 837) (by decide +kernel), List.mem_of_getElem? (i := 838) (by decide +kernel)⟩
theorem lw_p22 : lw_okq (⟨"TimeFloodModel", "those", "(Z)I"⟩, 39) := ⟨⟨by decide +kernel, by decide +kernel⟩, List.mem_of_getElem? (i := 664) (by decide +kernel), List.mem_of_getElem? (i := 852) (by decide +kernel), List.mem_of_getElem? (i := 853) (by decide +kernel)⟩
theorem lw_p23 : lw_okq (⟨"TimeFloodModel", "inTime", "([I)I"⟩, 39) := ⟨⟨by decide +kernel, by decide +kernel⟩, List.mem_of_getElem? (i := 664) (by decide +kernel), List.mem_of_getElem? (i := 859) (by decide +kernel), List.mem_of_getElem? (i := 860) (by decide +kernel)⟩
theorem lw_p24 : lw_okq (⟨"TimeFloodModel", "missOf", "([II)I"⟩, 39) := ⟨⟨by decide +kernel, by decide +kernel⟩, List.mem_of_getElem? (i := 664) (by decide +kernel), List.mem_of_getElem? (i := 863) (by decide +kernel), List.mem_of_getElem? (i := 864) (by decide +kernel)⟩
theorem lw_p25 : lw_okq (⟨"TimeFloodModel", "estimate", "([II)I"⟩, 39) := ⟨⟨by decide +kernel, by decide +kernel⟩, List.mem_of_getElem? (i := 664) (by decide +kernel), List.mem_of_getElem? (i := 867) (by decide +kernel), List.mem_of_getElem? (i := 868) (by decide +kernel)⟩
theorem lw_p26 : lw_okq (⟨"TimeFloodModel", "clockOf", "([II)I"⟩, 39) := ⟨⟨by decide +kernel, by decide +kernel⟩, List.mem_of_getElem? (i := 664) (by decide +kernel), List.mem_of_getElem? (i := 871) (by decide +kernel), List.mem_of_getElem? (i := 872) (by decide +kernel)⟩
theorem lw_p27 : lw_okq (⟨"TimeFloodModel", "downs", "()I"⟩, 39) := ⟨⟨by decide +kernel, by decide +kernel⟩, List.mem_of_getElem? (i := 664) (by decide +kernel), List.mem_of_getElem? (i := 889) (by decide +kernel), List.mem_of_getElem? (i := 890) (by decide +kernel)⟩
theorem lw_p28 : lw_okq (⟨"TimeFloodModel", "isOne", "([I)Z"⟩, 39) := ⟨⟨by decide +kernel, by decide +kernel⟩, List.mem_of_getElem? (i := 664) (by decide +kernel), List.mem_of_getElem? (i := 893) (by decide +kernel), List.mem_of_getElem? (i := 894) (by decide +kernel)⟩
theorem lw_p29 : lw_okq (⟨"TimeFloodModel", "isNode", "(I)Z"⟩, 39) := ⟨⟨by decide +kernel, by decide +kernel⟩, List.mem_of_getElem? (i := 664) (by decide +kernel), List.mem_of_getElem? (i := 901) (by decide +kernel), List.mem_of_getElem? (i := 902) (by decide +kernel)⟩
theorem lw_p30 : lw_okq (⟨"TimeFloodModel", "tell", "([III)I"⟩, 39) := ⟨⟨by decide +kernel, by decide +kernel⟩, List.mem_of_getElem? (i := 664) (by decide +kernel), List.mem_of_getElem? (i := 905) (by decide +kernel), List.mem_of_getElem? (i := 906) (by decide +kernel)⟩
theorem lw_p31 : lw_okq (⟨"TimeFloodModel", "isLink", "(I)Z"⟩, 39) := ⟨⟨by decide +kernel, by decide +kernel⟩, List.mem_of_getElem? (i := 664) (by decide +kernel), List.mem_of_getElem? (i := 920) (by decide +kernel), List.mem_of_getElem? (i := 921) (by decide +kernel)⟩
def lw_privs_2 : List (MethodName × Nat) := [(⟨"TimeFloodModel", "takeHead", "(I)Z"⟩, 39), (⟨"TimeFloodModel", "takeOfNode", "(I)Z"⟩, 39), (⟨"TimeFloodModel", "takeOfLink", "(I)Z"⟩, 39), (⟨"TimeFloodModel", "isFullAsRead", "(I)Z"⟩, 39), (⟨"TimeFloodModel", "areLinkedAsRead", "(II)Z"⟩, 39), (⟨"TimeFloodModel", "mayLink", "()Z"⟩, 39), (⟨"TimeFloodModel", "those", "(Z)I"⟩, 39), (⟨"TimeFloodModel", "inTime", "([I)I"⟩, 39), (⟨"TimeFloodModel", "missOf", "([II)I"⟩, 39), (⟨"TimeFloodModel", "estimate", "([II)I"⟩, 39), (⟨"TimeFloodModel", "clockOf", "([II)I"⟩, 39), (⟨"TimeFloodModel", "downs", "()I"⟩, 39), (⟨"TimeFloodModel", "isOne", "([I)Z"⟩, 39), (⟨"TimeFloodModel", "isNode", "(I)Z"⟩, 39), (⟨"TimeFloodModel", "tell", "([III)I"⟩, 39), (⟨"TimeFloodModel", "isLink", "(I)Z"⟩, 39)]
theorem lw_r2 : ∀ q ∈ lw_privs_2, lw_okq q := List.forall_mem_cons.mpr ⟨lw_p16, List.forall_mem_cons.mpr ⟨lw_p17, List.forall_mem_cons.mpr ⟨lw_p18, List.forall_mem_cons.mpr ⟨lw_p19, List.forall_mem_cons.mpr ⟨lw_p20, List.forall_mem_cons.mpr ⟨lw_p21, List.forall_mem_cons.mpr ⟨lw_p22, List.forall_mem_cons.mpr ⟨lw_p23, List.forall_mem_cons.mpr ⟨lw_p24, List.forall_mem_cons.mpr ⟨lw_p25, List.forall_mem_cons.mpr ⟨lw_p26, List.forall_mem_cons.mpr ⟨lw_p27, List.forall_mem_cons.mpr ⟨lw_p28, List.forall_mem_cons.mpr ⟨lw_p29, List.forall_mem_cons.mpr ⟨lw_p30, List.forall_mem_cons.mpr ⟨lw_p31, fun _ h => absurd h List.not_mem_nil⟩⟩⟩⟩⟩⟩⟩⟩⟩⟩⟩⟩⟩⟩⟩⟩
theorem lw_p32 : lw_okq (⟨"TimeFloodModel", "note", "()V"⟩, 39) := ⟨⟨by decide +kernel, by decide +kernel⟩, List.mem_of_getElem? (i := 664) (by decide +kernel), List.mem_of_getElem? (i := 929) (by decide +kernel), List.mem_of_getElem? (i := 930) (by decide +kernel)⟩
theorem lw_p33 : lw_okq (⟨"TimeFloodModel", "goOn", "([I)V"⟩, 39) := ⟨⟨by decide +kernel, by decide +kernel⟩, List.mem_of_getElem? (i := 664) (by decide +kernel), List.mem_of_getElem? (i := 933) (by decide +kernel), List.mem_of_getElem? (i := 934) (by decide +kernel)⟩
theorem lw_p34 : lw_okq (⟨"TimeFloodModel", "goOne", "([II)V"⟩, 39) := ⟨⟨by decide +kernel, by decide +kernel⟩, List.mem_of_getElem? (i := 664) (by decide +kernel), List.mem_of_getElem? (i := 937) (by decide +kernel), List.mem_of_getElem? (i := 938) (by decide +kernel)⟩
theorem lw_p35 : lw_okq (⟨"TimeFloodModel", "dropOld", "([II)V"⟩, 39) := ⟨⟨by decide +kernel, by decide +kernel⟩, List.mem_of_getElem? (i := 664) (by decide +kernel), List.mem_of_getElem? (i := 941) (by decide +kernel), List.mem_of_getElem? (i := 942) (by decide +kernel)⟩
theorem lw_p36 : lw_okq (⟨"TimeFloodModel", "laySent", "([I)V"⟩, 39) := ⟨⟨by decide +kernel, by decide +kernel⟩, List.mem_of_getElem? (i := 664) (by decide +kernel), List.mem_of_getElem? (i := 945) (by decide +kernel), List.mem_of_getElem? (i := 946) (by decide +kernel)⟩
theorem lw_p37 : lw_okq (⟨"TimeFloodModel", "areBeside", "([III)Z"⟩, 39) := ⟨⟨by decide +kernel, by decide +kernel⟩, List.mem_of_getElem? (i := 664) (by decide +kernel), List.mem_of_getElem? (i := 949) (by decide +kernel), List.mem_of_getElem? (i := 950) (by decide +kernel)⟩
theorem lw_p38 : lw_okq (⟨"TimeFloodModel", "hear", "([III)V"⟩, 39) := ⟨⟨by decide +kernel, by decide +kernel⟩, List.mem_of_getElem? (i := 664) (by decide +kernel), List.mem_of_getElem? (i := 953) (by decide +kernel), List.mem_of_getElem? (i := 954) (by decide +kernel)⟩
theorem lw_p39 : lw_okq (⟨"TimeFloodModel", "stampOn", "([III)V"⟩, 39) := ⟨⟨by decide +kernel, by decide +kernel⟩, List.mem_of_getElem? (i := 664) (by decide +kernel), List.mem_of_getElem? (i := 958) (by decide +kernel), List.mem_of_getElem? (i := 959) (by decide +kernel)⟩
theorem lw_p40 : lw_okq (⟨"TimeFloodModel", "tryPeriods", "(I)V"⟩, 39) := ⟨⟨by decide +kernel, by decide +kernel⟩, List.mem_of_getElem? (i := 664) (by decide +kernel), List.mem_of_getElem? (i := 993) (by decide +kernel), List.mem_of_getElem? (i := 994) (by decide +kernel)⟩
theorem lw_p41 : lw_okq (⟨"TimeFloodModel", "judged", "(III)Z"⟩, 39) := ⟨⟨by decide +kernel, by decide +kernel⟩, List.mem_of_getElem? (i := 664) (by decide +kernel), List.mem_of_getElem? (i := 1009) (by decide +kernel), List.mem_of_getElem? (i := 1010) (by decide +kernel)⟩
theorem lw_p42 : lw_okq (⟨"TimeFloodModel", "isSoBy", "(II)Z"⟩, 39) := ⟨⟨by decide +kernel, by decide +kernel⟩, List.mem_of_getElem? (i := 664) (by decide +kernel), List.mem_of_getElem? (i := 1029) (by decide +kernel), List.mem_of_getElem? (i := 1030) (by decide +kernel)⟩
theorem lw_p43 : lw_okq (⟨"TimeFloodModel", "inTimeBy", "(I)I"⟩, 39) := ⟨⟨by decide +kernel, by decide +kernel⟩, List.mem_of_getElem? (i := 664) (by decide +kernel), List.mem_of_getElem? (i := 1037) (by decide +kernel), List.mem_of_getElem? (i := 1038) (by decide +kernel)⟩
def lw_privs_3 : List (MethodName × Nat) := [(⟨"TimeFloodModel", "note", "()V"⟩, 39), (⟨"TimeFloodModel", "goOn", "([I)V"⟩, 39), (⟨"TimeFloodModel", "goOne", "([II)V"⟩, 39), (⟨"TimeFloodModel", "dropOld", "([II)V"⟩, 39), (⟨"TimeFloodModel", "laySent", "([I)V"⟩, 39), (⟨"TimeFloodModel", "areBeside", "([III)Z"⟩, 39), (⟨"TimeFloodModel", "hear", "([III)V"⟩, 39), (⟨"TimeFloodModel", "stampOn", "([III)V"⟩, 39), (⟨"TimeFloodModel", "tryPeriods", "(I)V"⟩, 39), (⟨"TimeFloodModel", "judged", "(III)Z"⟩, 39), (⟨"TimeFloodModel", "isSoBy", "(II)Z"⟩, 39), (⟨"TimeFloodModel", "inTimeBy", "(I)I"⟩, 39)]
theorem lw_r3 : ∀ q ∈ lw_privs_3, lw_okq q := List.forall_mem_cons.mpr ⟨lw_p32, List.forall_mem_cons.mpr ⟨lw_p33, List.forall_mem_cons.mpr ⟨lw_p34, List.forall_mem_cons.mpr ⟨lw_p35, List.forall_mem_cons.mpr ⟨lw_p36, List.forall_mem_cons.mpr ⟨lw_p37, List.forall_mem_cons.mpr ⟨lw_p38, List.forall_mem_cons.mpr ⟨lw_p39, List.forall_mem_cons.mpr ⟨lw_p40, List.forall_mem_cons.mpr ⟨lw_p41, List.forall_mem_cons.mpr ⟨lw_p42, List.forall_mem_cons.mpr ⟨lw_p43, fun _ h => absurd h List.not_mem_nil⟩⟩⟩⟩⟩⟩⟩⟩⟩⟩⟩⟩
def lw_privs : List (MethodName × Nat) := lw_privs_1 ++ (lw_privs_2 ++ (lw_privs_3))
def lw_tbl : List Cond := k2_sels lw_privs ++ tables_1
theorem lw_privs_ok : ∀ q ∈ lw_privs, lw_okq q := by
  show ∀ q ∈ lw_privs_1 ++ (lw_privs_2 ++ (lw_privs_3)), lw_okq q
  exact List.forall_mem_append.mpr ⟨lw_r1, List.forall_mem_append.mpr ⟨lw_r2, lw_r3⟩⟩
-- ===== end of PART A =====
/-- the words that a contract may carry over a call -/
def GW : List Cond := lw_tbl.filter goodWord
theorem GW_t {w : Cond} {i : Nat} (h : tables_1[i]? = some w) (g : goodWord w = true) : w ∈ GW := List.mem_filter.mpr ⟨List.mem_append_right _ (List.mem_of_getElem? h), g⟩
theorem GW_p {w : Cond} (h : w ∈ k2_sels lw_privs) (g : goodWord w = true) : w ∈ GW := List.mem_filter.mpr ⟨List.mem_append_left _ h, g⟩
theorem GW_good {w : Cond} (h : w ∈ GW) : (w.onTables && w.keeps) = true ∨ ∃ ty, w = .arrayClass ty := good_of_word (List.mem_filter.mp h).2
theorem wd_0 : (.initialized "TimeFloodLaw" : Cond) ∈ GW := GW_t (i := 0) (by decide +kernel) (by decide +kernel)
theorem wd_1 : (.initialized "TimeFlood" : Cond) ∈ GW := GW_t (i := 1) (by decide +kernel) (by decide +kernel)
theorem wd_2 : (.initialized "TimeFlood$Reader" : Cond) ∈ GW := GW_t (i := 2) (by decide +kernel) (by decide +kernel)
theorem wd_3 : (.initialized "TimeFlood$Plan" : Cond) ∈ GW := GW_t (i := 3) (by decide +kernel) (by decide +kernel)
theorem wd_4 : (.initialized "TimeFlood$Flood" : Cond) ∈ GW := GW_t (i := 4) (by decide +kernel) (by decide +kernel)
theorem wd_5 : (.initialized "TimeFlood$State" : Cond) ∈ GW := GW_t (i := 5) (by decide +kernel) (by decide +kernel)
theorem wd_6 : (.initialized "TimeFlood$Node" : Cond) ∈ GW := GW_t (i := 6) (by decide +kernel) (by decide +kernel)
theorem wd_7 : (.initialized "TimeFlood$Journal" : Cond) ∈ GW := GW_t (i := 7) (by decide +kernel) (by decide +kernel)
theorem wd_8 : (.initialized "TimeFlood$Sightings" : Cond) ∈ GW := GW_t (i := 8) (by decide +kernel) (by decide +kernel)
theorem wd_9 : (.initialized "TimeFloodModel" : Cond) ∈ GW := GW_t (i := 9) (by decide +kernel) (by decide +kernel)
theorem wd_10 : (.initialized "java/lang/Math" : Cond) ∈ GW := GW_t (i := 10) (by decide +kernel) (by decide +kernel)
theorem wd_11 : (.initialized "java/lang/System" : Cond) ∈ GW := GW_t (i := 11) (by decide +kernel) (by decide +kernel)
theorem wd_12 : (.initialized "java/lang/Integer" : Cond) ∈ GW := GW_t (i := 12) (by decide +kernel) (by decide +kernel)
theorem wd_13 : (.classLink "TimeFloodLaw" 7 "TimeFlood" : Cond) ∈ GW := GW_t (i := 13) (by decide +kernel) (by decide +kernel)
theorem wd_14 : (.instantiable "TimeFlood" 12 : Cond) ∈ GW := GW_t (i := 14) (by decide +kernel) (by decide +kernel)
theorem wd_15 : (.methodLink "TimeFloodLaw" 9 (⟨"TimeFlood", "<init>", "()V"⟩ : MethodName) : Cond) ∈ GW := GW_t (i := 15) (by decide +kernel) (by decide +kernel)
theorem wd_16 : (.instanceMethod (⟨"TimeFlood", "<init>", "()V"⟩ : MethodName) : Cond) ∈ GW := GW_t (i := 16) (by decide +kernel) (by decide +kernel)
theorem wd_17 : (.code (⟨"TimeFlood", "<init>", "()V"⟩ : MethodName) prog_1_method_1_code 2 none : Cond) ∈ GW := GW_t (i := 17) (by decide +kernel) (by decide +kernel)
theorem wd_18 : (.methodLink "TimeFlood" 1 (⟨"java/lang/Object", "<init>", "()V"⟩ : MethodName) : Cond) ∈ GW := GW_t (i := 18) (by decide +kernel) (by decide +kernel)
theorem wd_19 : (.instanceMethod (⟨"java/lang/Object", "<init>", "()V"⟩ : MethodName) : Cond) ∈ GW := GW_t (i := 19) (by decide +kernel) (by decide +kernel)
theorem wd_20 : (.code (⟨"java/lang/Object", "<init>", "()V"⟩ : MethodName) object_method_1_code 1 none : Cond) ∈ GW := GW_t (i := 20) (by decide +kernel) (by decide +kernel)
theorem wd_21 : (.classLink "TimeFlood" 17 "TimeFlood$Reader" : Cond) ∈ GW := GW_t (i := 21) (by decide +kernel) (by decide +kernel)
theorem wd_22 : (.instantiable "TimeFlood$Reader" 4 : Cond) ∈ GW := GW_t (i := 22) (by decide +kernel) (by decide +kernel)
theorem wd_24 : (.instanceMethod (⟨"TimeFlood$Reader", "<init>", "()V"⟩ : MethodName) : Cond) ∈ GW := GW_t (i := 24) (by decide +kernel) (by decide +kernel)
theorem wd_25 : (.code (⟨"TimeFlood$Reader", "<init>", "()V"⟩ : MethodName) prog_6_method_1_code 1 none : Cond) ∈ GW := GW_t (i := 25) (by decide +kernel) (by decide +kernel)
theorem wd_26 : (.methodLink "TimeFlood$Reader" 3 (⟨"java/lang/Object", "<init>", "()V"⟩ : MethodName) : Cond) ∈ GW := GW_t (i := 26) (by decide +kernel) (by decide +kernel)
theorem wd_27 : (.classLink "TimeFlood$Reader" 9 "TimeFlood$Plan" : Cond) ∈ GW := GW_t (i := 27) (by decide +kernel) (by decide +kernel)
theorem wd_28 : (.instantiable "TimeFlood$Plan" 10 : Cond) ∈ GW := GW_t (i := 28) (by decide +kernel) (by decide +kernel)
theorem wd_30 : (.instanceMethod (⟨"TimeFlood$Plan", "<init>", "()V"⟩ : MethodName) : Cond) ∈ GW := GW_t (i := 30) (by decide +kernel) (by decide +kernel)
theorem wd_31 : (.code (⟨"TimeFlood$Plan", "<init>", "()V"⟩ : MethodName) prog_5_method_1_code 1 none : Cond) ∈ GW := GW_t (i := 31) (by decide +kernel) (by decide +kernel)
theorem wd_32 : (.methodLink "TimeFlood$Plan" 3 (⟨"java/lang/Object", "<init>", "()V"⟩ : MethodName) : Cond) ∈ GW := GW_t (i := 32) (by decide +kernel) (by decide +kernel)
theorem wd_33 : (.classLink "TimeFlood$Plan" 40 "[[I" : Cond) ∈ GW := GW_t (i := 33) (by decide +kernel) (by decide +kernel)
theorem wd_35 : (.fieldLink "TimeFlood$Plan" 9 "TimeFlood$Plan" "unit" "I" : Cond) ∈ GW := GW_t (i := 35) (by decide +kernel) (by decide +kernel)
theorem wd_36 : (.fieldLink "TimeFlood$Flood" 42 "TimeFlood$Plan" "unit" "I" : Cond) ∈ GW := GW_t (i := 36) (by decide +kernel) (by decide +kernel)
theorem wd_37 : (.fieldLink "TimeFlood$Reader" 52 "TimeFlood$Plan" "unit" "I" : Cond) ∈ GW := GW_t (i := 37) (by decide +kernel) (by decide +kernel)
theorem wd_38 : (.fieldLink "TimeFlood" 97 "TimeFlood$Plan" "unit" "I" : Cond) ∈ GW := GW_t (i := 38) (by decide +kernel) (by decide +kernel)
theorem wd_39 : (.fieldLink "TimeFlood$Plan" 15 "TimeFlood$Plan" "patience" "I" : Cond) ∈ GW := GW_t (i := 39) (by decide +kernel) (by decide +kernel)
theorem wd_40 : (.fieldLink "TimeFlood$Reader" 55 "TimeFlood$Plan" "patience" "I" : Cond) ∈ GW := GW_t (i := 40) (by decide +kernel) (by decide +kernel)
theorem wd_41 : (.fieldLink "TimeFlood" 100 "TimeFlood$Plan" "patience" "I" : Cond) ∈ GW := GW_t (i := 41) (by decide +kernel) (by decide +kernel)
theorem wd_42 : (.fieldLink "TimeFlood$Node" 53 "TimeFlood$Plan" "patience" "I" : Cond) ∈ GW := GW_t (i := 42) (by decide +kernel) (by decide +kernel)
theorem wd_43 : (.fieldLink "TimeFlood$Plan" 18 "TimeFlood$Plan" "shyness" "I" : Cond) ∈ GW := GW_t (i := 43) (by decide +kernel) (by decide +kernel)
theorem wd_44 : (.fieldLink "TimeFlood$Reader" 58 "TimeFlood$Plan" "shyness" "I" : Cond) ∈ GW := GW_t (i := 44) (by decide +kernel) (by decide +kernel)
theorem wd_45 : (.fieldLink "TimeFlood" 103 "TimeFlood$Plan" "shyness" "I" : Cond) ∈ GW := GW_t (i := 45) (by decide +kernel) (by decide +kernel)
theorem wd_46 : (.fieldLink "TimeFlood$Node" 58 "TimeFlood$Plan" "shyness" "I" : Cond) ∈ GW := GW_t (i := 46) (by decide +kernel) (by decide +kernel)
theorem wd_47 : (.fieldLink "TimeFlood$Plan" 21 "TimeFlood$Plan" "nodeCount" "I" : Cond) ∈ GW := GW_t (i := 47) (by decide +kernel) (by decide +kernel)
theorem wd_48 : (.fieldLink "TimeFlood$Flood" 45 "TimeFlood$Plan" "nodeCount" "I" : Cond) ∈ GW := GW_t (i := 48) (by decide +kernel) (by decide +kernel)
theorem wd_49 : (.fieldLink "TimeFlood$State" 32 "TimeFlood$Plan" "nodeCount" "I" : Cond) ∈ GW := GW_t (i := 49) (by decide +kernel) (by decide +kernel)
theorem wd_50 : (.fieldLink "TimeFlood$Reader" 45 "TimeFlood$Plan" "nodeCount" "I" : Cond) ∈ GW := GW_t (i := 50) (by decide +kernel) (by decide +kernel)
theorem wd_51 : (.fieldLink "TimeFlood" 91 "TimeFlood$Plan" "nodeCount" "I" : Cond) ∈ GW := GW_t (i := 51) (by decide +kernel) (by decide +kernel)
theorem wd_52 : (.fieldLink "TimeFlood$Plan" 24 "TimeFlood$Plan" "linkCount" "I" : Cond) ∈ GW := GW_t (i := 52) (by decide +kernel) (by decide +kernel)
theorem wd_53 : (.fieldLink "TimeFlood" 94 "TimeFlood$Plan" "linkCount" "I" : Cond) ∈ GW := GW_t (i := 53) (by decide +kernel) (by decide +kernel)
theorem wd_54 : (.fieldLink "TimeFlood$Plan" 27 "TimeFlood$Plan" "drifts" "[I" : Cond) ∈ GW := GW_t (i := 54) (by decide +kernel) (by decide +kernel)
theorem wd_55 : (.fieldLink "TimeFlood$State" 41 "TimeFlood$Plan" "drifts" "[I" : Cond) ∈ GW := GW_t (i := 55) (by decide +kernel) (by decide +kernel)
theorem wd_56 : (.fieldLink "TimeFlood$Plan" 31 "TimeFlood$Plan" "starts" "[I" : Cond) ∈ GW := GW_t (i := 56) (by decide +kernel) (by decide +kernel)
theorem wd_57 : (.fieldLink "TimeFlood$Flood" 121 "TimeFlood$Plan" "starts" "[I" : Cond) ∈ GW := GW_t (i := 57) (by decide +kernel) (by decide +kernel)
theorem wd_58 : (.fieldLink "TimeFlood$Plan" 34 "TimeFlood$Plan" "lows" "[I" : Cond) ∈ GW := GW_t (i := 58) (by decide +kernel) (by decide +kernel)
theorem wd_59 : (.fieldLink "TimeFlood" 156 "TimeFlood$Plan" "lows" "[I" : Cond) ∈ GW := GW_t (i := 59) (by decide +kernel) (by decide +kernel)
theorem wd_60 : (.fieldLink "TimeFlood$Plan" 37 "TimeFlood$Plan" "highs" "[I" : Cond) ∈ GW := GW_t (i := 60) (by decide +kernel) (by decide +kernel)
theorem wd_61 : (.fieldLink "TimeFlood" 160 "TimeFlood$Plan" "highs" "[I" : Cond) ∈ GW := GW_t (i := 61) (by decide +kernel) (by decide +kernel)
theorem wd_62 : (.fieldLink "TimeFlood$Plan" 42 "TimeFlood$Plan" "links" "[[I" : Cond) ∈ GW := GW_t (i := 62) (by decide +kernel) (by decide +kernel)
theorem wd_63 : (.fieldLink "TimeFlood$Flood" 87 "TimeFlood$Plan" "links" "[[I" : Cond) ∈ GW := GW_t (i := 63) (by decide +kernel) (by decide +kernel)
theorem wd_64 : (.lays "TimeFlood$Plan" "TimeFlood$Plan" "unit" "I" : Cond) ∈ GW := GW_t (i := 64) (by decide +kernel) (by decide +kernel)
theorem wd_66 : (.lays "TimeFlood$Plan" "TimeFlood$Plan" "patience" "I" : Cond) ∈ GW := GW_t (i := 66) (by decide +kernel) (by decide +kernel)
theorem wd_68 : (.lays "TimeFlood$Plan" "TimeFlood$Plan" "shyness" "I" : Cond) ∈ GW := GW_t (i := 68) (by decide +kernel) (by decide +kernel)
theorem wd_70 : (.lays "TimeFlood$Plan" "TimeFlood$Plan" "nodeCount" "I" : Cond) ∈ GW := GW_t (i := 70) (by decide +kernel) (by decide +kernel)
theorem wd_72 : (.lays "TimeFlood$Plan" "TimeFlood$Plan" "linkCount" "I" : Cond) ∈ GW := GW_t (i := 72) (by decide +kernel) (by decide +kernel)
theorem wd_74 : (.laysFinal "TimeFlood$Plan" "TimeFlood$Plan" "drifts" "[I" : Cond) ∈ GW := GW_t (i := 74) (by decide +kernel) (by decide +kernel)
theorem wd_76 : (.laysFinal "TimeFlood$Plan" "TimeFlood$Plan" "starts" "[I" : Cond) ∈ GW := GW_t (i := 76) (by decide +kernel) (by decide +kernel)
theorem wd_78 : (.laysFinal "TimeFlood$Plan" "TimeFlood$Plan" "lows" "[I" : Cond) ∈ GW := GW_t (i := 78) (by decide +kernel) (by decide +kernel)
theorem wd_80 : (.laysFinal "TimeFlood$Plan" "TimeFlood$Plan" "highs" "[I" : Cond) ∈ GW := GW_t (i := 80) (by decide +kernel) (by decide +kernel)
theorem wd_82 : (.laysFinal "TimeFlood$Plan" "TimeFlood$Plan" "links" "[[I" : Cond) ∈ GW := GW_t (i := 82) (by decide +kernel) (by decide +kernel)
theorem wd_85 : (.arrayClass FieldType.char : Cond) ∈ GW := GW_t (i := 85) (by decide +kernel) (by decide +kernel)
theorem wd_86 : (.arrayClass FieldType.int : Cond) ∈ GW := GW_t (i := 86) (by decide +kernel) (by decide +kernel)
theorem wd_87 : (.fieldLink "TimeFlood$Reader" 12 "TimeFlood$Reader" "draft" "LTimeFlood$Plan;" : Cond) ∈ GW := GW_t (i := 87) (by decide +kernel) (by decide +kernel)
theorem wd_88 : (.fieldLink "TimeFlood" 76 "TimeFlood$Reader" "draft" "LTimeFlood$Plan;" : Cond) ∈ GW := GW_t (i := 88) (by decide +kernel) (by decide +kernel)
theorem wd_89 : (.fieldLink "TimeFlood$Reader" 18 "TimeFlood$Reader" "place" "I" : Cond) ∈ GW := GW_t (i := 89) (by decide +kernel) (by decide +kernel)
theorem wd_90 : (.fieldLink "TimeFlood$Reader" 22 "TimeFlood$Reader" "held" "I" : Cond) ∈ GW := GW_t (i := 90) (by decide +kernel) (by decide +kernel)
theorem wd_91 : (.fieldLink "TimeFlood$Reader" 25 "TimeFlood$Reader" "heldDrift" "I" : Cond) ∈ GW := GW_t (i := 91) (by decide +kernel) (by decide +kernel)
theorem wd_92 : (.laysFinal "TimeFlood$Reader" "TimeFlood$Reader" "draft" "LTimeFlood$Plan;" : Cond) ∈ GW := GW_t (i := 92) (by decide +kernel) (by decide +kernel)
theorem wd_94 : (.lays "TimeFlood$Reader" "TimeFlood$Reader" "place" "I" : Cond) ∈ GW := GW_t (i := 94) (by decide +kernel) (by decide +kernel)
theorem wd_96 : (.lays "TimeFlood$Reader" "TimeFlood$Reader" "held" "I" : Cond) ∈ GW := GW_t (i := 96) (by decide +kernel) (by decide +kernel)
theorem wd_98 : (.lays "TimeFlood$Reader" "TimeFlood$Reader" "heldDrift" "I" : Cond) ∈ GW := GW_t (i := 98) (by decide +kernel) (by decide +kernel)
theorem wd_101 : (.classLink "TimeFlood" 24 "TimeFlood$Flood" : Cond) ∈ GW := GW_t (i := 101) (by decide +kernel) (by decide +kernel)
theorem wd_102 : (.instantiable "TimeFlood$Flood" 5 : Cond) ∈ GW := GW_t (i := 102) (by decide +kernel) (by decide +kernel)
theorem wd_104 : (.instanceMethod (⟨"TimeFlood$Flood", "<init>", "()V"⟩ : MethodName) : Cond) ∈ GW := GW_t (i := 104) (by decide +kernel) (by decide +kernel)
theorem wd_105 : (.code (⟨"TimeFlood$Flood", "<init>", "()V"⟩ : MethodName) prog_2_method_1_code 1 none : Cond) ∈ GW := GW_t (i := 105) (by decide +kernel) (by decide +kernel)
theorem wd_106 : (.methodLink "TimeFlood$Flood" 3 (⟨"java/lang/Object", "<init>", "()V"⟩ : MethodName) : Cond) ∈ GW := GW_t (i := 106) (by decide +kernel) (by decide +kernel)
theorem wd_107 : (.classLink "TimeFlood$Flood" 9 "TimeFlood$Plan" : Cond) ∈ GW := GW_t (i := 107) (by decide +kernel) (by decide +kernel)
theorem wd_109 : (.fieldLink "TimeFlood$Flood" 12 "TimeFlood$Flood" "plan" "LTimeFlood$Plan;" : Cond) ∈ GW := GW_t (i := 109) (by decide +kernel) (by decide +kernel)
theorem wd_110 : (.fieldLink "TimeFlood" 31 "TimeFlood$Flood" "plan" "LTimeFlood$Plan;" : Cond) ∈ GW := GW_t (i := 110) (by decide +kernel) (by decide +kernel)
theorem wd_111 : (.fieldLink "TimeFlood$Flood" 18 "TimeFlood$Flood" "sent" "[Z" : Cond) ∈ GW := GW_t (i := 111) (by decide +kernel) (by decide +kernel)
theorem wd_112 : (.fieldLink "TimeFlood$Flood" 22 "TimeFlood$Flood" "sentRoots" "[I" : Cond) ∈ GW := GW_t (i := 112) (by decide +kernel) (by decide +kernel)
theorem wd_113 : (.fieldLink "TimeFlood$Flood" 26 "TimeFlood$Flood" "sentNumbers" "[I" : Cond) ∈ GW := GW_t (i := 113) (by decide +kernel) (by decide +kernel)
theorem wd_114 : (.fieldLink "TimeFlood$Flood" 29 "TimeFlood$Flood" "sentEstimates" "[I" : Cond) ∈ GW := GW_t (i := 114) (by decide +kernel) (by decide +kernel)
theorem wd_115 : (.laysFinal "TimeFlood$Flood" "TimeFlood$Flood" "plan" "LTimeFlood$Plan;" : Cond) ∈ GW := GW_t (i := 115) (by decide +kernel) (by decide +kernel)
theorem wd_117 : (.laysFinal "TimeFlood$Flood" "TimeFlood$Flood" "sent" "[Z" : Cond) ∈ GW := GW_t (i := 117) (by decide +kernel) (by decide +kernel)
theorem wd_119 : (.laysFinal "TimeFlood$Flood" "TimeFlood$Flood" "sentRoots" "[I" : Cond) ∈ GW := GW_t (i := 119) (by decide +kernel) (by decide +kernel)
theorem wd_121 : (.laysFinal "TimeFlood$Flood" "TimeFlood$Flood" "sentNumbers" "[I" : Cond) ∈ GW := GW_t (i := 121) (by decide +kernel) (by decide +kernel)
theorem wd_123 : (.laysFinal "TimeFlood$Flood" "TimeFlood$Flood" "sentEstimates" "[I" : Cond) ∈ GW := GW_t (i := 123) (by decide +kernel) (by decide +kernel)
theorem wd_126 : (.arrayClass FieldType.boolean : Cond) ∈ GW := GW_t (i := 126) (by decide +kernel) (by decide +kernel)
theorem wd_127 : (.classLink "TimeFlood" 36 "TimeFlood$State" : Cond) ∈ GW := GW_t (i := 127) (by decide +kernel) (by decide +kernel)
theorem wd_128 : (.instantiable "TimeFlood$State" 3 : Cond) ∈ GW := GW_t (i := 128) (by decide +kernel) (by decide +kernel)
theorem wd_129 : (.methodLink "TimeFlood" 38 (⟨"TimeFlood$State", "<init>", "()V"⟩ : MethodName) : Cond) ∈ GW := GW_t (i := 129) (by decide +kernel) (by decide +kernel)
theorem wd_130 : (.instanceMethod (⟨"TimeFlood$State", "<init>", "()V"⟩ : MethodName) : Cond) ∈ GW := GW_t (i := 130) (by decide +kernel) (by decide +kernel)
theorem wd_131 : (.code (⟨"TimeFlood$State", "<init>", "()V"⟩ : MethodName) prog_8_method_1_code 2 none : Cond) ∈ GW := GW_t (i := 131) (by decide +kernel) (by decide +kernel)
theorem wd_132 : (.methodLink "TimeFlood$State" 3 (⟨"java/lang/Object", "<init>", "()V"⟩ : MethodName) : Cond) ∈ GW := GW_t (i := 132) (by decide +kernel) (by decide +kernel)
theorem wd_133 : (.classLink "TimeFlood$State" 18 "TimeFlood$Node" : Cond) ∈ GW := GW_t (i := 133) (by decide +kernel) (by decide +kernel)
theorem wd_135 : (.instantiable "TimeFlood$Node" 10 : Cond) ∈ GW := GW_t (i := 135) (by decide +kernel) (by decide +kernel)
theorem wd_137 : (.instanceMethod (⟨"TimeFlood$Node", "<init>", "()V"⟩ : MethodName) : Cond) ∈ GW := GW_t (i := 137) (by decide +kernel) (by decide +kernel)
theorem wd_138 : (.code (⟨"TimeFlood$Node", "<init>", "()V"⟩ : MethodName) prog_4_method_1_code 1 none : Cond) ∈ GW := GW_t (i := 138) (by decide +kernel) (by decide +kernel)
theorem wd_139 : (.methodLink "TimeFlood$Node" 3 (⟨"java/lang/Object", "<init>", "()V"⟩ : MethodName) : Cond) ∈ GW := GW_t (i := 139) (by decide +kernel) (by decide +kernel)
theorem wd_140 : (.fieldLink "TimeFlood$Node" 9 "TimeFlood$Node" "on" "Z" : Cond) ∈ GW := GW_t (i := 140) (by decide +kernel) (by decide +kernel)
theorem wd_141 : (.fieldLink "TimeFlood$Flood" 52 "TimeFlood$Node" "on" "Z" : Cond) ∈ GW := GW_t (i := 141) (by decide +kernel) (by decide +kernel)
theorem wd_142 : (.fieldLink "TimeFlood$State" 37 "TimeFlood$Node" "on" "Z" : Cond) ∈ GW := GW_t (i := 142) (by decide +kernel) (by decide +kernel)
theorem wd_143 : (.fieldLink "TimeFlood" 143 "TimeFlood$Node" "on" "Z" : Cond) ∈ GW := GW_t (i := 143) (by decide +kernel) (by decide +kernel)
theorem wd_144 : (.fieldLink "TimeFlood$Node" 15 "TimeFlood$Node" "drift" "I" : Cond) ∈ GW := GW_t (i := 144) (by decide +kernel) (by decide +kernel)
theorem wd_145 : (.fieldLink "TimeFlood$State" 45 "TimeFlood$Node" "drift" "I" : Cond) ∈ GW := GW_t (i := 145) (by decide +kernel) (by decide +kernel)
theorem wd_146 : (.fieldLink "TimeFlood$Flood" 113 "TimeFlood$Node" "drift" "I" : Cond) ∈ GW := GW_t (i := 146) (by decide +kernel) (by decide +kernel)
theorem wd_147 : (.fieldLink "TimeFlood" 184 "TimeFlood$Node" "drift" "I" : Cond) ∈ GW := GW_t (i := 147) (by decide +kernel) (by decide +kernel)
theorem wd_148 : (.fieldLink "TimeFlood$Node" 19 "TimeFlood$Node" "root" "I" : Cond) ∈ GW := GW_t (i := 148) (by decide +kernel) (by decide +kernel)
theorem wd_149 : (.fieldLink "TimeFlood$Flood" 69 "TimeFlood$Node" "root" "I" : Cond) ∈ GW := GW_t (i := 149) (by decide +kernel) (by decide +kernel)
theorem wd_150 : (.fieldLink "TimeFlood$State" 48 "TimeFlood$Node" "root" "I" : Cond) ∈ GW := GW_t (i := 150) (by decide +kernel) (by decide +kernel)
theorem wd_151 : (.fieldLink "TimeFlood$Node" 22 "TimeFlood$Node" "number" "I" : Cond) ∈ GW := GW_t (i := 151) (by decide +kernel) (by decide +kernel)
theorem wd_152 : (.fieldLink "TimeFlood$Flood" 72 "TimeFlood$Node" "number" "I" : Cond) ∈ GW := GW_t (i := 152) (by decide +kernel) (by decide +kernel)
theorem wd_153 : (.fieldLink "TimeFlood$Node" 25 "TimeFlood$Node" "heart" "I" : Cond) ∈ GW := GW_t (i := 153) (by decide +kernel) (by decide +kernel)
theorem wd_154 : (.fieldLink "TimeFlood$Flood" 150 "TimeFlood$Node" "heart" "I" : Cond) ∈ GW := GW_t (i := 154) (by decide +kernel) (by decide +kernel)
theorem wd_155 : (.fieldLink "TimeFlood$Node" 28 "TimeFlood$Node" "guard" "I" : Cond) ∈ GW := GW_t (i := 155) (by decide +kernel) (by decide +kernel)
theorem wd_156 : (.fieldLink "TimeFlood$Flood" 153 "TimeFlood$Node" "guard" "I" : Cond) ∈ GW := GW_t (i := 156) (by decide +kernel) (by decide +kernel)
theorem wd_157 : (.fieldLink "TimeFlood$Node" 31 "TimeFlood$Node" "stampCount" "I" : Cond) ∈ GW := GW_t (i := 157) (by decide +kernel) (by decide +kernel)
theorem wd_158 : (.fieldLink "TimeFlood$Flood" 102 "TimeFlood$Node" "stampCount" "I" : Cond) ∈ GW := GW_t (i := 158) (by decide +kernel) (by decide +kernel)
theorem wd_159 : (.fieldLink "TimeFlood" 255 "TimeFlood$Node" "stampCount" "I" : Cond) ∈ GW := GW_t (i := 159) (by decide +kernel) (by decide +kernel)
theorem wd_160 : (.fieldLink "TimeFlood$Node" 34 "TimeFlood$Node" "clocks" "[I" : Cond) ∈ GW := GW_t (i := 160) (by decide +kernel) (by decide +kernel)
theorem wd_161 : (.fieldLink "TimeFlood$Node" 38 "TimeFlood$Node" "marks" "[I" : Cond) ∈ GW := GW_t (i := 161) (by decide +kernel) (by decide +kernel)
theorem wd_162 : (.fieldLink "TimeFlood$Node" 41 "TimeFlood$Node" "ages" "[I" : Cond) ∈ GW := GW_t (i := 162) (by decide +kernel) (by decide +kernel)
theorem wd_163 : (.lays "TimeFlood$Node" "TimeFlood$Node" "on" "Z" : Cond) ∈ GW := GW_t (i := 163) (by decide +kernel) (by decide +kernel)
theorem wd_165 : (.lays "TimeFlood$Node" "TimeFlood$Node" "drift" "I" : Cond) ∈ GW := GW_t (i := 165) (by decide +kernel) (by decide +kernel)
theorem wd_167 : (.lays "TimeFlood$Node" "TimeFlood$Node" "root" "I" : Cond) ∈ GW := GW_t (i := 167) (by decide +kernel) (by decide +kernel)
theorem wd_169 : (.lays "TimeFlood$Node" "TimeFlood$Node" "number" "I" : Cond) ∈ GW := GW_t (i := 169) (by decide +kernel) (by decide +kernel)
theorem wd_171 : (.lays "TimeFlood$Node" "TimeFlood$Node" "heart" "I" : Cond) ∈ GW := GW_t (i := 171) (by decide +kernel) (by decide +kernel)
theorem wd_173 : (.lays "TimeFlood$Node" "TimeFlood$Node" "guard" "I" : Cond) ∈ GW := GW_t (i := 173) (by decide +kernel) (by decide +kernel)
theorem wd_175 : (.lays "TimeFlood$Node" "TimeFlood$Node" "stampCount" "I" : Cond) ∈ GW := GW_t (i := 175) (by decide +kernel) (by decide +kernel)
theorem wd_177 : (.laysFinal "TimeFlood$Node" "TimeFlood$Node" "clocks" "[I" : Cond) ∈ GW := GW_t (i := 177) (by decide +kernel) (by decide +kernel)
theorem wd_179 : (.laysFinal "TimeFlood$Node" "TimeFlood$Node" "marks" "[I" : Cond) ∈ GW := GW_t (i := 179) (by decide +kernel) (by decide +kernel)
theorem wd_181 : (.laysFinal "TimeFlood$Node" "TimeFlood$Node" "ages" "[I" : Cond) ∈ GW := GW_t (i := 181) (by decide +kernel) (by decide +kernel)
theorem wd_184 : (.fieldLink "TimeFlood$State" 9 "TimeFlood$State" "time" "I" : Cond) ∈ GW := GW_t (i := 184) (by decide +kernel) (by decide +kernel)
theorem wd_185 : (.fieldLink "TimeFlood$Flood" 36 "TimeFlood$State" "time" "I" : Cond) ∈ GW := GW_t (i := 185) (by decide +kernel) (by decide +kernel)
theorem wd_186 : (.fieldLink "TimeFlood" 106 "TimeFlood$State" "time" "I" : Cond) ∈ GW := GW_t (i := 186) (by decide +kernel) (by decide +kernel)
theorem wd_187 : (.fieldLink "TimeFlood$State" 15 "TimeFlood$State" "downSet" "I" : Cond) ∈ GW := GW_t (i := 187) (by decide +kernel) (by decide +kernel)
theorem wd_188 : (.fieldLink "TimeFlood" 120 "TimeFlood$State" "downSet" "I" : Cond) ∈ GW := GW_t (i := 188) (by decide +kernel) (by decide +kernel)
theorem wd_189 : (.fieldLink "TimeFlood$State" 20 "TimeFlood$State" "nodes" "[LTimeFlood$Node;" : Cond) ∈ GW := GW_t (i := 189) (by decide +kernel) (by decide +kernel)
theorem wd_190 : (.fieldLink "TimeFlood$Flood" 48 "TimeFlood$State" "nodes" "[LTimeFlood$Node;" : Cond) ∈ GW := GW_t (i := 190) (by decide +kernel) (by decide +kernel)
theorem wd_191 : (.fieldLink "TimeFlood" 139 "TimeFlood$State" "nodes" "[LTimeFlood$Node;" : Cond) ∈ GW := GW_t (i := 191) (by decide +kernel) (by decide +kernel)
theorem wd_192 : (.lays "TimeFlood$State" "TimeFlood$State" "time" "I" : Cond) ∈ GW := GW_t (i := 192) (by decide +kernel) (by decide +kernel)
theorem wd_194 : (.lays "TimeFlood$State" "TimeFlood$State" "downSet" "I" : Cond) ∈ GW := GW_t (i := 194) (by decide +kernel) (by decide +kernel)
theorem wd_196 : (.laysFinal "TimeFlood$State" "TimeFlood$State" "nodes" "[LTimeFlood$Node;" : Cond) ∈ GW := GW_t (i := 196) (by decide +kernel) (by decide +kernel)
theorem wd_199 : (.classLink "TimeFlood" 46 "TimeFlood$Journal" : Cond) ∈ GW := GW_t (i := 199) (by decide +kernel) (by decide +kernel)
theorem wd_200 : (.instantiable "TimeFlood$Journal" 3 : Cond) ∈ GW := GW_t (i := 200) (by decide +kernel) (by decide +kernel)
theorem wd_201 : (.methodLink "TimeFlood" 48 (⟨"TimeFlood$Journal", "<init>", "()V"⟩ : MethodName) : Cond) ∈ GW := GW_t (i := 201) (by decide +kernel) (by decide +kernel)
theorem wd_202 : (.instanceMethod (⟨"TimeFlood$Journal", "<init>", "()V"⟩ : MethodName) : Cond) ∈ GW := GW_t (i := 202) (by decide +kernel) (by decide +kernel)
theorem wd_203 : (.code (⟨"TimeFlood$Journal", "<init>", "()V"⟩ : MethodName) prog_3_method_1_code 2 none : Cond) ∈ GW := GW_t (i := 203) (by decide +kernel) (by decide +kernel)
theorem wd_204 : (.methodLink "TimeFlood$Journal" 3 (⟨"java/lang/Object", "<init>", "()V"⟩ : MethodName) : Cond) ∈ GW := GW_t (i := 204) (by decide +kernel) (by decide +kernel)
theorem wd_205 : (.classLink "TimeFlood$Journal" 9 "TimeFlood$State" : Cond) ∈ GW := GW_t (i := 205) (by decide +kernel) (by decide +kernel)
theorem wd_207 : (.methodLink "TimeFlood$Journal" 24 (⟨"TimeFlood$State", "<init>", "()V"⟩ : MethodName) : Cond) ∈ GW := GW_t (i := 207) (by decide +kernel) (by decide +kernel)
theorem wd_208 : (.fieldLink "TimeFlood$Journal" 11 "TimeFlood$Journal" "states" "[LTimeFlood$State;" : Cond) ∈ GW := GW_t (i := 208) (by decide +kernel) (by decide +kernel)
theorem wd_209 : (.fieldLink "TimeFlood$Journal" 17 "TimeFlood$Journal" "next" "I" : Cond) ∈ GW := GW_t (i := 209) (by decide +kernel) (by decide +kernel)
theorem wd_210 : (.fieldLink "TimeFlood$Journal" 21 "TimeFlood$Journal" "count" "I" : Cond) ∈ GW := GW_t (i := 210) (by decide +kernel) (by decide +kernel)
theorem wd_211 : (.fieldLink "TimeFlood" 127 "TimeFlood$Journal" "count" "I" : Cond) ∈ GW := GW_t (i := 211) (by decide +kernel) (by decide +kernel)
theorem wd_212 : (.laysFinal "TimeFlood$Journal" "TimeFlood$Journal" "states" "[LTimeFlood$State;" : Cond) ∈ GW := GW_t (i := 212) (by decide +kernel) (by decide +kernel)
theorem wd_214 : (.lays "TimeFlood$Journal" "TimeFlood$Journal" "next" "I" : Cond) ∈ GW := GW_t (i := 214) (by decide +kernel) (by decide +kernel)
theorem wd_216 : (.lays "TimeFlood$Journal" "TimeFlood$Journal" "count" "I" : Cond) ∈ GW := GW_t (i := 216) (by decide +kernel) (by decide +kernel)
theorem wd_219 : (.classLink "TimeFlood" 61 "TimeFlood$Sightings" : Cond) ∈ GW := GW_t (i := 219) (by decide +kernel) (by decide +kernel)
theorem wd_220 : (.instantiable "TimeFlood$Sightings" 4 : Cond) ∈ GW := GW_t (i := 220) (by decide +kernel) (by decide +kernel)
theorem wd_222 : (.instanceMethod (⟨"TimeFlood$Sightings", "<init>", "()V"⟩ : MethodName) : Cond) ∈ GW := GW_t (i := 222) (by decide +kernel) (by decide +kernel)
theorem wd_223 : (.code (⟨"TimeFlood$Sightings", "<init>", "()V"⟩ : MethodName) prog_7_method_1_code 1 none : Cond) ∈ GW := GW_t (i := 223) (by decide +kernel) (by decide +kernel)
theorem wd_224 : (.methodLink "TimeFlood$Sightings" 3 (⟨"java/lang/Object", "<init>", "()V"⟩ : MethodName) : Cond) ∈ GW := GW_t (i := 224) (by decide +kernel) (by decide +kernel)
theorem wd_225 : (.fieldLink "TimeFlood$Sightings" 9 "TimeFlood$Sightings" "nodes" "[I" : Cond) ∈ GW := GW_t (i := 225) (by decide +kernel) (by decide +kernel)
theorem wd_226 : (.fieldLink "TimeFlood$Sightings" 15 "TimeFlood$Sightings" "periods" "[I" : Cond) ∈ GW := GW_t (i := 226) (by decide +kernel) (by decide +kernel)
theorem wd_227 : (.fieldLink "TimeFlood$Sightings" 18 "TimeFlood$Sightings" "roots" "[I" : Cond) ∈ GW := GW_t (i := 227) (by decide +kernel) (by decide +kernel)
theorem wd_228 : (.fieldLink "TimeFlood$Sightings" 21 "TimeFlood$Sightings" "count" "I" : Cond) ∈ GW := GW_t (i := 228) (by decide +kernel) (by decide +kernel)
theorem wd_229 : (.fieldLink "TimeFlood" 130 "TimeFlood$Sightings" "count" "I" : Cond) ∈ GW := GW_t (i := 229) (by decide +kernel) (by decide +kernel)
theorem wd_230 : (.laysFinal "TimeFlood$Sightings" "TimeFlood$Sightings" "nodes" "[I" : Cond) ∈ GW := GW_t (i := 230) (by decide +kernel) (by decide +kernel)
theorem wd_232 : (.laysFinal "TimeFlood$Sightings" "TimeFlood$Sightings" "periods" "[I" : Cond) ∈ GW := GW_t (i := 232) (by decide +kernel) (by decide +kernel)
theorem wd_234 : (.laysFinal "TimeFlood$Sightings" "TimeFlood$Sightings" "roots" "[I" : Cond) ∈ GW := GW_t (i := 234) (by decide +kernel) (by decide +kernel)
theorem wd_236 : (.lays "TimeFlood$Sightings" "TimeFlood$Sightings" "count" "I" : Cond) ∈ GW := GW_t (i := 236) (by decide +kernel) (by decide +kernel)
theorem wd_239 : (.fieldLink "TimeFlood" 9 "TimeFlood" "text" "[C" : Cond) ∈ GW := GW_t (i := 239) (by decide +kernel) (by decide +kernel)
theorem wd_240 : (.fieldLink "TimeFlood" 13 "TimeFlood" "textLength" "I" : Cond) ∈ GW := GW_t (i := 240) (by decide +kernel) (by decide +kernel)
theorem wd_241 : (.fieldLink "TimeFlood" 20 "TimeFlood" "reader" "LTimeFlood$Reader;" : Cond) ∈ GW := GW_t (i := 241) (by decide +kernel) (by decide +kernel)
theorem wd_242 : (.fieldLink "TimeFlood" 27 "TimeFlood" "flood" "LTimeFlood$Flood;" : Cond) ∈ GW := GW_t (i := 242) (by decide +kernel) (by decide +kernel)
theorem wd_243 : (.fieldLink "TimeFlood" 35 "TimeFlood" "plan" "LTimeFlood$Plan;" : Cond) ∈ GW := GW_t (i := 243) (by decide +kernel) (by decide +kernel)
theorem wd_244 : (.fieldLink "TimeFlood" 39 "TimeFlood" "now" "LTimeFlood$State;" : Cond) ∈ GW := GW_t (i := 244) (by decide +kernel) (by decide +kernel)
theorem wd_245 : (.fieldLink "TimeFlood" 43 "TimeFlood" "trial" "LTimeFlood$State;" : Cond) ∈ GW := GW_t (i := 245) (by decide +kernel) (by decide +kernel)
theorem wd_246 : (.fieldLink "TimeFlood" 49 "TimeFlood" "journal" "LTimeFlood$Journal;" : Cond) ∈ GW := GW_t (i := 246) (by decide +kernel) (by decide +kernel)
theorem wd_247 : (.fieldLink "TimeFlood" 53 "TimeFlood" "slots" "[LTimeFlood$State;" : Cond) ∈ GW := GW_t (i := 247) (by decide +kernel) (by decide +kernel)
theorem wd_248 : (.fieldLink "TimeFlood" 57 "TimeFlood" "slotFilled" "[Z" : Cond) ∈ GW := GW_t (i := 248) (by decide +kernel) (by decide +kernel)
theorem wd_249 : (.fieldLink "TimeFlood" 64 "TimeFlood" "sightings" "LTimeFlood$Sightings;" : Cond) ∈ GW := GW_t (i := 249) (by decide +kernel) (by decide +kernel)
theorem wd_250 : (.fieldLink "TimeFlood" 68 "TimeFlood" "seedNow" "J" : Cond) ∈ GW := GW_t (i := 250) (by decide +kernel) (by decide +kernel)
theorem wd_251 : (.laysFinal "TimeFlood" "TimeFlood" "text" "[C" : Cond) ∈ GW := GW_t (i := 251) (by decide +kernel) (by decide +kernel)
theorem wd_253 : (.lays "TimeFlood" "TimeFlood" "textLength" "I" : Cond) ∈ GW := GW_t (i := 253) (by decide +kernel) (by decide +kernel)
theorem wd_255 : (.laysFinal "TimeFlood" "TimeFlood" "reader" "LTimeFlood$Reader;" : Cond) ∈ GW := GW_t (i := 255) (by decide +kernel) (by decide +kernel)
theorem wd_257 : (.laysFinal "TimeFlood" "TimeFlood" "flood" "LTimeFlood$Flood;" : Cond) ∈ GW := GW_t (i := 257) (by decide +kernel) (by decide +kernel)
theorem wd_259 : (.laysFinal "TimeFlood" "TimeFlood" "plan" "LTimeFlood$Plan;" : Cond) ∈ GW := GW_t (i := 259) (by decide +kernel) (by decide +kernel)
theorem wd_261 : (.laysFinal "TimeFlood" "TimeFlood" "now" "LTimeFlood$State;" : Cond) ∈ GW := GW_t (i := 261) (by decide +kernel) (by decide +kernel)
theorem wd_263 : (.laysFinal "TimeFlood" "TimeFlood" "trial" "LTimeFlood$State;" : Cond) ∈ GW := GW_t (i := 263) (by decide +kernel) (by decide +kernel)
theorem wd_265 : (.laysFinal "TimeFlood" "TimeFlood" "journal" "LTimeFlood$Journal;" : Cond) ∈ GW := GW_t (i := 265) (by decide +kernel) (by decide +kernel)
theorem wd_267 : (.laysFinal "TimeFlood" "TimeFlood" "slots" "[LTimeFlood$State;" : Cond) ∈ GW := GW_t (i := 267) (by decide +kernel) (by decide +kernel)
theorem wd_269 : (.laysFinal "TimeFlood" "TimeFlood" "slotFilled" "[Z" : Cond) ∈ GW := GW_t (i := 269) (by decide +kernel) (by decide +kernel)
theorem wd_271 : (.laysFinal "TimeFlood" "TimeFlood" "sightings" "LTimeFlood$Sightings;" : Cond) ∈ GW := GW_t (i := 271) (by decide +kernel) (by decide +kernel)
theorem wd_273 : (.lays "TimeFlood" "TimeFlood" "seedNow" "J" : Cond) ∈ GW := GW_t (i := 273) (by decide +kernel) (by decide +kernel)
theorem wd_276 : (.methodLink "TimeFloodLaw" 13 (⟨"TimeFlood", "write", "(I)I"⟩ : MethodName) : Cond) ∈ GW := GW_t (i := 276) (by decide +kernel) (by decide +kernel)
theorem wd_277 : (.instanceMethod (⟨"TimeFlood", "write", "(I)I"⟩ : MethodName) : Cond) ∈ GW := GW_t (i := 277) (by decide +kernel) (by decide +kernel)
theorem wd_278 : (.selects "TimeFlood" (⟨"TimeFlood", "write", "(I)I"⟩ : MethodName) (⟨"TimeFlood", "write", "(I)I"⟩ : MethodName) : Cond) ∈ GW := GW_t (i := 278) (by decide +kernel) (by decide +kernel)
theorem wd_279 : (.code (⟨"TimeFlood", "write", "(I)I"⟩ : MethodName) prog_1_method_2_code 2 (Option.some FieldType.int) : Cond) ∈ GW := GW_t (i := 279) (by decide +kernel) (by decide +kernel)
theorem wd_280 : (.methodLink "TimeFloodLaw" 18 (⟨"TimeFlood", "wipe", "()I"⟩ : MethodName) : Cond) ∈ GW := GW_t (i := 280) (by decide +kernel) (by decide +kernel)
theorem wd_281 : (.instanceMethod (⟨"TimeFlood", "wipe", "()I"⟩ : MethodName) : Cond) ∈ GW := GW_t (i := 281) (by decide +kernel) (by decide +kernel)
theorem wd_282 : (.selects "TimeFlood" (⟨"TimeFlood", "wipe", "()I"⟩ : MethodName) (⟨"TimeFlood", "wipe", "()I"⟩ : MethodName) : Cond) ∈ GW := GW_t (i := 282) (by decide +kernel) (by decide +kernel)
theorem wd_283 : (.code (⟨"TimeFlood", "wipe", "()I"⟩ : MethodName) prog_1_method_3_code 2 (Option.some FieldType.int) : Cond) ∈ GW := GW_t (i := 283) (by decide +kernel) (by decide +kernel)
theorem wd_284 : (.methodLink "TimeFloodLaw" 23 (⟨"TimeFlood", "fault", "()I"⟩ : MethodName) : Cond) ∈ GW := GW_t (i := 284) (by decide +kernel) (by decide +kernel)
theorem wd_285 : (.instanceMethod (⟨"TimeFlood", "fault", "()I"⟩ : MethodName) : Cond) ∈ GW := GW_t (i := 285) (by decide +kernel) (by decide +kernel)
theorem wd_286 : (.selects "TimeFlood" (⟨"TimeFlood", "fault", "()I"⟩ : MethodName) (⟨"TimeFlood", "fault", "()I"⟩ : MethodName) : Cond) ∈ GW := GW_t (i := 286) (by decide +kernel) (by decide +kernel)
theorem wd_287 : (.code (⟨"TimeFlood", "fault", "()I"⟩ : MethodName) prog_1_method_4_code 1 (Option.some FieldType.int) : Cond) ∈ GW := GW_t (i := 287) (by decide +kernel) (by decide +kernel)
theorem wd_288 : (.methodLink "TimeFlood" 72 (⟨"TimeFlood$Reader", "read", "([CI)I"⟩ : MethodName) : Cond) ∈ GW := GW_t (i := 288) (by decide +kernel) (by decide +kernel)
theorem wd_289 : (.instanceMethod (⟨"TimeFlood$Reader", "read", "([CI)I"⟩ : MethodName) : Cond) ∈ GW := GW_t (i := 289) (by decide +kernel) (by decide +kernel)
theorem wd_290 : (.selects "TimeFlood$Reader" (⟨"TimeFlood$Reader", "read", "([CI)I"⟩ : MethodName) (⟨"TimeFlood$Reader", "read", "([CI)I"⟩ : MethodName) : Cond) ∈ GW := GW_t (i := 290) (by decide +kernel) (by decide +kernel)
theorem wd_291 : (.code (⟨"TimeFlood$Reader", "read", "([CI)I"⟩ : MethodName) prog_6_method_2_code 4 (Option.some FieldType.int) : Cond) ∈ GW := GW_t (i := 291) (by decide +kernel) (by decide +kernel)
theorem wd_292 : (.methodLink "TimeFlood$Reader" 28 (⟨"TimeFlood$Plan", "clear", "()V"⟩ : MethodName) : Cond) ∈ GW := GW_t (i := 292) (by decide +kernel) (by decide +kernel)
theorem wd_293 : (.instanceMethod (⟨"TimeFlood$Plan", "clear", "()V"⟩ : MethodName) : Cond) ∈ GW := GW_t (i := 293) (by decide +kernel) (by decide +kernel)
theorem wd_294 : (.selects "TimeFlood$Plan" (⟨"TimeFlood$Plan", "clear", "()V"⟩ : MethodName) (⟨"TimeFlood$Plan", "clear", "()V"⟩ : MethodName) : Cond) ∈ GW := GW_t (i := 294) (by decide +kernel) (by decide +kernel)
theorem wd_295 : (.code (⟨"TimeFlood$Plan", "clear", "()V"⟩ : MethodName) prog_5_method_2_code 3 none : Cond) ∈ GW := GW_t (i := 295) (by decide +kernel) (by decide +kernel)
theorem wd_296 : (.methodLink "TimeFlood$Reader" 31 (⟨"TimeFlood$Reader", "takes", "(C)Z"⟩ : MethodName) : Cond) ∈ GW := GW_t (i := 296) (by decide +kernel) (by decide +kernel)
theorem wd_298 : (.instanceMethod (⟨"TimeFlood$Reader", "takes", "(C)Z"⟩ : MethodName) : Cond) ∈ GW := GW_t (i := 298) (by decide +kernel) (by decide +kernel)
theorem wd_299 : (.code (⟨"TimeFlood$Reader", "takes", "(C)Z"⟩ : MethodName) prog_6_method_3_code 3 (Option.some FieldType.boolean) : Cond) ∈ GW := GW_t (i := 299) (by decide +kernel) (by decide +kernel)
theorem wd_300 : (.methodLink "TimeFlood$Reader" 35 (⟨"TimeFlood$Reader", "takesItem", "(C)Z"⟩ : MethodName) : Cond) ∈ GW := GW_t (i := 300) (by decide +kernel) (by decide +kernel)
theorem wd_302 : (.instanceMethod (⟨"TimeFlood$Reader", "takesItem", "(C)Z"⟩ : MethodName) : Cond) ∈ GW := GW_t (i := 302) (by decide +kernel) (by decide +kernel)
theorem wd_303 : (.code (⟨"TimeFlood$Reader", "takesItem", "(C)Z"⟩ : MethodName) prog_6_method_4_code 2 (Option.some FieldType.boolean) : Cond) ∈ GW := GW_t (i := 303) (by decide +kernel) (by decide +kernel)
theorem wd_304 : (.methodLink "TimeFlood$Reader" 48 (⟨"TimeFlood$Plan", "canLinkAny", "()Z"⟩ : MethodName) : Cond) ∈ GW := GW_t (i := 304) (by decide +kernel) (by decide +kernel)
theorem wd_305 : (.instanceMethod (⟨"TimeFlood$Plan", "canLinkAny", "()Z"⟩ : MethodName) : Cond) ∈ GW := GW_t (i := 305) (by decide +kernel) (by decide +kernel)
theorem wd_306 : (.selects "TimeFlood$Plan" (⟨"TimeFlood$Plan", "canLinkAny", "()Z"⟩ : MethodName) (⟨"TimeFlood$Plan", "canLinkAny", "()Z"⟩ : MethodName) : Cond) ∈ GW := GW_t (i := 306) (by decide +kernel) (by decide +kernel)
theorem wd_307 : (.code (⟨"TimeFlood$Plan", "canLinkAny", "()Z"⟩ : MethodName) prog_5_method_8_code 1 (Option.some FieldType.boolean) : Cond) ∈ GW := GW_t (i := 307) (by decide +kernel) (by decide +kernel)
theorem wd_308 : (.methodLink "TimeFlood$Reader" 38 (⟨"TimeFlood$Reader", "takesOfHead", "(I)Z"⟩ : MethodName) : Cond) ∈ GW := GW_t (i := 308) (by decide +kernel) (by decide +kernel)
theorem wd_310 : (.instanceMethod (⟨"TimeFlood$Reader", "takesOfHead", "(I)Z"⟩ : MethodName) : Cond) ∈ GW := GW_t (i := 310) (by decide +kernel) (by decide +kernel)
theorem wd_311 : (.code (⟨"TimeFlood$Reader", "takesOfHead", "(I)Z"⟩ : MethodName) prog_6_method_5_code 2 (Option.some FieldType.boolean) : Cond) ∈ GW := GW_t (i := 311) (by decide +kernel) (by decide +kernel)
theorem wd_312 : (.methodLink "TimeFlood$Reader" 42 (⟨"TimeFlood$Reader", "takesOfItem", "(I)Z"⟩ : MethodName) : Cond) ∈ GW := GW_t (i := 312) (by decide +kernel) (by decide +kernel)
theorem wd_314 : (.instanceMethod (⟨"TimeFlood$Reader", "takesOfItem", "(I)Z"⟩ : MethodName) : Cond) ∈ GW := GW_t (i := 314) (by decide +kernel) (by decide +kernel)
theorem wd_315 : (.code (⟨"TimeFlood$Reader", "takesOfItem", "(I)Z"⟩ : MethodName) prog_6_method_6_code 2 (Option.some FieldType.boolean) : Cond) ∈ GW := GW_t (i := 315) (by decide +kernel) (by decide +kernel)
theorem wd_316 : (.methodLink "TimeFlood$Reader" 61 (⟨"TimeFlood$Plan", "addNode", "(II)V"⟩ : MethodName) : Cond) ∈ GW := GW_t (i := 316) (by decide +kernel) (by decide +kernel)
theorem wd_317 : (.instanceMethod (⟨"TimeFlood$Plan", "addNode", "(II)V"⟩ : MethodName) : Cond) ∈ GW := GW_t (i := 317) (by decide +kernel) (by decide +kernel)
theorem wd_318 : (.selects "TimeFlood$Plan" (⟨"TimeFlood$Plan", "addNode", "(II)V"⟩ : MethodName) (⟨"TimeFlood$Plan", "addNode", "(II)V"⟩ : MethodName) : Cond) ∈ GW := GW_t (i := 318) (by decide +kernel) (by decide +kernel)
theorem wd_319 : (.code (⟨"TimeFlood$Plan", "addNode", "(II)V"⟩ : MethodName) prog_5_method_4_code 3 none : Cond) ∈ GW := GW_t (i := 319) (by decide +kernel) (by decide +kernel)
theorem wd_320 : (.methodLink "TimeFlood$Reader" 65 (⟨"TimeFlood$Plan", "canLinkFrom", "(I)Z"⟩ : MethodName) : Cond) ∈ GW := GW_t (i := 320) (by decide +kernel) (by decide +kernel)
theorem wd_321 : (.instanceMethod (⟨"TimeFlood$Plan", "canLinkFrom", "(I)Z"⟩ : MethodName) : Cond) ∈ GW := GW_t (i := 321) (by decide +kernel) (by decide +kernel)
theorem wd_322 : (.selects "TimeFlood$Plan" (⟨"TimeFlood$Plan", "canLinkFrom", "(I)Z"⟩ : MethodName) (⟨"TimeFlood$Plan", "canLinkFrom", "(I)Z"⟩ : MethodName) : Cond) ∈ GW := GW_t (i := 322) (by decide +kernel) (by decide +kernel)
theorem wd_323 : (.code (⟨"TimeFlood$Plan", "canLinkFrom", "(I)Z"⟩ : MethodName) prog_5_method_7_code 3 (Option.some FieldType.boolean) : Cond) ∈ GW := GW_t (i := 323) (by decide +kernel) (by decide +kernel)
theorem wd_324 : (.methodLink "TimeFlood$Plan" 56 (⟨"TimeFlood$Plan", "canLink", "(II)Z"⟩ : MethodName) : Cond) ∈ GW := GW_t (i := 324) (by decide +kernel) (by decide +kernel)
theorem wd_325 : (.instanceMethod (⟨"TimeFlood$Plan", "canLink", "(II)Z"⟩ : MethodName) : Cond) ∈ GW := GW_t (i := 325) (by decide +kernel) (by decide +kernel)
theorem wd_326 : (.selects "TimeFlood$Plan" (⟨"TimeFlood$Plan", "canLink", "(II)Z"⟩ : MethodName) (⟨"TimeFlood$Plan", "canLink", "(II)Z"⟩ : MethodName) : Cond) ∈ GW := GW_t (i := 326) (by decide +kernel) (by decide +kernel)
theorem wd_327 : (.code (⟨"TimeFlood$Plan", "canLink", "(II)Z"⟩ : MethodName) prog_5_method_6_code 3 (Option.some FieldType.boolean) : Cond) ∈ GW := GW_t (i := 327) (by decide +kernel) (by decide +kernel)
theorem wd_328 : (.methodLink "TimeFlood$Reader" 68 (⟨"TimeFlood$Plan", "addLink", "(II)Z"⟩ : MethodName) : Cond) ∈ GW := GW_t (i := 328) (by decide +kernel) (by decide +kernel)
theorem wd_329 : (.instanceMethod (⟨"TimeFlood$Plan", "addLink", "(II)Z"⟩ : MethodName) : Cond) ∈ GW := GW_t (i := 329) (by decide +kernel) (by decide +kernel)
theorem wd_330 : (.selects "TimeFlood$Plan" (⟨"TimeFlood$Plan", "addLink", "(II)Z"⟩ : MethodName) (⟨"TimeFlood$Plan", "addLink", "(II)Z"⟩ : MethodName) : Cond) ∈ GW := GW_t (i := 330) (by decide +kernel) (by decide +kernel)
theorem wd_331 : (.code (⟨"TimeFlood$Plan", "addLink", "(II)Z"⟩ : MethodName) prog_5_method_5_code 3 (Option.some FieldType.boolean) : Cond) ∈ GW := GW_t (i := 331) (by decide +kernel) (by decide +kernel)
theorem wd_332 : (.methodLink "TimeFlood$Plan" 59 (⟨"java/lang/Math", "min", "(II)I"⟩ : MethodName) : Cond) ∈ GW := GW_t (i := 332) (by decide +kernel) (by decide +kernel)
theorem wd_333 : (.static (⟨"java/lang/Math", "min", "(II)I"⟩ : MethodName) : Cond) ∈ GW := GW_t (i := 333) (by decide +kernel) (by decide +kernel)
theorem wd_334 : (.code (⟨"java/lang/Math", "min", "(II)I"⟩ : MethodName) prog_12_method_69_code 2 (Option.some FieldType.int) : Cond) ∈ GW := GW_t (i := 334) (by decide +kernel) (by decide +kernel)
theorem wd_335 : (.methodLink "TimeFlood$Plan" 65 (⟨"java/lang/Math", "max", "(II)I"⟩ : MethodName) : Cond) ∈ GW := GW_t (i := 335) (by decide +kernel) (by decide +kernel)
theorem wd_336 : (.static (⟨"java/lang/Math", "max", "(II)I"⟩ : MethodName) : Cond) ∈ GW := GW_t (i := 336) (by decide +kernel) (by decide +kernel)
theorem wd_337 : (.code (⟨"java/lang/Math", "max", "(II)I"⟩ : MethodName) prog_12_method_65_code 2 (Option.some FieldType.int) : Cond) ∈ GW := GW_t (i := 337) (by decide +kernel) (by decide +kernel)
theorem wd_338 : (.methodLink "TimeFloodLaw" 27 (⟨"TimeFlood", "net", "()I"⟩ : MethodName) : Cond) ∈ GW := GW_t (i := 338) (by decide +kernel) (by decide +kernel)
theorem wd_339 : (.instanceMethod (⟨"TimeFlood", "net", "()I"⟩ : MethodName) : Cond) ∈ GW := GW_t (i := 339) (by decide +kernel) (by decide +kernel)
theorem wd_340 : (.selects "TimeFlood" (⟨"TimeFlood", "net", "()I"⟩ : MethodName) (⟨"TimeFlood", "net", "()I"⟩ : MethodName) : Cond) ∈ GW := GW_t (i := 340) (by decide +kernel) (by decide +kernel)
theorem wd_341 : (.code (⟨"TimeFlood", "net", "()I"⟩ : MethodName) prog_1_method_5_code 2 (Option.some FieldType.int) : Cond) ∈ GW := GW_t (i := 341) (by decide +kernel) (by decide +kernel)
theorem wd_342 : (.methodLink "TimeFlood" 79 (⟨"TimeFlood$Plan", "copyFrom", "(LTimeFlood$Plan;)V"⟩ : MethodName) : Cond) ∈ GW := GW_t (i := 342) (by decide +kernel) (by decide +kernel)
theorem wd_343 : (.instanceMethod (⟨"TimeFlood$Plan", "copyFrom", "(LTimeFlood$Plan;)V"⟩ : MethodName) : Cond) ∈ GW := GW_t (i := 343) (by decide +kernel) (by decide +kernel)
theorem wd_344 : (.selects "TimeFlood$Plan" (⟨"TimeFlood$Plan", "copyFrom", "(LTimeFlood$Plan;)V"⟩ : MethodName) (⟨"TimeFlood$Plan", "copyFrom", "(LTimeFlood$Plan;)V"⟩ : MethodName) : Cond) ∈ GW := GW_t (i := 344) (by decide +kernel) (by decide +kernel)
theorem wd_345 : (.code (⟨"TimeFlood$Plan", "copyFrom", "(LTimeFlood$Plan;)V"⟩ : MethodName) prog_5_method_3_code 3 none : Cond) ∈ GW := GW_t (i := 345) (by decide +kernel) (by decide +kernel)
theorem wd_346 : (.methodLink "TimeFlood$Plan" 45 (⟨"TimeFlood$Plan", "clear", "()V"⟩ : MethodName) : Cond) ∈ GW := GW_t (i := 346) (by decide +kernel) (by decide +kernel)
theorem wd_347 : (.methodLink "TimeFlood$Plan" 48 (⟨"TimeFlood$Plan", "addNode", "(II)V"⟩ : MethodName) : Cond) ∈ GW := GW_t (i := 347) (by decide +kernel) (by decide +kernel)
theorem wd_348 : (.methodLink "TimeFlood$Plan" 52 (⟨"TimeFlood$Plan", "addLink", "(II)Z"⟩ : MethodName) : Cond) ∈ GW := GW_t (i := 348) (by decide +kernel) (by decide +kernel)
theorem wd_349 : (.methodLink "TimeFlood" 85 (⟨"TimeFlood$State", "begin", "(LTimeFlood$Plan;)V"⟩ : MethodName) : Cond) ∈ GW := GW_t (i := 349) (by decide +kernel) (by decide +kernel)
theorem wd_350 : (.instanceMethod (⟨"TimeFlood$State", "begin", "(LTimeFlood$Plan;)V"⟩ : MethodName) : Cond) ∈ GW := GW_t (i := 350) (by decide +kernel) (by decide +kernel)
theorem wd_351 : (.selects "TimeFlood$State" (⟨"TimeFlood$State", "begin", "(LTimeFlood$Plan;)V"⟩ : MethodName) (⟨"TimeFlood$State", "begin", "(LTimeFlood$Plan;)V"⟩ : MethodName) : Cond) ∈ GW := GW_t (i := 351) (by decide +kernel) (by decide +kernel)
theorem wd_352 : (.code (⟨"TimeFlood$State", "begin", "(LTimeFlood$Plan;)V"⟩ : MethodName) prog_8_method_3_code 3 none : Cond) ∈ GW := GW_t (i := 352) (by decide +kernel) (by decide +kernel)
theorem wd_353 : (.methodLink "TimeFlood$State" 29 (⟨"TimeFlood$Node", "forget", "()V"⟩ : MethodName) : Cond) ∈ GW := GW_t (i := 353) (by decide +kernel) (by decide +kernel)
theorem wd_354 : (.instanceMethod (⟨"TimeFlood$Node", "forget", "()V"⟩ : MethodName) : Cond) ∈ GW := GW_t (i := 354) (by decide +kernel) (by decide +kernel)
theorem wd_355 : (.selects "TimeFlood$Node" (⟨"TimeFlood$Node", "forget", "()V"⟩ : MethodName) (⟨"TimeFlood$Node", "forget", "()V"⟩ : MethodName) : Cond) ∈ GW := GW_t (i := 355) (by decide +kernel) (by decide +kernel)
theorem wd_356 : (.code (⟨"TimeFlood$Node", "forget", "()V"⟩ : MethodName) prog_4_method_3_code 1 none : Cond) ∈ GW := GW_t (i := 356) (by decide +kernel) (by decide +kernel)
theorem wd_357 : (.methodLink "TimeFlood" 88 (⟨"TimeFlood$Journal", "clear", "()V"⟩ : MethodName) : Cond) ∈ GW := GW_t (i := 357) (by decide +kernel) (by decide +kernel)
theorem wd_358 : (.instanceMethod (⟨"TimeFlood$Journal", "clear", "()V"⟩ : MethodName) : Cond) ∈ GW := GW_t (i := 358) (by decide +kernel) (by decide +kernel)
theorem wd_359 : (.selects "TimeFlood$Journal" (⟨"TimeFlood$Journal", "clear", "()V"⟩ : MethodName) (⟨"TimeFlood$Journal", "clear", "()V"⟩ : MethodName) : Cond) ∈ GW := GW_t (i := 359) (by decide +kernel) (by decide +kernel)
theorem wd_360 : (.code (⟨"TimeFlood$Journal", "clear", "()V"⟩ : MethodName) prog_3_method_2_code 1 none : Cond) ∈ GW := GW_t (i := 360) (by decide +kernel) (by decide +kernel)
theorem wd_361 : (.methodLink "TimeFloodLaw" 31 (⟨"TimeFlood", "about", "(I)I"⟩ : MethodName) : Cond) ∈ GW := GW_t (i := 361) (by decide +kernel) (by decide +kernel)
theorem wd_362 : (.instanceMethod (⟨"TimeFlood", "about", "(I)I"⟩ : MethodName) : Cond) ∈ GW := GW_t (i := 362) (by decide +kernel) (by decide +kernel)
theorem wd_363 : (.selects "TimeFlood" (⟨"TimeFlood", "about", "(I)I"⟩ : MethodName) (⟨"TimeFlood", "about", "(I)I"⟩ : MethodName) : Cond) ∈ GW := GW_t (i := 363) (by decide +kernel) (by decide +kernel)
theorem wd_364 : (.code (⟨"TimeFlood", "about", "(I)I"⟩ : MethodName) prog_1_method_6_code 2 (Option.some FieldType.int) : Cond) ∈ GW := GW_t (i := 364) (by decide +kernel) (by decide +kernel)
theorem wd_365 : (.methodLink "TimeFlood" 109 (⟨"TimeFlood$State", "onSet", "()I"⟩ : MethodName) : Cond) ∈ GW := GW_t (i := 365) (by decide +kernel) (by decide +kernel)
theorem wd_366 : (.instanceMethod (⟨"TimeFlood$State", "onSet", "()I"⟩ : MethodName) : Cond) ∈ GW := GW_t (i := 366) (by decide +kernel) (by decide +kernel)
theorem wd_367 : (.selects "TimeFlood$State" (⟨"TimeFlood$State", "onSet", "()I"⟩ : MethodName) (⟨"TimeFlood$State", "onSet", "()I"⟩ : MethodName) : Cond) ∈ GW := GW_t (i := 367) (by decide +kernel) (by decide +kernel)
theorem wd_368 : (.code (⟨"TimeFlood$State", "onSet", "()I"⟩ : MethodName) prog_8_method_8_code 3 (Option.some FieldType.int) : Cond) ∈ GW := GW_t (i := 368) (by decide +kernel) (by decide +kernel)
theorem wd_369 : (.methodLink "TimeFlood" 113 (⟨"TimeFlood$State", "ownRootSet", "()I"⟩ : MethodName) : Cond) ∈ GW := GW_t (i := 369) (by decide +kernel) (by decide +kernel)
theorem wd_370 : (.instanceMethod (⟨"TimeFlood$State", "ownRootSet", "()I"⟩ : MethodName) : Cond) ∈ GW := GW_t (i := 370) (by decide +kernel) (by decide +kernel)
theorem wd_371 : (.selects "TimeFlood$State" (⟨"TimeFlood$State", "ownRootSet", "()I"⟩ : MethodName) (⟨"TimeFlood$State", "ownRootSet", "()I"⟩ : MethodName) : Cond) ∈ GW := GW_t (i := 371) (by decide +kernel) (by decide +kernel)
theorem wd_372 : (.code (⟨"TimeFlood$State", "ownRootSet", "()I"⟩ : MethodName) prog_8_method_9_code 3 (Option.some FieldType.int) : Cond) ∈ GW := GW_t (i := 372) (by decide +kernel) (by decide +kernel)
theorem wd_373 : (.methodLink "TimeFlood$State" 51 (⟨"TimeFlood$State", "shownRoot", "(I)I"⟩ : MethodName) : Cond) ∈ GW := GW_t (i := 373) (by decide +kernel) (by decide +kernel)
theorem wd_374 : (.instanceMethod (⟨"TimeFlood$State", "shownRoot", "(I)I"⟩ : MethodName) : Cond) ∈ GW := GW_t (i := 374) (by decide +kernel) (by decide +kernel)
theorem wd_375 : (.selects "TimeFlood$State" (⟨"TimeFlood$State", "shownRoot", "(I)I"⟩ : MethodName) (⟨"TimeFlood$State", "shownRoot", "(I)I"⟩ : MethodName) : Cond) ∈ GW := GW_t (i := 375) (by decide +kernel) (by decide +kernel)
theorem wd_376 : (.code (⟨"TimeFlood$State", "shownRoot", "(I)I"⟩ : MethodName) prog_8_method_7_code 2 (Option.some FieldType.int) : Cond) ∈ GW := GW_t (i := 376) (by decide +kernel) (by decide +kernel)
theorem wd_377 : (.methodLink "TimeFlood" 116 (⟨"TimeFlood$Flood", "inTimeSet", "(LTimeFlood$State;)I"⟩ : MethodName) : Cond) ∈ GW := GW_t (i := 377) (by decide +kernel) (by decide +kernel)
theorem wd_378 : (.instanceMethod (⟨"TimeFlood$Flood", "inTimeSet", "(LTimeFlood$State;)I"⟩ : MethodName) : Cond) ∈ GW := GW_t (i := 378) (by decide +kernel) (by decide +kernel)
theorem wd_379 : (.selects "TimeFlood$Flood" (⟨"TimeFlood$Flood", "inTimeSet", "(LTimeFlood$State;)I"⟩ : MethodName) (⟨"TimeFlood$Flood", "inTimeSet", "(LTimeFlood$State;)I"⟩ : MethodName) : Cond) ∈ GW := GW_t (i := 379) (by decide +kernel) (by decide +kernel)
theorem wd_380 : (.code (⟨"TimeFlood$Flood", "inTimeSet", "(LTimeFlood$State;)I"⟩ : MethodName) prog_2_method_9_code 4 (Option.some FieldType.int) : Cond) ∈ GW := GW_t (i := 380) (by decide +kernel) (by decide +kernel)
theorem wd_381 : (.methodLink "TimeFlood$Flood" 137 (⟨"TimeFlood$Flood", "isInTime", "(LTimeFlood$State;I)Z"⟩ : MethodName) : Cond) ∈ GW := GW_t (i := 381) (by decide +kernel) (by decide +kernel)
theorem wd_382 : (.instanceMethod (⟨"TimeFlood$Flood", "isInTime", "(LTimeFlood$State;I)Z"⟩ : MethodName) : Cond) ∈ GW := GW_t (i := 382) (by decide +kernel) (by decide +kernel)
theorem wd_383 : (.selects "TimeFlood$Flood" (⟨"TimeFlood$Flood", "isInTime", "(LTimeFlood$State;I)Z"⟩ : MethodName) (⟨"TimeFlood$Flood", "isInTime", "(LTimeFlood$State;I)Z"⟩ : MethodName) : Cond) ∈ GW := GW_t (i := 383) (by decide +kernel) (by decide +kernel)
theorem wd_384 : (.code (⟨"TimeFlood$Flood", "isInTime", "(LTimeFlood$State;I)Z"⟩ : MethodName) prog_2_method_8_code 4 (Option.some FieldType.boolean) : Cond) ∈ GW := GW_t (i := 384) (by decide +kernel) (by decide +kernel)
theorem wd_385 : (.methodLink "TimeFlood$Flood" 134 (⟨"TimeFlood$Flood", "shiftedMiss", "(LTimeFlood$State;I)I"⟩ : MethodName) : Cond) ∈ GW := GW_t (i := 385) (by decide +kernel) (by decide +kernel)
theorem wd_386 : (.instanceMethod (⟨"TimeFlood$Flood", "shiftedMiss", "(LTimeFlood$State;I)I"⟩ : MethodName) : Cond) ∈ GW := GW_t (i := 386) (by decide +kernel) (by decide +kernel)
theorem wd_387 : (.selects "TimeFlood$Flood" (⟨"TimeFlood$Flood", "shiftedMiss", "(LTimeFlood$State;I)I"⟩ : MethodName) (⟨"TimeFlood$Flood", "shiftedMiss", "(LTimeFlood$State;I)I"⟩ : MethodName) : Cond) ∈ GW := GW_t (i := 387) (by decide +kernel) (by decide +kernel)
theorem wd_388 : (.code (⟨"TimeFlood$Flood", "shiftedMiss", "(LTimeFlood$State;I)I"⟩ : MethodName) prog_2_method_7_code 5 (Option.some FieldType.int) : Cond) ∈ GW := GW_t (i := 388) (by decide +kernel) (by decide +kernel)
theorem wd_389 : (.methodLink "TimeFlood$Flood" 127 (⟨"TimeFlood$State", "shownRoot", "(I)I"⟩ : MethodName) : Cond) ∈ GW := GW_t (i := 389) (by decide +kernel) (by decide +kernel)
theorem wd_390 : (.methodLink "TimeFlood$Flood" 75 (⟨"TimeFlood$Flood", "clock", "(LTimeFlood$State;I)I"⟩ : MethodName) : Cond) ∈ GW := GW_t (i := 390) (by decide +kernel) (by decide +kernel)
theorem wd_391 : (.instanceMethod (⟨"TimeFlood$Flood", "clock", "(LTimeFlood$State;I)I"⟩ : MethodName) : Cond) ∈ GW := GW_t (i := 391) (by decide +kernel) (by decide +kernel)
theorem wd_392 : (.selects "TimeFlood$Flood" (⟨"TimeFlood$Flood", "clock", "(LTimeFlood$State;I)I"⟩ : MethodName) (⟨"TimeFlood$Flood", "clock", "(LTimeFlood$State;I)I"⟩ : MethodName) : Cond) ∈ GW := GW_t (i := 392) (by decide +kernel) (by decide +kernel)
theorem wd_393 : (.code (⟨"TimeFlood$Flood", "clock", "(LTimeFlood$State;I)I"⟩ : MethodName) prog_2_method_6_code 4 (Option.some FieldType.int) : Cond) ∈ GW := GW_t (i := 393) (by decide +kernel) (by decide +kernel)
theorem wd_394 : (.methodLink "TimeFlood$Flood" 116 (⟨"java/lang/Math", "floorDiv", "(II)I"⟩ : MethodName) : Cond) ∈ GW := GW_t (i := 394) (by decide +kernel) (by decide +kernel)
theorem wd_395 : (.static (⟨"java/lang/Math", "floorDiv", "(II)I"⟩ : MethodName) : Cond) ∈ GW := GW_t (i := 395) (by decide +kernel) (by decide +kernel)
theorem wd_396 : (.code (⟨"java/lang/Math", "floorDiv", "(II)I"⟩ : MethodName) prog_12_method_47_code 3 (Option.some FieldType.int) : Cond) ∈ GW := GW_t (i := 396) (by decide +kernel) (by decide +kernel)
theorem wd_397 : (.methodLink "TimeFlood$Flood" 124 (⟨"java/lang/Math", "floorMod", "(II)I"⟩ : MethodName) : Cond) ∈ GW := GW_t (i := 397) (by decide +kernel) (by decide +kernel)
theorem wd_398 : (.static (⟨"java/lang/Math", "floorMod", "(II)I"⟩ : MethodName) : Cond) ∈ GW := GW_t (i := 398) (by decide +kernel) (by decide +kernel)
theorem wd_399 : (.code (⟨"java/lang/Math", "floorMod", "(II)I"⟩ : MethodName) prog_12_method_50_code 3 (Option.some FieldType.int) : Cond) ∈ GW := GW_t (i := 399) (by decide +kernel) (by decide +kernel)
theorem wd_400 : (.methodLink "TimeFlood$Flood" 79 (⟨"TimeFlood$Node", "estimate", "(II)I"⟩ : MethodName) : Cond) ∈ GW := GW_t (i := 400) (by decide +kernel) (by decide +kernel)
theorem wd_401 : (.instanceMethod (⟨"TimeFlood$Node", "estimate", "(II)I"⟩ : MethodName) : Cond) ∈ GW := GW_t (i := 401) (by decide +kernel) (by decide +kernel)
theorem wd_402 : (.selects "TimeFlood$Node" (⟨"TimeFlood$Node", "estimate", "(II)I"⟩ : MethodName) (⟨"TimeFlood$Node", "estimate", "(II)I"⟩ : MethodName) : Cond) ∈ GW := GW_t (i := 402) (by decide +kernel) (by decide +kernel)
theorem wd_403 : (.code (⟨"TimeFlood$Node", "estimate", "(II)I"⟩ : MethodName) prog_4_method_12_code 20 (Option.some FieldType.int) : Cond) ∈ GW := GW_t (i := 403) (by decide +kernel) (by decide +kernel)
theorem wd_404 : (.methodLink "TimeFlood$Node" 67 (⟨"java/lang/Math", "min", "(II)I"⟩ : MethodName) : Cond) ∈ GW := GW_t (i := 404) (by decide +kernel) (by decide +kernel)
theorem wd_406 : (.static (⟨"TimeFlood", "near", "(I)I"⟩ : MethodName) : Cond) ∈ GW := GW_t (i := 406) (by decide +kernel) (by decide +kernel)
theorem wd_407 : (.code (⟨"TimeFlood", "near", "(I)I"⟩ : MethodName) prog_1_method_37_code 2 (Option.some FieldType.int) : Cond) ∈ GW := GW_t (i := 407) (by decide +kernel) (by decide +kernel)
theorem wd_408 : (.methodLink "TimeFlood" 277 (⟨"java/lang/Math", "floorMod", "(II)I"⟩ : MethodName) : Cond) ∈ GW := GW_t (i := 408) (by decide +kernel) (by decide +kernel)
theorem wd_409 : (.methodLink "TimeFlood$Node" 74 (⟨"java/lang/Math", "floorDiv", "(JJ)J"⟩ : MethodName) : Cond) ∈ GW := GW_t (i := 409) (by decide +kernel) (by decide +kernel)
theorem wd_410 : (.static (⟨"java/lang/Math", "floorDiv", "(JJ)J"⟩ : MethodName) : Cond) ∈ GW := GW_t (i := 410) (by decide +kernel) (by decide +kernel)
theorem wd_411 : (.code (⟨"java/lang/Math", "floorDiv", "(JJ)J"⟩ : MethodName) prog_12_method_49_code 6 (Option.some FieldType.long) : Cond) ∈ GW := GW_t (i := 411) (by decide +kernel) (by decide +kernel)
theorem wd_412 : (.constantLong "TimeFlood$Node" 78 (1024 : Int64) : Cond) ∈ GW := GW_t (i := 412) (by decide +kernel) (by decide +kernel)
theorem wd_413 : (.methodLink "TimeFlood$Node" 80 (⟨"java/lang/Math", "floorMod", "(JJ)J"⟩ : MethodName) : Cond) ∈ GW := GW_t (i := 413) (by decide +kernel) (by decide +kernel)
theorem wd_414 : (.static (⟨"java/lang/Math", "floorMod", "(JJ)J"⟩ : MethodName) : Cond) ∈ GW := GW_t (i := 414) (by decide +kernel) (by decide +kernel)
theorem wd_415 : (.code (⟨"java/lang/Math", "floorMod", "(JJ)J"⟩ : MethodName) prog_12_method_52_code 6 (Option.some FieldType.long) : Cond) ∈ GW := GW_t (i := 415) (by decide +kernel) (by decide +kernel)
theorem wd_417 : (.methodLink "TimeFlood" 123 (⟨"TimeFlood$State", "isUnited", "()Z"⟩ : MethodName) : Cond) ∈ GW := GW_t (i := 417) (by decide +kernel) (by decide +kernel)
theorem wd_418 : (.instanceMethod (⟨"TimeFlood$State", "isUnited", "()Z"⟩ : MethodName) : Cond) ∈ GW := GW_t (i := 418) (by decide +kernel) (by decide +kernel)
theorem wd_419 : (.selects "TimeFlood$State" (⟨"TimeFlood$State", "isUnited", "()Z"⟩ : MethodName) (⟨"TimeFlood$State", "isUnited", "()Z"⟩ : MethodName) : Cond) ∈ GW := GW_t (i := 419) (by decide +kernel) (by decide +kernel)
theorem wd_420 : (.code (⟨"TimeFlood$State", "isUnited", "()Z"⟩ : MethodName) prog_8_method_10_code 4 (Option.some FieldType.boolean) : Cond) ∈ GW := GW_t (i := 420) (by decide +kernel) (by decide +kernel)
theorem wd_421 : (.methodLink "TimeFloodLaw" 35 (⟨"TimeFlood", "node", "(II)I"⟩ : MethodName) : Cond) ∈ GW := GW_t (i := 421) (by decide +kernel) (by decide +kernel)
theorem wd_422 : (.instanceMethod (⟨"TimeFlood", "node", "(II)I"⟩ : MethodName) : Cond) ∈ GW := GW_t (i := 422) (by decide +kernel) (by decide +kernel)
theorem wd_423 : (.selects "TimeFlood" (⟨"TimeFlood", "node", "(II)I"⟩ : MethodName) (⟨"TimeFlood", "node", "(II)I"⟩ : MethodName) : Cond) ∈ GW := GW_t (i := 423) (by decide +kernel) (by decide +kernel)
theorem wd_424 : (.code (⟨"TimeFlood", "node", "(II)I"⟩ : MethodName) prog_1_method_7_code 3 (Option.some FieldType.int) : Cond) ∈ GW := GW_t (i := 424) (by decide +kernel) (by decide +kernel)
theorem wd_425 : (.methodLink "TimeFlood" 131 (⟨"TimeFlood", "hasNode", "(I)Z"⟩ : MethodName) : Cond) ∈ GW := GW_t (i := 425) (by decide +kernel) (by decide +kernel)
theorem wd_427 : (.instanceMethod (⟨"TimeFlood", "hasNode", "(I)Z"⟩ : MethodName) : Cond) ∈ GW := GW_t (i := 427) (by decide +kernel) (by decide +kernel)
theorem wd_428 : (.code (⟨"TimeFlood", "hasNode", "(I)Z"⟩ : MethodName) prog_1_method_27_code 2 (Option.some FieldType.boolean) : Cond) ∈ GW := GW_t (i := 428) (by decide +kernel) (by decide +kernel)
theorem wd_429 : (.methodLink "TimeFlood" 135 (⟨"TimeFlood$Flood", "property", "(LTimeFlood$State;II)I"⟩ : MethodName) : Cond) ∈ GW := GW_t (i := 429) (by decide +kernel) (by decide +kernel)
theorem wd_430 : (.instanceMethod (⟨"TimeFlood$Flood", "property", "(LTimeFlood$State;II)I"⟩ : MethodName) : Cond) ∈ GW := GW_t (i := 430) (by decide +kernel) (by decide +kernel)
theorem wd_431 : (.selects "TimeFlood$Flood" (⟨"TimeFlood$Flood", "property", "(LTimeFlood$State;II)I"⟩ : MethodName) (⟨"TimeFlood$Flood", "property", "(LTimeFlood$State;II)I"⟩ : MethodName) : Cond) ∈ GW := GW_t (i := 431) (by decide +kernel) (by decide +kernel)
theorem wd_432 : (.code (⟨"TimeFlood$Flood", "property", "(LTimeFlood$State;II)I"⟩ : MethodName) prog_2_method_11_code 5 (Option.some FieldType.int) : Cond) ∈ GW := GW_t (i := 432) (by decide +kernel) (by decide +kernel)
theorem wd_433 : (.methodLink "TimeFloodLaw" 40 (⟨"TimeFlood", "stamp", "(III)I"⟩ : MethodName) : Cond) ∈ GW := GW_t (i := 433) (by decide +kernel) (by decide +kernel)
theorem wd_434 : (.instanceMethod (⟨"TimeFlood", "stamp", "(III)I"⟩ : MethodName) : Cond) ∈ GW := GW_t (i := 434) (by decide +kernel) (by decide +kernel)
theorem wd_435 : (.selects "TimeFlood" (⟨"TimeFlood", "stamp", "(III)I"⟩ : MethodName) (⟨"TimeFlood", "stamp", "(III)I"⟩ : MethodName) : Cond) ∈ GW := GW_t (i := 435) (by decide +kernel) (by decide +kernel)
theorem wd_436 : (.code (⟨"TimeFlood", "stamp", "(III)I"⟩ : MethodName) prog_1_method_8_code 4 (Option.some FieldType.int) : Cond) ∈ GW := GW_t (i := 436) (by decide +kernel) (by decide +kernel)
theorem wd_437 : (.methodLink "TimeFlood" 149 (⟨"TimeFlood$Node", "stampPart", "(II)I"⟩ : MethodName) : Cond) ∈ GW := GW_t (i := 437) (by decide +kernel) (by decide +kernel)
theorem wd_438 : (.instanceMethod (⟨"TimeFlood$Node", "stampPart", "(II)I"⟩ : MethodName) : Cond) ∈ GW := GW_t (i := 438) (by decide +kernel) (by decide +kernel)
theorem wd_439 : (.selects "TimeFlood$Node" (⟨"TimeFlood$Node", "stampPart", "(II)I"⟩ : MethodName) (⟨"TimeFlood$Node", "stampPart", "(II)I"⟩ : MethodName) : Cond) ∈ GW := GW_t (i := 439) (by decide +kernel) (by decide +kernel)
theorem wd_440 : (.code (⟨"TimeFlood$Node", "stampPart", "(II)I"⟩ : MethodName) prog_4_method_5_code 3 (Option.some FieldType.int) : Cond) ∈ GW := GW_t (i := 440) (by decide +kernel) (by decide +kernel)
theorem wd_441 : (.methodLink "TimeFloodLaw" 45 (⟨"TimeFlood", "link", "(II)I"⟩ : MethodName) : Cond) ∈ GW := GW_t (i := 441) (by decide +kernel) (by decide +kernel)
theorem wd_442 : (.instanceMethod (⟨"TimeFlood", "link", "(II)I"⟩ : MethodName) : Cond) ∈ GW := GW_t (i := 442) (by decide +kernel) (by decide +kernel)
theorem wd_443 : (.selects "TimeFlood" (⟨"TimeFlood", "link", "(II)I"⟩ : MethodName) (⟨"TimeFlood", "link", "(II)I"⟩ : MethodName) : Cond) ∈ GW := GW_t (i := 443) (by decide +kernel) (by decide +kernel)
theorem wd_444 : (.code (⟨"TimeFlood", "link", "(II)I"⟩ : MethodName) prog_1_method_9_code 3 (Option.some FieldType.int) : Cond) ∈ GW := GW_t (i := 444) (by decide +kernel) (by decide +kernel)
theorem wd_445 : (.methodLink "TimeFlood" 153 (⟨"TimeFlood", "hasLink", "(I)Z"⟩ : MethodName) : Cond) ∈ GW := GW_t (i := 445) (by decide +kernel) (by decide +kernel)
theorem wd_447 : (.instanceMethod (⟨"TimeFlood", "hasLink", "(I)Z"⟩ : MethodName) : Cond) ∈ GW := GW_t (i := 447) (by decide +kernel) (by decide +kernel)
theorem wd_448 : (.code (⟨"TimeFlood", "hasLink", "(I)Z"⟩ : MethodName) prog_1_method_28_code 2 (Option.some FieldType.boolean) : Cond) ∈ GW := GW_t (i := 448) (by decide +kernel) (by decide +kernel)
theorem wd_449 : (.methodLink "TimeFlood" 163 (⟨"TimeFlood$State", "isDown", "(I)Z"⟩ : MethodName) : Cond) ∈ GW := GW_t (i := 449) (by decide +kernel) (by decide +kernel)
theorem wd_450 : (.instanceMethod (⟨"TimeFlood$State", "isDown", "(I)Z"⟩ : MethodName) : Cond) ∈ GW := GW_t (i := 450) (by decide +kernel) (by decide +kernel)
theorem wd_451 : (.selects "TimeFlood$State" (⟨"TimeFlood$State", "isDown", "(I)Z"⟩ : MethodName) (⟨"TimeFlood$State", "isDown", "(I)Z"⟩ : MethodName) : Cond) ∈ GW := GW_t (i := 451) (by decide +kernel) (by decide +kernel)
theorem wd_452 : (.code (⟨"TimeFlood$State", "isDown", "(I)Z"⟩ : MethodName) prog_8_method_4_code 2 (Option.some FieldType.boolean) : Cond) ∈ GW := GW_t (i := 452) (by decide +kernel) (by decide +kernel)
theorem wd_453 : (.methodLink "TimeFloodLaw" 49 (⟨"TimeFlood", "period", "(I)I"⟩ : MethodName) : Cond) ∈ GW := GW_t (i := 453) (by decide +kernel) (by decide +kernel)
theorem wd_454 : (.instanceMethod (⟨"TimeFlood", "period", "(I)I"⟩ : MethodName) : Cond) ∈ GW := GW_t (i := 454) (by decide +kernel) (by decide +kernel)
theorem wd_455 : (.selects "TimeFlood" (⟨"TimeFlood", "period", "(I)I"⟩ : MethodName) (⟨"TimeFlood", "period", "(I)I"⟩ : MethodName) : Cond) ∈ GW := GW_t (i := 455) (by decide +kernel) (by decide +kernel)
theorem wd_456 : (.code (⟨"TimeFlood", "period", "(I)I"⟩ : MethodName) prog_1_method_10_code 2 (Option.some FieldType.int) : Cond) ∈ GW := GW_t (i := 456) (by decide +kernel) (by decide +kernel)
theorem wd_457 : (.methodLink "TimeFlood" 166 (⟨"TimeFlood$Journal", "push", "(LTimeFlood$State;)V"⟩ : MethodName) : Cond) ∈ GW := GW_t (i := 457) (by decide +kernel) (by decide +kernel)
theorem wd_458 : (.instanceMethod (⟨"TimeFlood$Journal", "push", "(LTimeFlood$State;)V"⟩ : MethodName) : Cond) ∈ GW := GW_t (i := 458) (by decide +kernel) (by decide +kernel)
theorem wd_459 : (.selects "TimeFlood$Journal" (⟨"TimeFlood$Journal", "push", "(LTimeFlood$State;)V"⟩ : MethodName) (⟨"TimeFlood$Journal", "push", "(LTimeFlood$State;)V"⟩ : MethodName) : Cond) ∈ GW := GW_t (i := 459) (by decide +kernel) (by decide +kernel)
theorem wd_460 : (.code (⟨"TimeFlood$Journal", "push", "(LTimeFlood$State;)V"⟩ : MethodName) prog_3_method_3_code 2 none : Cond) ∈ GW := GW_t (i := 460) (by decide +kernel) (by decide +kernel)
theorem wd_461 : (.methodLink "TimeFlood$Journal" 25 (⟨"TimeFlood$State", "copyFrom", "(LTimeFlood$State;)V"⟩ : MethodName) : Cond) ∈ GW := GW_t (i := 461) (by decide +kernel) (by decide +kernel)
theorem wd_462 : (.instanceMethod (⟨"TimeFlood$State", "copyFrom", "(LTimeFlood$State;)V"⟩ : MethodName) : Cond) ∈ GW := GW_t (i := 462) (by decide +kernel) (by decide +kernel)
theorem wd_463 : (.selects "TimeFlood$State" (⟨"TimeFlood$State", "copyFrom", "(LTimeFlood$State;)V"⟩ : MethodName) (⟨"TimeFlood$State", "copyFrom", "(LTimeFlood$State;)V"⟩ : MethodName) : Cond) ∈ GW := GW_t (i := 463) (by decide +kernel) (by decide +kernel)
theorem wd_464 : (.code (⟨"TimeFlood$State", "copyFrom", "(LTimeFlood$State;)V"⟩ : MethodName) prog_8_method_2_code 3 none : Cond) ∈ GW := GW_t (i := 464) (by decide +kernel) (by decide +kernel)
theorem wd_465 : (.methodLink "TimeFlood$State" 25 (⟨"TimeFlood$Node", "copyFrom", "(LTimeFlood$Node;)V"⟩ : MethodName) : Cond) ∈ GW := GW_t (i := 465) (by decide +kernel) (by decide +kernel)
theorem wd_466 : (.instanceMethod (⟨"TimeFlood$Node", "copyFrom", "(LTimeFlood$Node;)V"⟩ : MethodName) : Cond) ∈ GW := GW_t (i := 466) (by decide +kernel) (by decide +kernel)
theorem wd_467 : (.selects "TimeFlood$Node" (⟨"TimeFlood$Node", "copyFrom", "(LTimeFlood$Node;)V"⟩ : MethodName) (⟨"TimeFlood$Node", "copyFrom", "(LTimeFlood$Node;)V"⟩ : MethodName) : Cond) ∈ GW := GW_t (i := 467) (by decide +kernel) (by decide +kernel)
theorem wd_468 : (.code (⟨"TimeFlood$Node", "copyFrom", "(LTimeFlood$Node;)V"⟩ : MethodName) prog_4_method_2_code 2 none : Cond) ∈ GW := GW_t (i := 468) (by decide +kernel) (by decide +kernel)
theorem wd_469 : (.methodLink "TimeFlood$Node" 44 (⟨"java/lang/System", "arraycopy", "(Ljava/lang/Object;ILjava/lang/Object;II)V"⟩ : MethodName) : Cond) ∈ GW := GW_t (i := 469) (by decide +kernel) (by decide +kernel)
theorem wd_470 : (.static (⟨"java/lang/System", "arraycopy", "(Ljava/lang/Object;ILjava/lang/Object;II)V"⟩ : MethodName) : Cond) ∈ GW := GW_t (i := 470) (by decide +kernel) (by decide +kernel)
theorem wd_471 : (.native (⟨"java/lang/System", "arraycopy", "(Ljava/lang/Object;ILjava/lang/Object;II)V"⟩ : MethodName) : Cond) ∈ GW := GW_t (i := 471) (by decide +kernel) (by decide +kernel)
theorem wd_472 : (.methodLink "TimeFlood$Journal" 29 (⟨"java/lang/Math", "min", "(II)I"⟩ : MethodName) : Cond) ∈ GW := GW_t (i := 472) (by decide +kernel) (by decide +kernel)
theorem wd_473 : (.methodLink "TimeFlood" 170 (⟨"TimeFlood$Flood", "passMany", "(LTimeFlood$State;I)V"⟩ : MethodName) : Cond) ∈ GW := GW_t (i := 473) (by decide +kernel) (by decide +kernel)
theorem wd_474 : (.instanceMethod (⟨"TimeFlood$Flood", "passMany", "(LTimeFlood$State;I)V"⟩ : MethodName) : Cond) ∈ GW := GW_t (i := 474) (by decide +kernel) (by decide +kernel)
theorem wd_475 : (.selects "TimeFlood$Flood" (⟨"TimeFlood$Flood", "passMany", "(LTimeFlood$State;I)V"⟩ : MethodName) (⟨"TimeFlood$Flood", "passMany", "(LTimeFlood$State;I)V"⟩ : MethodName) : Cond) ∈ GW := GW_t (i := 475) (by decide +kernel) (by decide +kernel)
theorem wd_476 : (.code (⟨"TimeFlood$Flood", "passMany", "(LTimeFlood$State;I)V"⟩ : MethodName) prog_2_method_2_code 4 none : Cond) ∈ GW := GW_t (i := 476) (by decide +kernel) (by decide +kernel)
theorem wd_477 : (.methodLink "TimeFlood$Flood" 32 (⟨"TimeFlood$Flood", "pass", "(LTimeFlood$State;)V"⟩ : MethodName) : Cond) ∈ GW := GW_t (i := 477) (by decide +kernel) (by decide +kernel)
theorem wd_478 : (.instanceMethod (⟨"TimeFlood$Flood", "pass", "(LTimeFlood$State;)V"⟩ : MethodName) : Cond) ∈ GW := GW_t (i := 478) (by decide +kernel) (by decide +kernel)
theorem wd_479 : (.selects "TimeFlood$Flood" (⟨"TimeFlood$Flood", "pass", "(LTimeFlood$State;)V"⟩ : MethodName) (⟨"TimeFlood$Flood", "pass", "(LTimeFlood$State;)V"⟩ : MethodName) : Cond) ∈ GW := GW_t (i := 479) (by decide +kernel) (by decide +kernel)
theorem wd_480 : (.code (⟨"TimeFlood$Flood", "pass", "(LTimeFlood$State;)V"⟩ : MethodName) prog_2_method_3_code 4 none : Cond) ∈ GW := GW_t (i := 480) (by decide +kernel) (by decide +kernel)
theorem wd_481 : (.methodLink "TimeFlood$Flood" 58 (⟨"TimeFlood$Node", "grow", "()V"⟩ : MethodName) : Cond) ∈ GW := GW_t (i := 481) (by decide +kernel) (by decide +kernel)
theorem wd_482 : (.instanceMethod (⟨"TimeFlood$Node", "grow", "()V"⟩ : MethodName) : Cond) ∈ GW := GW_t (i := 482) (by decide +kernel) (by decide +kernel)
theorem wd_483 : (.selects "TimeFlood$Node" (⟨"TimeFlood$Node", "grow", "()V"⟩ : MethodName) (⟨"TimeFlood$Node", "grow", "()V"⟩ : MethodName) : Cond) ∈ GW := GW_t (i := 483) (by decide +kernel) (by decide +kernel)
theorem wd_484 : (.code (⟨"TimeFlood$Node", "grow", "()V"⟩ : MethodName) prog_4_method_6_code 3 none : Cond) ∈ GW := GW_t (i := 484) (by decide +kernel) (by decide +kernel)
theorem wd_485 : (.methodLink "TimeFlood$Flood" 61 (⟨"TimeFlood$Node", "lead", "(ILTimeFlood$Plan;)V"⟩ : MethodName) : Cond) ∈ GW := GW_t (i := 485) (by decide +kernel) (by decide +kernel)
theorem wd_486 : (.instanceMethod (⟨"TimeFlood$Node", "lead", "(ILTimeFlood$Plan;)V"⟩ : MethodName) : Cond) ∈ GW := GW_t (i := 486) (by decide +kernel) (by decide +kernel)
theorem wd_487 : (.selects "TimeFlood$Node" (⟨"TimeFlood$Node", "lead", "(ILTimeFlood$Plan;)V"⟩ : MethodName) (⟨"TimeFlood$Node", "lead", "(ILTimeFlood$Plan;)V"⟩ : MethodName) : Cond) ∈ GW := GW_t (i := 487) (by decide +kernel) (by decide +kernel)
theorem wd_488 : (.code (⟨"TimeFlood$Node", "lead", "(ILTimeFlood$Plan;)V"⟩ : MethodName) prog_4_method_7_code 4 none : Cond) ∈ GW := GW_t (i := 488) (by decide +kernel) (by decide +kernel)
theorem wd_489 : (.methodLink "TimeFlood$Flood" 65 (⟨"TimeFlood$Node", "sends", "(I)Z"⟩ : MethodName) : Cond) ∈ GW := GW_t (i := 489) (by decide +kernel) (by decide +kernel)
theorem wd_490 : (.instanceMethod (⟨"TimeFlood$Node", "sends", "(I)Z"⟩ : MethodName) : Cond) ∈ GW := GW_t (i := 490) (by decide +kernel) (by decide +kernel)
theorem wd_491 : (.selects "TimeFlood$Node" (⟨"TimeFlood$Node", "sends", "(I)Z"⟩ : MethodName) (⟨"TimeFlood$Node", "sends", "(I)Z"⟩ : MethodName) : Cond) ∈ GW := GW_t (i := 491) (by decide +kernel) (by decide +kernel)
theorem wd_492 : (.code (⟨"TimeFlood$Node", "sends", "(I)Z"⟩ : MethodName) prog_4_method_8_code 2 (Option.some FieldType.boolean) : Cond) ∈ GW := GW_t (i := 492) (by decide +kernel) (by decide +kernel)
theorem wd_493 : (.methodLink "TimeFlood$Flood" 83 (⟨"TimeFlood$Flood", "receive", "(LTimeFlood$State;I)V"⟩ : MethodName) : Cond) ∈ GW := GW_t (i := 493) (by decide +kernel) (by decide +kernel)
theorem wd_495 : (.instanceMethod (⟨"TimeFlood$Flood", "receive", "(LTimeFlood$State;I)V"⟩ : MethodName) : Cond) ∈ GW := GW_t (i := 495) (by decide +kernel) (by decide +kernel)
theorem wd_496 : (.code (⟨"TimeFlood$Flood", "receive", "(LTimeFlood$State;I)V"⟩ : MethodName) prog_2_method_4_code 5 none : Cond) ∈ GW := GW_t (i := 496) (by decide +kernel) (by decide +kernel)
theorem wd_497 : (.methodLink "TimeFlood$Flood" 91 (⟨"TimeFlood$State", "isDown", "(I)Z"⟩ : MethodName) : Cond) ∈ GW := GW_t (i := 497) (by decide +kernel) (by decide +kernel)
theorem wd_498 : (.methodLink "TimeFlood$Flood" 94 (⟨"TimeFlood$Flood", "hear", "(LTimeFlood$State;II)V"⟩ : MethodName) : Cond) ∈ GW := GW_t (i := 498) (by decide +kernel) (by decide +kernel)
theorem wd_500 : (.instanceMethod (⟨"TimeFlood$Flood", "hear", "(LTimeFlood$State;II)V"⟩ : MethodName) : Cond) ∈ GW := GW_t (i := 500) (by decide +kernel) (by decide +kernel)
theorem wd_501 : (.code (⟨"TimeFlood$Flood", "hear", "(LTimeFlood$State;II)V"⟩ : MethodName) prog_2_method_5_code 5 none : Cond) ∈ GW := GW_t (i := 501) (by decide +kernel) (by decide +kernel)
theorem wd_502 : (.methodLink "TimeFlood$Flood" 98 (⟨"TimeFlood$Node", "takesAsNewRoot", "(II)Z"⟩ : MethodName) : Cond) ∈ GW := GW_t (i := 502) (by decide +kernel) (by decide +kernel)
theorem wd_503 : (.instanceMethod (⟨"TimeFlood$Node", "takesAsNewRoot", "(II)Z"⟩ : MethodName) : Cond) ∈ GW := GW_t (i := 503) (by decide +kernel) (by decide +kernel)
theorem wd_504 : (.selects "TimeFlood$Node" (⟨"TimeFlood$Node", "takesAsNewRoot", "(II)Z"⟩ : MethodName) (⟨"TimeFlood$Node", "takesAsNewRoot", "(II)Z"⟩ : MethodName) : Cond) ∈ GW := GW_t (i := 504) (by decide +kernel) (by decide +kernel)
theorem wd_505 : (.code (⟨"TimeFlood$Node", "takesAsNewRoot", "(II)Z"⟩ : MethodName) prog_4_method_9_code 4 (Option.some FieldType.boolean) : Cond) ∈ GW := GW_t (i := 505) (by decide +kernel) (by decide +kernel)
theorem wd_506 : (.methodLink "TimeFlood$Flood" 105 (⟨"TimeFlood$Node", "store", "(III)V"⟩ : MethodName) : Cond) ∈ GW := GW_t (i := 506) (by decide +kernel) (by decide +kernel)
theorem wd_507 : (.instanceMethod (⟨"TimeFlood$Node", "store", "(III)V"⟩ : MethodName) : Cond) ∈ GW := GW_t (i := 507) (by decide +kernel) (by decide +kernel)
theorem wd_508 : (.selects "TimeFlood$Node" (⟨"TimeFlood$Node", "store", "(III)V"⟩ : MethodName) (⟨"TimeFlood$Node", "store", "(III)V"⟩ : MethodName) : Cond) ∈ GW := GW_t (i := 508) (by decide +kernel) (by decide +kernel)
theorem wd_509 : (.code (⟨"TimeFlood$Node", "store", "(III)V"⟩ : MethodName) prog_4_method_11_code 5 none : Cond) ∈ GW := GW_t (i := 509) (by decide +kernel) (by decide +kernel)
theorem wd_510 : (.methodLink "TimeFlood$Flood" 109 (⟨"TimeFlood$Node", "takesAsNews", "(III)Z"⟩ : MethodName) : Cond) ∈ GW := GW_t (i := 510) (by decide +kernel) (by decide +kernel)
theorem wd_511 : (.instanceMethod (⟨"TimeFlood$Node", "takesAsNews", "(III)Z"⟩ : MethodName) : Cond) ∈ GW := GW_t (i := 511) (by decide +kernel) (by decide +kernel)
theorem wd_512 : (.selects "TimeFlood$Node" (⟨"TimeFlood$Node", "takesAsNews", "(III)Z"⟩ : MethodName) (⟨"TimeFlood$Node", "takesAsNews", "(III)Z"⟩ : MethodName) : Cond) ∈ GW := GW_t (i := 512) (by decide +kernel) (by decide +kernel)
theorem wd_513 : (.code (⟨"TimeFlood$Node", "takesAsNews", "(III)Z"⟩ : MethodName) prog_4_method_10_code 5 (Option.some FieldType.boolean) : Cond) ∈ GW := GW_t (i := 513) (by decide +kernel) (by decide +kernel)
theorem wd_514 : (.methodLink "TimeFlood$Node" 61 (⟨"java/lang/Math", "floorMod", "(II)I"⟩ : MethodName) : Cond) ∈ GW := GW_t (i := 514) (by decide +kernel) (by decide +kernel)
theorem wd_515 : (.methodLink "TimeFlood" 174 (⟨"TimeFlood$Flood", "inTimeCount", "(LTimeFlood$State;)I"⟩ : MethodName) : Cond) ∈ GW := GW_t (i := 515) (by decide +kernel) (by decide +kernel)
theorem wd_516 : (.instanceMethod (⟨"TimeFlood$Flood", "inTimeCount", "(LTimeFlood$State;)I"⟩ : MethodName) : Cond) ∈ GW := GW_t (i := 516) (by decide +kernel) (by decide +kernel)
theorem wd_517 : (.selects "TimeFlood$Flood" (⟨"TimeFlood$Flood", "inTimeCount", "(LTimeFlood$State;)I"⟩ : MethodName) (⟨"TimeFlood$Flood", "inTimeCount", "(LTimeFlood$State;)I"⟩ : MethodName) : Cond) ∈ GW := GW_t (i := 517) (by decide +kernel) (by decide +kernel)
theorem wd_518 : (.code (⟨"TimeFlood$Flood", "inTimeCount", "(LTimeFlood$State;)I"⟩ : MethodName) prog_2_method_10_code 2 (Option.some FieldType.int) : Cond) ∈ GW := GW_t (i := 518) (by decide +kernel) (by decide +kernel)
theorem wd_519 : (.methodLink "TimeFlood$Flood" 141 (⟨"TimeFlood$Flood", "inTimeSet", "(LTimeFlood$State;)I"⟩ : MethodName) : Cond) ∈ GW := GW_t (i := 519) (by decide +kernel) (by decide +kernel)
theorem wd_520 : (.methodLink "TimeFlood$Flood" 145 (⟨"java/lang/Integer", "bitCount", "(I)I"⟩ : MethodName) : Cond) ∈ GW := GW_t (i := 520) (by decide +kernel) (by decide +kernel)
theorem wd_521 : (.static (⟨"java/lang/Integer", "bitCount", "(I)I"⟩ : MethodName) : Cond) ∈ GW := GW_t (i := 521) (by decide +kernel) (by decide +kernel)
theorem wd_522 : (.code (⟨"java/lang/Integer", "bitCount", "(I)I"⟩ : MethodName) prog_11_method_49_code 1 (Option.some FieldType.int) : Cond) ∈ GW := GW_t (i := 522) (by decide +kernel) (by decide +kernel)
theorem wd_523 : (.constant "java/lang/Integer" 265 (1431655765 : Int32) : Cond) ∈ GW := GW_t (i := 523) (by decide +kernel) (by decide +kernel)
theorem wd_524 : (.constant "java/lang/Integer" 266 (858993459 : Int32) : Cond) ∈ GW := GW_t (i := 524) (by decide +kernel) (by decide +kernel)
theorem wd_525 : (.constant "java/lang/Integer" 267 (252645135 : Int32) : Cond) ∈ GW := GW_t (i := 525) (by decide +kernel) (by decide +kernel)
theorem wd_526 : (.methodLink "TimeFloodLaw" 53 (⟨"TimeFlood", "turn", "(I)I"⟩ : MethodName) : Cond) ∈ GW := GW_t (i := 526) (by decide +kernel) (by decide +kernel)
theorem wd_527 : (.instanceMethod (⟨"TimeFlood", "turn", "(I)I"⟩ : MethodName) : Cond) ∈ GW := GW_t (i := 527) (by decide +kernel) (by decide +kernel)
theorem wd_528 : (.selects "TimeFlood" (⟨"TimeFlood", "turn", "(I)I"⟩ : MethodName) (⟨"TimeFlood", "turn", "(I)I"⟩ : MethodName) : Cond) ∈ GW := GW_t (i := 528) (by decide +kernel) (by decide +kernel)
theorem wd_529 : (.code (⟨"TimeFlood", "turn", "(I)I"⟩ : MethodName) prog_1_method_11_code 2 (Option.some FieldType.int) : Cond) ∈ GW := GW_t (i := 529) (by decide +kernel) (by decide +kernel)
theorem wd_530 : (.methodLink "TimeFlood" 177 (⟨"TimeFlood$State", "flipLink", "(I)V"⟩ : MethodName) : Cond) ∈ GW := GW_t (i := 530) (by decide +kernel) (by decide +kernel)
theorem wd_531 : (.instanceMethod (⟨"TimeFlood$State", "flipLink", "(I)V"⟩ : MethodName) : Cond) ∈ GW := GW_t (i := 531) (by decide +kernel) (by decide +kernel)
theorem wd_532 : (.selects "TimeFlood$State" (⟨"TimeFlood$State", "flipLink", "(I)V"⟩ : MethodName) (⟨"TimeFlood$State", "flipLink", "(I)V"⟩ : MethodName) : Cond) ∈ GW := GW_t (i := 532) (by decide +kernel) (by decide +kernel)
theorem wd_533 : (.code (⟨"TimeFlood$State", "flipLink", "(I)V"⟩ : MethodName) prog_8_method_5_code 2 none : Cond) ∈ GW := GW_t (i := 533) (by decide +kernel) (by decide +kernel)
theorem wd_534 : (.methodLink "TimeFloodLaw" 57 (⟨"TimeFlood", "power", "(I)I"⟩ : MethodName) : Cond) ∈ GW := GW_t (i := 534) (by decide +kernel) (by decide +kernel)
theorem wd_535 : (.instanceMethod (⟨"TimeFlood", "power", "(I)I"⟩ : MethodName) : Cond) ∈ GW := GW_t (i := 535) (by decide +kernel) (by decide +kernel)
theorem wd_536 : (.selects "TimeFlood" (⟨"TimeFlood", "power", "(I)I"⟩ : MethodName) (⟨"TimeFlood", "power", "(I)I"⟩ : MethodName) : Cond) ∈ GW := GW_t (i := 536) (by decide +kernel) (by decide +kernel)
theorem wd_537 : (.code (⟨"TimeFlood", "power", "(I)I"⟩ : MethodName) prog_1_method_12_code 2 (Option.some FieldType.int) : Cond) ∈ GW := GW_t (i := 537) (by decide +kernel) (by decide +kernel)
theorem wd_538 : (.methodLink "TimeFlood" 181 (⟨"TimeFlood$Node", "flipPower", "()V"⟩ : MethodName) : Cond) ∈ GW := GW_t (i := 538) (by decide +kernel) (by decide +kernel)
theorem wd_539 : (.instanceMethod (⟨"TimeFlood$Node", "flipPower", "()V"⟩ : MethodName) : Cond) ∈ GW := GW_t (i := 539) (by decide +kernel) (by decide +kernel)
theorem wd_540 : (.selects "TimeFlood$Node" (⟨"TimeFlood$Node", "flipPower", "()V"⟩ : MethodName) (⟨"TimeFlood$Node", "flipPower", "()V"⟩ : MethodName) : Cond) ∈ GW := GW_t (i := 540) (by decide +kernel) (by decide +kernel)
theorem wd_541 : (.code (⟨"TimeFlood$Node", "flipPower", "()V"⟩ : MethodName) prog_4_method_4_code 1 none : Cond) ∈ GW := GW_t (i := 541) (by decide +kernel) (by decide +kernel)
theorem wd_542 : (.methodLink "TimeFlood$Node" 50 (⟨"TimeFlood$Node", "forget", "()V"⟩ : MethodName) : Cond) ∈ GW := GW_t (i := 542) (by decide +kernel) (by decide +kernel)
theorem wd_543 : (.methodLink "TimeFloodLaw" 61 (⟨"TimeFlood", "drift", "(II)I"⟩ : MethodName) : Cond) ∈ GW := GW_t (i := 543) (by decide +kernel) (by decide +kernel)
theorem wd_544 : (.instanceMethod (⟨"TimeFlood", "drift", "(II)I"⟩ : MethodName) : Cond) ∈ GW := GW_t (i := 544) (by decide +kernel) (by decide +kernel)
theorem wd_545 : (.selects "TimeFlood" (⟨"TimeFlood", "drift", "(II)I"⟩ : MethodName) (⟨"TimeFlood", "drift", "(II)I"⟩ : MethodName) : Cond) ∈ GW := GW_t (i := 545) (by decide +kernel) (by decide +kernel)
theorem wd_546 : (.code (⟨"TimeFlood", "drift", "(II)I"⟩ : MethodName) prog_1_method_13_code 3 (Option.some FieldType.int) : Cond) ∈ GW := GW_t (i := 546) (by decide +kernel) (by decide +kernel)
theorem wd_547 : (.methodLink "TimeFlood" 187 (⟨"TimeFlood$Flood", "clock", "(LTimeFlood$State;I)I"⟩ : MethodName) : Cond) ∈ GW := GW_t (i := 547) (by decide +kernel) (by decide +kernel)
theorem wd_548 : (.methodLink "TimeFloodLaw" 65 (⟨"TimeFlood", "undo", "()I"⟩ : MethodName) : Cond) ∈ GW := GW_t (i := 548) (by decide +kernel) (by decide +kernel)
theorem wd_549 : (.instanceMethod (⟨"TimeFlood", "undo", "()I"⟩ : MethodName) : Cond) ∈ GW := GW_t (i := 549) (by decide +kernel) (by decide +kernel)
theorem wd_550 : (.selects "TimeFlood" (⟨"TimeFlood", "undo", "()I"⟩ : MethodName) (⟨"TimeFlood", "undo", "()I"⟩ : MethodName) : Cond) ∈ GW := GW_t (i := 550) (by decide +kernel) (by decide +kernel)
theorem wd_551 : (.code (⟨"TimeFlood", "undo", "()I"⟩ : MethodName) prog_1_method_14_code 1 (Option.some FieldType.int) : Cond) ∈ GW := GW_t (i := 551) (by decide +kernel) (by decide +kernel)
theorem wd_552 : (.methodLink "TimeFlood" 191 (⟨"TimeFlood$Journal", "pop", "(LTimeFlood$State;)V"⟩ : MethodName) : Cond) ∈ GW := GW_t (i := 552) (by decide +kernel) (by decide +kernel)
theorem wd_553 : (.instanceMethod (⟨"TimeFlood$Journal", "pop", "(LTimeFlood$State;)V"⟩ : MethodName) : Cond) ∈ GW := GW_t (i := 553) (by decide +kernel) (by decide +kernel)
theorem wd_554 : (.selects "TimeFlood$Journal" (⟨"TimeFlood$Journal", "pop", "(LTimeFlood$State;)V"⟩ : MethodName) (⟨"TimeFlood$Journal", "pop", "(LTimeFlood$State;)V"⟩ : MethodName) : Cond) ∈ GW := GW_t (i := 554) (by decide +kernel) (by decide +kernel)
theorem wd_555 : (.code (⟨"TimeFlood$Journal", "pop", "(LTimeFlood$State;)V"⟩ : MethodName) prog_3_method_4_code 2 none : Cond) ∈ GW := GW_t (i := 555) (by decide +kernel) (by decide +kernel)
theorem wd_556 : (.methodLink "TimeFloodLaw" 69 (⟨"TimeFlood", "ahead", "(III)I"⟩ : MethodName) : Cond) ∈ GW := GW_t (i := 556) (by decide +kernel) (by decide +kernel)
theorem wd_557 : (.instanceMethod (⟨"TimeFlood", "ahead", "(III)I"⟩ : MethodName) : Cond) ∈ GW := GW_t (i := 557) (by decide +kernel) (by decide +kernel)
theorem wd_558 : (.selects "TimeFlood" (⟨"TimeFlood", "ahead", "(III)I"⟩ : MethodName) (⟨"TimeFlood", "ahead", "(III)I"⟩ : MethodName) : Cond) ∈ GW := GW_t (i := 558) (by decide +kernel) (by decide +kernel)
theorem wd_559 : (.code (⟨"TimeFlood", "ahead", "(III)I"⟩ : MethodName) prog_1_method_15_code 4 (Option.some FieldType.int) : Cond) ∈ GW := GW_t (i := 559) (by decide +kernel) (by decide +kernel)
theorem wd_560 : (.methodLink "TimeFlood" 194 (⟨"TimeFlood$State", "copyFrom", "(LTimeFlood$State;)V"⟩ : MethodName) : Cond) ∈ GW := GW_t (i := 560) (by decide +kernel) (by decide +kernel)
theorem wd_561 : (.methodLink "TimeFloodLaw" 73 (⟨"TimeFlood", "agree", "()I"⟩ : MethodName) : Cond) ∈ GW := GW_t (i := 561) (by decide +kernel) (by decide +kernel)
theorem wd_562 : (.instanceMethod (⟨"TimeFlood", "agree", "()I"⟩ : MethodName) : Cond) ∈ GW := GW_t (i := 562) (by decide +kernel) (by decide +kernel)
theorem wd_563 : (.selects "TimeFlood" (⟨"TimeFlood", "agree", "()I"⟩ : MethodName) (⟨"TimeFlood", "agree", "()I"⟩ : MethodName) : Cond) ∈ GW := GW_t (i := 563) (by decide +kernel) (by decide +kernel)
theorem wd_564 : (.code (⟨"TimeFlood", "agree", "()I"⟩ : MethodName) prog_1_method_16_code 2 (Option.some FieldType.int) : Cond) ∈ GW := GW_t (i := 564) (by decide +kernel) (by decide +kernel)
theorem wd_565 : (.methodLink "TimeFlood" 196 (⟨"TimeFlood$Flood", "pass", "(LTimeFlood$State;)V"⟩ : MethodName) : Cond) ∈ GW := GW_t (i := 565) (by decide +kernel) (by decide +kernel)
theorem wd_566 : (.methodLink "TimeFloodLaw" 79 (⟨"TimeFlood", "judge", "(IJ)I"⟩ : MethodName) : Cond) ∈ GW := GW_t (i := 566) (by decide +kernel) (by decide +kernel)
theorem wd_567 : (.instanceMethod (⟨"TimeFlood", "judge", "(IJ)I"⟩ : MethodName) : Cond) ∈ GW := GW_t (i := 567) (by decide +kernel) (by decide +kernel)
theorem wd_568 : (.selects "TimeFlood" (⟨"TimeFlood", "judge", "(IJ)I"⟩ : MethodName) (⟨"TimeFlood", "judge", "(IJ)I"⟩ : MethodName) : Cond) ∈ GW := GW_t (i := 568) (by decide +kernel) (by decide +kernel)
theorem wd_569 : (.code (⟨"TimeFlood", "judge", "(IJ)I"⟩ : MethodName) prog_1_method_17_code 6 (Option.some FieldType.int) : Cond) ∈ GW := GW_t (i := 569) (by decide +kernel) (by decide +kernel)
theorem wd_570 : (.fieldLink "TimeFlood" 199 "TimeFlood" "THOUSANDS" "[J" : Cond) ∈ GW := GW_t (i := 570) (by decide +kernel) (by decide +kernel)
theorem wd_572 : (.constantLong "TimeFlood" 203 (1000 : Int64) : Cond) ∈ GW := GW_t (i := 572) (by decide +kernel) (by decide +kernel)
theorem wd_573 : (.methodLink "TimeFlood" 205 (⟨"TimeFlood", "holdsOnTrial", "(III)Z"⟩ : MethodName) : Cond) ∈ GW := GW_t (i := 573) (by decide +kernel) (by decide +kernel)
theorem wd_575 : (.instanceMethod (⟨"TimeFlood", "holdsOnTrial", "(III)Z"⟩ : MethodName) : Cond) ∈ GW := GW_t (i := 575) (by decide +kernel) (by decide +kernel)
theorem wd_576 : (.code (⟨"TimeFlood", "holdsOnTrial", "(III)Z"⟩ : MethodName) prog_1_method_29_code 4 (Option.some FieldType.boolean) : Cond) ∈ GW := GW_t (i := 576) (by decide +kernel) (by decide +kernel)
theorem wd_577 : (.methodLink "TimeFlood" 248 (⟨"TimeFlood$State", "shownRoot", "(I)I"⟩ : MethodName) : Cond) ∈ GW := GW_t (i := 577) (by decide +kernel) (by decide +kernel)
theorem wd_578 : (.methodLink "TimeFlood" 251 (⟨"TimeFlood$Flood", "isInTime", "(LTimeFlood$State;I)Z"⟩ : MethodName) : Cond) ∈ GW := GW_t (i := 578) (by decide +kernel) (by decide +kernel)
theorem wd_579 : (.methodLink "TimeFloodLaw" 84 (⟨"TimeFlood", "see", "(III)I"⟩ : MethodName) : Cond) ∈ GW := GW_t (i := 579) (by decide +kernel) (by decide +kernel)
theorem wd_580 : (.instanceMethod (⟨"TimeFlood", "see", "(III)I"⟩ : MethodName) : Cond) ∈ GW := GW_t (i := 580) (by decide +kernel) (by decide +kernel)
theorem wd_581 : (.selects "TimeFlood" (⟨"TimeFlood", "see", "(III)I"⟩ : MethodName) (⟨"TimeFlood", "see", "(III)I"⟩ : MethodName) : Cond) ∈ GW := GW_t (i := 581) (by decide +kernel) (by decide +kernel)
theorem wd_582 : (.code (⟨"TimeFlood", "see", "(III)I"⟩ : MethodName) prog_1_method_18_code 4 (Option.some FieldType.int) : Cond) ∈ GW := GW_t (i := 582) (by decide +kernel) (by decide +kernel)
theorem wd_583 : (.methodLink "TimeFlood" 209 (⟨"TimeFlood$Sightings", "add", "(III)V"⟩ : MethodName) : Cond) ∈ GW := GW_t (i := 583) (by decide +kernel) (by decide +kernel)
theorem wd_584 : (.instanceMethod (⟨"TimeFlood$Sightings", "add", "(III)V"⟩ : MethodName) : Cond) ∈ GW := GW_t (i := 584) (by decide +kernel) (by decide +kernel)
theorem wd_585 : (.selects "TimeFlood$Sightings" (⟨"TimeFlood$Sightings", "add", "(III)V"⟩ : MethodName) (⟨"TimeFlood$Sightings", "add", "(III)V"⟩ : MethodName) : Cond) ∈ GW := GW_t (i := 585) (by decide +kernel) (by decide +kernel)
theorem wd_586 : (.code (⟨"TimeFlood$Sightings", "add", "(III)V"⟩ : MethodName) prog_7_method_2_code 4 none : Cond) ∈ GW := GW_t (i := 586) (by decide +kernel) (by decide +kernel)
theorem wd_587 : (.methodLink "TimeFloodLaw" 88 (⟨"TimeFlood", "unsee", "()I"⟩ : MethodName) : Cond) ∈ GW := GW_t (i := 587) (by decide +kernel) (by decide +kernel)
theorem wd_588 : (.instanceMethod (⟨"TimeFlood", "unsee", "()I"⟩ : MethodName) : Cond) ∈ GW := GW_t (i := 588) (by decide +kernel) (by decide +kernel)
theorem wd_589 : (.selects "TimeFlood" (⟨"TimeFlood", "unsee", "()I"⟩ : MethodName) (⟨"TimeFlood", "unsee", "()I"⟩ : MethodName) : Cond) ∈ GW := GW_t (i := 589) (by decide +kernel) (by decide +kernel)
theorem wd_590 : (.code (⟨"TimeFlood", "unsee", "()I"⟩ : MethodName) prog_1_method_19_code 2 (Option.some FieldType.int) : Cond) ∈ GW := GW_t (i := 590) (by decide +kernel) (by decide +kernel)
theorem wd_591 : (.methodLink "TimeFloodLaw" 92 (⟨"TimeFlood", "which", "()I"⟩ : MethodName) : Cond) ∈ GW := GW_t (i := 591) (by decide +kernel) (by decide +kernel)
theorem wd_592 : (.instanceMethod (⟨"TimeFlood", "which", "()I"⟩ : MethodName) : Cond) ∈ GW := GW_t (i := 592) (by decide +kernel) (by decide +kernel)
theorem wd_593 : (.selects "TimeFlood" (⟨"TimeFlood", "which", "()I"⟩ : MethodName) (⟨"TimeFlood", "which", "()I"⟩ : MethodName) : Cond) ∈ GW := GW_t (i := 593) (by decide +kernel) (by decide +kernel)
theorem wd_594 : (.code (⟨"TimeFlood", "which", "()I"⟩ : MethodName) prog_1_method_20_code 3 (Option.some FieldType.int) : Cond) ∈ GW := GW_t (i := 594) (by decide +kernel) (by decide +kernel)
theorem wd_595 : (.methodLink "TimeFlood" 213 (⟨"TimeFlood", "failureExplains", "(I)Z"⟩ : MethodName) : Cond) ∈ GW := GW_t (i := 595) (by decide +kernel) (by decide +kernel)
theorem wd_597 : (.instanceMethod (⟨"TimeFlood", "failureExplains", "(I)Z"⟩ : MethodName) : Cond) ∈ GW := GW_t (i := 597) (by decide +kernel) (by decide +kernel)
theorem wd_598 : (.code (⟨"TimeFlood", "failureExplains", "(I)Z"⟩ : MethodName) prog_1_method_30_code 3 (Option.some FieldType.boolean) : Cond) ∈ GW := GW_t (i := 598) (by decide +kernel) (by decide +kernel)
theorem wd_599 : (.methodLink "TimeFlood" 258 (⟨"TimeFlood$Sightings", "contradict", "(LTimeFlood$State;II)Z"⟩ : MethodName) : Cond) ∈ GW := GW_t (i := 599) (by decide +kernel) (by decide +kernel)
theorem wd_600 : (.instanceMethod (⟨"TimeFlood$Sightings", "contradict", "(LTimeFlood$State;II)Z"⟩ : MethodName) : Cond) ∈ GW := GW_t (i := 600) (by decide +kernel) (by decide +kernel)
theorem wd_601 : (.selects "TimeFlood$Sightings" (⟨"TimeFlood$Sightings", "contradict", "(LTimeFlood$State;II)Z"⟩ : MethodName) (⟨"TimeFlood$Sightings", "contradict", "(LTimeFlood$State;II)Z"⟩ : MethodName) : Cond) ∈ GW := GW_t (i := 601) (by decide +kernel) (by decide +kernel)
theorem wd_602 : (.code (⟨"TimeFlood$Sightings", "contradict", "(LTimeFlood$State;II)Z"⟩ : MethodName) prog_7_method_3_code 6 (Option.some FieldType.boolean) : Cond) ∈ GW := GW_t (i := 602) (by decide +kernel) (by decide +kernel)
theorem wd_603 : (.methodLink "TimeFlood$Sightings" 25 (⟨"TimeFlood$State", "shownRoot", "(I)I"⟩ : MethodName) : Cond) ∈ GW := GW_t (i := 603) (by decide +kernel) (by decide +kernel)
theorem wd_604 : (.methodLink "TimeFloodLaw" 96 (⟨"TimeFlood", "share", "(IZ)I"⟩ : MethodName) : Cond) ∈ GW := GW_t (i := 604) (by decide +kernel) (by decide +kernel)
theorem wd_605 : (.instanceMethod (⟨"TimeFlood", "share", "(IZ)I"⟩ : MethodName) : Cond) ∈ GW := GW_t (i := 605) (by decide +kernel) (by decide +kernel)
theorem wd_606 : (.selects "TimeFlood" (⟨"TimeFlood", "share", "(IZ)I"⟩ : MethodName) (⟨"TimeFlood", "share", "(IZ)I"⟩ : MethodName) : Cond) ∈ GW := GW_t (i := 606) (by decide +kernel) (by decide +kernel)
theorem wd_607 : (.code (⟨"TimeFlood", "share", "(IZ)I"⟩ : MethodName) prog_1_method_21_code 10 (Option.some FieldType.int) : Cond) ∈ GW := GW_t (i := 607) (by decide +kernel) (by decide +kernel)
theorem wd_608 : (.methodLink "TimeFlood" 216 (⟨"java/lang/Integer", "bitCount", "(I)I"⟩ : MethodName) : Cond) ∈ GW := GW_t (i := 608) (by decide +kernel) (by decide +kernel)
theorem wd_609 : (.fieldLink "TimeFlood" 222 "TimeFlood" "FACTORIALS" "[I" : Cond) ∈ GW := GW_t (i := 609) (by decide +kernel) (by decide +kernel)
theorem wd_611 : (.methodLink "TimeFlood" 225 (⟨"TimeFlood", "worth", "(I)I"⟩ : MethodName) : Cond) ∈ GW := GW_t (i := 611) (by decide +kernel) (by decide +kernel)
theorem wd_613 : (.instanceMethod (⟨"TimeFlood", "worth", "(I)I"⟩ : MethodName) : Cond) ∈ GW := GW_t (i := 613) (by decide +kernel) (by decide +kernel)
theorem wd_614 : (.code (⟨"TimeFlood", "worth", "(I)I"⟩ : MethodName) prog_1_method_31_code 2 (Option.some FieldType.int) : Cond) ∈ GW := GW_t (i := 614) (by decide +kernel) (by decide +kernel)
theorem wd_615 : (.methodLink "TimeFlood" 262 (⟨"TimeFlood$State", "switchOffAllBut", "(I)V"⟩ : MethodName) : Cond) ∈ GW := GW_t (i := 615) (by decide +kernel) (by decide +kernel)
theorem wd_616 : (.instanceMethod (⟨"TimeFlood$State", "switchOffAllBut", "(I)V"⟩ : MethodName) : Cond) ∈ GW := GW_t (i := 616) (by decide +kernel) (by decide +kernel)
theorem wd_617 : (.selects "TimeFlood$State" (⟨"TimeFlood$State", "switchOffAllBut", "(I)V"⟩ : MethodName) (⟨"TimeFlood$State", "switchOffAllBut", "(I)V"⟩ : MethodName) : Cond) ∈ GW := GW_t (i := 617) (by decide +kernel) (by decide +kernel)
theorem wd_618 : (.code (⟨"TimeFlood$State", "switchOffAllBut", "(I)V"⟩ : MethodName) prog_8_method_6_code 3 none : Cond) ∈ GW := GW_t (i := 618) (by decide +kernel) (by decide +kernel)
theorem wd_619 : (.methodLink "TimeFlood" 228 (⟨"TimeFlood", "partOfFraction", "(JJZ)I"⟩ : MethodName) : Cond) ∈ GW := GW_t (i := 619) (by decide +kernel) (by decide +kernel)
theorem wd_620 : (.static (⟨"TimeFlood", "partOfFraction", "(JJZ)I"⟩ : MethodName) : Cond) ∈ GW := GW_t (i := 620) (by decide +kernel) (by decide +kernel)
theorem wd_621 : (.code (⟨"TimeFlood", "partOfFraction", "(JJZ)I"⟩ : MethodName) prog_1_method_35_code 9 (Option.some FieldType.int) : Cond) ∈ GW := GW_t (i := 621) (by decide +kernel) (by decide +kernel)
theorem wd_622 : (.methodLink "TimeFlood" 267 (⟨"java/lang/Math", "abs", "(J)J"⟩ : MethodName) : Cond) ∈ GW := GW_t (i := 622) (by decide +kernel) (by decide +kernel)
theorem wd_623 : (.static (⟨"java/lang/Math", "abs", "(J)J"⟩ : MethodName) : Cond) ∈ GW := GW_t (i := 623) (by decide +kernel) (by decide +kernel)
theorem wd_624 : (.code (⟨"java/lang/Math", "abs", "(J)J"⟩ : MethodName) prog_12_method_61_code 2 (Option.some FieldType.long) : Cond) ∈ GW := GW_t (i := 624) (by decide +kernel) (by decide +kernel)
theorem wd_625 : (.methodLink "TimeFlood" 273 (⟨"TimeFlood", "commonDivisor", "(JJ)J"⟩ : MethodName) : Cond) ∈ GW := GW_t (i := 625) (by decide +kernel) (by decide +kernel)
theorem wd_626 : (.static (⟨"TimeFlood", "commonDivisor", "(JJ)J"⟩ : MethodName) : Cond) ∈ GW := GW_t (i := 626) (by decide +kernel) (by decide +kernel)
theorem wd_627 : (.code (⟨"TimeFlood", "commonDivisor", "(JJ)J"⟩ : MethodName) prog_1_method_36_code 11 (Option.some FieldType.long) : Cond) ∈ GW := GW_t (i := 627) (by decide +kernel) (by decide +kernel)
theorem wd_628 : (.methodLink "TimeFloodLaw" 101 (⟨"TimeFlood", "chance", "(IIZ)I"⟩ : MethodName) : Cond) ∈ GW := GW_t (i := 628) (by decide +kernel) (by decide +kernel)
theorem wd_629 : (.instanceMethod (⟨"TimeFlood", "chance", "(IIZ)I"⟩ : MethodName) : Cond) ∈ GW := GW_t (i := 629) (by decide +kernel) (by decide +kernel)
theorem wd_630 : (.selects "TimeFlood" (⟨"TimeFlood", "chance", "(IIZ)I"⟩ : MethodName) (⟨"TimeFlood", "chance", "(IIZ)I"⟩ : MethodName) : Cond) ∈ GW := GW_t (i := 630) (by decide +kernel) (by decide +kernel)
theorem wd_631 : (.code (⟨"TimeFlood", "chance", "(IIZ)I"⟩ : MethodName) prog_1_method_22_code 9 (Option.some FieldType.int) : Cond) ∈ GW := GW_t (i := 631) (by decide +kernel) (by decide +kernel)
theorem wd_632 : (.methodLink "TimeFlood" 232 (⟨"TimeFlood", "weightOfFailing", "(II)J"⟩ : MethodName) : Cond) ∈ GW := GW_t (i := 632) (by decide +kernel) (by decide +kernel)
theorem wd_634 : (.instanceMethod (⟨"TimeFlood", "weightOfFailing", "(II)J"⟩ : MethodName) : Cond) ∈ GW := GW_t (i := 634) (by decide +kernel) (by decide +kernel)
theorem wd_635 : (.code (⟨"TimeFlood", "weightOfFailing", "(II)J"⟩ : MethodName) prog_1_method_33_code 6 (Option.some FieldType.long) : Cond) ∈ GW := GW_t (i := 635) (by decide +kernel) (by decide +kernel)
theorem wd_636 : (.methodLink "TimeFlood" 236 (⟨"TimeFlood", "unitesWithout", "(II)Z"⟩ : MethodName) : Cond) ∈ GW := GW_t (i := 636) (by decide +kernel) (by decide +kernel)
theorem wd_638 : (.instanceMethod (⟨"TimeFlood", "unitesWithout", "(II)Z"⟩ : MethodName) : Cond) ∈ GW := GW_t (i := 638) (by decide +kernel) (by decide +kernel)
theorem wd_639 : (.code (⟨"TimeFlood", "unitesWithout", "(II)Z"⟩ : MethodName) prog_1_method_32_code 3 (Option.some FieldType.boolean) : Cond) ∈ GW := GW_t (i := 639) (by decide +kernel) (by decide +kernel)
theorem wd_640 : (.methodLink "TimeFlood" 240 (⟨"TimeFlood", "tenToTheUpLinks", "()J"⟩ : MethodName) : Cond) ∈ GW := GW_t (i := 640) (by decide +kernel) (by decide +kernel)
theorem wd_642 : (.instanceMethod (⟨"TimeFlood", "tenToTheUpLinks", "()J"⟩ : MethodName) : Cond) ∈ GW := GW_t (i := 642) (by decide +kernel) (by decide +kernel)
theorem wd_643 : (.code (⟨"TimeFlood", "tenToTheUpLinks", "()J"⟩ : MethodName) prog_1_method_34_code 4 (Option.some FieldType.long) : Cond) ∈ GW := GW_t (i := 643) (by decide +kernel) (by decide +kernel)
theorem wd_644 : (.constantLong "TimeFlood" 265 (10 : Int64) : Cond) ∈ GW := GW_t (i := 644) (by decide +kernel) (by decide +kernel)
theorem wd_645 : (.methodLink "TimeFloodLaw" 106 (⟨"TimeFlood", "seed", "(J)J"⟩ : MethodName) : Cond) ∈ GW := GW_t (i := 645) (by decide +kernel) (by decide +kernel)
theorem wd_646 : (.instanceMethod (⟨"TimeFlood", "seed", "(J)J"⟩ : MethodName) : Cond) ∈ GW := GW_t (i := 646) (by decide +kernel) (by decide +kernel)
theorem wd_647 : (.selects "TimeFlood" (⟨"TimeFlood", "seed", "(J)J"⟩ : MethodName) (⟨"TimeFlood", "seed", "(J)J"⟩ : MethodName) : Cond) ∈ GW := GW_t (i := 647) (by decide +kernel) (by decide +kernel)
theorem wd_648 : (.code (⟨"TimeFlood", "seed", "(J)J"⟩ : MethodName) prog_1_method_23_code 5 (Option.some FieldType.long) : Cond) ∈ GW := GW_t (i := 648) (by decide +kernel) (by decide +kernel)
theorem wd_649 : (.methodLink "TimeFloodLaw" 111 (⟨"TimeFlood", "drawn", "(I)I"⟩ : MethodName) : Cond) ∈ GW := GW_t (i := 649) (by decide +kernel) (by decide +kernel)
theorem wd_650 : (.instanceMethod (⟨"TimeFlood", "drawn", "(I)I"⟩ : MethodName) : Cond) ∈ GW := GW_t (i := 650) (by decide +kernel) (by decide +kernel)
theorem wd_651 : (.selects "TimeFlood" (⟨"TimeFlood", "drawn", "(I)I"⟩ : MethodName) (⟨"TimeFlood", "drawn", "(I)I"⟩ : MethodName) : Cond) ∈ GW := GW_t (i := 651) (by decide +kernel) (by decide +kernel)
theorem wd_652 : (.code (⟨"TimeFlood", "drawn", "(I)I"⟩ : MethodName) prog_1_method_24_code 5 (Option.some FieldType.int) : Cond) ∈ GW := GW_t (i := 652) (by decide +kernel) (by decide +kernel)
theorem wd_653 : (.constantLong "TimeFlood" 244 (6364136223846793005 : Int64) : Cond) ∈ GW := GW_t (i := 653) (by decide +kernel) (by decide +kernel)
theorem wd_654 : (.constantLong "TimeFlood" 246 (1442695040888963407 : Int64) : Cond) ∈ GW := GW_t (i := 654) (by decide +kernel) (by decide +kernel)
theorem wd_655 : (.methodLink "TimeFloodLaw" 115 (⟨"TimeFlood", "keep", "(I)I"⟩ : MethodName) : Cond) ∈ GW := GW_t (i := 655) (by decide +kernel) (by decide +kernel)
theorem wd_656 : (.instanceMethod (⟨"TimeFlood", "keep", "(I)I"⟩ : MethodName) : Cond) ∈ GW := GW_t (i := 656) (by decide +kernel) (by decide +kernel)
theorem wd_657 : (.selects "TimeFlood" (⟨"TimeFlood", "keep", "(I)I"⟩ : MethodName) (⟨"TimeFlood", "keep", "(I)I"⟩ : MethodName) : Cond) ∈ GW := GW_t (i := 657) (by decide +kernel) (by decide +kernel)
theorem wd_658 : (.code (⟨"TimeFlood", "keep", "(I)I"⟩ : MethodName) prog_1_method_25_code 2 (Option.some FieldType.int) : Cond) ∈ GW := GW_t (i := 658) (by decide +kernel) (by decide +kernel)
theorem wd_659 : (.methodLink "TimeFloodLaw" 119 (⟨"TimeFlood", "again", "(I)I"⟩ : MethodName) : Cond) ∈ GW := GW_t (i := 659) (by decide +kernel) (by decide +kernel)
theorem wd_660 : (.instanceMethod (⟨"TimeFlood", "again", "(I)I"⟩ : MethodName) : Cond) ∈ GW := GW_t (i := 660) (by decide +kernel) (by decide +kernel)
theorem wd_661 : (.selects "TimeFlood" (⟨"TimeFlood", "again", "(I)I"⟩ : MethodName) (⟨"TimeFlood", "again", "(I)I"⟩ : MethodName) : Cond) ∈ GW := GW_t (i := 661) (by decide +kernel) (by decide +kernel)
theorem wd_662 : (.code (⟨"TimeFlood", "again", "(I)I"⟩ : MethodName) prog_1_method_26_code 2 (Option.some FieldType.int) : Cond) ∈ GW := GW_t (i := 662) (by decide +kernel) (by decide +kernel)
theorem wd_663 : (.classLink "TimeFloodLaw" 10 "TimeFloodModel" : Cond) ∈ GW := GW_t (i := 663) (by decide +kernel) (by decide +kernel)
theorem wd_664 : (.instantiable "TimeFloodModel" 39 : Cond) ∈ GW := GW_t (i := 664) (by decide +kernel) (by decide +kernel)
theorem wd_665 : (.methodLink "TimeFloodLaw" 12 (⟨"TimeFloodModel", "<init>", "()V"⟩ : MethodName) : Cond) ∈ GW := GW_t (i := 665) (by decide +kernel) (by decide +kernel)
theorem wd_666 : (.instanceMethod (⟨"TimeFloodModel", "<init>", "()V"⟩ : MethodName) : Cond) ∈ GW := GW_t (i := 666) (by decide +kernel) (by decide +kernel)
theorem wd_667 : (.code (⟨"TimeFloodModel", "<init>", "()V"⟩ : MethodName) prog_10_method_1_code 1 none : Cond) ∈ GW := GW_t (i := 667) (by decide +kernel) (by decide +kernel)
theorem wd_668 : (.methodLink "TimeFloodModel" 1 (⟨"java/lang/Object", "<init>", "()V"⟩ : MethodName) : Cond) ∈ GW := GW_t (i := 668) (by decide +kernel) (by decide +kernel)
theorem wd_669 : (.fieldLink "TimeFloodModel" 7 "TimeFloodModel" "text" "[I" : Cond) ∈ GW := GW_t (i := 669) (by decide +kernel) (by decide +kernel)
theorem wd_670 : (.fieldLink "TimeFloodModel" 106 "TimeFloodModel" "length" "I" : Cond) ∈ GW := GW_t (i := 670) (by decide +kernel) (by decide +kernel)
theorem wd_671 : (.fieldLink "TimeFloodModel" 77 "TimeFloodModel" "wide" "I" : Cond) ∈ GW := GW_t (i := 671) (by decide +kernel) (by decide +kernel)
theorem wd_672 : (.fieldLink "TimeFloodModel" 81 "TimeFloodModel" "patience" "I" : Cond) ∈ GW := GW_t (i := 672) (by decide +kernel) (by decide +kernel)
theorem wd_673 : (.fieldLink "TimeFloodModel" 168 "TimeFloodModel" "shy" "I" : Cond) ∈ GW := GW_t (i := 673) (by decide +kernel) (by decide +kernel)
theorem wd_674 : (.fieldLink "TimeFloodModel" 94 "TimeFloodModel" "nodes" "I" : Cond) ∈ GW := GW_t (i := 674) (by decide +kernel) (by decide +kernel)
theorem wd_675 : (.fieldLink "TimeFloodModel" 13 "TimeFloodModel" "start" "[I" : Cond) ∈ GW := GW_t (i := 675) (by decide +kernel) (by decide +kernel)
theorem wd_676 : (.fieldLink "TimeFloodModel" 101 "TimeFloodModel" "links" "I" : Cond) ∈ GW := GW_t (i := 676) (by decide +kernel) (by decide +kernel)
theorem wd_677 : (.fieldLink "TimeFloodModel" 16 "TimeFloodModel" "one" "[I" : Cond) ∈ GW := GW_t (i := 677) (by decide +kernel) (by decide +kernel)
theorem wd_678 : (.fieldLink "TimeFloodModel" 19 "TimeFloodModel" "other" "[I" : Cond) ∈ GW := GW_t (i := 678) (by decide +kernel) (by decide +kernel)
theorem wd_679 : (.fieldLink "TimeFloodModel" 22 "TimeFloodModel" "now" "[I" : Cond) ∈ GW := GW_t (i := 679) (by decide +kernel) (by decide +kernel)
theorem wd_680 : (.fieldLink "TimeFloodModel" 25 "TimeFloodModel" "trial" "[I" : Cond) ∈ GW := GW_t (i := 680) (by decide +kernel) (by decide +kernel)
theorem wd_681 : (.fieldLink "TimeFloodModel" 28 "TimeFloodModel" "diary" "[I" : Cond) ∈ GW := GW_t (i := 681) (by decide +kernel) (by decide +kernel)
theorem wd_682 : (.fieldLink "TimeFloodModel" 175 "TimeFloodModel" "acts" "I" : Cond) ∈ GW := GW_t (i := 682) (by decide +kernel) (by decide +kernel)
theorem wd_683 : (.fieldLink "TimeFloodModel" 263 "TimeFloodModel" "next" "I" : Cond) ∈ GW := GW_t (i := 683) (by decide +kernel) (by decide +kernel)
theorem wd_684 : (.fieldLink "TimeFloodModel" 31 "TimeFloodModel" "kept" "[I" : Cond) ∈ GW := GW_t (i := 684) (by decide +kernel) (by decide +kernel)
theorem wd_685 : (.fieldLink "TimeFloodModel" 34 "TimeFloodModel" "isKept" "[Z" : Cond) ∈ GW := GW_t (i := 685) (by decide +kernel) (by decide +kernel)
theorem wd_686 : (.fieldLink "TimeFloodModel" 38 "TimeFloodModel" "seenNode" "[I" : Cond) ∈ GW := GW_t (i := 686) (by decide +kernel) (by decide +kernel)
theorem wd_687 : (.fieldLink "TimeFloodModel" 41 "TimeFloodModel" "seenBehind" "[I" : Cond) ∈ GW := GW_t (i := 687) (by decide +kernel) (by decide +kernel)
theorem wd_688 : (.fieldLink "TimeFloodModel" 44 "TimeFloodModel" "seenRoot" "[I" : Cond) ∈ GW := GW_t (i := 688) (by decide +kernel) (by decide +kernel)
theorem wd_689 : (.fieldLink "TimeFloodModel" 244 "TimeFloodModel" "seen" "I" : Cond) ∈ GW := GW_t (i := 689) (by decide +kernel) (by decide +kernel)
theorem wd_690 : (.fieldLink "TimeFloodModel" 322 "TimeFloodModel" "seed" "J" : Cond) ∈ GW := GW_t (i := 690) (by decide +kernel) (by decide +kernel)
theorem wd_691 : (.fieldLink "TimeFloodModel" 47 "TimeFloodModel" "sends" "[Z" : Cond) ∈ GW := GW_t (i := 691) (by decide +kernel) (by decide +kernel)
theorem wd_692 : (.fieldLink "TimeFloodModel" 50 "TimeFloodModel" "sentRoot" "[I" : Cond) ∈ GW := GW_t (i := 692) (by decide +kernel) (by decide +kernel)
theorem wd_693 : (.fieldLink "TimeFloodModel" 53 "TimeFloodModel" "sentNumber" "[I" : Cond) ∈ GW := GW_t (i := 693) (by decide +kernel) (by decide +kernel)
theorem wd_694 : (.fieldLink "TimeFloodModel" 56 "TimeFloodModel" "sentTime" "[I" : Cond) ∈ GW := GW_t (i := 694) (by decide +kernel) (by decide +kernel)
theorem wd_695 : (.fieldLink "TimeFloodModel" 59 "TimeFloodModel" "wasRoot" "[Z" : Cond) ∈ GW := GW_t (i := 695) (by decide +kernel) (by decide +kernel)
theorem wd_696 : (.fieldLink "TimeFloodModel" 62 "TimeFloodModel" "worth" "[I" : Cond) ∈ GW := GW_t (i := 696) (by decide +kernel) (by decide +kernel)
theorem wd_697 : (.fieldLink "TimeFloodModel" 126 "TimeFloodModel" "readWide" "I" : Cond) ∈ GW := GW_t (i := 697) (by decide +kernel) (by decide +kernel)
theorem wd_698 : (.fieldLink "TimeFloodModel" 137 "TimeFloodModel" "readPatience" "I" : Cond) ∈ GW := GW_t (i := 698) (by decide +kernel) (by decide +kernel)
theorem wd_699 : (.fieldLink "TimeFloodModel" 140 "TimeFloodModel" "readShy" "I" : Cond) ∈ GW := GW_t (i := 699) (by decide +kernel) (by decide +kernel)
theorem wd_700 : (.fieldLink "TimeFloodModel" 112 "TimeFloodModel" "readNodes" "I" : Cond) ∈ GW := GW_t (i := 700) (by decide +kernel) (by decide +kernel)
theorem wd_701 : (.fieldLink "TimeFloodModel" 65 "TimeFloodModel" "readDrift" "[I" : Cond) ∈ GW := GW_t (i := 701) (by decide +kernel) (by decide +kernel)
theorem wd_702 : (.fieldLink "TimeFloodModel" 68 "TimeFloodModel" "readStart" "[I" : Cond) ∈ GW := GW_t (i := 702) (by decide +kernel) (by decide +kernel)
theorem wd_703 : (.fieldLink "TimeFloodModel" 109 "TimeFloodModel" "readLinks" "I" : Cond) ∈ GW := GW_t (i := 703) (by decide +kernel) (by decide +kernel)
theorem wd_704 : (.fieldLink "TimeFloodModel" 71 "TimeFloodModel" "readOne" "[I" : Cond) ∈ GW := GW_t (i := 704) (by decide +kernel) (by decide +kernel)
theorem wd_705 : (.fieldLink "TimeFloodModel" 74 "TimeFloodModel" "readOther" "[I" : Cond) ∈ GW := GW_t (i := 705) (by decide +kernel) (by decide +kernel)
theorem wd_706 : (.fieldLink "TimeFloodModel" 143 "TimeFloodModel" "part" "I" : Cond) ∈ GW := GW_t (i := 706) (by decide +kernel) (by decide +kernel)
theorem wd_707 : (.fieldLink "TimeFloodModel" 123 "TimeFloodModel" "place" "I" : Cond) ∈ GW := GW_t (i := 707) (by decide +kernel) (by decide +kernel)
theorem wd_708 : (.laysFinal "TimeFloodModel" "TimeFloodModel" "text" "[I" : Cond) ∈ GW := GW_t (i := 708) (by decide +kernel) (by decide +kernel)
theorem wd_710 : (.lays "TimeFloodModel" "TimeFloodModel" "length" "I" : Cond) ∈ GW := GW_t (i := 710) (by decide +kernel) (by decide +kernel)
theorem wd_712 : (.lays "TimeFloodModel" "TimeFloodModel" "wide" "I" : Cond) ∈ GW := GW_t (i := 712) (by decide +kernel) (by decide +kernel)
theorem wd_714 : (.lays "TimeFloodModel" "TimeFloodModel" "patience" "I" : Cond) ∈ GW := GW_t (i := 714) (by decide +kernel) (by decide +kernel)
theorem wd_716 : (.lays "TimeFloodModel" "TimeFloodModel" "shy" "I" : Cond) ∈ GW := GW_t (i := 716) (by decide +kernel) (by decide +kernel)
theorem wd_718 : (.lays "TimeFloodModel" "TimeFloodModel" "nodes" "I" : Cond) ∈ GW := GW_t (i := 718) (by decide +kernel) (by decide +kernel)
theorem wd_720 : (.laysFinal "TimeFloodModel" "TimeFloodModel" "start" "[I" : Cond) ∈ GW := GW_t (i := 720) (by decide +kernel) (by decide +kernel)
theorem wd_722 : (.lays "TimeFloodModel" "TimeFloodModel" "links" "I" : Cond) ∈ GW := GW_t (i := 722) (by decide +kernel) (by decide +kernel)
theorem wd_724 : (.laysFinal "TimeFloodModel" "TimeFloodModel" "one" "[I" : Cond) ∈ GW := GW_t (i := 724) (by decide +kernel) (by decide +kernel)
theorem wd_726 : (.laysFinal "TimeFloodModel" "TimeFloodModel" "other" "[I" : Cond) ∈ GW := GW_t (i := 726) (by decide +kernel) (by decide +kernel)
theorem wd_728 : (.laysFinal "TimeFloodModel" "TimeFloodModel" "now" "[I" : Cond) ∈ GW := GW_t (i := 728) (by decide +kernel) (by decide +kernel)
theorem wd_730 : (.laysFinal "TimeFloodModel" "TimeFloodModel" "trial" "[I" : Cond) ∈ GW := GW_t (i := 730) (by decide +kernel) (by decide +kernel)
theorem wd_732 : (.laysFinal "TimeFloodModel" "TimeFloodModel" "diary" "[I" : Cond) ∈ GW := GW_t (i := 732) (by decide +kernel) (by decide +kernel)
theorem wd_734 : (.lays "TimeFloodModel" "TimeFloodModel" "acts" "I" : Cond) ∈ GW := GW_t (i := 734) (by decide +kernel) (by decide +kernel)
theorem wd_736 : (.lays "TimeFloodModel" "TimeFloodModel" "next" "I" : Cond) ∈ GW := GW_t (i := 736) (by decide +kernel) (by decide +kernel)
theorem wd_738 : (.laysFinal "TimeFloodModel" "TimeFloodModel" "kept" "[I" : Cond) ∈ GW := GW_t (i := 738) (by decide +kernel) (by decide +kernel)
theorem wd_740 : (.laysFinal "TimeFloodModel" "TimeFloodModel" "isKept" "[Z" : Cond) ∈ GW := GW_t (i := 740) (by decide +kernel) (by decide +kernel)
theorem wd_742 : (.laysFinal "TimeFloodModel" "TimeFloodModel" "seenNode" "[I" : Cond) ∈ GW := GW_t (i := 742) (by decide +kernel) (by decide +kernel)
theorem wd_744 : (.laysFinal "TimeFloodModel" "TimeFloodModel" "seenBehind" "[I" : Cond) ∈ GW := GW_t (i := 744) (by decide +kernel) (by decide +kernel)
theorem wd_746 : (.laysFinal "TimeFloodModel" "TimeFloodModel" "seenRoot" "[I" : Cond) ∈ GW := GW_t (i := 746) (by decide +kernel) (by decide +kernel)
theorem wd_748 : (.lays "TimeFloodModel" "TimeFloodModel" "seen" "I" : Cond) ∈ GW := GW_t (i := 748) (by decide +kernel) (by decide +kernel)
theorem wd_750 : (.lays "TimeFloodModel" "TimeFloodModel" "seed" "J" : Cond) ∈ GW := GW_t (i := 750) (by decide +kernel) (by decide +kernel)
theorem wd_752 : (.laysFinal "TimeFloodModel" "TimeFloodModel" "sends" "[Z" : Cond) ∈ GW := GW_t (i := 752) (by decide +kernel) (by decide +kernel)
theorem wd_754 : (.laysFinal "TimeFloodModel" "TimeFloodModel" "sentRoot" "[I" : Cond) ∈ GW := GW_t (i := 754) (by decide +kernel) (by decide +kernel)
theorem wd_756 : (.laysFinal "TimeFloodModel" "TimeFloodModel" "sentNumber" "[I" : Cond) ∈ GW := GW_t (i := 756) (by decide +kernel) (by decide +kernel)
theorem wd_758 : (.laysFinal "TimeFloodModel" "TimeFloodModel" "sentTime" "[I" : Cond) ∈ GW := GW_t (i := 758) (by decide +kernel) (by decide +kernel)
theorem wd_760 : (.laysFinal "TimeFloodModel" "TimeFloodModel" "wasRoot" "[Z" : Cond) ∈ GW := GW_t (i := 760) (by decide +kernel) (by decide +kernel)
theorem wd_762 : (.laysFinal "TimeFloodModel" "TimeFloodModel" "worth" "[I" : Cond) ∈ GW := GW_t (i := 762) (by decide +kernel) (by decide +kernel)
theorem wd_764 : (.lays "TimeFloodModel" "TimeFloodModel" "readWide" "I" : Cond) ∈ GW := GW_t (i := 764) (by decide +kernel) (by decide +kernel)
theorem wd_766 : (.lays "TimeFloodModel" "TimeFloodModel" "readPatience" "I" : Cond) ∈ GW := GW_t (i := 766) (by decide +kernel) (by decide +kernel)
theorem wd_768 : (.lays "TimeFloodModel" "TimeFloodModel" "readShy" "I" : Cond) ∈ GW := GW_t (i := 768) (by decide +kernel) (by decide +kernel)
theorem wd_770 : (.lays "TimeFloodModel" "TimeFloodModel" "readNodes" "I" : Cond) ∈ GW := GW_t (i := 770) (by decide +kernel) (by decide +kernel)
theorem wd_772 : (.laysFinal "TimeFloodModel" "TimeFloodModel" "readDrift" "[I" : Cond) ∈ GW := GW_t (i := 772) (by decide +kernel) (by decide +kernel)
theorem wd_774 : (.laysFinal "TimeFloodModel" "TimeFloodModel" "readStart" "[I" : Cond) ∈ GW := GW_t (i := 774) (by decide +kernel) (by decide +kernel)
theorem wd_776 : (.lays "TimeFloodModel" "TimeFloodModel" "readLinks" "I" : Cond) ∈ GW := GW_t (i := 776) (by decide +kernel) (by decide +kernel)
theorem wd_778 : (.laysFinal "TimeFloodModel" "TimeFloodModel" "readOne" "[I" : Cond) ∈ GW := GW_t (i := 778) (by decide +kernel) (by decide +kernel)
theorem wd_780 : (.laysFinal "TimeFloodModel" "TimeFloodModel" "readOther" "[I" : Cond) ∈ GW := GW_t (i := 780) (by decide +kernel) (by decide +kernel)
theorem wd_782 : (.lays "TimeFloodModel" "TimeFloodModel" "part" "I" : Cond) ∈ GW := GW_t (i := 782) (by decide +kernel) (by decide +kernel)
theorem wd_784 : (.lays "TimeFloodModel" "TimeFloodModel" "place" "I" : Cond) ∈ GW := GW_t (i := 784) (by decide +kernel) (by decide +kernel)
theorem wd_787 : (.methodLink "TimeFloodLaw" 17 (⟨"TimeFloodModel", "write", "(I)I"⟩ : MethodName) : Cond) ∈ GW := GW_t (i := 787) (by decide +kernel) (by decide +kernel)
theorem wd_788 : (.instanceMethod (⟨"TimeFloodModel", "write", "(I)I"⟩ : MethodName) : Cond) ∈ GW := GW_t (i := 788) (by decide +kernel) (by decide +kernel)
theorem wd_789 : (.selects "TimeFloodModel" (⟨"TimeFloodModel", "write", "(I)I"⟩ : MethodName) (⟨"TimeFloodModel", "write", "(I)I"⟩ : MethodName) : Cond) ∈ GW := GW_t (i := 789) (by decide +kernel) (by decide +kernel)
theorem wd_790 : (.code (⟨"TimeFloodModel", "write", "(I)I"⟩ : MethodName) prog_10_method_15_code 2 (Option.some FieldType.int) : Cond) ∈ GW := GW_t (i := 790) (by decide +kernel) (by decide +kernel)
theorem wd_791 : (.constantLong "TimeFloodModel" 104 (255 : Int64) : Cond) ∈ GW := GW_t (i := 791) (by decide +kernel) (by decide +kernel)
theorem wd_792 : (.methodLink "TimeFloodModel" 97 (⟨"TimeFloodModel", "in", "(JJJ)Z"⟩ : MethodName) : Cond) ∈ GW := GW_t (i := 792) (by decide +kernel) (by decide +kernel)
theorem wd_793 : (.static (⟨"TimeFloodModel", "in", "(JJJ)Z"⟩ : MethodName) : Cond) ∈ GW := GW_t (i := 793) (by decide +kernel) (by decide +kernel)
theorem wd_794 : (.code (⟨"TimeFloodModel", "in", "(JJJ)Z"⟩ : MethodName) prog_10_method_4_code 6 (Option.some FieldType.boolean) : Cond) ∈ GW := GW_t (i := 794) (by decide +kernel) (by decide +kernel)
theorem wd_795 : (.methodLink "TimeFloodLaw" 22 (⟨"TimeFloodModel", "wipe", "()I"⟩ : MethodName) : Cond) ∈ GW := GW_t (i := 795) (by decide +kernel) (by decide +kernel)
theorem wd_796 : (.instanceMethod (⟨"TimeFloodModel", "wipe", "()I"⟩ : MethodName) : Cond) ∈ GW := GW_t (i := 796) (by decide +kernel) (by decide +kernel)
theorem wd_797 : (.selects "TimeFloodModel" (⟨"TimeFloodModel", "wipe", "()I"⟩ : MethodName) (⟨"TimeFloodModel", "wipe", "()I"⟩ : MethodName) : Cond) ∈ GW := GW_t (i := 797) (by decide +kernel) (by decide +kernel)
theorem wd_798 : (.code (⟨"TimeFloodModel", "wipe", "()I"⟩ : MethodName) prog_10_method_16_code 2 (Option.some FieldType.int) : Cond) ∈ GW := GW_t (i := 798) (by decide +kernel) (by decide +kernel)
theorem wd_799 : (.methodLink "TimeFloodLaw" 26 (⟨"TimeFloodModel", "fault", "()I"⟩ : MethodName) : Cond) ∈ GW := GW_t (i := 799) (by decide +kernel) (by decide +kernel)
theorem wd_800 : (.instanceMethod (⟨"TimeFloodModel", "fault", "()I"⟩ : MethodName) : Cond) ∈ GW := GW_t (i := 800) (by decide +kernel) (by decide +kernel)
theorem wd_801 : (.selects "TimeFloodModel" (⟨"TimeFloodModel", "fault", "()I"⟩ : MethodName) (⟨"TimeFloodModel", "fault", "()I"⟩ : MethodName) : Cond) ∈ GW := GW_t (i := 801) (by decide +kernel) (by decide +kernel)
theorem wd_802 : (.code (⟨"TimeFloodModel", "fault", "()I"⟩ : MethodName) prog_10_method_25_code 1 (Option.some FieldType.int) : Cond) ∈ GW := GW_t (i := 802) (by decide +kernel) (by decide +kernel)
theorem wd_803 : (.methodLink "TimeFloodModel" 164 (⟨"TimeFloodModel", "readText", "()I"⟩ : MethodName) : Cond) ∈ GW := GW_t (i := 803) (by decide +kernel) (by decide +kernel)
theorem wd_805 : (.instanceMethod (⟨"TimeFloodModel", "readText", "()I"⟩ : MethodName) : Cond) ∈ GW := GW_t (i := 805) (by decide +kernel) (by decide +kernel)
theorem wd_806 : (.code (⟨"TimeFloodModel", "readText", "()I"⟩ : MethodName) prog_10_method_24_code 2 (Option.some FieldType.int) : Cond) ∈ GW := GW_t (i := 806) (by decide +kernel) (by decide +kernel)
theorem wd_807 : (.methodLink "TimeFloodModel" 161 (⟨"TimeFloodModel", "take", "(I)Z"⟩ : MethodName) : Cond) ∈ GW := GW_t (i := 807) (by decide +kernel) (by decide +kernel)
theorem wd_809 : (.instanceMethod (⟨"TimeFloodModel", "take", "(I)Z"⟩ : MethodName) : Cond) ∈ GW := GW_t (i := 809) (by decide +kernel) (by decide +kernel)
theorem wd_810 : (.code (⟨"TimeFloodModel", "take", "(I)Z"⟩ : MethodName) prog_10_method_23_code 3 (Option.some FieldType.boolean) : Cond) ∈ GW := GW_t (i := 810) (by decide +kernel) (by decide +kernel)
theorem wd_811 : (.methodLink "TimeFloodModel" 148 (⟨"TimeFloodModel", "takeHead", "(I)Z"⟩ : MethodName) : Cond) ∈ GW := GW_t (i := 811) (by decide +kernel) (by decide +kernel)
theorem wd_813 : (.instanceMethod (⟨"TimeFloodModel", "takeHead", "(I)Z"⟩ : MethodName) : Cond) ∈ GW := GW_t (i := 813) (by decide +kernel) (by decide +kernel)
theorem wd_814 : (.code (⟨"TimeFloodModel", "takeHead", "(I)Z"⟩ : MethodName) prog_10_method_20_code 2 (Option.some FieldType.boolean) : Cond) ∈ GW := GW_t (i := 814) (by decide +kernel) (by decide +kernel)
theorem wd_815 : (.constantLong "TimeFloodModel" 129 (3 : Int64) : Cond) ∈ GW := GW_t (i := 815) (by decide +kernel) (by decide +kernel)
theorem wd_816 : (.constantLong "TimeFloodModel" 131 (9 : Int64) : Cond) ∈ GW := GW_t (i := 816) (by decide +kernel) (by decide +kernel)
theorem wd_817 : (.constantLong "TimeFloodModel" 133 (8 : Int64) : Cond) ∈ GW := GW_t (i := 817) (by decide +kernel) (by decide +kernel)
theorem wd_818 : (.constantLong "TimeFloodModel" 135 (32 : Int64) : Cond) ∈ GW := GW_t (i := 818) (by decide +kernel) (by decide +kernel)
theorem wd_819 : (.methodLink "TimeFloodModel" 151 (⟨"TimeFloodModel", "takeOfNode", "(I)Z"⟩ : MethodName) : Cond) ∈ GW := GW_t (i := 819) (by decide +kernel) (by decide +kernel)
theorem wd_821 : (.instanceMethod (⟨"TimeFloodModel", "takeOfNode", "(I)Z"⟩ : MethodName) : Cond) ∈ GW := GW_t (i := 821) (by decide +kernel) (by decide +kernel)
theorem wd_822 : (.code (⟨"TimeFloodModel", "takeOfNode", "(I)Z"⟩ : MethodName) prog_10_method_21_code 2 (Option.some FieldType.boolean) : Cond) ∈ GW := GW_t (i := 822) (by decide +kernel) (by decide +kernel)
theorem wd_823 : (.constantLong "TimeFloodModel" 146 (6 : Int64) : Cond) ∈ GW := GW_t (i := 823) (by decide +kernel) (by decide +kernel)
theorem wd_824 : (.methodLink "TimeFloodModel" 154 (⟨"TimeFloodModel", "takeOfLink", "(I)Z"⟩ : MethodName) : Cond) ∈ GW := GW_t (i := 824) (by decide +kernel) (by decide +kernel)
theorem wd_826 : (.instanceMethod (⟨"TimeFloodModel", "takeOfLink", "(I)Z"⟩ : MethodName) : Cond) ∈ GW := GW_t (i := 826) (by decide +kernel) (by decide +kernel)
theorem wd_827 : (.code (⟨"TimeFloodModel", "takeOfLink", "(I)Z"⟩ : MethodName) prog_10_method_22_code 3 (Option.some FieldType.boolean) : Cond) ∈ GW := GW_t (i := 827) (by decide +kernel) (by decide +kernel)
theorem wd_828 : (.methodLink "TimeFloodModel" 119 (⟨"TimeFloodModel", "isFullAsRead", "(I)Z"⟩ : MethodName) : Cond) ∈ GW := GW_t (i := 828) (by decide +kernel) (by decide +kernel)
theorem wd_830 : (.instanceMethod (⟨"TimeFloodModel", "isFullAsRead", "(I)Z"⟩ : MethodName) : Cond) ∈ GW := GW_t (i := 830) (by decide +kernel) (by decide +kernel)
theorem wd_831 : (.code (⟨"TimeFloodModel", "isFullAsRead", "(I)Z"⟩ : MethodName) prog_10_method_18_code 4 (Option.some FieldType.boolean) : Cond) ∈ GW := GW_t (i := 831) (by decide +kernel) (by decide +kernel)
theorem wd_832 : (.methodLink "TimeFloodModel" 115 (⟨"TimeFloodModel", "areLinkedAsRead", "(II)Z"⟩ : MethodName) : Cond) ∈ GW := GW_t (i := 832) (by decide +kernel) (by decide +kernel)
theorem wd_834 : (.instanceMethod (⟨"TimeFloodModel", "areLinkedAsRead", "(II)Z"⟩ : MethodName) : Cond) ∈ GW := GW_t (i := 834) (by decide +kernel) (by decide +kernel)
theorem wd_835 : (.code (⟨"TimeFloodModel", "areLinkedAsRead", "(II)Z"⟩ : MethodName) prog_10_method_17_code 5 (Option.some FieldType.boolean) : Cond) ∈ GW := GW_t (i := 835) (by decide +kernel) (by decide +kernel)
theorem wd_836 : (.methodLink "TimeFloodModel" 157 (⟨"TimeFloodModel", "mayLink", "()Z"⟩ : MethodName) : Cond) ∈ GW := GW_t (i := 836) (by decide +kernel) (by decide +kernel)
theorem wd_838 : (.instanceMethod (⟨"TimeFloodModel", "mayLink", "()Z"⟩ : MethodName) : Cond) ∈ GW := GW_t (i := 838) (by decide +kernel) (by decide +kernel)
theorem wd_839 : (.code (⟨"TimeFloodModel", "mayLink", "()Z"⟩ : MethodName) prog_10_method_19_code 3 (Option.some FieldType.boolean) : Cond) ∈ GW := GW_t (i := 839) (by decide +kernel) (by decide +kernel)
theorem wd_840 : (.methodLink "TimeFloodLaw" 30 (⟨"TimeFloodModel", "net", "()I"⟩ : MethodName) : Cond) ∈ GW := GW_t (i := 840) (by decide +kernel) (by decide +kernel)
theorem wd_841 : (.instanceMethod (⟨"TimeFloodModel", "net", "()I"⟩ : MethodName) : Cond) ∈ GW := GW_t (i := 841) (by decide +kernel) (by decide +kernel)
theorem wd_842 : (.selects "TimeFloodModel" (⟨"TimeFloodModel", "net", "()I"⟩ : MethodName) (⟨"TimeFloodModel", "net", "()I"⟩ : MethodName) : Cond) ∈ GW := GW_t (i := 842) (by decide +kernel) (by decide +kernel)
theorem wd_843 : (.code (⟨"TimeFloodModel", "net", "()I"⟩ : MethodName) prog_10_method_27_code 2 (Option.some FieldType.int) : Cond) ∈ GW := GW_t (i := 843) (by decide +kernel) (by decide +kernel)
theorem wd_844 : (.methodLink "TimeFloodModel" 171 (⟨"TimeFloodModel", "first", "([II)V"⟩ : MethodName) : Cond) ∈ GW := GW_t (i := 844) (by decide +kernel) (by decide +kernel)
theorem wd_845 : (.static (⟨"TimeFloodModel", "first", "([II)V"⟩ : MethodName) : Cond) ∈ GW := GW_t (i := 845) (by decide +kernel) (by decide +kernel)
theorem wd_846 : (.code (⟨"TimeFloodModel", "first", "([II)V"⟩ : MethodName) prog_10_method_26_code 3 none : Cond) ∈ GW := GW_t (i := 846) (by decide +kernel) (by decide +kernel)
theorem wd_847 : (.methodLink "TimeFloodLaw" 34 (⟨"TimeFloodModel", "about", "(I)I"⟩ : MethodName) : Cond) ∈ GW := GW_t (i := 847) (by decide +kernel) (by decide +kernel)
theorem wd_848 : (.instanceMethod (⟨"TimeFloodModel", "about", "(I)I"⟩ : MethodName) : Cond) ∈ GW := GW_t (i := 848) (by decide +kernel) (by decide +kernel)
theorem wd_849 : (.selects "TimeFloodModel" (⟨"TimeFloodModel", "about", "(I)I"⟩ : MethodName) (⟨"TimeFloodModel", "about", "(I)I"⟩ : MethodName) : Cond) ∈ GW := GW_t (i := 849) (by decide +kernel) (by decide +kernel)
theorem wd_850 : (.code (⟨"TimeFloodModel", "about", "(I)I"⟩ : MethodName) prog_10_method_44_code 2 (Option.some FieldType.int) : Cond) ∈ GW := GW_t (i := 850) (by decide +kernel) (by decide +kernel)
theorem wd_851 : (.methodLink "TimeFloodModel" 229 (⟨"TimeFloodModel", "those", "(Z)I"⟩ : MethodName) : Cond) ∈ GW := GW_t (i := 851) (by decide +kernel) (by decide +kernel)
theorem wd_853 : (.instanceMethod (⟨"TimeFloodModel", "those", "(Z)I"⟩ : MethodName) : Cond) ∈ GW := GW_t (i := 853) (by decide +kernel) (by decide +kernel)
theorem wd_854 : (.code (⟨"TimeFloodModel", "those", "(Z)I"⟩ : MethodName) prog_10_method_42_code 4 (Option.some FieldType.int) : Cond) ∈ GW := GW_t (i := 854) (by decide +kernel) (by decide +kernel)
theorem wd_855 : (.methodLink "TimeFloodModel" 218 (⟨"TimeFloodModel", "isOn", "([II)Z"⟩ : MethodName) : Cond) ∈ GW := GW_t (i := 855) (by decide +kernel) (by decide +kernel)
theorem wd_856 : (.static (⟨"TimeFloodModel", "isOn", "([II)Z"⟩ : MethodName) : Cond) ∈ GW := GW_t (i := 856) (by decide +kernel) (by decide +kernel)
theorem wd_857 : (.code (⟨"TimeFloodModel", "isOn", "([II)Z"⟩ : MethodName) prog_10_method_38_code 2 (Option.some FieldType.boolean) : Cond) ∈ GW := GW_t (i := 857) (by decide +kernel) (by decide +kernel)
theorem wd_858 : (.methodLink "TimeFloodModel" 233 (⟨"TimeFloodModel", "inTime", "([I)I"⟩ : MethodName) : Cond) ∈ GW := GW_t (i := 858) (by decide +kernel) (by decide +kernel)
theorem wd_860 : (.instanceMethod (⟨"TimeFloodModel", "inTime", "([I)I"⟩ : MethodName) : Cond) ∈ GW := GW_t (i := 860) (by decide +kernel) (by decide +kernel)
theorem wd_861 : (.code (⟨"TimeFloodModel", "inTime", "([I)I"⟩ : MethodName) prog_10_method_40_code 4 (Option.some FieldType.int) : Cond) ∈ GW := GW_t (i := 861) (by decide +kernel) (by decide +kernel)
theorem wd_862 : (.methodLink "TimeFloodModel" 222 (⟨"TimeFloodModel", "missOf", "([II)I"⟩ : MethodName) : Cond) ∈ GW := GW_t (i := 862) (by decide +kernel) (by decide +kernel)
theorem wd_864 : (.instanceMethod (⟨"TimeFloodModel", "missOf", "([II)I"⟩ : MethodName) : Cond) ∈ GW := GW_t (i := 864) (by decide +kernel) (by decide +kernel)
theorem wd_865 : (.code (⟨"TimeFloodModel", "missOf", "([II)I"⟩ : MethodName) prog_10_method_39_code 5 (Option.some FieldType.int) : Cond) ∈ GW := GW_t (i := 865) (by decide +kernel) (by decide +kernel)
theorem wd_866 : (.methodLink "TimeFloodModel" 192 (⟨"TimeFloodModel", "estimate", "([II)I"⟩ : MethodName) : Cond) ∈ GW := GW_t (i := 866) (by decide +kernel) (by decide +kernel)
theorem wd_868 : (.instanceMethod (⟨"TimeFloodModel", "estimate", "([II)I"⟩ : MethodName) : Cond) ∈ GW := GW_t (i := 868) (by decide +kernel) (by decide +kernel)
theorem wd_869 : (.code (⟨"TimeFloodModel", "estimate", "([II)I"⟩ : MethodName) prog_10_method_29_code 23 (Option.some FieldType.int) : Cond) ∈ GW := GW_t (i := 869) (by decide +kernel) (by decide +kernel)
theorem wd_870 : (.methodLink "TimeFloodModel" 182 (⟨"TimeFloodModel", "clockOf", "([II)I"⟩ : MethodName) : Cond) ∈ GW := GW_t (i := 870) (by decide +kernel) (by decide +kernel)
theorem wd_872 : (.instanceMethod (⟨"TimeFloodModel", "clockOf", "([II)I"⟩ : MethodName) : Cond) ∈ GW := GW_t (i := 872) (by decide +kernel) (by decide +kernel)
theorem wd_873 : (.code (⟨"TimeFloodModel", "clockOf", "([II)I"⟩ : MethodName) prog_10_method_28_code 5 (Option.some FieldType.int) : Cond) ∈ GW := GW_t (i := 873) (by decide +kernel) (by decide +kernel)
theorem wd_874 : (.constantLong "TimeFloodModel" 178 (16 : Int64) : Cond) ∈ GW := GW_t (i := 874) (by decide +kernel) (by decide +kernel)
theorem wd_875 : (.constantLong "TimeFloodModel" 180 (64 : Int64) : Cond) ∈ GW := GW_t (i := 875) (by decide +kernel) (by decide +kernel)
theorem wd_876 : (.methodLink "TimeFloodModel" 86 (⟨"TimeFloodModel", "down", "(JJ)J"⟩ : MethodName) : Cond) ∈ GW := GW_t (i := 876) (by decide +kernel) (by decide +kernel)
theorem wd_877 : (.static (⟨"TimeFloodModel", "down", "(JJ)J"⟩ : MethodName) : Cond) ∈ GW := GW_t (i := 877) (by decide +kernel) (by decide +kernel)
theorem wd_878 : (.code (⟨"TimeFloodModel", "down", "(JJ)J"⟩ : MethodName) prog_10_method_10_code 6 (Option.some FieldType.long) : Cond) ∈ GW := GW_t (i := 878) (by decide +kernel) (by decide +kernel)
theorem wd_879 : (.methodLink "TimeFloodModel" 90 (⟨"TimeFloodModel", "round", "(J)I"⟩ : MethodName) : Cond) ∈ GW := GW_t (i := 879) (by decide +kernel) (by decide +kernel)
theorem wd_880 : (.static (⟨"TimeFloodModel", "round", "(J)I"⟩ : MethodName) : Cond) ∈ GW := GW_t (i := 880) (by decide +kernel) (by decide +kernel)
theorem wd_881 : (.code (⟨"TimeFloodModel", "round", "(J)I"⟩ : MethodName) prog_10_method_11_code 2 (Option.some FieldType.int) : Cond) ∈ GW := GW_t (i := 881) (by decide +kernel) (by decide +kernel)
theorem wd_882 : (.constantLong "TimeFloodModel" 84 (1024 : Int64) : Cond) ∈ GW := GW_t (i := 882) (by decide +kernel) (by decide +kernel)
theorem wd_883 : (.methodLink "TimeFloodModel" 186 (⟨"TimeFloodModel", "near", "(J)I"⟩ : MethodName) : Cond) ∈ GW := GW_t (i := 883) (by decide +kernel) (by decide +kernel)
theorem wd_884 : (.static (⟨"TimeFloodModel", "near", "(J)I"⟩ : MethodName) : Cond) ∈ GW := GW_t (i := 884) (by decide +kernel) (by decide +kernel)
theorem wd_885 : (.code (⟨"TimeFloodModel", "near", "(J)I"⟩ : MethodName) prog_10_method_12_code 3 (Option.some FieldType.int) : Cond) ∈ GW := GW_t (i := 885) (by decide +kernel) (by decide +kernel)
theorem wd_886 : (.constantLong "TimeFloodModel" 225 (997 : Int64) : Cond) ∈ GW := GW_t (i := 886) (by decide +kernel) (by decide +kernel)
theorem wd_887 : (.constantLong "TimeFloodModel" 227 (1003 : Int64) : Cond) ∈ GW := GW_t (i := 887) (by decide +kernel) (by decide +kernel)
theorem wd_888 : (.methodLink "TimeFloodModel" 237 (⟨"TimeFloodModel", "downs", "()I"⟩ : MethodName) : Cond) ∈ GW := GW_t (i := 888) (by decide +kernel) (by decide +kernel)
theorem wd_890 : (.instanceMethod (⟨"TimeFloodModel", "downs", "()I"⟩ : MethodName) : Cond) ∈ GW := GW_t (i := 890) (by decide +kernel) (by decide +kernel)
theorem wd_891 : (.code (⟨"TimeFloodModel", "downs", "()I"⟩ : MethodName) prog_10_method_43_code 3 (Option.some FieldType.int) : Cond) ∈ GW := GW_t (i := 891) (by decide +kernel) (by decide +kernel)
theorem wd_892 : (.methodLink "TimeFloodModel" 240 (⟨"TimeFloodModel", "isOne", "([I)Z"⟩ : MethodName) : Cond) ∈ GW := GW_t (i := 892) (by decide +kernel) (by decide +kernel)
theorem wd_894 : (.instanceMethod (⟨"TimeFloodModel", "isOne", "([I)Z"⟩ : MethodName) : Cond) ∈ GW := GW_t (i := 894) (by decide +kernel) (by decide +kernel)
theorem wd_895 : (.code (⟨"TimeFloodModel", "isOne", "([I)Z"⟩ : MethodName) prog_10_method_41_code 7 (Option.some FieldType.boolean) : Cond) ∈ GW := GW_t (i := 895) (by decide +kernel) (by decide +kernel)
theorem wd_896 : (.methodLink "TimeFloodLaw" 39 (⟨"TimeFloodModel", "node", "(II)I"⟩ : MethodName) : Cond) ∈ GW := GW_t (i := 896) (by decide +kernel) (by decide +kernel)
theorem wd_897 : (.instanceMethod (⟨"TimeFloodModel", "node", "(II)I"⟩ : MethodName) : Cond) ∈ GW := GW_t (i := 897) (by decide +kernel) (by decide +kernel)
theorem wd_898 : (.selects "TimeFloodModel" (⟨"TimeFloodModel", "node", "(II)I"⟩ : MethodName) (⟨"TimeFloodModel", "node", "(II)I"⟩ : MethodName) : Cond) ∈ GW := GW_t (i := 898) (by decide +kernel) (by decide +kernel)
theorem wd_899 : (.code (⟨"TimeFloodModel", "node", "(II)I"⟩ : MethodName) prog_10_method_46_code 3 (Option.some FieldType.int) : Cond) ∈ GW := GW_t (i := 899) (by decide +kernel) (by decide +kernel)
theorem wd_900 : (.methodLink "TimeFloodModel" 251 (⟨"TimeFloodModel", "isNode", "(I)Z"⟩ : MethodName) : Cond) ∈ GW := GW_t (i := 900) (by decide +kernel) (by decide +kernel)
theorem wd_902 : (.instanceMethod (⟨"TimeFloodModel", "isNode", "(I)Z"⟩ : MethodName) : Cond) ∈ GW := GW_t (i := 902) (by decide +kernel) (by decide +kernel)
theorem wd_903 : (.code (⟨"TimeFloodModel", "isNode", "(I)Z"⟩ : MethodName) prog_10_method_13_code 2 (Option.some FieldType.boolean) : Cond) ∈ GW := GW_t (i := 903) (by decide +kernel) (by decide +kernel)
theorem wd_904 : (.methodLink "TimeFloodModel" 254 (⟨"TimeFloodModel", "tell", "([III)I"⟩ : MethodName) : Cond) ∈ GW := GW_t (i := 904) (by decide +kernel) (by decide +kernel)
theorem wd_906 : (.instanceMethod (⟨"TimeFloodModel", "tell", "([III)I"⟩ : MethodName) : Cond) ∈ GW := GW_t (i := 906) (by decide +kernel) (by decide +kernel)
theorem wd_907 : (.code (⟨"TimeFloodModel", "tell", "([III)I"⟩ : MethodName) prog_10_method_45_code 5 (Option.some FieldType.int) : Cond) ∈ GW := GW_t (i := 907) (by decide +kernel) (by decide +kernel)
theorem wd_908 : (.constantLong "TimeFloodModel" 247 (4 : Int64) : Cond) ∈ GW := GW_t (i := 908) (by decide +kernel) (by decide +kernel)
theorem wd_909 : (.constantLong "TimeFloodModel" 249 (10 : Int64) : Cond) ∈ GW := GW_t (i := 909) (by decide +kernel) (by decide +kernel)
theorem wd_910 : (.methodLink "TimeFloodLaw" 44 (⟨"TimeFloodModel", "stamp", "(III)I"⟩ : MethodName) : Cond) ∈ GW := GW_t (i := 910) (by decide +kernel) (by decide +kernel)
theorem wd_911 : (.instanceMethod (⟨"TimeFloodModel", "stamp", "(III)I"⟩ : MethodName) : Cond) ∈ GW := GW_t (i := 911) (by decide +kernel) (by decide +kernel)
theorem wd_912 : (.selects "TimeFloodModel" (⟨"TimeFloodModel", "stamp", "(III)I"⟩ : MethodName) (⟨"TimeFloodModel", "stamp", "(III)I"⟩ : MethodName) : Cond) ∈ GW := GW_t (i := 912) (by decide +kernel) (by decide +kernel)
theorem wd_913 : (.code (⟨"TimeFloodModel", "stamp", "(III)I"⟩ : MethodName) prog_10_method_47_code 4 (Option.some FieldType.int) : Cond) ∈ GW := GW_t (i := 913) (by decide +kernel) (by decide +kernel)
theorem wd_914 : (.constantLong "TimeFloodModel" 258 (2 : Int64) : Cond) ∈ GW := GW_t (i := 914) (by decide +kernel) (by decide +kernel)
theorem wd_915 : (.methodLink "TimeFloodLaw" 48 (⟨"TimeFloodModel", "link", "(II)I"⟩ : MethodName) : Cond) ∈ GW := GW_t (i := 915) (by decide +kernel) (by decide +kernel)
theorem wd_916 : (.instanceMethod (⟨"TimeFloodModel", "link", "(II)I"⟩ : MethodName) : Cond) ∈ GW := GW_t (i := 916) (by decide +kernel) (by decide +kernel)
theorem wd_917 : (.selects "TimeFloodModel" (⟨"TimeFloodModel", "link", "(II)I"⟩ : MethodName) (⟨"TimeFloodModel", "link", "(II)I"⟩ : MethodName) : Cond) ∈ GW := GW_t (i := 917) (by decide +kernel) (by decide +kernel)
theorem wd_918 : (.code (⟨"TimeFloodModel", "link", "(II)I"⟩ : MethodName) prog_10_method_48_code 4 (Option.some FieldType.int) : Cond) ∈ GW := GW_t (i := 918) (by decide +kernel) (by decide +kernel)
theorem wd_919 : (.methodLink "TimeFloodModel" 260 (⟨"TimeFloodModel", "isLink", "(I)Z"⟩ : MethodName) : Cond) ∈ GW := GW_t (i := 919) (by decide +kernel) (by decide +kernel)
theorem wd_921 : (.instanceMethod (⟨"TimeFloodModel", "isLink", "(I)Z"⟩ : MethodName) : Cond) ∈ GW := GW_t (i := 921) (by decide +kernel) (by decide +kernel)
theorem wd_922 : (.code (⟨"TimeFloodModel", "isLink", "(I)Z"⟩ : MethodName) prog_10_method_14_code 2 (Option.some FieldType.boolean) : Cond) ∈ GW := GW_t (i := 922) (by decide +kernel) (by decide +kernel)
theorem wd_923 : (.methodLink "TimeFloodLaw" 52 (⟨"TimeFloodModel", "period", "(I)I"⟩ : MethodName) : Cond) ∈ GW := GW_t (i := 923) (by decide +kernel) (by decide +kernel)
theorem wd_924 : (.instanceMethod (⟨"TimeFloodModel", "period", "(I)I"⟩ : MethodName) : Cond) ∈ GW := GW_t (i := 924) (by decide +kernel) (by decide +kernel)
theorem wd_925 : (.selects "TimeFloodModel" (⟨"TimeFloodModel", "period", "(I)I"⟩ : MethodName) (⟨"TimeFloodModel", "period", "(I)I"⟩ : MethodName) : Cond) ∈ GW := GW_t (i := 925) (by decide +kernel) (by decide +kernel)
theorem wd_926 : (.code (⟨"TimeFloodModel", "period", "(I)I"⟩ : MethodName) prog_10_method_50_code 3 (Option.some FieldType.int) : Cond) ∈ GW := GW_t (i := 926) (by decide +kernel) (by decide +kernel)
theorem wd_927 : (.constantLong "TimeFloodModel" 266 (99 : Int64) : Cond) ∈ GW := GW_t (i := 927) (by decide +kernel) (by decide +kernel)
theorem wd_928 : (.methodLink "TimeFloodModel" 268 (⟨"TimeFloodModel", "note", "()V"⟩ : MethodName) : Cond) ∈ GW := GW_t (i := 928) (by decide +kernel) (by decide +kernel)
theorem wd_930 : (.instanceMethod (⟨"TimeFloodModel", "note", "()V"⟩ : MethodName) : Cond) ∈ GW := GW_t (i := 930) (by decide +kernel) (by decide +kernel)
theorem wd_931 : (.code (⟨"TimeFloodModel", "note", "()V"⟩ : MethodName) prog_10_method_49_code 2 none : Cond) ∈ GW := GW_t (i := 931) (by decide +kernel) (by decide +kernel)
theorem wd_932 : (.methodLink "TimeFloodModel" 215 (⟨"TimeFloodModel", "goOn", "([I)V"⟩ : MethodName) : Cond) ∈ GW := GW_t (i := 932) (by decide +kernel) (by decide +kernel)
theorem wd_934 : (.instanceMethod (⟨"TimeFloodModel", "goOn", "([I)V"⟩ : MethodName) : Cond) ∈ GW := GW_t (i := 934) (by decide +kernel) (by decide +kernel)
theorem wd_935 : (.code (⟨"TimeFloodModel", "goOn", "([I)V"⟩ : MethodName) prog_10_method_36_code 4 none : Cond) ∈ GW := GW_t (i := 935) (by decide +kernel) (by decide +kernel)
theorem wd_936 : (.methodLink "TimeFloodModel" 201 (⟨"TimeFloodModel", "goOne", "([II)V"⟩ : MethodName) : Cond) ∈ GW := GW_t (i := 936) (by decide +kernel) (by decide +kernel)
theorem wd_938 : (.instanceMethod (⟨"TimeFloodModel", "goOne", "([II)V"⟩ : MethodName) : Cond) ∈ GW := GW_t (i := 938) (by decide +kernel) (by decide +kernel)
theorem wd_939 : (.code (⟨"TimeFloodModel", "goOne", "([II)V"⟩ : MethodName) prog_10_method_31_code 4 none : Cond) ∈ GW := GW_t (i := 939) (by decide +kernel) (by decide +kernel)
theorem wd_940 : (.methodLink "TimeFloodModel" 189 (⟨"TimeFloodModel", "dropOld", "([II)V"⟩ : MethodName) : Cond) ∈ GW := GW_t (i := 940) (by decide +kernel) (by decide +kernel)
theorem wd_942 : (.instanceMethod (⟨"TimeFloodModel", "dropOld", "([II)V"⟩ : MethodName) : Cond) ∈ GW := GW_t (i := 942) (by decide +kernel) (by decide +kernel)
theorem wd_943 : (.code (⟨"TimeFloodModel", "dropOld", "([II)V"⟩ : MethodName) prog_10_method_30_code 7 none : Cond) ∈ GW := GW_t (i := 943) (by decide +kernel) (by decide +kernel)
theorem wd_944 : (.methodLink "TimeFloodModel" 204 (⟨"TimeFloodModel", "laySent", "([I)V"⟩ : MethodName) : Cond) ∈ GW := GW_t (i := 944) (by decide +kernel) (by decide +kernel)
theorem wd_946 : (.instanceMethod (⟨"TimeFloodModel", "laySent", "([I)V"⟩ : MethodName) : Cond) ∈ GW := GW_t (i := 946) (by decide +kernel) (by decide +kernel)
theorem wd_947 : (.code (⟨"TimeFloodModel", "laySent", "([I)V"⟩ : MethodName) prog_10_method_32_code 4 none : Cond) ∈ GW := GW_t (i := 947) (by decide +kernel) (by decide +kernel)
theorem wd_948 : (.methodLink "TimeFloodModel" 208 (⟨"TimeFloodModel", "areBeside", "([III)Z"⟩ : MethodName) : Cond) ∈ GW := GW_t (i := 948) (by decide +kernel) (by decide +kernel)
theorem wd_950 : (.instanceMethod (⟨"TimeFloodModel", "areBeside", "([III)Z"⟩ : MethodName) : Cond) ∈ GW := GW_t (i := 950) (by decide +kernel) (by decide +kernel)
theorem wd_951 : (.code (⟨"TimeFloodModel", "areBeside", "([III)Z"⟩ : MethodName) prog_10_method_33_code 7 (Option.some FieldType.boolean) : Cond) ∈ GW := GW_t (i := 951) (by decide +kernel) (by decide +kernel)
theorem wd_952 : (.methodLink "TimeFloodModel" 212 (⟨"TimeFloodModel", "hear", "([III)V"⟩ : MethodName) : Cond) ∈ GW := GW_t (i := 952) (by decide +kernel) (by decide +kernel)
theorem wd_954 : (.instanceMethod (⟨"TimeFloodModel", "hear", "([III)V"⟩ : MethodName) : Cond) ∈ GW := GW_t (i := 954) (by decide +kernel) (by decide +kernel)
theorem wd_955 : (.code (⟨"TimeFloodModel", "hear", "([III)V"⟩ : MethodName) prog_10_method_35_code 10 none : Cond) ∈ GW := GW_t (i := 955) (by decide +kernel) (by decide +kernel)
theorem wd_956 : (.constantLong "TimeFloodModel" 195 (31 : Int64) : Cond) ∈ GW := GW_t (i := 956) (by decide +kernel) (by decide +kernel)
theorem wd_957 : (.methodLink "TimeFloodModel" 197 (⟨"TimeFloodModel", "stampOn", "([III)V"⟩ : MethodName) : Cond) ∈ GW := GW_t (i := 957) (by decide +kernel) (by decide +kernel)
theorem wd_959 : (.instanceMethod (⟨"TimeFloodModel", "stampOn", "([III)V"⟩ : MethodName) : Cond) ∈ GW := GW_t (i := 959) (by decide +kernel) (by decide +kernel)
theorem wd_960 : (.code (⟨"TimeFloodModel", "stampOn", "([III)V"⟩ : MethodName) prog_10_method_34_code 6 none : Cond) ∈ GW := GW_t (i := 960) (by decide +kernel) (by decide +kernel)
theorem wd_961 : (.methodLink "TimeFloodModel" 271 (⟨"TimeFloodModel", "ones", "(I)I"⟩ : MethodName) : Cond) ∈ GW := GW_t (i := 961) (by decide +kernel) (by decide +kernel)
theorem wd_962 : (.static (⟨"TimeFloodModel", "ones", "(I)I"⟩ : MethodName) : Cond) ∈ GW := GW_t (i := 962) (by decide +kernel) (by decide +kernel)
theorem wd_963 : (.code (⟨"TimeFloodModel", "ones", "(I)I"⟩ : MethodName) prog_10_method_6_code 3 (Option.some FieldType.int) : Cond) ∈ GW := GW_t (i := 963) (by decide +kernel) (by decide +kernel)
theorem wd_964 : (.methodLink "TimeFloodLaw" 56 (⟨"TimeFloodModel", "turn", "(I)I"⟩ : MethodName) : Cond) ∈ GW := GW_t (i := 964) (by decide +kernel) (by decide +kernel)
theorem wd_965 : (.instanceMethod (⟨"TimeFloodModel", "turn", "(I)I"⟩ : MethodName) : Cond) ∈ GW := GW_t (i := 965) (by decide +kernel) (by decide +kernel)
theorem wd_966 : (.selects "TimeFloodModel" (⟨"TimeFloodModel", "turn", "(I)I"⟩ : MethodName) (⟨"TimeFloodModel", "turn", "(I)I"⟩ : MethodName) : Cond) ∈ GW := GW_t (i := 966) (by decide +kernel) (by decide +kernel)
theorem wd_967 : (.code (⟨"TimeFloodModel", "turn", "(I)I"⟩ : MethodName) prog_10_method_51_code 2 (Option.some FieldType.int) : Cond) ∈ GW := GW_t (i := 967) (by decide +kernel) (by decide +kernel)
theorem wd_968 : (.methodLink "TimeFloodLaw" 60 (⟨"TimeFloodModel", "power", "(I)I"⟩ : MethodName) : Cond) ∈ GW := GW_t (i := 968) (by decide +kernel) (by decide +kernel)
theorem wd_969 : (.instanceMethod (⟨"TimeFloodModel", "power", "(I)I"⟩ : MethodName) : Cond) ∈ GW := GW_t (i := 969) (by decide +kernel) (by decide +kernel)
theorem wd_970 : (.selects "TimeFloodModel" (⟨"TimeFloodModel", "power", "(I)I"⟩ : MethodName) (⟨"TimeFloodModel", "power", "(I)I"⟩ : MethodName) : Cond) ∈ GW := GW_t (i := 970) (by decide +kernel) (by decide +kernel)
theorem wd_971 : (.code (⟨"TimeFloodModel", "power", "(I)I"⟩ : MethodName) prog_10_method_53_code 2 (Option.some FieldType.int) : Cond) ∈ GW := GW_t (i := 971) (by decide +kernel) (by decide +kernel)
theorem wd_972 : (.methodLink "TimeFloodModel" 275 (⟨"TimeFloodModel", "powerOn", "([II)V"⟩ : MethodName) : Cond) ∈ GW := GW_t (i := 972) (by decide +kernel) (by decide +kernel)
theorem wd_973 : (.static (⟨"TimeFloodModel", "powerOn", "([II)V"⟩ : MethodName) : Cond) ∈ GW := GW_t (i := 973) (by decide +kernel) (by decide +kernel)
theorem wd_974 : (.code (⟨"TimeFloodModel", "powerOn", "([II)V"⟩ : MethodName) prog_10_method_52_code 2 none : Cond) ∈ GW := GW_t (i := 974) (by decide +kernel) (by decide +kernel)
theorem wd_975 : (.methodLink "TimeFloodLaw" 64 (⟨"TimeFloodModel", "drift", "(II)I"⟩ : MethodName) : Cond) ∈ GW := GW_t (i := 975) (by decide +kernel) (by decide +kernel)
theorem wd_976 : (.instanceMethod (⟨"TimeFloodModel", "drift", "(II)I"⟩ : MethodName) : Cond) ∈ GW := GW_t (i := 976) (by decide +kernel) (by decide +kernel)
theorem wd_977 : (.selects "TimeFloodModel" (⟨"TimeFloodModel", "drift", "(II)I"⟩ : MethodName) (⟨"TimeFloodModel", "drift", "(II)I"⟩ : MethodName) : Cond) ∈ GW := GW_t (i := 977) (by decide +kernel) (by decide +kernel)
theorem wd_978 : (.code (⟨"TimeFloodModel", "drift", "(II)I"⟩ : MethodName) prog_10_method_54_code 3 (Option.some FieldType.int) : Cond) ∈ GW := GW_t (i := 978) (by decide +kernel) (by decide +kernel)
theorem wd_979 : (.constantLong "TimeFloodModel" 278 (-4 : Int64) : Cond) ∈ GW := GW_t (i := 979) (by decide +kernel) (by decide +kernel)
theorem wd_980 : (.constantLong "TimeFloodModel" 280 (5 : Int64) : Cond) ∈ GW := GW_t (i := 980) (by decide +kernel) (by decide +kernel)
theorem wd_981 : (.methodLink "TimeFloodLaw" 68 (⟨"TimeFloodModel", "undo", "()I"⟩ : MethodName) : Cond) ∈ GW := GW_t (i := 981) (by decide +kernel) (by decide +kernel)
theorem wd_982 : (.instanceMethod (⟨"TimeFloodModel", "undo", "()I"⟩ : MethodName) : Cond) ∈ GW := GW_t (i := 982) (by decide +kernel) (by decide +kernel)
theorem wd_983 : (.selects "TimeFloodModel" (⟨"TimeFloodModel", "undo", "()I"⟩ : MethodName) (⟨"TimeFloodModel", "undo", "()I"⟩ : MethodName) : Cond) ∈ GW := GW_t (i := 983) (by decide +kernel) (by decide +kernel)
theorem wd_984 : (.code (⟨"TimeFloodModel", "undo", "()I"⟩ : MethodName) prog_10_method_55_code 2 (Option.some FieldType.int) : Cond) ∈ GW := GW_t (i := 984) (by decide +kernel) (by decide +kernel)
theorem wd_985 : (.methodLink "TimeFloodLaw" 72 (⟨"TimeFloodModel", "ahead", "(III)I"⟩ : MethodName) : Cond) ∈ GW := GW_t (i := 985) (by decide +kernel) (by decide +kernel)
theorem wd_986 : (.instanceMethod (⟨"TimeFloodModel", "ahead", "(III)I"⟩ : MethodName) : Cond) ∈ GW := GW_t (i := 986) (by decide +kernel) (by decide +kernel)
theorem wd_987 : (.selects "TimeFloodModel" (⟨"TimeFloodModel", "ahead", "(III)I"⟩ : MethodName) (⟨"TimeFloodModel", "ahead", "(III)I"⟩ : MethodName) : Cond) ∈ GW := GW_t (i := 987) (by decide +kernel) (by decide +kernel)
theorem wd_988 : (.code (⟨"TimeFloodModel", "ahead", "(III)I"⟩ : MethodName) prog_10_method_56_code 4 (Option.some FieldType.int) : Cond) ∈ GW := GW_t (i := 988) (by decide +kernel) (by decide +kernel)
theorem wd_989 : (.methodLink "TimeFloodModel" 282 (⟨"TimeFloodModel", "copy", "([I[I)V"⟩ : MethodName) : Cond) ∈ GW := GW_t (i := 989) (by decide +kernel) (by decide +kernel)
theorem wd_990 : (.static (⟨"TimeFloodModel", "copy", "([I[I)V"⟩ : MethodName) : Cond) ∈ GW := GW_t (i := 990) (by decide +kernel) (by decide +kernel)
theorem wd_991 : (.code (⟨"TimeFloodModel", "copy", "([I[I)V"⟩ : MethodName) prog_10_method_3_code 3 none : Cond) ∈ GW := GW_t (i := 991) (by decide +kernel) (by decide +kernel)
theorem wd_992 : (.methodLink "TimeFloodModel" 286 (⟨"TimeFloodModel", "tryPeriods", "(I)V"⟩ : MethodName) : Cond) ∈ GW := GW_t (i := 992) (by decide +kernel) (by decide +kernel)
theorem wd_994 : (.instanceMethod (⟨"TimeFloodModel", "tryPeriods", "(I)V"⟩ : MethodName) : Cond) ∈ GW := GW_t (i := 994) (by decide +kernel) (by decide +kernel)
theorem wd_995 : (.code (⟨"TimeFloodModel", "tryPeriods", "(I)V"⟩ : MethodName) prog_10_method_37_code 3 none : Cond) ∈ GW := GW_t (i := 995) (by decide +kernel) (by decide +kernel)
theorem wd_996 : (.methodLink "TimeFloodLaw" 76 (⟨"TimeFloodModel", "agree", "()I"⟩ : MethodName) : Cond) ∈ GW := GW_t (i := 996) (by decide +kernel) (by decide +kernel)
theorem wd_997 : (.instanceMethod (⟨"TimeFloodModel", "agree", "()I"⟩ : MethodName) : Cond) ∈ GW := GW_t (i := 997) (by decide +kernel) (by decide +kernel)
theorem wd_998 : (.selects "TimeFloodModel" (⟨"TimeFloodModel", "agree", "()I"⟩ : MethodName) (⟨"TimeFloodModel", "agree", "()I"⟩ : MethodName) : Cond) ∈ GW := GW_t (i := 998) (by decide +kernel) (by decide +kernel)
theorem wd_999 : (.code (⟨"TimeFloodModel", "agree", "()I"⟩ : MethodName) prog_10_method_57_code 2 (Option.some FieldType.int) : Cond) ∈ GW := GW_t (i := 999) (by decide +kernel) (by decide +kernel)
theorem wd_1000 : (.methodLink "TimeFloodLaw" 83 (⟨"TimeFloodModel", "judge", "(IJ)I"⟩ : MethodName) : Cond) ∈ GW := GW_t (i := 1000) (by decide +kernel) (by decide +kernel)
theorem wd_1001 : (.instanceMethod (⟨"TimeFloodModel", "judge", "(IJ)I"⟩ : MethodName) : Cond) ∈ GW := GW_t (i := 1001) (by decide +kernel) (by decide +kernel)
theorem wd_1002 : (.selects "TimeFloodModel" (⟨"TimeFloodModel", "judge", "(IJ)I"⟩ : MethodName) (⟨"TimeFloodModel", "judge", "(IJ)I"⟩ : MethodName) : Cond) ∈ GW := GW_t (i := 1002) (by decide +kernel) (by decide +kernel)
theorem wd_1003 : (.code (⟨"TimeFloodModel", "judge", "(IJ)I"⟩ : MethodName) prog_10_method_60_code 6 (Option.some FieldType.int) : Cond) ∈ GW := GW_t (i := 1003) (by decide +kernel) (by decide +kernel)
theorem wd_1004 : (.methodLink "TimeFloodModel" 295 (⟨"TimeFloodModel", "thousands", "(I)J"⟩ : MethodName) : Cond) ∈ GW := GW_t (i := 1004) (by decide +kernel) (by decide +kernel)
theorem wd_1005 : (.static (⟨"TimeFloodModel", "thousands", "(I)J"⟩ : MethodName) : Cond) ∈ GW := GW_t (i := 1005) (by decide +kernel) (by decide +kernel)
theorem wd_1006 : (.code (⟨"TimeFloodModel", "thousands", "(I)J"⟩ : MethodName) prog_10_method_59_code 4 (Option.some FieldType.long) : Cond) ∈ GW := GW_t (i := 1006) (by decide +kernel) (by decide +kernel)
theorem wd_1007 : (.constantLong "TimeFloodModel" 293 (1000 : Int64) : Cond) ∈ GW := GW_t (i := 1007) (by decide +kernel) (by decide +kernel)
theorem wd_1008 : (.methodLink "TimeFloodModel" 299 (⟨"TimeFloodModel", "judged", "(III)Z"⟩ : MethodName) : Cond) ∈ GW := GW_t (i := 1008) (by decide +kernel) (by decide +kernel)
theorem wd_1010 : (.instanceMethod (⟨"TimeFloodModel", "judged", "(III)Z"⟩ : MethodName) : Cond) ∈ GW := GW_t (i := 1010) (by decide +kernel) (by decide +kernel)
theorem wd_1011 : (.code (⟨"TimeFloodModel", "judged", "(III)Z"⟩ : MethodName) prog_10_method_58_code 4 (Option.some FieldType.boolean) : Cond) ∈ GW := GW_t (i := 1011) (by decide +kernel) (by decide +kernel)
theorem wd_1012 : (.methodLink "TimeFloodModel" 290 (⟨"TimeFloodModel", "has", "(II)Z"⟩ : MethodName) : Cond) ∈ GW := GW_t (i := 1012) (by decide +kernel) (by decide +kernel)
theorem wd_1013 : (.static (⟨"TimeFloodModel", "has", "(II)Z"⟩ : MethodName) : Cond) ∈ GW := GW_t (i := 1013) (by decide +kernel) (by decide +kernel)
theorem wd_1014 : (.code (⟨"TimeFloodModel", "has", "(II)Z"⟩ : MethodName) prog_10_method_5_code 2 (Option.some FieldType.boolean) : Cond) ∈ GW := GW_t (i := 1014) (by decide +kernel) (by decide +kernel)
theorem wd_1015 : (.methodLink "TimeFloodLaw" 87 (⟨"TimeFloodModel", "see", "(III)I"⟩ : MethodName) : Cond) ∈ GW := GW_t (i := 1015) (by decide +kernel) (by decide +kernel)
theorem wd_1016 : (.instanceMethod (⟨"TimeFloodModel", "see", "(III)I"⟩ : MethodName) : Cond) ∈ GW := GW_t (i := 1016) (by decide +kernel) (by decide +kernel)
theorem wd_1017 : (.selects "TimeFloodModel" (⟨"TimeFloodModel", "see", "(III)I"⟩ : MethodName) (⟨"TimeFloodModel", "see", "(III)I"⟩ : MethodName) : Cond) ∈ GW := GW_t (i := 1017) (by decide +kernel) (by decide +kernel)
theorem wd_1018 : (.code (⟨"TimeFloodModel", "see", "(III)I"⟩ : MethodName) prog_10_method_61_code 4 (Option.some FieldType.int) : Cond) ∈ GW := GW_t (i := 1018) (by decide +kernel) (by decide +kernel)
theorem wd_1019 : (.constantLong "TimeFloodModel" 303 (20 : Int64) : Cond) ∈ GW := GW_t (i := 1019) (by decide +kernel) (by decide +kernel)
theorem wd_1020 : (.methodLink "TimeFloodLaw" 91 (⟨"TimeFloodModel", "unsee", "()I"⟩ : MethodName) : Cond) ∈ GW := GW_t (i := 1020) (by decide +kernel) (by decide +kernel)
theorem wd_1021 : (.instanceMethod (⟨"TimeFloodModel", "unsee", "()I"⟩ : MethodName) : Cond) ∈ GW := GW_t (i := 1021) (by decide +kernel) (by decide +kernel)
theorem wd_1022 : (.selects "TimeFloodModel" (⟨"TimeFloodModel", "unsee", "()I"⟩ : MethodName) (⟨"TimeFloodModel", "unsee", "()I"⟩ : MethodName) : Cond) ∈ GW := GW_t (i := 1022) (by decide +kernel) (by decide +kernel)
theorem wd_1023 : (.code (⟨"TimeFloodModel", "unsee", "()I"⟩ : MethodName) prog_10_method_62_code 2 (Option.some FieldType.int) : Cond) ∈ GW := GW_t (i := 1023) (by decide +kernel) (by decide +kernel)
theorem wd_1024 : (.methodLink "TimeFloodLaw" 95 (⟨"TimeFloodModel", "which", "()I"⟩ : MethodName) : Cond) ∈ GW := GW_t (i := 1024) (by decide +kernel) (by decide +kernel)
theorem wd_1025 : (.instanceMethod (⟨"TimeFloodModel", "which", "()I"⟩ : MethodName) : Cond) ∈ GW := GW_t (i := 1025) (by decide +kernel) (by decide +kernel)
theorem wd_1026 : (.selects "TimeFloodModel" (⟨"TimeFloodModel", "which", "()I"⟩ : MethodName) (⟨"TimeFloodModel", "which", "()I"⟩ : MethodName) : Cond) ∈ GW := GW_t (i := 1026) (by decide +kernel) (by decide +kernel)
theorem wd_1027 : (.code (⟨"TimeFloodModel", "which", "()I"⟩ : MethodName) prog_10_method_64_code 5 (Option.some FieldType.int) : Cond) ∈ GW := GW_t (i := 1027) (by decide +kernel) (by decide +kernel)
theorem wd_1028 : (.methodLink "TimeFloodModel" 305 (⟨"TimeFloodModel", "isSoBy", "(II)Z"⟩ : MethodName) : Cond) ∈ GW := GW_t (i := 1028) (by decide +kernel) (by decide +kernel)
theorem wd_1030 : (.instanceMethod (⟨"TimeFloodModel", "isSoBy", "(II)Z"⟩ : MethodName) : Cond) ∈ GW := GW_t (i := 1030) (by decide +kernel) (by decide +kernel)
theorem wd_1031 : (.code (⟨"TimeFloodModel", "isSoBy", "(II)Z"⟩ : MethodName) prog_10_method_63_code 5 (Option.some FieldType.boolean) : Cond) ∈ GW := GW_t (i := 1031) (by decide +kernel) (by decide +kernel)
theorem wd_1032 : (.methodLink "TimeFloodLaw" 100 (⟨"TimeFloodModel", "share", "(IZ)I"⟩ : MethodName) : Cond) ∈ GW := GW_t (i := 1032) (by decide +kernel) (by decide +kernel)
theorem wd_1033 : (.instanceMethod (⟨"TimeFloodModel", "share", "(IZ)I"⟩ : MethodName) : Cond) ∈ GW := GW_t (i := 1033) (by decide +kernel) (by decide +kernel)
theorem wd_1034 : (.selects "TimeFloodModel" (⟨"TimeFloodModel", "share", "(IZ)I"⟩ : MethodName) (⟨"TimeFloodModel", "share", "(IZ)I"⟩ : MethodName) : Cond) ∈ GW := GW_t (i := 1034) (by decide +kernel) (by decide +kernel)
theorem wd_1035 : (.code (⟨"TimeFloodModel", "share", "(IZ)I"⟩ : MethodName) prog_10_method_66_code 8 (Option.some FieldType.int) : Cond) ∈ GW := GW_t (i := 1035) (by decide +kernel) (by decide +kernel)
theorem wd_1036 : (.methodLink "TimeFloodModel" 308 (⟨"TimeFloodModel", "inTimeBy", "(I)I"⟩ : MethodName) : Cond) ∈ GW := GW_t (i := 1036) (by decide +kernel) (by decide +kernel)
theorem wd_1038 : (.instanceMethod (⟨"TimeFloodModel", "inTimeBy", "(I)I"⟩ : MethodName) : Cond) ∈ GW := GW_t (i := 1038) (by decide +kernel) (by decide +kernel)
theorem wd_1039 : (.code (⟨"TimeFloodModel", "inTimeBy", "(I)I"⟩ : MethodName) prog_10_method_65_code 3 (Option.some FieldType.int) : Cond) ∈ GW := GW_t (i := 1039) (by decide +kernel) (by decide +kernel)
theorem wd_1040 : (.methodLink "TimeFloodModel" 311 (⟨"TimeFloodModel", "factorial", "(I)I"⟩ : MethodName) : Cond) ∈ GW := GW_t (i := 1040) (by decide +kernel) (by decide +kernel)
theorem wd_1041 : (.static (⟨"TimeFloodModel", "factorial", "(I)I"⟩ : MethodName) : Cond) ∈ GW := GW_t (i := 1041) (by decide +kernel) (by decide +kernel)
theorem wd_1042 : (.code (⟨"TimeFloodModel", "factorial", "(I)I"⟩ : MethodName) prog_10_method_8_code 3 (Option.some FieldType.int) : Cond) ∈ GW := GW_t (i := 1042) (by decide +kernel) (by decide +kernel)
theorem wd_1043 : (.methodLink "TimeFloodModel" 314 (⟨"TimeFloodModel", "fraction", "(IIZ)I"⟩ : MethodName) : Cond) ∈ GW := GW_t (i := 1043) (by decide +kernel) (by decide +kernel)
theorem wd_1044 : (.static (⟨"TimeFloodModel", "fraction", "(IIZ)I"⟩ : MethodName) : Cond) ∈ GW := GW_t (i := 1044) (by decide +kernel) (by decide +kernel)
theorem wd_1045 : (.code (⟨"TimeFloodModel", "fraction", "(IIZ)I"⟩ : MethodName) prog_10_method_9_code 6 (Option.some FieldType.int) : Cond) ∈ GW := GW_t (i := 1045) (by decide +kernel) (by decide +kernel)
theorem wd_1046 : (.methodLink "TimeFloodLaw" 105 (⟨"TimeFloodModel", "chance", "(IIZ)I"⟩ : MethodName) : Cond) ∈ GW := GW_t (i := 1046) (by decide +kernel) (by decide +kernel)
theorem wd_1047 : (.instanceMethod (⟨"TimeFloodModel", "chance", "(IIZ)I"⟩ : MethodName) : Cond) ∈ GW := GW_t (i := 1047) (by decide +kernel) (by decide +kernel)
theorem wd_1048 : (.selects "TimeFloodModel" (⟨"TimeFloodModel", "chance", "(IIZ)I"⟩ : MethodName) (⟨"TimeFloodModel", "chance", "(IIZ)I"⟩ : MethodName) : Cond) ∈ GW := GW_t (i := 1048) (by decide +kernel) (by decide +kernel)
theorem wd_1049 : (.code (⟨"TimeFloodModel", "chance", "(IIZ)I"⟩ : MethodName) prog_10_method_67_code 9 (Option.some FieldType.int) : Cond) ∈ GW := GW_t (i := 1049) (by decide +kernel) (by decide +kernel)
theorem wd_1050 : (.methodLink "TimeFloodModel" 318 (⟨"TimeFloodModel", "raised", "(II)I"⟩ : MethodName) : Cond) ∈ GW := GW_t (i := 1050) (by decide +kernel) (by decide +kernel)
theorem wd_1051 : (.static (⟨"TimeFloodModel", "raised", "(II)I"⟩ : MethodName) : Cond) ∈ GW := GW_t (i := 1051) (by decide +kernel) (by decide +kernel)
theorem wd_1052 : (.code (⟨"TimeFloodModel", "raised", "(II)I"⟩ : MethodName) prog_10_method_7_code 4 (Option.some FieldType.int) : Cond) ∈ GW := GW_t (i := 1052) (by decide +kernel) (by decide +kernel)
theorem wd_1053 : (.methodLink "TimeFloodLaw" 110 (⟨"TimeFloodModel", "seed", "(J)J"⟩ : MethodName) : Cond) ∈ GW := GW_t (i := 1053) (by decide +kernel) (by decide +kernel)
theorem wd_1054 : (.instanceMethod (⟨"TimeFloodModel", "seed", "(J)J"⟩ : MethodName) : Cond) ∈ GW := GW_t (i := 1054) (by decide +kernel) (by decide +kernel)
theorem wd_1055 : (.selects "TimeFloodModel" (⟨"TimeFloodModel", "seed", "(J)J"⟩ : MethodName) (⟨"TimeFloodModel", "seed", "(J)J"⟩ : MethodName) : Cond) ∈ GW := GW_t (i := 1055) (by decide +kernel) (by decide +kernel)
theorem wd_1056 : (.code (⟨"TimeFloodModel", "seed", "(J)J"⟩ : MethodName) prog_10_method_68_code 5 (Option.some FieldType.long) : Cond) ∈ GW := GW_t (i := 1056) (by decide +kernel) (by decide +kernel)
theorem wd_1057 : (.methodLink "TimeFloodLaw" 114 (⟨"TimeFloodModel", "drawn", "(I)I"⟩ : MethodName) : Cond) ∈ GW := GW_t (i := 1057) (by decide +kernel) (by decide +kernel)
theorem wd_1058 : (.instanceMethod (⟨"TimeFloodModel", "drawn", "(I)I"⟩ : MethodName) : Cond) ∈ GW := GW_t (i := 1058) (by decide +kernel) (by decide +kernel)
theorem wd_1059 : (.selects "TimeFloodModel" (⟨"TimeFloodModel", "drawn", "(I)I"⟩ : MethodName) (⟨"TimeFloodModel", "drawn", "(I)I"⟩ : MethodName) : Cond) ∈ GW := GW_t (i := 1059) (by decide +kernel) (by decide +kernel)
theorem wd_1060 : (.code (⟨"TimeFloodModel", "drawn", "(I)I"⟩ : MethodName) prog_10_method_69_code 6 (Option.some FieldType.int) : Cond) ∈ GW := GW_t (i := 1060) (by decide +kernel) (by decide +kernel)
theorem wd_1061 : (.constantLong "TimeFloodModel" 326 (6364136223846793005 : Int64) : Cond) ∈ GW := GW_t (i := 1061) (by decide +kernel) (by decide +kernel)
theorem wd_1062 : (.constantLong "TimeFloodModel" 328 (1442695040888963407 : Int64) : Cond) ∈ GW := GW_t (i := 1062) (by decide +kernel) (by decide +kernel)
theorem wd_1063 : (.methodLink "TimeFloodLaw" 118 (⟨"TimeFloodModel", "keep", "(I)I"⟩ : MethodName) : Cond) ∈ GW := GW_t (i := 1063) (by decide +kernel) (by decide +kernel)
theorem wd_1064 : (.instanceMethod (⟨"TimeFloodModel", "keep", "(I)I"⟩ : MethodName) : Cond) ∈ GW := GW_t (i := 1064) (by decide +kernel) (by decide +kernel)
theorem wd_1065 : (.selects "TimeFloodModel" (⟨"TimeFloodModel", "keep", "(I)I"⟩ : MethodName) (⟨"TimeFloodModel", "keep", "(I)I"⟩ : MethodName) : Cond) ∈ GW := GW_t (i := 1065) (by decide +kernel) (by decide +kernel)
theorem wd_1066 : (.code (⟨"TimeFloodModel", "keep", "(I)I"⟩ : MethodName) prog_10_method_70_code 3 (Option.some FieldType.int) : Cond) ∈ GW := GW_t (i := 1066) (by decide +kernel) (by decide +kernel)
theorem wd_1067 : (.methodLink "TimeFloodLaw" 122 (⟨"TimeFloodModel", "again", "(I)I"⟩ : MethodName) : Cond) ∈ GW := GW_t (i := 1067) (by decide +kernel) (by decide +kernel)
theorem wd_1068 : (.instanceMethod (⟨"TimeFloodModel", "again", "(I)I"⟩ : MethodName) : Cond) ∈ GW := GW_t (i := 1068) (by decide +kernel) (by decide +kernel)
theorem wd_1069 : (.selects "TimeFloodModel" (⟨"TimeFloodModel", "again", "(I)I"⟩ : MethodName) (⟨"TimeFloodModel", "again", "(I)I"⟩ : MethodName) : Cond) ∈ GW := GW_t (i := 1069) (by decide +kernel) (by decide +kernel)
theorem wd_1070 : (.code (⟨"TimeFloodModel", "again", "(I)I"⟩ : MethodName) prog_10_method_71_code 3 (Option.some FieldType.int) : Cond) ∈ GW := GW_t (i := 1070) (by decide +kernel) (by decide +kernel)
theorem wd_1071 : (.constantLong "TimeFloodLaw" 77 (4294967295 : Int64) : Cond) ∈ GW := GW_t (i := 1071) (by decide +kernel) (by decide +kernel)
theorem wd_1072 : (.arrayClass FieldType.long : Cond) ∈ GW := GW_t (i := 1072) (by decide +kernel) (by decide +kernel)
theorem wp_0 : (.selects "TimeFlood$Reader" (⟨"TimeFlood$Reader", "takes", "(C)Z"⟩ : MethodName) (⟨"TimeFlood$Reader", "takes", "(C)Z"⟩ : MethodName) : Cond) ∈ GW := GW_p (by decide +kernel) (by decide +kernel)
theorem wp_1 : (.selects "TimeFlood$Reader" (⟨"TimeFlood$Reader", "takesItem", "(C)Z"⟩ : MethodName) (⟨"TimeFlood$Reader", "takesItem", "(C)Z"⟩ : MethodName) : Cond) ∈ GW := GW_p (by decide +kernel) (by decide +kernel)
theorem wp_2 : (.selects "TimeFlood$Reader" (⟨"TimeFlood$Reader", "takesOfHead", "(I)Z"⟩ : MethodName) (⟨"TimeFlood$Reader", "takesOfHead", "(I)Z"⟩ : MethodName) : Cond) ∈ GW := GW_p (by decide +kernel) (by decide +kernel)
theorem wp_3 : (.selects "TimeFlood$Reader" (⟨"TimeFlood$Reader", "takesOfItem", "(I)Z"⟩ : MethodName) (⟨"TimeFlood$Reader", "takesOfItem", "(I)Z"⟩ : MethodName) : Cond) ∈ GW := GW_p (by decide +kernel) (by decide +kernel)
theorem wp_4 : (.selects "TimeFlood" (⟨"TimeFlood", "hasNode", "(I)Z"⟩ : MethodName) (⟨"TimeFlood", "hasNode", "(I)Z"⟩ : MethodName) : Cond) ∈ GW := GW_p (by decide +kernel) (by decide +kernel)
theorem wp_5 : (.selects "TimeFlood" (⟨"TimeFlood", "hasLink", "(I)Z"⟩ : MethodName) (⟨"TimeFlood", "hasLink", "(I)Z"⟩ : MethodName) : Cond) ∈ GW := GW_p (by decide +kernel) (by decide +kernel)
theorem wp_6 : (.selects "TimeFlood$Flood" (⟨"TimeFlood$Flood", "receive", "(LTimeFlood$State;I)V"⟩ : MethodName) (⟨"TimeFlood$Flood", "receive", "(LTimeFlood$State;I)V"⟩ : MethodName) : Cond) ∈ GW := GW_p (by decide +kernel) (by decide +kernel)
theorem wp_7 : (.selects "TimeFlood$Flood" (⟨"TimeFlood$Flood", "hear", "(LTimeFlood$State;II)V"⟩ : MethodName) (⟨"TimeFlood$Flood", "hear", "(LTimeFlood$State;II)V"⟩ : MethodName) : Cond) ∈ GW := GW_p (by decide +kernel) (by decide +kernel)
theorem wp_8 : (.selects "TimeFlood" (⟨"TimeFlood", "holdsOnTrial", "(III)Z"⟩ : MethodName) (⟨"TimeFlood", "holdsOnTrial", "(III)Z"⟩ : MethodName) : Cond) ∈ GW := GW_p (by decide +kernel) (by decide +kernel)
theorem wp_9 : (.selects "TimeFlood" (⟨"TimeFlood", "failureExplains", "(I)Z"⟩ : MethodName) (⟨"TimeFlood", "failureExplains", "(I)Z"⟩ : MethodName) : Cond) ∈ GW := GW_p (by decide +kernel) (by decide +kernel)
theorem wp_10 : (.selects "TimeFlood" (⟨"TimeFlood", "worth", "(I)I"⟩ : MethodName) (⟨"TimeFlood", "worth", "(I)I"⟩ : MethodName) : Cond) ∈ GW := GW_p (by decide +kernel) (by decide +kernel)
theorem wp_11 : (.selects "TimeFlood" (⟨"TimeFlood", "weightOfFailing", "(II)J"⟩ : MethodName) (⟨"TimeFlood", "weightOfFailing", "(II)J"⟩ : MethodName) : Cond) ∈ GW := GW_p (by decide +kernel) (by decide +kernel)
theorem wp_12 : (.selects "TimeFlood" (⟨"TimeFlood", "unitesWithout", "(II)Z"⟩ : MethodName) (⟨"TimeFlood", "unitesWithout", "(II)Z"⟩ : MethodName) : Cond) ∈ GW := GW_p (by decide +kernel) (by decide +kernel)
theorem wp_13 : (.selects "TimeFlood" (⟨"TimeFlood", "tenToTheUpLinks", "()J"⟩ : MethodName) (⟨"TimeFlood", "tenToTheUpLinks", "()J"⟩ : MethodName) : Cond) ∈ GW := GW_p (by decide +kernel) (by decide +kernel)
theorem wp_14 : (.selects "TimeFloodModel" (⟨"TimeFloodModel", "readText", "()I"⟩ : MethodName) (⟨"TimeFloodModel", "readText", "()I"⟩ : MethodName) : Cond) ∈ GW := GW_p (by decide +kernel) (by decide +kernel)
theorem wp_15 : (.selects "TimeFloodModel" (⟨"TimeFloodModel", "take", "(I)Z"⟩ : MethodName) (⟨"TimeFloodModel", "take", "(I)Z"⟩ : MethodName) : Cond) ∈ GW := GW_p (by decide +kernel) (by decide +kernel)
theorem wp_16 : (.selects "TimeFloodModel" (⟨"TimeFloodModel", "takeHead", "(I)Z"⟩ : MethodName) (⟨"TimeFloodModel", "takeHead", "(I)Z"⟩ : MethodName) : Cond) ∈ GW := GW_p (by decide +kernel) (by decide +kernel)
theorem wp_17 : (.selects "TimeFloodModel" (⟨"TimeFloodModel", "takeOfNode", "(I)Z"⟩ : MethodName) (⟨"TimeFloodModel", "takeOfNode", "(I)Z"⟩ : MethodName) : Cond) ∈ GW := GW_p (by decide +kernel) (by decide +kernel)
theorem wp_18 : (.selects "TimeFloodModel" (⟨"TimeFloodModel", "takeOfLink", "(I)Z"⟩ : MethodName) (⟨"TimeFloodModel", "takeOfLink", "(I)Z"⟩ : MethodName) : Cond) ∈ GW := GW_p (by decide +kernel) (by decide +kernel)
theorem wp_19 : (.selects "TimeFloodModel" (⟨"TimeFloodModel", "isFullAsRead", "(I)Z"⟩ : MethodName) (⟨"TimeFloodModel", "isFullAsRead", "(I)Z"⟩ : MethodName) : Cond) ∈ GW := GW_p (by decide +kernel) (by decide +kernel)
theorem wp_20 : (.selects "TimeFloodModel" (⟨"TimeFloodModel", "areLinkedAsRead", "(II)Z"⟩ : MethodName) (⟨"TimeFloodModel", "areLinkedAsRead", "(II)Z"⟩ : MethodName) : Cond) ∈ GW := GW_p (by decide +kernel) (by decide +kernel)
theorem wp_21 : (.selects "TimeFloodModel" (⟨"TimeFloodModel", "mayLink", "()Z"⟩ : MethodName) (⟨"TimeFloodModel", "mayLink", "()Z"⟩ : MethodName) : Cond) ∈ GW := GW_p (by decide +kernel) (by decide +kernel)
theorem wp_22 : (.selects "TimeFloodModel" (⟨"TimeFloodModel", "those", "(Z)I"⟩ : MethodName) (⟨"TimeFloodModel", "those", "(Z)I"⟩ : MethodName) : Cond) ∈ GW := GW_p (by decide +kernel) (by decide +kernel)
theorem wp_23 : (.selects "TimeFloodModel" (⟨"TimeFloodModel", "inTime", "([I)I"⟩ : MethodName) (⟨"TimeFloodModel", "inTime", "([I)I"⟩ : MethodName) : Cond) ∈ GW := GW_p (by decide +kernel) (by decide +kernel)
theorem wp_24 : (.selects "TimeFloodModel" (⟨"TimeFloodModel", "missOf", "([II)I"⟩ : MethodName) (⟨"TimeFloodModel", "missOf", "([II)I"⟩ : MethodName) : Cond) ∈ GW := GW_p (by decide +kernel) (by decide +kernel)
theorem wp_25 : (.selects "TimeFloodModel" (⟨"TimeFloodModel", "estimate", "([II)I"⟩ : MethodName) (⟨"TimeFloodModel", "estimate", "([II)I"⟩ : MethodName) : Cond) ∈ GW := GW_p (by decide +kernel) (by decide +kernel)
theorem wp_26 : (.selects "TimeFloodModel" (⟨"TimeFloodModel", "clockOf", "([II)I"⟩ : MethodName) (⟨"TimeFloodModel", "clockOf", "([II)I"⟩ : MethodName) : Cond) ∈ GW := GW_p (by decide +kernel) (by decide +kernel)
theorem wp_27 : (.selects "TimeFloodModel" (⟨"TimeFloodModel", "downs", "()I"⟩ : MethodName) (⟨"TimeFloodModel", "downs", "()I"⟩ : MethodName) : Cond) ∈ GW := GW_p (by decide +kernel) (by decide +kernel)
theorem wp_28 : (.selects "TimeFloodModel" (⟨"TimeFloodModel", "isOne", "([I)Z"⟩ : MethodName) (⟨"TimeFloodModel", "isOne", "([I)Z"⟩ : MethodName) : Cond) ∈ GW := GW_p (by decide +kernel) (by decide +kernel)
theorem wp_29 : (.selects "TimeFloodModel" (⟨"TimeFloodModel", "isNode", "(I)Z"⟩ : MethodName) (⟨"TimeFloodModel", "isNode", "(I)Z"⟩ : MethodName) : Cond) ∈ GW := GW_p (by decide +kernel) (by decide +kernel)
theorem wp_30 : (.selects "TimeFloodModel" (⟨"TimeFloodModel", "tell", "([III)I"⟩ : MethodName) (⟨"TimeFloodModel", "tell", "([III)I"⟩ : MethodName) : Cond) ∈ GW := GW_p (by decide +kernel) (by decide +kernel)
theorem wp_31 : (.selects "TimeFloodModel" (⟨"TimeFloodModel", "isLink", "(I)Z"⟩ : MethodName) (⟨"TimeFloodModel", "isLink", "(I)Z"⟩ : MethodName) : Cond) ∈ GW := GW_p (by decide +kernel) (by decide +kernel)
theorem wp_32 : (.selects "TimeFloodModel" (⟨"TimeFloodModel", "note", "()V"⟩ : MethodName) (⟨"TimeFloodModel", "note", "()V"⟩ : MethodName) : Cond) ∈ GW := GW_p (by decide +kernel) (by decide +kernel)
theorem wp_33 : (.selects "TimeFloodModel" (⟨"TimeFloodModel", "goOn", "([I)V"⟩ : MethodName) (⟨"TimeFloodModel", "goOn", "([I)V"⟩ : MethodName) : Cond) ∈ GW := GW_p (by decide +kernel) (by decide +kernel)
theorem wp_34 : (.selects "TimeFloodModel" (⟨"TimeFloodModel", "goOne", "([II)V"⟩ : MethodName) (⟨"TimeFloodModel", "goOne", "([II)V"⟩ : MethodName) : Cond) ∈ GW := GW_p (by decide +kernel) (by decide +kernel)
theorem wp_35 : (.selects "TimeFloodModel" (⟨"TimeFloodModel", "dropOld", "([II)V"⟩ : MethodName) (⟨"TimeFloodModel", "dropOld", "([II)V"⟩ : MethodName) : Cond) ∈ GW := GW_p (by decide +kernel) (by decide +kernel)
theorem wp_36 : (.selects "TimeFloodModel" (⟨"TimeFloodModel", "laySent", "([I)V"⟩ : MethodName) (⟨"TimeFloodModel", "laySent", "([I)V"⟩ : MethodName) : Cond) ∈ GW := GW_p (by decide +kernel) (by decide +kernel)
theorem wp_37 : (.selects "TimeFloodModel" (⟨"TimeFloodModel", "areBeside", "([III)Z"⟩ : MethodName) (⟨"TimeFloodModel", "areBeside", "([III)Z"⟩ : MethodName) : Cond) ∈ GW := GW_p (by decide +kernel) (by decide +kernel)
theorem wp_38 : (.selects "TimeFloodModel" (⟨"TimeFloodModel", "hear", "([III)V"⟩ : MethodName) (⟨"TimeFloodModel", "hear", "([III)V"⟩ : MethodName) : Cond) ∈ GW := GW_p (by decide +kernel) (by decide +kernel)
theorem wp_39 : (.selects "TimeFloodModel" (⟨"TimeFloodModel", "stampOn", "([III)V"⟩ : MethodName) (⟨"TimeFloodModel", "stampOn", "([III)V"⟩ : MethodName) : Cond) ∈ GW := GW_p (by decide +kernel) (by decide +kernel)
theorem wp_40 : (.selects "TimeFloodModel" (⟨"TimeFloodModel", "tryPeriods", "(I)V"⟩ : MethodName) (⟨"TimeFloodModel", "tryPeriods", "(I)V"⟩ : MethodName) : Cond) ∈ GW := GW_p (by decide +kernel) (by decide +kernel)
theorem wp_41 : (.selects "TimeFloodModel" (⟨"TimeFloodModel", "judged", "(III)Z"⟩ : MethodName) (⟨"TimeFloodModel", "judged", "(III)Z"⟩ : MethodName) : Cond) ∈ GW := GW_p (by decide +kernel) (by decide +kernel)
theorem wp_42 : (.selects "TimeFloodModel" (⟨"TimeFloodModel", "isSoBy", "(II)Z"⟩ : MethodName) (⟨"TimeFloodModel", "isSoBy", "(II)Z"⟩ : MethodName) : Cond) ∈ GW := GW_p (by decide +kernel) (by decide +kernel)
theorem wp_43 : (.selects "TimeFloodModel" (⟨"TimeFloodModel", "inTimeBy", "(I)I"⟩ : MethodName) (⟨"TimeFloodModel", "inTimeBy", "(I)I"⟩ : MethodName) : Cond) ∈ GW := GW_p (by decide +kernel) (by decide +kernel)
end
section
/-! THE WORLD: one list of cells of a fixed shape, class and reference side by side; what changes is σ -/
abbrev GT : Type := va_G × (Nat → ClassId) × (Nat → Nat)
abbrev MT : Type := (Nat → Nat → Int32) × (Nat → Int64)
abbrev XT : Type := Program × Launch × Env × Room × State × MethodId × Array Value × List Frame × Method × Code
def rf (G : GT) (k : Nat) : Value := .ref (G.2.2 k)
def F_TF : u_T := fun k => match k with
  | 0 => ("TimeFlood", "text", "[C", true)
  | 1 => ("TimeFlood", "textLength", "I", false)
  | 2 => ("TimeFlood", "reader", "LTimeFlood$Reader;", true)
  | 3 => ("TimeFlood", "flood", "LTimeFlood$Flood;", true)
  | 4 => ("TimeFlood", "plan", "LTimeFlood$Plan;", true)
  | 5 => ("TimeFlood", "now", "LTimeFlood$State;", true)
  | 6 => ("TimeFlood", "trial", "LTimeFlood$State;", true)
  | 7 => ("TimeFlood", "journal", "LTimeFlood$Journal;", true)
  | 8 => ("TimeFlood", "slots", "[LTimeFlood$State;", true)
  | 9 => ("TimeFlood", "slotFilled", "[Z", true)
  | 10 => ("TimeFlood", "sightings", "LTimeFlood$Sightings;", true)
  | _ => ("TimeFlood", "seedNow", "J", false)
def t_TF : Nat → FieldType := fun k => match k with
  | 0 => (.array .char)
  | 1 => .int
  | 2 => (.object "TimeFlood$Reader")
  | 3 => (.object "TimeFlood$Flood")
  | 4 => (.object "TimeFlood$Plan")
  | 5 => (.object "TimeFlood$State")
  | 6 => (.object "TimeFlood$State")
  | 7 => (.object "TimeFlood$Journal")
  | 8 => (.array (.object "TimeFlood$State"))
  | 9 => (.array .boolean)
  | 10 => (.object "TimeFlood$Sightings")
  | _ => .long
theorem n_TF : ∀ a, a < 12 → ∀ b, b < 12 → a ≠ b → (F_TF a).2.1 ≠ (F_TF b).2.1 := by decide +kernel
theorem t_TF_ok : ∀ k, k < 12 → parseFieldDescriptor (F_TF k).2.2.1 = some (t_TF k) := by decide +kernel
theorem i_TF : ∀ w ∈ u_ws "TimeFlood" F_TF 12, w ∈ GW := (List.forall_mem_cons.mpr ⟨wd_251, List.forall_mem_cons.mpr ⟨wd_253, List.forall_mem_cons.mpr ⟨wd_255, List.forall_mem_cons.mpr ⟨wd_257, List.forall_mem_cons.mpr ⟨wd_259, List.forall_mem_cons.mpr ⟨wd_261, List.forall_mem_cons.mpr ⟨wd_263, List.forall_mem_cons.mpr ⟨wd_265, List.forall_mem_cons.mpr ⟨wd_267, List.forall_mem_cons.mpr ⟨wd_269, List.forall_mem_cons.mpr ⟨wd_271, List.forall_mem_cons.mpr ⟨wd_273, fun _ h => absurd h List.not_mem_nil⟩⟩⟩⟩⟩⟩⟩⟩⟩⟩⟩⟩ : ∀ w ∈ ([.laysFinal "TimeFlood" "TimeFlood" "text" "[C", .lays "TimeFlood" "TimeFlood" "textLength" "I", .laysFinal "TimeFlood" "TimeFlood" "reader" "LTimeFlood$Reader;", .laysFinal "TimeFlood" "TimeFlood" "flood" "LTimeFlood$Flood;", .laysFinal "TimeFlood" "TimeFlood" "plan" "LTimeFlood$Plan;", .laysFinal "TimeFlood" "TimeFlood" "now" "LTimeFlood$State;", .laysFinal "TimeFlood" "TimeFlood" "trial" "LTimeFlood$State;", .laysFinal "TimeFlood" "TimeFlood" "journal" "LTimeFlood$Journal;", .laysFinal "TimeFlood" "TimeFlood" "slots" "[LTimeFlood$State;", .laysFinal "TimeFlood" "TimeFlood" "slotFilled" "[Z", .laysFinal "TimeFlood" "TimeFlood" "sightings" "LTimeFlood$Sightings;", .lays "TimeFlood" "TimeFlood" "seedNow" "J"] : List Cond), w ∈ GW)
def F_Rd : u_T := fun k => match k with
  | 0 => ("TimeFlood$Reader", "draft", "LTimeFlood$Plan;", true)
  | 1 => ("TimeFlood$Reader", "place", "I", false)
  | 2 => ("TimeFlood$Reader", "held", "I", false)
  | _ => ("TimeFlood$Reader", "heldDrift", "I", false)
def t_Rd : Nat → FieldType := fun k => match k with
  | 0 => (.object "TimeFlood$Plan")
  | 1 => .int
  | 2 => .int
  | _ => .int
theorem n_Rd : ∀ a, a < 4 → ∀ b, b < 4 → a ≠ b → (F_Rd a).2.1 ≠ (F_Rd b).2.1 := by decide +kernel
theorem t_Rd_ok : ∀ k, k < 4 → parseFieldDescriptor (F_Rd k).2.2.1 = some (t_Rd k) := by decide +kernel
theorem i_Rd : ∀ w ∈ u_ws "TimeFlood$Reader" F_Rd 4, w ∈ GW := (List.forall_mem_cons.mpr ⟨wd_92, List.forall_mem_cons.mpr ⟨wd_94, List.forall_mem_cons.mpr ⟨wd_96, List.forall_mem_cons.mpr ⟨wd_98, fun _ h => absurd h List.not_mem_nil⟩⟩⟩⟩ : ∀ w ∈ ([.laysFinal "TimeFlood$Reader" "TimeFlood$Reader" "draft" "LTimeFlood$Plan;", .lays "TimeFlood$Reader" "TimeFlood$Reader" "place" "I", .lays "TimeFlood$Reader" "TimeFlood$Reader" "held" "I", .lays "TimeFlood$Reader" "TimeFlood$Reader" "heldDrift" "I"] : List Cond), w ∈ GW)
def F_Pl : u_T := fun k => match k with
  | 0 => ("TimeFlood$Plan", "unit", "I", false)
  | 1 => ("TimeFlood$Plan", "patience", "I", false)
  | 2 => ("TimeFlood$Plan", "shyness", "I", false)
  | 3 => ("TimeFlood$Plan", "nodeCount", "I", false)
  | 4 => ("TimeFlood$Plan", "linkCount", "I", false)
  | 5 => ("TimeFlood$Plan", "drifts", "[I", true)
  | 6 => ("TimeFlood$Plan", "starts", "[I", true)
  | 7 => ("TimeFlood$Plan", "lows", "[I", true)
  | 8 => ("TimeFlood$Plan", "highs", "[I", true)
  | _ => ("TimeFlood$Plan", "links", "[[I", true)
def t_Pl : Nat → FieldType := fun k => match k with
  | 0 => .int
  | 1 => .int
  | 2 => .int
  | 3 => .int
  | 4 => .int
  | 5 => (.array .int)
  | 6 => (.array .int)
  | 7 => (.array .int)
  | 8 => (.array .int)
  | _ => (.array (.array .int))
theorem n_Pl : ∀ a, a < 10 → ∀ b, b < 10 → a ≠ b → (F_Pl a).2.1 ≠ (F_Pl b).2.1 := by decide +kernel
theorem t_Pl_ok : ∀ k, k < 10 → parseFieldDescriptor (F_Pl k).2.2.1 = some (t_Pl k) := by decide +kernel
theorem i_Pl : ∀ w ∈ u_ws "TimeFlood$Plan" F_Pl 10, w ∈ GW := (List.forall_mem_cons.mpr ⟨wd_64, List.forall_mem_cons.mpr ⟨wd_66, List.forall_mem_cons.mpr ⟨wd_68, List.forall_mem_cons.mpr ⟨wd_70, List.forall_mem_cons.mpr ⟨wd_72, List.forall_mem_cons.mpr ⟨wd_74, List.forall_mem_cons.mpr ⟨wd_76, List.forall_mem_cons.mpr ⟨wd_78, List.forall_mem_cons.mpr ⟨wd_80, List.forall_mem_cons.mpr ⟨wd_82, fun _ h => absurd h List.not_mem_nil⟩⟩⟩⟩⟩⟩⟩⟩⟩⟩ : ∀ w ∈ ([.lays "TimeFlood$Plan" "TimeFlood$Plan" "unit" "I", .lays "TimeFlood$Plan" "TimeFlood$Plan" "patience" "I", .lays "TimeFlood$Plan" "TimeFlood$Plan" "shyness" "I", .lays "TimeFlood$Plan" "TimeFlood$Plan" "nodeCount" "I", .lays "TimeFlood$Plan" "TimeFlood$Plan" "linkCount" "I", .laysFinal "TimeFlood$Plan" "TimeFlood$Plan" "drifts" "[I", .laysFinal "TimeFlood$Plan" "TimeFlood$Plan" "starts" "[I", .laysFinal "TimeFlood$Plan" "TimeFlood$Plan" "lows" "[I", .laysFinal "TimeFlood$Plan" "TimeFlood$Plan" "highs" "[I", .laysFinal "TimeFlood$Plan" "TimeFlood$Plan" "links" "[[I"] : List Cond), w ∈ GW)
def F_Fl : u_T := fun k => match k with
  | 0 => ("TimeFlood$Flood", "plan", "LTimeFlood$Plan;", true)
  | 1 => ("TimeFlood$Flood", "sent", "[Z", true)
  | 2 => ("TimeFlood$Flood", "sentRoots", "[I", true)
  | 3 => ("TimeFlood$Flood", "sentNumbers", "[I", true)
  | _ => ("TimeFlood$Flood", "sentEstimates", "[I", true)
def t_Fl : Nat → FieldType := fun k => match k with
  | 0 => (.object "TimeFlood$Plan")
  | 1 => (.array .boolean)
  | 2 => (.array .int)
  | 3 => (.array .int)
  | _ => (.array .int)
theorem n_Fl : ∀ a, a < 5 → ∀ b, b < 5 → a ≠ b → (F_Fl a).2.1 ≠ (F_Fl b).2.1 := by decide +kernel
theorem t_Fl_ok : ∀ k, k < 5 → parseFieldDescriptor (F_Fl k).2.2.1 = some (t_Fl k) := by decide +kernel
theorem i_Fl : ∀ w ∈ u_ws "TimeFlood$Flood" F_Fl 5, w ∈ GW := (List.forall_mem_cons.mpr ⟨wd_115, List.forall_mem_cons.mpr ⟨wd_117, List.forall_mem_cons.mpr ⟨wd_119, List.forall_mem_cons.mpr ⟨wd_121, List.forall_mem_cons.mpr ⟨wd_123, fun _ h => absurd h List.not_mem_nil⟩⟩⟩⟩⟩ : ∀ w ∈ ([.laysFinal "TimeFlood$Flood" "TimeFlood$Flood" "plan" "LTimeFlood$Plan;", .laysFinal "TimeFlood$Flood" "TimeFlood$Flood" "sent" "[Z", .laysFinal "TimeFlood$Flood" "TimeFlood$Flood" "sentRoots" "[I", .laysFinal "TimeFlood$Flood" "TimeFlood$Flood" "sentNumbers" "[I", .laysFinal "TimeFlood$Flood" "TimeFlood$Flood" "sentEstimates" "[I"] : List Cond), w ∈ GW)
def F_St : u_T := fun k => match k with
  | 0 => ("TimeFlood$State", "time", "I", false)
  | 1 => ("TimeFlood$State", "downSet", "I", false)
  | _ => ("TimeFlood$State", "nodes", "[LTimeFlood$Node;", true)
def t_St : Nat → FieldType := fun k => match k with
  | 0 => .int
  | 1 => .int
  | _ => (.array (.object "TimeFlood$Node"))
theorem n_St : ∀ a, a < 3 → ∀ b, b < 3 → a ≠ b → (F_St a).2.1 ≠ (F_St b).2.1 := by decide +kernel
theorem t_St_ok : ∀ k, k < 3 → parseFieldDescriptor (F_St k).2.2.1 = some (t_St k) := by decide +kernel
theorem i_St : ∀ w ∈ u_ws "TimeFlood$State" F_St 3, w ∈ GW := (List.forall_mem_cons.mpr ⟨wd_192, List.forall_mem_cons.mpr ⟨wd_194, List.forall_mem_cons.mpr ⟨wd_196, fun _ h => absurd h List.not_mem_nil⟩⟩⟩ : ∀ w ∈ ([.lays "TimeFlood$State" "TimeFlood$State" "time" "I", .lays "TimeFlood$State" "TimeFlood$State" "downSet" "I", .laysFinal "TimeFlood$State" "TimeFlood$State" "nodes" "[LTimeFlood$Node;"] : List Cond), w ∈ GW)
def F_Nd : u_T := fun k => match k with
  | 0 => ("TimeFlood$Node", "on", "Z", false)
  | 1 => ("TimeFlood$Node", "drift", "I", false)
  | 2 => ("TimeFlood$Node", "root", "I", false)
  | 3 => ("TimeFlood$Node", "number", "I", false)
  | 4 => ("TimeFlood$Node", "heart", "I", false)
  | 5 => ("TimeFlood$Node", "guard", "I", false)
  | 6 => ("TimeFlood$Node", "stampCount", "I", false)
  | 7 => ("TimeFlood$Node", "clocks", "[I", true)
  | 8 => ("TimeFlood$Node", "marks", "[I", true)
  | _ => ("TimeFlood$Node", "ages", "[I", true)
def t_Nd : Nat → FieldType := fun k => match k with
  | 0 => .boolean
  | 1 => .int
  | 2 => .int
  | 3 => .int
  | 4 => .int
  | 5 => .int
  | 6 => .int
  | 7 => (.array .int)
  | 8 => (.array .int)
  | _ => (.array .int)
theorem n_Nd : ∀ a, a < 10 → ∀ b, b < 10 → a ≠ b → (F_Nd a).2.1 ≠ (F_Nd b).2.1 := by decide +kernel
theorem t_Nd_ok : ∀ k, k < 10 → parseFieldDescriptor (F_Nd k).2.2.1 = some (t_Nd k) := by decide +kernel
theorem i_Nd : ∀ w ∈ u_ws "TimeFlood$Node" F_Nd 10, w ∈ GW := (List.forall_mem_cons.mpr ⟨wd_163, List.forall_mem_cons.mpr ⟨wd_165, List.forall_mem_cons.mpr ⟨wd_167, List.forall_mem_cons.mpr ⟨wd_169, List.forall_mem_cons.mpr ⟨wd_171, List.forall_mem_cons.mpr ⟨wd_173, List.forall_mem_cons.mpr ⟨wd_175, List.forall_mem_cons.mpr ⟨wd_177, List.forall_mem_cons.mpr ⟨wd_179, List.forall_mem_cons.mpr ⟨wd_181, fun _ h => absurd h List.not_mem_nil⟩⟩⟩⟩⟩⟩⟩⟩⟩⟩ : ∀ w ∈ ([.lays "TimeFlood$Node" "TimeFlood$Node" "on" "Z", .lays "TimeFlood$Node" "TimeFlood$Node" "drift" "I", .lays "TimeFlood$Node" "TimeFlood$Node" "root" "I", .lays "TimeFlood$Node" "TimeFlood$Node" "number" "I", .lays "TimeFlood$Node" "TimeFlood$Node" "heart" "I", .lays "TimeFlood$Node" "TimeFlood$Node" "guard" "I", .lays "TimeFlood$Node" "TimeFlood$Node" "stampCount" "I", .laysFinal "TimeFlood$Node" "TimeFlood$Node" "clocks" "[I", .laysFinal "TimeFlood$Node" "TimeFlood$Node" "marks" "[I", .laysFinal "TimeFlood$Node" "TimeFlood$Node" "ages" "[I"] : List Cond), w ∈ GW)
def F_Jr : u_T := fun k => match k with
  | 0 => ("TimeFlood$Journal", "states", "[LTimeFlood$State;", true)
  | 1 => ("TimeFlood$Journal", "next", "I", false)
  | _ => ("TimeFlood$Journal", "count", "I", false)
def t_Jr : Nat → FieldType := fun k => match k with
  | 0 => (.array (.object "TimeFlood$State"))
  | 1 => .int
  | _ => .int
theorem n_Jr : ∀ a, a < 3 → ∀ b, b < 3 → a ≠ b → (F_Jr a).2.1 ≠ (F_Jr b).2.1 := by decide +kernel
theorem t_Jr_ok : ∀ k, k < 3 → parseFieldDescriptor (F_Jr k).2.2.1 = some (t_Jr k) := by decide +kernel
theorem i_Jr : ∀ w ∈ u_ws "TimeFlood$Journal" F_Jr 3, w ∈ GW := (List.forall_mem_cons.mpr ⟨wd_212, List.forall_mem_cons.mpr ⟨wd_214, List.forall_mem_cons.mpr ⟨wd_216, fun _ h => absurd h List.not_mem_nil⟩⟩⟩ : ∀ w ∈ ([.laysFinal "TimeFlood$Journal" "TimeFlood$Journal" "states" "[LTimeFlood$State;", .lays "TimeFlood$Journal" "TimeFlood$Journal" "next" "I", .lays "TimeFlood$Journal" "TimeFlood$Journal" "count" "I"] : List Cond), w ∈ GW)
def F_Sg : u_T := fun k => match k with
  | 0 => ("TimeFlood$Sightings", "nodes", "[I", true)
  | 1 => ("TimeFlood$Sightings", "periods", "[I", true)
  | 2 => ("TimeFlood$Sightings", "roots", "[I", true)
  | _ => ("TimeFlood$Sightings", "count", "I", false)
def t_Sg : Nat → FieldType := fun k => match k with
  | 0 => (.array .int)
  | 1 => (.array .int)
  | 2 => (.array .int)
  | _ => .int
theorem n_Sg : ∀ a, a < 4 → ∀ b, b < 4 → a ≠ b → (F_Sg a).2.1 ≠ (F_Sg b).2.1 := by decide +kernel
theorem t_Sg_ok : ∀ k, k < 4 → parseFieldDescriptor (F_Sg k).2.2.1 = some (t_Sg k) := by decide +kernel
theorem i_Sg : ∀ w ∈ u_ws "TimeFlood$Sightings" F_Sg 4, w ∈ GW := (List.forall_mem_cons.mpr ⟨wd_230, List.forall_mem_cons.mpr ⟨wd_232, List.forall_mem_cons.mpr ⟨wd_234, List.forall_mem_cons.mpr ⟨wd_236, fun _ h => absurd h List.not_mem_nil⟩⟩⟩⟩ : ∀ w ∈ ([.laysFinal "TimeFlood$Sightings" "TimeFlood$Sightings" "nodes" "[I", .laysFinal "TimeFlood$Sightings" "TimeFlood$Sightings" "periods" "[I", .laysFinal "TimeFlood$Sightings" "TimeFlood$Sightings" "roots" "[I", .lays "TimeFlood$Sightings" "TimeFlood$Sightings" "count" "I"] : List Cond), w ∈ GW)
def F_M : u_T := fun k => match k with
  | 0 => ("TimeFloodModel", "text", "[I", true)
  | 1 => ("TimeFloodModel", "length", "I", false)
  | 2 => ("TimeFloodModel", "wide", "I", false)
  | 3 => ("TimeFloodModel", "patience", "I", false)
  | 4 => ("TimeFloodModel", "shy", "I", false)
  | 5 => ("TimeFloodModel", "nodes", "I", false)
  | 6 => ("TimeFloodModel", "start", "[I", true)
  | 7 => ("TimeFloodModel", "links", "I", false)
  | 8 => ("TimeFloodModel", "one", "[I", true)
  | 9 => ("TimeFloodModel", "other", "[I", true)
  | 10 => ("TimeFloodModel", "now", "[I", true)
  | 11 => ("TimeFloodModel", "trial", "[I", true)
  | 12 => ("TimeFloodModel", "diary", "[I", true)
  | 13 => ("TimeFloodModel", "acts", "I", false)
  | 14 => ("TimeFloodModel", "next", "I", false)
  | 15 => ("TimeFloodModel", "kept", "[I", true)
  | 16 => ("TimeFloodModel", "isKept", "[Z", true)
  | 17 => ("TimeFloodModel", "seenNode", "[I", true)
  | 18 => ("TimeFloodModel", "seenBehind", "[I", true)
  | 19 => ("TimeFloodModel", "seenRoot", "[I", true)
  | 20 => ("TimeFloodModel", "seen", "I", false)
  | 21 => ("TimeFloodModel", "seed", "J", false)
  | 22 => ("TimeFloodModel", "sends", "[Z", true)
  | 23 => ("TimeFloodModel", "sentRoot", "[I", true)
  | 24 => ("TimeFloodModel", "sentNumber", "[I", true)
  | 25 => ("TimeFloodModel", "sentTime", "[I", true)
  | 26 => ("TimeFloodModel", "wasRoot", "[Z", true)
  | 27 => ("TimeFloodModel", "worth", "[I", true)
  | 28 => ("TimeFloodModel", "readWide", "I", false)
  | 29 => ("TimeFloodModel", "readPatience", "I", false)
  | 30 => ("TimeFloodModel", "readShy", "I", false)
  | 31 => ("TimeFloodModel", "readNodes", "I", false)
  | 32 => ("TimeFloodModel", "readDrift", "[I", true)
  | 33 => ("TimeFloodModel", "readStart", "[I", true)
  | 34 => ("TimeFloodModel", "readLinks", "I", false)
  | 35 => ("TimeFloodModel", "readOne", "[I", true)
  | 36 => ("TimeFloodModel", "readOther", "[I", true)
  | 37 => ("TimeFloodModel", "part", "I", false)
  | _ => ("TimeFloodModel", "place", "I", false)
def t_M : Nat → FieldType := fun k => match k with
  | 0 => (.array .int)
  | 1 => .int
  | 2 => .int
  | 3 => .int
  | 4 => .int
  | 5 => .int
  | 6 => (.array .int)
  | 7 => .int
  | 8 => (.array .int)
  | 9 => (.array .int)
  | 10 => (.array .int)
  | 11 => (.array .int)
  | 12 => (.array .int)
  | 13 => .int
  | 14 => .int
  | 15 => (.array .int)
  | 16 => (.array .boolean)
  | 17 => (.array .int)
  | 18 => (.array .int)
  | 19 => (.array .int)
  | 20 => .int
  | 21 => .long
  | 22 => (.array .boolean)
  | 23 => (.array .int)
  | 24 => (.array .int)
  | 25 => (.array .int)
  | 26 => (.array .boolean)
  | 27 => (.array .int)
  | 28 => .int
  | 29 => .int
  | 30 => .int
  | 31 => .int
  | 32 => (.array .int)
  | 33 => (.array .int)
  | 34 => .int
  | 35 => (.array .int)
  | 36 => (.array .int)
  | 37 => .int
  | _ => .int
theorem n_M : ∀ a, a < 39 → ∀ b, b < 39 → a ≠ b → (F_M a).2.1 ≠ (F_M b).2.1 := by decide +kernel
theorem t_M_ok : ∀ k, k < 39 → parseFieldDescriptor (F_M k).2.2.1 = some (t_M k) := by decide +kernel
theorem i_M : ∀ w ∈ u_ws "TimeFloodModel" F_M 39, w ∈ GW := (List.forall_mem_cons.mpr ⟨wd_708, List.forall_mem_cons.mpr ⟨wd_710, List.forall_mem_cons.mpr ⟨wd_712, List.forall_mem_cons.mpr ⟨wd_714, List.forall_mem_cons.mpr ⟨wd_716, List.forall_mem_cons.mpr ⟨wd_718, List.forall_mem_cons.mpr ⟨wd_720, List.forall_mem_cons.mpr ⟨wd_722, List.forall_mem_cons.mpr ⟨wd_724, List.forall_mem_cons.mpr ⟨wd_726, List.forall_mem_cons.mpr ⟨wd_728, List.forall_mem_cons.mpr ⟨wd_730, List.forall_mem_cons.mpr ⟨wd_732, List.forall_mem_cons.mpr ⟨wd_734, List.forall_mem_cons.mpr ⟨wd_736, List.forall_mem_cons.mpr ⟨wd_738, List.forall_mem_cons.mpr ⟨wd_740, List.forall_mem_cons.mpr ⟨wd_742, List.forall_mem_cons.mpr ⟨wd_744, List.forall_mem_cons.mpr ⟨wd_746, List.forall_mem_cons.mpr ⟨wd_748, List.forall_mem_cons.mpr ⟨wd_750, List.forall_mem_cons.mpr ⟨wd_752, List.forall_mem_cons.mpr ⟨wd_754, List.forall_mem_cons.mpr ⟨wd_756, List.forall_mem_cons.mpr ⟨wd_758, List.forall_mem_cons.mpr ⟨wd_760, List.forall_mem_cons.mpr ⟨wd_762, List.forall_mem_cons.mpr ⟨wd_764, List.forall_mem_cons.mpr ⟨wd_766, List.forall_mem_cons.mpr ⟨wd_768, List.forall_mem_cons.mpr ⟨wd_770, List.forall_mem_cons.mpr ⟨wd_772, List.forall_mem_cons.mpr ⟨wd_774, List.forall_mem_cons.mpr ⟨wd_776, List.forall_mem_cons.mpr ⟨wd_778, List.forall_mem_cons.mpr ⟨wd_780, List.forall_mem_cons.mpr ⟨wd_782, List.forall_mem_cons.mpr ⟨wd_784, fun _ h => absurd h List.not_mem_nil⟩⟩⟩⟩⟩⟩⟩⟩⟩⟩⟩⟩⟩⟩⟩⟩⟩⟩⟩⟩⟩⟩⟩⟩⟩⟩⟩⟩⟩⟩⟩⟩⟩⟩⟩⟩⟩⟩⟩ : ∀ w ∈ ([.laysFinal "TimeFloodModel" "TimeFloodModel" "text" "[I", .lays "TimeFloodModel" "TimeFloodModel" "length" "I", .lays "TimeFloodModel" "TimeFloodModel" "wide" "I", .lays "TimeFloodModel" "TimeFloodModel" "patience" "I", .lays "TimeFloodModel" "TimeFloodModel" "shy" "I", .lays "TimeFloodModel" "TimeFloodModel" "nodes" "I", .laysFinal "TimeFloodModel" "TimeFloodModel" "start" "[I", .lays "TimeFloodModel" "TimeFloodModel" "links" "I", .laysFinal "TimeFloodModel" "TimeFloodModel" "one" "[I", .laysFinal "TimeFloodModel" "TimeFloodModel" "other" "[I", .laysFinal "TimeFloodModel" "TimeFloodModel" "now" "[I", .laysFinal "TimeFloodModel" "TimeFloodModel" "trial" "[I", .laysFinal "TimeFloodModel" "TimeFloodModel" "diary" "[I", .lays "TimeFloodModel" "TimeFloodModel" "acts" "I", .lays "TimeFloodModel" "TimeFloodModel" "next" "I", .laysFinal "TimeFloodModel" "TimeFloodModel" "kept" "[I", .laysFinal "TimeFloodModel" "TimeFloodModel" "isKept" "[Z", .laysFinal "TimeFloodModel" "TimeFloodModel" "seenNode" "[I", .laysFinal "TimeFloodModel" "TimeFloodModel" "seenBehind" "[I", .laysFinal "TimeFloodModel" "TimeFloodModel" "seenRoot" "[I", .lays "TimeFloodModel" "TimeFloodModel" "seen" "I", .lays "TimeFloodModel" "TimeFloodModel" "seed" "J", .laysFinal "TimeFloodModel" "TimeFloodModel" "sends" "[Z", .laysFinal "TimeFloodModel" "TimeFloodModel" "sentRoot" "[I", .laysFinal "TimeFloodModel" "TimeFloodModel" "sentNumber" "[I", .laysFinal "TimeFloodModel" "TimeFloodModel" "sentTime" "[I", .laysFinal "TimeFloodModel" "TimeFloodModel" "wasRoot" "[Z", .laysFinal "TimeFloodModel" "TimeFloodModel" "worth" "[I", .lays "TimeFloodModel" "TimeFloodModel" "readWide" "I", .lays "TimeFloodModel" "TimeFloodModel" "readPatience" "I", .lays "TimeFloodModel" "TimeFloodModel" "readShy" "I", .lays "TimeFloodModel" "TimeFloodModel" "readNodes" "I", .laysFinal "TimeFloodModel" "TimeFloodModel" "readDrift" "[I", .laysFinal "TimeFloodModel" "TimeFloodModel" "readStart" "[I", .lays "TimeFloodModel" "TimeFloodModel" "readLinks" "I", .laysFinal "TimeFloodModel" "TimeFloodModel" "readOne" "[I", .laysFinal "TimeFloodModel" "TimeFloodModel" "readOther" "[I", .lays "TimeFloodModel" "TimeFloodModel" "part" "I", .lays "TimeFloodModel" "TimeFloodModel" "place" "I"] : List Cond), w ∈ GW)
abbrev classes : List vw_C := [("TimeFlood", F_TF, 12), ("TimeFlood$Reader", F_Rd, 4), ("TimeFlood$Plan", F_Pl, 10), ("TimeFlood$Flood", F_Fl, 5), ("TimeFlood$State", F_St, 3), ("TimeFlood$Node", F_Nd, 10), ("TimeFlood$Journal", F_Jr, 3), ("TimeFlood$Sightings", F_Sg, 4), ("TimeFloodModel", F_M, 39)]
def tysW (E : Nat → ClassId) : List (ClassId × FieldType) := [(E 0, .int), (E 1, .char), (E 2, .boolean), (E 3, .object "TimeFlood$State"), (E 4, .object "TimeFlood$Node"), (E 5, .array .int)]
/-- the kind of each cell -/
def kdf (k : Nat) : Nat := if k < 61 then ([0, 20, 1, 2, 11, 11, 13, 13, 33, 11, 11, 11, 11, 11, 3, 2, 11, 11, 13, 13, 33, 11, 11, 11, 11, 11, 21, 11, 11, 11, 6, 31, 30, 22, 7, 12, 12, 12, 8, 14, 11, 13, 13, 15, 15, 16, 17, 22, 12, 12, 12, 21, 11, 11, 11, 21, 18, 11, 11, 13, 13] : List Nat).getD k 99 else if k < 457 then (if (k - 61) % 22 = 0 then 4 else if (k - 61) % 22 = 1 then 32 else if ((k - 61) % 22 - 2) % 4 = 0 then 5 else 10) else 99
def cont (G : GT) (kd k : Nat) (g : Nat → Int32) (h : Int64) : va_E := match kd with
  | 0 => .inr (0, [.ref (G.2.2 1), .int (g 1), .ref (G.2.2 2), .ref (G.2.2 14), .ref (G.2.2 15), .ref (G.2.2 61), .ref (G.2.2 83), .ref (G.2.2 30), .ref (G.2.2 32), .ref (G.2.2 33), .ref (G.2.2 34), .long h])
  | 1 => .inr (1, [.ref (G.2.2 3), .int (g 1), .int (g 2), .int (g 3)])
  | 2 => .inr (2, [.int (g 0), .int (g 1), .int (g 2), .int (g 3), .int (g 4), .ref (G.2.2 (k + 1)), .ref (G.2.2 (k + 2)), .ref (G.2.2 (k + 3)), .ref (G.2.2 (k + 4)), .ref (G.2.2 (k + 5))])
  | 3 => .inr (3, [.ref (G.2.2 15), .ref (G.2.2 26), .ref (G.2.2 27), .ref (G.2.2 28), .ref (G.2.2 29)])
  | 4 => .inr (4, [.int (g 0), .int (g 1), .ref (G.2.2 (k + 1))])
  | 5 => .inr (5, [.int (g 0), .int (g 1), .int (g 2), .int (g 3), .int (g 4), .int (g 5), .int (g 6), .ref (G.2.2 (k + 1)), .ref (G.2.2 (k + 2)), .ref (G.2.2 (k + 3))])
  | 6 => .inr (6, [.ref (G.2.2 31), .int (g 1), .int (g 2)])
  | 7 => .inr (7, [.ref (G.2.2 35), .ref (G.2.2 36), .ref (G.2.2 37), .int (g 3)])
  | 8 => .inr (8, [.ref (G.2.2 39), .int (g 1), .int (g 2), .int (g 3), .int (g 4), .int (g 5), .ref (G.2.2 40), .int (g 7), .ref (G.2.2 41), .ref (G.2.2 42), .ref (G.2.2 43), .ref (G.2.2 44), .ref (G.2.2 45), .int (g 13), .int (g 14), .ref (G.2.2 46), .ref (G.2.2 47), .ref (G.2.2 48), .ref (G.2.2 49), .ref (G.2.2 50), .int (g 20), .long h, .ref (G.2.2 51), .ref (G.2.2 52), .ref (G.2.2 53), .ref (G.2.2 54), .ref (G.2.2 55), .ref (G.2.2 56), .int (g 28), .int (g 29), .int (g 30), .int (g 31), .ref (G.2.2 57), .ref (G.2.2 58), .int (g 34), .ref (G.2.2 59), .ref (G.2.2 60), .int (g 37), .int (g 38)])
  | 10 => .inl (G.2.1 0, 4, .inl g)
  | 11 => .inl (G.2.1 0, 5, .inl g)
  | 12 => .inl (G.2.1 0, 6, .inl g)
  | 13 => .inl (G.2.1 0, 7, .inl g)
  | 14 => .inl (G.2.1 0, 60, .inl g)
  | 15 => .inl (G.2.1 0, 103, .inl g)
  | 16 => .inl (G.2.1 0, 1442, .inl g)
  | 17 => .inl (G.2.1 0, 206, .inl g)
  | 18 => .inl (G.2.1 0, 32, .inl g)
  | 20 => .inl (G.2.1 1, 60, .inl g)
  | 21 => .inl (G.2.1 2, 5, .inl g)
  | 22 => .inl (G.2.1 2, 2, .inl g)
  | 30 => .inl (G.2.1 3, 2, .inr (.inr (.inr (.inr (fun j => some (G.2.2 (105 + 22 * j)))))))
  | 31 => .inl (G.2.1 3, 14, .inr (.inr (.inr (.inr (fun j => some (G.2.2 (149 + 22 * j)))))))
  | 32 => .inl (G.2.1 4, 5, .inr (.inr (.inr (.inr (fun j => some (G.2.2 (k + 1 + 4 * j)))))))
  | 33 => .inl (G.2.1 5, 5, .inr (.inr (.inr (.inr (fun j => some (G.2.2 (k + 1 + j)))))))
  | _ => .inl (G.2.1 0, 0, .inl g)
def cellOf (G : GT) (σ : MT) (k : Nat) : Nat × va_E := (G.2.2 k, cont G (kdf k) k (σ.1 k) (σ.2 k))
def wld (G : GT) (σ : MT) : va_W := (List.range 457).map (cellOf G σ)
def sA (σ : MT) (k : Nat) (g : Nat → Int32) : MT := (fun a => if a = k then g else σ.1 a, σ.2)
def sI (σ : MT) (k j : Nat) (v : Int32) : MT := sA σ k (upd (σ.1 k) j v)
def sL (σ : MT) (k : Nat) (v : Int64) : MT := (σ.1, fun a => if a = k then v else σ.2 a)
theorem kdf_lt {k : Nat} (h : kdf k ≠ 99) : k < 457 := by
  rcases Nat.lt_or_ge k 457 with q | q
  · exact q
  · exact absurd (by unfold kdf; rw [if_neg (by omega), if_neg (by omega)]) h
theorem wld_get {G : GT} {σ : MT} {k : Nat} (h : k < 457) : (wld G σ)[k]? = some (cellOf G σ k) := by
  unfold wld
  rw [List.getElem?_map, List.getElem?_range h]
  rfl
theorem wld_at {G : GT} {σ : MT} {k : Nat} {q : Nat × va_E} (h : (wld G σ)[k]? = some q) : k < 457 ∧ q = cellOf G σ k := by
  have h1 : k < 457 := by
    have h2 := (List.getElem?_eq_some_iff.mp h).1
    unfold wld at h2
    simpa using h2
  refine ⟨h1, ?_⟩
  rw [wld_get h1] at h
  exact (Option.some.inj h).symm
theorem wld_set {G : GT} {σ : MT} {k : Nat} (g : Nat → Int32) : (wld G σ).set k (G.2.2 k, cont G (kdf k) k g (σ.2 k)) = wld G (sA σ k g) := by
  unfold wld
  apply List.ext_getElem?
  intro i
  rw [List.getElem?_set]
  by_cases hi : k = i
  · subst hi
    by_cases hk : k < 457
    · rw [if_pos rfl, if_pos (by simpa using hk), List.getElem?_map, List.getElem?_range hk]
      simp [cellOf, sA]
    · rw [if_pos rfl, if_neg (by simpa using hk), List.getElem?_map, List.getElem?_eq_none (by simpa using hk)]
      rfl
  · rw [if_neg hi, List.getElem?_map, List.getElem?_map]
    by_cases hk : i < 457
    · rw [List.getElem?_range hk]
      simp [cellOf, sA, Ne.symm hi]
    · rw [List.getElem?_eq_none (by simpa using hk)]
      rfl
theorem wld_setL {G : GT} {σ : MT} {k : Nat} (v : Int64) : (wld G σ).set k (G.2.2 k, cont G (kdf k) k (σ.1 k) v) = wld G (sL σ k v) := by
  unfold wld
  apply List.ext_getElem?
  intro i
  rw [List.getElem?_set]
  by_cases hi : k = i
  · subst hi
    by_cases hk : k < 457
    · rw [if_pos rfl, if_pos (by simpa using hk), List.getElem?_map, List.getElem?_range hk]
      simp [cellOf, sL]
    · rw [if_pos rfl, if_neg (by simpa using hk), List.getElem?_map, List.getElem?_eq_none (by simpa using hk)]
      rfl
  · rw [if_neg hi, List.getElem?_map, List.getElem?_map]
    by_cases hk : i < 457
    · rw [List.getElem?_range hk]
      simp [cellOf, sL, Ne.symm hi]
    · rw [List.getElem?_eq_none (by simpa using hk)]
      rfl
def AW (G : GT) : Nat → Prop := fun q => ∃ k, k < 457 ∧ q = G.2.2 k
def INJ (G : GT) : Prop := ∀ i j, i < 457 → j < 457 → G.2.2 i = G.2.2 j → i = j
theorem wld_D {G : GT} {σ : MT} (h : INJ G) : va_D (AW G) (wld G σ) := by
  refine ⟨fun i j p q hi hj e => ?_, fun k q hk => ?_⟩
  · obtain ⟨a1, rfl⟩ := wld_at hi
    obtain ⟨a2, rfl⟩ := wld_at hj
    exact h i j a1 a2 e
  · obtain ⟨a1, rfl⟩ := wld_at hk
    exact ⟨k, a1, rfl⟩
-- what the statics hold
def thV (j : Nat) : Int64 := ([1, 1000, 1000000, 1000000000, 1000000000000] : List Int64).getD j 0
def faV (j : Nat) : Int32 := ([1, 1, 2, 6, 24, 120] : List Int32).getD j 0
def ST (G : GT) (U : State) (H : Heap) : Prop := ∃ t1 t2 : Nat, va_Z "TimeFlood" "THOUSANDS" "[J" (.ref t1) (AW G) U H ∧ va_T .long t1 5 (fun j => .long (thV j)) (AW G) U H ∧ va_Z "TimeFlood" "FACTORIALS" "[I" (.ref t2) (AW G) U H ∧ va_T .int t2 6 (fun j => .int (faV j)) (AW G) U H
theorem ST.moved {G : GT} {u U : State} {H : Heap} (hvm : u.vm.Alike U.vm) (h : ST G u H) : ST G U H := by
  obtain ⟨t1, t2, h1, h2, h3, h4⟩ := h
  exact ⟨t1, t2, h1.moved hvm, h2.moved hvm, h3.moved hvm, h4.moved hvm⟩
theorem ST.kept {G : GT} {U : State} {H H1 : Heap} (h : ST G U H) (hq : ∀ a : Nat, a < H.size → ¬ AW G a → H1[a]? = H[a]?) : ST G U H1 := by
  obtain ⟨t1, t2, h1, h2, h3, h4⟩ := h
  exact ⟨t1, t2, h1.kept hq, h2.kept hq, h3.kept hq, h4.kept hq⟩
-- the words of nest mates
def y_near : MethodName := ⟨"TimeFlood", "near", "(I)I"⟩
def NW (U : State) : Prop := va_Nw (.methodLinkNest "TimeFlood$Node" 70 y_near "TimeFlood") U ∧ va_Nw (.methodLinkNest "TimeFlood$Flood" 131 y_near "TimeFlood") U
theorem NW.same {u U : State} (h : u.vm = U.vm) (hZ : NW u) : NW U := ⟨va_Nw.same rfl h hZ.1, va_Nw.same rfl h hZ.2⟩
theorem NW.warm {s U : State} (hW : s.WarmedH U.vm) (hZ : NW s) : NW U := ⟨va_Nw.warmM hW hZ.1, va_Nw.warmM hW hZ.2⟩
/-- a state that holds the world σ -/
def Wd (G : GT) (σ : MT) (U : State) : Prop := va_P G.1 classes (wld G σ) U.heap ∧ va_K G.1 classes (tysW G.2.1) U ∧ INJ G ∧ NW U ∧ ST G U U.heap
theorem Wd.call {G : GT} {σ : MT} {U : State} (h : Wd G σ U) (g : JFrame) (mk : MethodId) (a : Array Value) : Wd G σ (U.calling g mk a) :=
  ⟨h.1, va_K.moved (u := U) (U := U.calling g mk a) (Vm.Alike.refl U.vm) h.2.1, h.2.2.1, NW.same (u := U) (U := U.calling g mk a) rfl h.2.2.2.1, ST.moved (u := U) (U := U.calling g mk a) (Vm.Alike.refl U.vm) h.2.2.2.2⟩
/-- THE JUDGEMENT: wherever the heap holds σ, at pc with these locals and this stack, the run comes to Q -/
def JW (X : XT) (G : GT) (Q : State → Prop) (nL pc : Nat) (lv : List (Nat × Value)) (st : List Value) (σ : MT) : Prop :=
  match X with
  | (p, l, e, R, s, m, args, below, meth, c) => ∀ (H : Heap) (locs : List Loc) (ls : Array Slot), va_P G.1 classes (wld G σ) H → va_S (AW G) s.heap H locs → lv_has ls nL lv → W p l e R s m args below meth c H locs 0 0 Q (F0 m pc ls st)
/-- what holds all through a method's body -/
def CX (X : XT) (G : GT) (cc : ByteArray) (nL : Nat) (own : String) (fr lo : Nat) : Prop :=
  match X with
  | (p, l, e, R, s, m, args, below, meth, c) => p.tables.exec = Jvm.exec ∧ c.code = cc ∧ c.maxLocals = nL ∧ s.vm.findClass own = some m.cls ∧ (∀ w ∈ GW, w.before args s = true) ∧ va_K G.1 classes (tysW G.2.1) s ∧ INJ G ∧ NW s ∧ ST G s s.heap ∧ fr ≤ R.frames ∧ lo ≤ R.locals ∧ meth.locks = false
def XL (X : XT) : Launch := X.2.1
def XR (X : XT) (ret : Option FieldType) : Prop := X.2.2.2.2.2.2.2.2.1.sig.returnType = ret
def RM (fr lo : Nat) : Room := { frames := fr, cells := 0, slots := 0, locals := lo }
def WS (y : MethodName) (bytes : ByteArray) (maxL : Nat) (ret : Option FieldType) : List Cond := .code y bytes maxL ret :: GW
def PI (G : GT) (r0 : Int32) (σ0 : MT) : Array Value → State → Outcome → State → Prop := va_Qi (fun (r : Int32) (u : MT) => r = r0 ∧ u = σ0) (Wd G) (AW G)
def PL (G : GT) (r0 : Int64) (σ0 : MT) : Array Value → State → Outcome → State → Prop := va_Ql (fun (r : Int64) (u : MT) => r = r0 ∧ u = σ0) (Wd G) (AW G)
def PV (G : GT) (σ0 : MT) : Array Value → State → Outcome → State → Prop := va_Qv (fun (u : MT) => u = σ0) (Wd G) (AW G)
/-- contracts: from σ, with these arguments, the method answers r0 and leaves σ0 -/
def CTI (l : Launch) (G : GT) (y : MethodName) (bytes : ByteArray) (maxL : Nat) (ret : Option FieldType) (fr lo : Nat) (av : List Value) (σ : MT) (r0 : Int32) (σ0 : MT) : Prop := Met l y (WS y bytes maxL ret) (RM fr lo) (va_Pc av (Wd G σ)) (PI G r0 σ0) 0 0 (AW G)
def CTL (l : Launch) (G : GT) (y : MethodName) (bytes : ByteArray) (maxL : Nat) (ret : Option FieldType) (fr lo : Nat) (av : List Value) (σ : MT) (r0 : Int64) (σ0 : MT) : Prop := Met l y (WS y bytes maxL ret) (RM fr lo) (va_Pc av (Wd G σ)) (PL G r0 σ0) 0 0 (AW G)
def CTV (l : Launch) (G : GT) (y : MethodName) (bytes : ByteArray) (maxL : Nat) (ret : Option FieldType) (fr lo : Nat) (av : List Value) (σ : MT) (σ0 : MT) : Prop := Met l y (WS y bytes maxL ret) (RM fr lo) (va_Pc av (Wd G σ)) (PV G σ0) 0 0 (AW G)
def QX (X : XT) (Qc : Array Value → State → Outcome → State → Prop) (G : GT) : State → Prop :=
  match X with
  | (p, l, e, R, s, m, args, below, meth, c) => MQ below Qc args s 0 0 (AW G)
/-- from the body to the contract; also for a class of the JDK's of which some methods are run by an entry, this one not -/
theorem ofWF {l : Launch} {y : MethodName} {ws ws' : List Cond} {rm : Room} {Pc : Array Value → State → Prop} {Qc : Array Value → State → Outcome → State → Prop} {mc ms : Nat} {free : Addr → Prop} {cc : ByteArray} {maxL : Nat} {ret : Option FieldType}
    (hy : plainFor y = true) (hw : ws = Cond.code y cc maxL ret :: ws')
    (body : ∀ p e s m args below meth c s₁, BodyLoose p l y (headSpec ws rm) cc maxL ret e s m args below meth c s₁ → c.maxLocals = maxL → Pc args s →
      W p l e (headSpec ws rm).room s m args below meth c s.heap [] 0 0 (MQ below Qc args s mc ms free) (entryFrame m args maxL)) : Met l y ws rm Pc Qc mc ms free := by
  refine MetFree.of_bodySF (code := cc) (maxLocals := maxL) (ret := ret) hy ?_ ?_
  · intro args s m h hn
    obtain ⟨meth, c, h1, h2, h3, h4, h5, h6, -, -⟩ := Cond.code_spec hn (atoms_spec (ws := ws) h _ (by rw [hw]; exact List.mem_cons_self))
    exact ⟨meth, c, h1, h2, h3, h4, h5, h6⟩
  · intro p e s m args below meth c s₁ B hml hP _
    have hh0 : s₁.heap = s.heap := by rw [B.state]; rfl
    obtain ⟨t, a1, o, b1, b2, b3⟩ := body p e s m args below meth c s₁ B hml hP s₁ hh0 (Stand.of_body B)
    exact ⟨t, o, a1, b1, b2, ⟨b3.1, b3.2⟩⟩
theorem entX {l : Launch} {G : GT} {y : MethodName} {cc : ByteArray} {maxL : Nat} {ret : Option FieldType} {fr lo : Nat} {av : List Value} {σ : MT} {Qc : Array Value → State → Outcome → State → Prop} (lv : List (Nat × Value)) (own : String) (hy : plainFor y = true) (ho : y.cls = own) (hlv : lv_args 0 av = lv) (hn : (lg_sl av).length ≤ maxL)
    (k : ∀ X : XT, XL X = l → XR X ret → CX X G cc maxL own fr lo → JW X G (QX X Qc G) maxL 0 lv [] σ) : Met l y (WS y cc maxL ret) (RM fr lo) (va_Pc av (Wd G σ)) Qc 0 0 (AW G) := by
  subst hlv
  subst ho
  refine ofWF (cc := cc) (maxL := maxL) (ret := ret) hy rfl ?_
  intro p e s m args below meth c s₁ B hml hv
  obtain ⟨rfl, hP, hK, hI, hN, hZ⟩ := hv
  have hts : ∀ w ∈ GW, w.before av.toArray s = true := fun w hw => atoms_spec (ws := WS y cc maxL ret) B.pre w (List.mem_cons_of_mem _ hw)
  have hown : s.vm.findClass y.cls = some m.cls := findClass_of_methodNamed B.named
  have hl := lv_entry av (n := maxL) hn
  rw [lg_entry_eq]
  exact k (p, l, e, RM fr lo, s, m, av.toArray, below, meth, c) rfl B.returns ⟨B.exec, B.bytes, hml, hown, hts, hK, hI, hN, hZ, Nat.le_refl _, Nat.le_refl _, B.notSynchronized⟩ s.heap [] _ hP va_S.rf hl
-- facts out of f = some ..
theorem g_if {α : Type} {c : Prop} [Decidable c] {a : Option α} {z : α} (h : (if c then a else none) = some z) : c ∧ a = some z := by
  by_cases hc : c
  · rw [if_pos hc] at h; exact ⟨hc, h⟩
  · rw [if_neg hc] at h; cases h
theorem g_bind {α β : Type} {o : Option α} {f : α → Option β} {z : β} (h : o.bind f = some z) : ∃ q, o = some q ∧ f q = some z := by
  cases o with
  | none => cases h
  | some q => exact ⟨q, rfl, h⟩
theorem g_ite {α : Type} {c : Prop} [Decidable c] {a b z : α} {P : Prop} (h : (if c then a else b) = z) (ht : c → a = z → P) (hf : ¬ c → b = z → P) : P := by
  by_cases hc : c
  · rw [if_pos hc] at h; exact ht hc h
  · rw [if_neg hc] at h; exact hf hc h
end
section
theorem j_iconst {X : XT} {G : GT} {Q : State → Prop} {cc : ByteArray} {nL : Nat} {own : String} {fr lo pc : Nat} {lv : List (Nat × Value)} {st : List Value} {σ : MT} (C : CX X G cc nL own fr lo) {n : Int} {v : Int32} (d : decode cc pc = .ok (.iconst n, 1)) (hv : Int32.ofInt n = v) (k : JW X G Q nL (pc + 1) lv (.int v :: st) σ) : JW X G Q nL pc lv (st) σ := by
  obtain ⟨p, l, e, R, s, m, args, below, meth, c⟩ := X
  obtain ⟨hx, hb, hml, hown, hts, hK, hI, hN, hZ, hfr, hlo, hlk⟩ := C
  intro H locs ls hP hS hl
  exact lv_iconst hx hb d hv (k H locs ls hP hS hl)
theorem j_bipush {X : XT} {G : GT} {Q : State → Prop} {cc : ByteArray} {nL : Nat} {own : String} {fr lo pc : Nat} {lv : List (Nat × Value)} {st : List Value} {σ : MT} (C : CX X G cc nL own fr lo) {n : Int} {v : Int32} (d : decode cc pc = .ok (.bipush n, 2)) (hv : (Int8.ofInt n).toInt32 = v) (k : JW X G Q nL (pc + 2) lv (.int v :: st) σ) : JW X G Q nL pc lv (st) σ := by
  obtain ⟨p, l, e, R, s, m, args, below, meth, c⟩ := X
  obtain ⟨hx, hb, hml, hown, hts, hK, hI, hN, hZ, hfr, hlo, hlk⟩ := C
  intro H locs ls hP hS hl
  exact lv_bipush hx hb d hv (k H locs ls hP hS hl)
theorem j_sipush {X : XT} {G : GT} {Q : State → Prop} {cc : ByteArray} {nL : Nat} {own : String} {fr lo pc : Nat} {lv : List (Nat × Value)} {st : List Value} {σ : MT} (C : CX X G cc nL own fr lo) {n : Int} {v : Int32} (d : decode cc pc = .ok (.sipush n, 3)) (hv : (Int16.ofInt n).toInt32 = v) (k : JW X G Q nL (pc + 3) lv (.int v :: st) σ) : JW X G Q nL pc lv (st) σ := by
  obtain ⟨p, l, e, R, s, m, args, below, meth, c⟩ := X
  obtain ⟨hx, hb, hml, hown, hts, hK, hI, hN, hZ, hfr, hlo, hlk⟩ := C
  intro H locs ls hP hS hl
  exact lv_sipush hx hb d hv (k H locs ls hP hS hl)
theorem j_lconst {X : XT} {G : GT} {Q : State → Prop} {cc : ByteArray} {nL : Nat} {own : String} {fr lo pc : Nat} {lv : List (Nat × Value)} {st : List Value} {σ : MT} (C : CX X G cc nL own fr lo) {n : Fin 2} {v : Int64} (d : decode cc pc = .ok (.lconst n, 1)) (hv : Int64.ofNat (n : Nat) = v) (k : JW X G Q nL (pc + 1) lv (.long v :: st) σ) : JW X G Q nL pc lv (st) σ := by
  obtain ⟨p, l, e, R, s, m, args, below, meth, c⟩ := X
  obtain ⟨hx, hb, hml, hown, hts, hK, hI, hN, hZ, hfr, hlo, hlk⟩ := C
  intro H locs ls hP hS hl
  exact lv_lconst hx hb d hv (k H locs ls hP hS hl)
theorem j_iadd {X : XT} {G : GT} {Q : State → Prop} {cc : ByteArray} {nL : Nat} {own : String} {fr lo pc : Nat} {lv : List (Nat × Value)} {st : List Value} {σ : MT} (C : CX X G cc nL own fr lo) {x y : Int32} (d : decode cc pc = .ok (.iadd, 1))  (k : JW X G Q nL (pc + 1) lv (.int (x + y) :: st) σ) : JW X G Q nL pc lv (.int y :: .int x :: st) σ := by
  obtain ⟨p, l, e, R, s, m, args, below, meth, c⟩ := X
  obtain ⟨hx, hb, hml, hown, hts, hK, hI, hN, hZ, hfr, hlo, hlk⟩ := C
  intro H locs ls hP hS hl
  exact lv_iadd hx hb d  (k H locs ls hP hS hl)
theorem j_isub {X : XT} {G : GT} {Q : State → Prop} {cc : ByteArray} {nL : Nat} {own : String} {fr lo pc : Nat} {lv : List (Nat × Value)} {st : List Value} {σ : MT} (C : CX X G cc nL own fr lo) {x y : Int32} (d : decode cc pc = .ok (.isub, 1))  (k : JW X G Q nL (pc + 1) lv (.int (x - y) :: st) σ) : JW X G Q nL pc lv (.int y :: .int x :: st) σ := by
  obtain ⟨p, l, e, R, s, m, args, below, meth, c⟩ := X
  obtain ⟨hx, hb, hml, hown, hts, hK, hI, hN, hZ, hfr, hlo, hlk⟩ := C
  intro H locs ls hP hS hl
  exact lv_isub hx hb d  (k H locs ls hP hS hl)
theorem j_imul {X : XT} {G : GT} {Q : State → Prop} {cc : ByteArray} {nL : Nat} {own : String} {fr lo pc : Nat} {lv : List (Nat × Value)} {st : List Value} {σ : MT} (C : CX X G cc nL own fr lo) {x y : Int32} (d : decode cc pc = .ok (.imul, 1))  (k : JW X G Q nL (pc + 1) lv (.int (x * y) :: st) σ) : JW X G Q nL pc lv (.int y :: .int x :: st) σ := by
  obtain ⟨p, l, e, R, s, m, args, below, meth, c⟩ := X
  obtain ⟨hx, hb, hml, hown, hts, hK, hI, hN, hZ, hfr, hlo, hlk⟩ := C
  intro H locs ls hP hS hl
  exact lv_imul hx hb d  (k H locs ls hP hS hl)
theorem j_iand {X : XT} {G : GT} {Q : State → Prop} {cc : ByteArray} {nL : Nat} {own : String} {fr lo pc : Nat} {lv : List (Nat × Value)} {st : List Value} {σ : MT} (C : CX X G cc nL own fr lo) {x y : Int32} (d : decode cc pc = .ok (.iand, 1))  (k : JW X G Q nL (pc + 1) lv (.int (x &&& y) :: st) σ) : JW X G Q nL pc lv (.int y :: .int x :: st) σ := by
  obtain ⟨p, l, e, R, s, m, args, below, meth, c⟩ := X
  obtain ⟨hx, hb, hml, hown, hts, hK, hI, hN, hZ, hfr, hlo, hlk⟩ := C
  intro H locs ls hP hS hl
  exact lv_iand hx hb d  (k H locs ls hP hS hl)
theorem j_ior {X : XT} {G : GT} {Q : State → Prop} {cc : ByteArray} {nL : Nat} {own : String} {fr lo pc : Nat} {lv : List (Nat × Value)} {st : List Value} {σ : MT} (C : CX X G cc nL own fr lo) {x y : Int32} (d : decode cc pc = .ok (.ior, 1))  (k : JW X G Q nL (pc + 1) lv (.int (x ||| y) :: st) σ) : JW X G Q nL pc lv (.int y :: .int x :: st) σ := by
  obtain ⟨p, l, e, R, s, m, args, below, meth, c⟩ := X
  obtain ⟨hx, hb, hml, hown, hts, hK, hI, hN, hZ, hfr, hlo, hlk⟩ := C
  intro H locs ls hP hS hl
  exact lv_ior hx hb d  (k H locs ls hP hS hl)
theorem j_ixor {X : XT} {G : GT} {Q : State → Prop} {cc : ByteArray} {nL : Nat} {own : String} {fr lo pc : Nat} {lv : List (Nat × Value)} {st : List Value} {σ : MT} (C : CX X G cc nL own fr lo) {x y : Int32} (d : decode cc pc = .ok (.ixor, 1))  (k : JW X G Q nL (pc + 1) lv (.int (x ^^^ y) :: st) σ) : JW X G Q nL pc lv (.int y :: .int x :: st) σ := by
  obtain ⟨p, l, e, R, s, m, args, below, meth, c⟩ := X
  obtain ⟨hx, hb, hml, hown, hts, hK, hI, hN, hZ, hfr, hlo, hlk⟩ := C
  intro H locs ls hP hS hl
  exact lv_ixor hx hb d  (k H locs ls hP hS hl)
theorem j_ishl {X : XT} {G : GT} {Q : State → Prop} {cc : ByteArray} {nL : Nat} {own : String} {fr lo pc : Nat} {lv : List (Nat × Value)} {st : List Value} {σ : MT} (C : CX X G cc nL own fr lo) {x y : Int32} (d : decode cc pc = .ok (.ishl, 1))  (k : JW X G Q nL (pc + 1) lv (.int (x <<< (y &&& 31)) :: st) σ) : JW X G Q nL pc lv (.int y :: .int x :: st) σ := by
  obtain ⟨p, l, e, R, s, m, args, below, meth, c⟩ := X
  obtain ⟨hx, hb, hml, hown, hts, hK, hI, hN, hZ, hfr, hlo, hlk⟩ := C
  intro H locs ls hP hS hl
  exact lv_ishl hx hb d  (k H locs ls hP hS hl)
theorem j_ishr {X : XT} {G : GT} {Q : State → Prop} {cc : ByteArray} {nL : Nat} {own : String} {fr lo pc : Nat} {lv : List (Nat × Value)} {st : List Value} {σ : MT} (C : CX X G cc nL own fr lo) {x y : Int32} (d : decode cc pc = .ok (.ishr, 1))  (k : JW X G Q nL (pc + 1) lv (.int (x >>> (y &&& 31)) :: st) σ) : JW X G Q nL pc lv (.int y :: .int x :: st) σ := by
  obtain ⟨p, l, e, R, s, m, args, below, meth, c⟩ := X
  obtain ⟨hx, hb, hml, hown, hts, hK, hI, hN, hZ, hfr, hlo, hlk⟩ := C
  intro H locs ls hP hS hl
  exact lv_ishr hx hb d  (k H locs ls hP hS hl)
theorem j_idiv {X : XT} {G : GT} {Q : State → Prop} {cc : ByteArray} {nL : Nat} {own : String} {fr lo pc : Nat} {lv : List (Nat × Value)} {st : List Value} {σ : MT} (C : CX X G cc nL own fr lo) {x y : Int32} (d : decode cc pc = .ok (.idiv, 1)) (hne : ¬ y = 0) (k : JW X G Q nL (pc + 1) lv (.int (x / y) :: st) σ) : JW X G Q nL pc lv (.int y :: .int x :: st) σ := by
  obtain ⟨p, l, e, R, s, m, args, below, meth, c⟩ := X
  obtain ⟨hx, hb, hml, hown, hts, hK, hI, hN, hZ, hfr, hlo, hlk⟩ := C
  intro H locs ls hP hS hl
  exact lv_idiv hx hb d hne (k H locs ls hP hS hl)
theorem j_irem {X : XT} {G : GT} {Q : State → Prop} {cc : ByteArray} {nL : Nat} {own : String} {fr lo pc : Nat} {lv : List (Nat × Value)} {st : List Value} {σ : MT} (C : CX X G cc nL own fr lo) {x y : Int32} (d : decode cc pc = .ok (.irem, 1)) (hne : ¬ y = 0) (k : JW X G Q nL (pc + 1) lv (.int (x - x / y * y) :: st) σ) : JW X G Q nL pc lv (.int y :: .int x :: st) σ := by
  obtain ⟨p, l, e, R, s, m, args, below, meth, c⟩ := X
  obtain ⟨hx, hb, hml, hown, hts, hK, hI, hN, hZ, hfr, hlo, hlk⟩ := C
  intro H locs ls hP hS hl
  exact lv_irem hx hb d hne (k H locs ls hP hS hl)
theorem j_ineg {X : XT} {G : GT} {Q : State → Prop} {cc : ByteArray} {nL : Nat} {own : String} {fr lo pc : Nat} {lv : List (Nat × Value)} {st : List Value} {σ : MT} (C : CX X G cc nL own fr lo) {x : Int32} (d : decode cc pc = .ok (.ineg, 1))  (k : JW X G Q nL (pc + 1) lv (.int (-x) :: st) σ) : JW X G Q nL pc lv (.int x :: st) σ := by
  obtain ⟨p, l, e, R, s, m, args, below, meth, c⟩ := X
  obtain ⟨hx, hb, hml, hown, hts, hK, hI, hN, hZ, hfr, hlo, hlk⟩ := C
  intro H locs ls hP hS hl
  exact lv_ineg hx hb d  (k H locs ls hP hS hl)
theorem j_ladd {X : XT} {G : GT} {Q : State → Prop} {cc : ByteArray} {nL : Nat} {own : String} {fr lo pc : Nat} {lv : List (Nat × Value)} {st : List Value} {σ : MT} (C : CX X G cc nL own fr lo) {x y : Int64} (d : decode cc pc = .ok (.ladd, 1))  (k : JW X G Q nL (pc + 1) lv (.long (x + y) :: st) σ) : JW X G Q nL pc lv (.long y :: .long x :: st) σ := by
  obtain ⟨p, l, e, R, s, m, args, below, meth, c⟩ := X
  obtain ⟨hx, hb, hml, hown, hts, hK, hI, hN, hZ, hfr, hlo, hlk⟩ := C
  intro H locs ls hP hS hl
  exact lv_ladd hx hb d  (k H locs ls hP hS hl)
theorem j_lsub {X : XT} {G : GT} {Q : State → Prop} {cc : ByteArray} {nL : Nat} {own : String} {fr lo pc : Nat} {lv : List (Nat × Value)} {st : List Value} {σ : MT} (C : CX X G cc nL own fr lo) {x y : Int64} (d : decode cc pc = .ok (.lsub, 1))  (k : JW X G Q nL (pc + 1) lv (.long (x - y) :: st) σ) : JW X G Q nL pc lv (.long y :: .long x :: st) σ := by
  obtain ⟨p, l, e, R, s, m, args, below, meth, c⟩ := X
  obtain ⟨hx, hb, hml, hown, hts, hK, hI, hN, hZ, hfr, hlo, hlk⟩ := C
  intro H locs ls hP hS hl
  exact lv_lsub hx hb d  (k H locs ls hP hS hl)
theorem j_lmul {X : XT} {G : GT} {Q : State → Prop} {cc : ByteArray} {nL : Nat} {own : String} {fr lo pc : Nat} {lv : List (Nat × Value)} {st : List Value} {σ : MT} (C : CX X G cc nL own fr lo) {x y : Int64} (d : decode cc pc = .ok (.lmul, 1))  (k : JW X G Q nL (pc + 1) lv (.long (x * y) :: st) σ) : JW X G Q nL pc lv (.long y :: .long x :: st) σ := by
  obtain ⟨p, l, e, R, s, m, args, below, meth, c⟩ := X
  obtain ⟨hx, hb, hml, hown, hts, hK, hI, hN, hZ, hfr, hlo, hlk⟩ := C
  intro H locs ls hP hS hl
  exact lv_lmul hx hb d  (k H locs ls hP hS hl)
theorem j_land {X : XT} {G : GT} {Q : State → Prop} {cc : ByteArray} {nL : Nat} {own : String} {fr lo pc : Nat} {lv : List (Nat × Value)} {st : List Value} {σ : MT} (C : CX X G cc nL own fr lo) {x y : Int64} (d : decode cc pc = .ok (.land, 1))  (k : JW X G Q nL (pc + 1) lv (.long (x &&& y) :: st) σ) : JW X G Q nL pc lv (.long y :: .long x :: st) σ := by
  obtain ⟨p, l, e, R, s, m, args, below, meth, c⟩ := X
  obtain ⟨hx, hb, hml, hown, hts, hK, hI, hN, hZ, hfr, hlo, hlk⟩ := C
  intro H locs ls hP hS hl
  exact lv_land hx hb d  (k H locs ls hP hS hl)
theorem j_lor {X : XT} {G : GT} {Q : State → Prop} {cc : ByteArray} {nL : Nat} {own : String} {fr lo pc : Nat} {lv : List (Nat × Value)} {st : List Value} {σ : MT} (C : CX X G cc nL own fr lo) {x y : Int64} (d : decode cc pc = .ok (.lor, 1))  (k : JW X G Q nL (pc + 1) lv (.long (x ||| y) :: st) σ) : JW X G Q nL pc lv (.long y :: .long x :: st) σ := by
  obtain ⟨p, l, e, R, s, m, args, below, meth, c⟩ := X
  obtain ⟨hx, hb, hml, hown, hts, hK, hI, hN, hZ, hfr, hlo, hlk⟩ := C
  intro H locs ls hP hS hl
  exact lv_lor hx hb d  (k H locs ls hP hS hl)
theorem j_lxor {X : XT} {G : GT} {Q : State → Prop} {cc : ByteArray} {nL : Nat} {own : String} {fr lo pc : Nat} {lv : List (Nat × Value)} {st : List Value} {σ : MT} (C : CX X G cc nL own fr lo) {x y : Int64} (d : decode cc pc = .ok (.lxor, 1))  (k : JW X G Q nL (pc + 1) lv (.long (x ^^^ y) :: st) σ) : JW X G Q nL pc lv (.long y :: .long x :: st) σ := by
  obtain ⟨p, l, e, R, s, m, args, below, meth, c⟩ := X
  obtain ⟨hx, hb, hml, hown, hts, hK, hI, hN, hZ, hfr, hlo, hlk⟩ := C
  intro H locs ls hP hS hl
  exact lv_lxor hx hb d  (k H locs ls hP hS hl)
theorem j_ldiv {X : XT} {G : GT} {Q : State → Prop} {cc : ByteArray} {nL : Nat} {own : String} {fr lo pc : Nat} {lv : List (Nat × Value)} {st : List Value} {σ : MT} (C : CX X G cc nL own fr lo) {x y : Int64} (d : decode cc pc = .ok (.ldiv, 1)) (hne : ¬ y = 0) (k : JW X G Q nL (pc + 1) lv (.long (x / y) :: st) σ) : JW X G Q nL pc lv (.long y :: .long x :: st) σ := by
  obtain ⟨p, l, e, R, s, m, args, below, meth, c⟩ := X
  obtain ⟨hx, hb, hml, hown, hts, hK, hI, hN, hZ, hfr, hlo, hlk⟩ := C
  intro H locs ls hP hS hl
  exact lv_ldiv hx hb d hne (k H locs ls hP hS hl)
theorem j_lrem {X : XT} {G : GT} {Q : State → Prop} {cc : ByteArray} {nL : Nat} {own : String} {fr lo pc : Nat} {lv : List (Nat × Value)} {st : List Value} {σ : MT} (C : CX X G cc nL own fr lo) {x y : Int64} (d : decode cc pc = .ok (.lrem, 1)) (hne : ¬ y = 0) (k : JW X G Q nL (pc + 1) lv (.long (x - x / y * y) :: st) σ) : JW X G Q nL pc lv (.long y :: .long x :: st) σ := by
  obtain ⟨p, l, e, R, s, m, args, below, meth, c⟩ := X
  obtain ⟨hx, hb, hml, hown, hts, hK, hI, hN, hZ, hfr, hlo, hlk⟩ := C
  intro H locs ls hP hS hl
  exact lv_lrem hx hb d hne (k H locs ls hP hS hl)
theorem j_lneg {X : XT} {G : GT} {Q : State → Prop} {cc : ByteArray} {nL : Nat} {own : String} {fr lo pc : Nat} {lv : List (Nat × Value)} {st : List Value} {σ : MT} (C : CX X G cc nL own fr lo) {x : Int64} (d : decode cc pc = .ok (.lneg, 1))  (k : JW X G Q nL (pc + 1) lv (.long (-x) :: st) σ) : JW X G Q nL pc lv (.long x :: st) σ := by
  obtain ⟨p, l, e, R, s, m, args, below, meth, c⟩ := X
  obtain ⟨hx, hb, hml, hown, hts, hK, hI, hN, hZ, hfr, hlo, hlk⟩ := C
  intro H locs ls hP hS hl
  exact lv_lneg hx hb d  (k H locs ls hP hS hl)
theorem j_i2l {X : XT} {G : GT} {Q : State → Prop} {cc : ByteArray} {nL : Nat} {own : String} {fr lo pc : Nat} {lv : List (Nat × Value)} {st : List Value} {σ : MT} (C : CX X G cc nL own fr lo) {x : Int32} (d : decode cc pc = .ok (.i2l, 1))  (k : JW X G Q nL (pc + 1) lv (.long x.toInt64 :: st) σ) : JW X G Q nL pc lv (.int x :: st) σ := by
  obtain ⟨p, l, e, R, s, m, args, below, meth, c⟩ := X
  obtain ⟨hx, hb, hml, hown, hts, hK, hI, hN, hZ, hfr, hlo, hlk⟩ := C
  intro H locs ls hP hS hl
  exact lv_i2l hx hb d rfl (k H locs ls hP hS hl)
theorem j_l2i {X : XT} {G : GT} {Q : State → Prop} {cc : ByteArray} {nL : Nat} {own : String} {fr lo pc : Nat} {lv : List (Nat × Value)} {st : List Value} {σ : MT} (C : CX X G cc nL own fr lo) {x : Int64} (d : decode cc pc = .ok (.l2i, 1))  (k : JW X G Q nL (pc + 1) lv (.int x.toInt32 :: st) σ) : JW X G Q nL pc lv (.long x :: st) σ := by
  obtain ⟨p, l, e, R, s, m, args, below, meth, c⟩ := X
  obtain ⟨hx, hb, hml, hown, hts, hK, hI, hN, hZ, hfr, hlo, hlk⟩ := C
  intro H locs ls hP hS hl
  exact lv_l2i hx hb d rfl (k H locs ls hP hS hl)
theorem j_i2c {X : XT} {G : GT} {Q : State → Prop} {cc : ByteArray} {nL : Nat} {own : String} {fr lo pc : Nat} {lv : List (Nat × Value)} {st : List Value} {σ : MT} (C : CX X G cc nL own fr lo) {x : Int32} (d : decode cc pc = .ok (.i2c, 1))  (k : JW X G Q nL (pc + 1) lv (.int (x.toUInt32 % 65536).toInt32 :: st) σ) : JW X G Q nL pc lv (.int x :: st) σ := by
  obtain ⟨p, l, e, R, s, m, args, below, meth, c⟩ := X
  obtain ⟨hx, hb, hml, hown, hts, hK, hI, hN, hZ, hfr, hlo, hlk⟩ := C
  intro H locs ls hP hS hl
  exact lv_i2c hx hb d rfl (k H locs ls hP hS hl)
theorem j_iushr {X : XT} {G : GT} {Q : State → Prop} {cc : ByteArray} {nL : Nat} {own : String} {fr lo pc : Nat} {lv : List (Nat × Value)} {st : List Value} {σ : MT} (C : CX X G cc nL own fr lo) {x y : Int32} (d : decode cc pc = .ok (.iushr, 1))  (k : JW X G Q nL (pc + 1) lv (.int (x.toUInt32 >>> (y.toUInt32 &&& Int32.toUInt32 31)).toInt32 :: st) σ) : JW X G Q nL pc lv (.int y :: .int x :: st) σ := by
  obtain ⟨p, l, e, R, s, m, args, below, meth, c⟩ := X
  obtain ⟨hx, hb, hml, hown, hts, hK, hI, hN, hZ, hfr, hlo, hlk⟩ := C
  intro H locs ls hP hS hl
  exact lv_iushr hx hb d rfl (k H locs ls hP hS hl)
theorem j_lushr {X : XT} {G : GT} {Q : State → Prop} {cc : ByteArray} {nL : Nat} {own : String} {fr lo pc : Nat} {lv : List (Nat × Value)} {st : List Value} {σ : MT} (C : CX X G cc nL own fr lo) {x : Int64} {y : Int32} (d : decode cc pc = .ok (.lushr, 1))  (k : JW X G Q nL (pc + 1) lv (.long (x.toUInt64 >>> (y.toInt64.toUInt64 &&& Int64.toUInt64 63)).toInt64 :: st) σ) : JW X G Q nL pc lv (.int y :: .long x :: st) σ := by
  obtain ⟨p, l, e, R, s, m, args, below, meth, c⟩ := X
  obtain ⟨hx, hb, hml, hown, hts, hK, hI, hN, hZ, hfr, hlo, hlk⟩ := C
  intro H locs ls hP hS hl
  exact lv_lushr hx hb d rfl (k H locs ls hP hS hl)
theorem j_lshl {X : XT} {G : GT} {Q : State → Prop} {cc : ByteArray} {nL : Nat} {own : String} {fr lo pc : Nat} {lv : List (Nat × Value)} {st : List Value} {σ : MT} (C : CX X G cc nL own fr lo) {x : Int64} {y : Int32} (d : decode cc pc = .ok (.lshl, 1))  (k : JW X G Q nL (pc + 1) lv (.long (x <<< (y.toInt64 &&& 63)) :: st) σ) : JW X G Q nL pc lv (.int y :: .long x :: st) σ := by
  obtain ⟨p, l, e, R, s, m, args, below, meth, c⟩ := X
  obtain ⟨hx, hb, hml, hown, hts, hK, hI, hN, hZ, hfr, hlo, hlk⟩ := C
  intro H locs ls hP hS hl
  exact lv_lshl hx hb d rfl (k H locs ls hP hS hl)
theorem j_lcmp {X : XT} {G : GT} {Q : State → Prop} {cc : ByteArray} {nL : Nat} {own : String} {fr lo pc : Nat} {lv : List (Nat × Value)} {st : List Value} {σ : MT} (C : CX X G cc nL own fr lo) {x y : Int64} (d : decode cc pc = .ok (.lcmp, 1)) (k : JW X G Q nL (pc + 1) lv (.int (lg_cmp x y) :: st) σ) : JW X G Q nL pc lv (.long y :: .long x :: st) σ := by
  obtain ⟨p, l, e, R, s, m, args, below, meth, c⟩ := X
  obtain ⟨hx, hb, hml, hown, hts, hK, hI, hN, hZ, hfr, hlo, hlk⟩ := C
  intro H locs ls hP hS hl
  exact W.lcmp hx hb d (k H locs ls hP hS hl)
theorem j_dup {X : XT} {G : GT} {Q : State → Prop} {cc : ByteArray} {nL : Nat} {own : String} {fr lo pc : Nat} {lv : List (Nat × Value)} {st : List Value} {σ : MT} (C : CX X G cc nL own fr lo) {va : Value} (d : decode cc pc = .ok (.dup, 1)) (h1 : va.category = 1) (k : JW X G Q nL (pc + 1) lv (va :: va :: st) σ) : JW X G Q nL pc lv (va :: st) σ := by
  obtain ⟨p, l, e, R, s, m, args, below, meth, c⟩ := X
  obtain ⟨hx, hb, hml, hown, hts, hK, hI, hN, hZ, hfr, hlo, hlk⟩ := C
  intro H locs ls hP hS hl
  exact lv_dup hx hb d h1 (k H locs ls hP hS hl)
theorem j_pop {X : XT} {G : GT} {Q : State → Prop} {cc : ByteArray} {nL : Nat} {own : String} {fr lo pc : Nat} {lv : List (Nat × Value)} {st : List Value} {σ : MT} (C : CX X G cc nL own fr lo) {va : Value} (d : decode cc pc = .ok (.pop, 1)) (h1 : va.category = 1) (k : JW X G Q nL (pc + 1) lv (st) σ) : JW X G Q nL pc lv (va :: st) σ := by
  obtain ⟨p, l, e, R, s, m, args, below, meth, c⟩ := X
  obtain ⟨hx, hb, hml, hown, hts, hK, hI, hN, hZ, hfr, hlo, hlk⟩ := C
  intro H locs ls hP hS hl
  exact lv_pop hx hb d h1 (k H locs ls hP hS hl)
theorem j_dup2_11 {X : XT} {G : GT} {Q : State → Prop} {cc : ByteArray} {nL : Nat} {own : String} {fr lo pc : Nat} {lv : List (Nat × Value)} {st : List Value} {σ : MT} (C : CX X G cc nL own fr lo) {va vb : Value} (d : decode cc pc = .ok (.dup2, 1)) (h1 : va.category = 1) (h2 : vb.category = 1) (k : JW X G Q nL (pc + 1) lv (va :: vb :: va :: vb :: st) σ) : JW X G Q nL pc lv (va :: vb :: st) σ := by
  obtain ⟨p, l, e, R, s, m, args, below, meth, c⟩ := X
  obtain ⟨hx, hb, hml, hown, hts, hK, hI, hN, hZ, hfr, hlo, hlk⟩ := C
  intro H locs ls hP hS hl
  exact lv_dup2_11 hx hb d h1 h2 (k H locs ls hP hS hl)
theorem j_ldc2 {X : XT} {G : GT} {Q : State → Prop} {cc : ByteArray} {nL : Nat} {own : String} {fr lo pc : Nat} {lv : List (Nat × Value)} {st : List Value} {σ : MT} (C : CX X G cc nL own fr lo) {index : Nat} {v : Int64} (w : Cond.constantLong own index v ∈ GW) (d : decode cc pc = .ok (.ldc2_w index, 3)) (k : JW X G Q nL (pc + 3) lv (.long v :: st) σ) : JW X G Q nL pc lv st σ := by
  obtain ⟨p, l, e, R, s, m, args, below, meth, c⟩ := X
  obtain ⟨hx, hb, hml, hown, hts, hK, hI, hN, hZ, hfr, hlo, hlk⟩ := C
  intro H locs ls hP hS hl
  exact lv_ldc2 hx hb hown (hts _ w) d (k H locs ls hP hS hl)
theorem j_ldcw {X : XT} {G : GT} {Q : State → Prop} {cc : ByteArray} {nL : Nat} {own : String} {fr lo pc : Nat} {lv : List (Nat × Value)} {st : List Value} {σ : MT} (C : CX X G cc nL own fr lo) {index : Nat} {v : Int32} (w : Cond.constant own index v ∈ GW) (d : decode cc pc = .ok (.ldc_w index, 3)) (k : JW X G Q nL (pc + 3) lv (.int v :: st) σ) : JW X G Q nL pc lv st σ := by
  obtain ⟨p, l, e, R, s, m, args, below, meth, c⟩ := X
  obtain ⟨hx, hb, hml, hown, hts, hK, hI, hN, hZ, hfr, hlo, hlk⟩ := C
  intro H locs ls hP hS hl
  exact lv_ldcw hx hb hown (hts _ w) d (k H locs ls hP hS hl)
theorem j_iload_n {X : XT} {G : GT} {Q : State → Prop} {cc : ByteArray} {nL : Nat} {own : String} {fr lo pc : Nat} {lv : List (Nat × Value)} {st : List Value} {σ : MT} (C : CX X G cc nL own fr lo) {kf : Fin 4} {i : Nat} {x : Int32} (d : decode cc pc = .ok (.iload_n kf, 1)) (hi : (kf : Nat) = i) (j : Nat) (h : lv[j]? = some (i, .int x)) (k : JW X G Q nL (pc + 1) lv (.int x :: st) σ) : JW X G Q nL pc lv st σ := by
  obtain ⟨p, l, e, R, s, m, args, below, meth, c⟩ := X
  obtain ⟨hx, hb, hml, hown, hts, hK, hI, hN, hZ, hfr, hlo, hlk⟩ := C
  intro H locs ls hP hS hl
  exact lv_iload_n hx hb d hi (lv_at hl j h) (k H locs ls hP hS hl)
theorem j_iload {X : XT} {G : GT} {Q : State → Prop} {cc : ByteArray} {nL : Nat} {own : String} {fr lo pc : Nat} {lv : List (Nat × Value)} {st : List Value} {σ : MT} (C : CX X G cc nL own fr lo) {i : Nat} {x : Int32} (d : decode cc pc = .ok (.iload i, 2)) (j : Nat) (h : lv[j]? = some (i, .int x)) (k : JW X G Q nL (pc + 2) lv (.int x :: st) σ) : JW X G Q nL pc lv st σ := by
  obtain ⟨p, l, e, R, s, m, args, below, meth, c⟩ := X
  obtain ⟨hx, hb, hml, hown, hts, hK, hI, hN, hZ, hfr, hlo, hlk⟩ := C
  intro H locs ls hP hS hl
  exact lv_iload hx hb d (lv_at hl j h) (k H locs ls hP hS hl)
theorem j_lload_n {X : XT} {G : GT} {Q : State → Prop} {cc : ByteArray} {nL : Nat} {own : String} {fr lo pc : Nat} {lv : List (Nat × Value)} {st : List Value} {σ : MT} (C : CX X G cc nL own fr lo) {kf : Fin 4} {i : Nat} {x : Int64} (d : decode cc pc = .ok (.lload_n kf, 1)) (hi : (kf : Nat) = i) (j : Nat) (h : lv[j]? = some (i, .long x)) (k : JW X G Q nL (pc + 1) lv (.long x :: st) σ) : JW X G Q nL pc lv st σ := by
  obtain ⟨p, l, e, R, s, m, args, below, meth, c⟩ := X
  obtain ⟨hx, hb, hml, hown, hts, hK, hI, hN, hZ, hfr, hlo, hlk⟩ := C
  intro H locs ls hP hS hl
  exact lv_lload_n hx hb d hi (lv_at hl j h) (k H locs ls hP hS hl)
theorem j_lload {X : XT} {G : GT} {Q : State → Prop} {cc : ByteArray} {nL : Nat} {own : String} {fr lo pc : Nat} {lv : List (Nat × Value)} {st : List Value} {σ : MT} (C : CX X G cc nL own fr lo) {i : Nat} {x : Int64} (d : decode cc pc = .ok (.lload i, 2)) (j : Nat) (h : lv[j]? = some (i, .long x)) (k : JW X G Q nL (pc + 2) lv (.long x :: st) σ) : JW X G Q nL pc lv st σ := by
  obtain ⟨p, l, e, R, s, m, args, below, meth, c⟩ := X
  obtain ⟨hx, hb, hml, hown, hts, hK, hI, hN, hZ, hfr, hlo, hlk⟩ := C
  intro H locs ls hP hS hl
  exact lv_lload hx hb d (lv_at hl j h) (k H locs ls hP hS hl)
theorem j_aload_n {X : XT} {G : GT} {Q : State → Prop} {cc : ByteArray} {nL : Nat} {own : String} {fr lo pc : Nat} {lv : List (Nat × Value)} {st : List Value} {σ : MT} (C : CX X G cc nL own fr lo) {kf : Fin 4} {i a : Nat} (d : decode cc pc = .ok (.aload_n kf, 1)) (hi : (kf : Nat) = i) (j : Nat) (h : lv[j]? = some (i, rf G a)) (k : JW X G Q nL (pc + 1) lv (rf G a :: st) σ) : JW X G Q nL pc lv st σ := by
  obtain ⟨p, l, e, R, s, m, args, below, meth, c⟩ := X
  obtain ⟨hx, hb, hml, hown, hts, hK, hI, hN, hZ, hfr, hlo, hlk⟩ := C
  intro H locs ls hP hS hl
  exact lv_aload_n hx hb d hi (lv_at hl j h) (k H locs ls hP hS hl)
theorem j_aload {X : XT} {G : GT} {Q : State → Prop} {cc : ByteArray} {nL : Nat} {own : String} {fr lo pc : Nat} {lv : List (Nat × Value)} {st : List Value} {σ : MT} (C : CX X G cc nL own fr lo) {i a : Nat} (d : decode cc pc = .ok (.aload i, 2)) (j : Nat) (h : lv[j]? = some (i, rf G a)) (k : JW X G Q nL (pc + 2) lv (rf G a :: st) σ) : JW X G Q nL pc lv st σ := by
  obtain ⟨p, l, e, R, s, m, args, below, meth, c⟩ := X
  obtain ⟨hx, hb, hml, hown, hts, hK, hI, hN, hZ, hfr, hlo, hlk⟩ := C
  intro H locs ls hP hS hl
  exact lv_aload hx hb d (lv_at hl j h) (k H locs ls hP hS hl)
theorem j_istore_n {X : XT} {G : GT} {Q : State → Prop} {cc : ByteArray} {nL : Nat} {own : String} {fr lo pc : Nat} {lv : List (Nat × Value)} {st : List Value} {σ : MT} (C : CX X G cc nL own fr lo) {kf : Fin 4} {i : Nat} {x : Int32} (lv' : List (Nat × Value)) (d : decode cc pc = .ok (.istore_n kf, 1)) (hi : (kf : Nat) = i) (hn : i < nL) (h : (i, .int x) :: lv.filter (fun q => !(q.1 == i) && !(q.1 + 1 == i && q.2.category == 2)) = lv') (k : JW X G Q nL (pc + 1) lv' st σ) : JW X G Q nL pc lv (.int x :: st) σ := by
  obtain ⟨p, l, e, R, s, m, args, below, meth, c⟩ := X
  obtain ⟨hx, hb, hml, hown, hts, hK, hI, hN, hZ, hfr, hlo, hlk⟩ := C
  intro H locs ls hP hS hl
  exact lv_istore_n hx hb d hi hl hn h (fun ls hl => k H locs ls hP hS hl)
theorem j_istore {X : XT} {G : GT} {Q : State → Prop} {cc : ByteArray} {nL : Nat} {own : String} {fr lo pc : Nat} {lv : List (Nat × Value)} {st : List Value} {σ : MT} (C : CX X G cc nL own fr lo) {i : Nat} {x : Int32} (lv' : List (Nat × Value)) (d : decode cc pc = .ok (.istore i, 2)) (hn : i < nL) (h : (i, .int x) :: lv.filter (fun q => !(q.1 == i) && !(q.1 + 1 == i && q.2.category == 2)) = lv') (k : JW X G Q nL (pc + 2) lv' st σ) : JW X G Q nL pc lv (.int x :: st) σ := by
  obtain ⟨p, l, e, R, s, m, args, below, meth, c⟩ := X
  obtain ⟨hx, hb, hml, hown, hts, hK, hI, hN, hZ, hfr, hlo, hlk⟩ := C
  intro H locs ls hP hS hl
  exact lv_istore hx hb d hl hn h (fun ls hl => k H locs ls hP hS hl)
theorem j_lstore_n {X : XT} {G : GT} {Q : State → Prop} {cc : ByteArray} {nL : Nat} {own : String} {fr lo pc : Nat} {lv : List (Nat × Value)} {st : List Value} {σ : MT} (C : CX X G cc nL own fr lo) {kf : Fin 4} {i : Nat} {x : Int64} (lv' : List (Nat × Value)) (d : decode cc pc = .ok (.lstore_n kf, 1)) (hi : (kf : Nat) = i) (hn : i + 1 < nL) (h : (i, .long x) :: lv.filter (fun q => !(q.1 == i) && (!(q.1 == i + 1) && !(q.1 + 1 == i && q.2.category == 2))) = lv') (k : JW X G Q nL (pc + 1) lv' st σ) : JW X G Q nL pc lv (.long x :: st) σ := by
  obtain ⟨p, l, e, R, s, m, args, below, meth, c⟩ := X
  obtain ⟨hx, hb, hml, hown, hts, hK, hI, hN, hZ, hfr, hlo, hlk⟩ := C
  intro H locs ls hP hS hl
  exact lv_lstore_n hx hb d hi hl hn h (fun ls hl => k H locs ls hP hS hl)
theorem j_lstore {X : XT} {G : GT} {Q : State → Prop} {cc : ByteArray} {nL : Nat} {own : String} {fr lo pc : Nat} {lv : List (Nat × Value)} {st : List Value} {σ : MT} (C : CX X G cc nL own fr lo) {i : Nat} {x : Int64} (lv' : List (Nat × Value)) (d : decode cc pc = .ok (.lstore i, 2)) (hn : i + 1 < nL) (h : (i, .long x) :: lv.filter (fun q => !(q.1 == i) && (!(q.1 == i + 1) && !(q.1 + 1 == i && q.2.category == 2))) = lv') (k : JW X G Q nL (pc + 2) lv' st σ) : JW X G Q nL pc lv (.long x :: st) σ := by
  obtain ⟨p, l, e, R, s, m, args, below, meth, c⟩ := X
  obtain ⟨hx, hb, hml, hown, hts, hK, hI, hN, hZ, hfr, hlo, hlk⟩ := C
  intro H locs ls hP hS hl
  exact lv_lstore hx hb d hl hn h (fun ls hl => k H locs ls hP hS hl)
theorem j_astore_n {X : XT} {G : GT} {Q : State → Prop} {cc : ByteArray} {nL : Nat} {own : String} {fr lo pc : Nat} {lv : List (Nat × Value)} {st : List Value} {σ : MT} (C : CX X G cc nL own fr lo) {kf : Fin 4} {i : Nat} {a : Nat} (lv' : List (Nat × Value)) (d : decode cc pc = .ok (.astore_n kf, 1)) (hi : (kf : Nat) = i) (hn : i < nL) (h : (i, rf G a) :: lv.filter (fun q => !(q.1 == i) && !(q.1 + 1 == i && q.2.category == 2)) = lv') (k : JW X G Q nL (pc + 1) lv' st σ) : JW X G Q nL pc lv (rf G a :: st) σ := by
  obtain ⟨p, l, e, R, s, m, args, below, meth, c⟩ := X
  obtain ⟨hx, hb, hml, hown, hts, hK, hI, hN, hZ, hfr, hlo, hlk⟩ := C
  intro H locs ls hP hS hl
  exact lv_astore_n hx hb d hi hl hn h (fun ls hl => k H locs ls hP hS hl)
theorem j_astore {X : XT} {G : GT} {Q : State → Prop} {cc : ByteArray} {nL : Nat} {own : String} {fr lo pc : Nat} {lv : List (Nat × Value)} {st : List Value} {σ : MT} (C : CX X G cc nL own fr lo) {i : Nat} {a : Nat} (lv' : List (Nat × Value)) (d : decode cc pc = .ok (.astore i, 2)) (hn : i < nL) (h : (i, rf G a) :: lv.filter (fun q => !(q.1 == i) && !(q.1 + 1 == i && q.2.category == 2)) = lv') (k : JW X G Q nL (pc + 2) lv' st σ) : JW X G Q nL pc lv (rf G a :: st) σ := by
  obtain ⟨p, l, e, R, s, m, args, below, meth, c⟩ := X
  obtain ⟨hx, hb, hml, hown, hts, hK, hI, hN, hZ, hfr, hlo, hlk⟩ := C
  intro H locs ls hP hS hl
  exact lv_astore hx hb d hl hn h (fun ls hl => k H locs ls hP hS hl)
theorem j_iinc {X : XT} {G : GT} {Q : State → Prop} {cc : ByteArray} {nL : Nat} {own : String} {fr lo pc : Nat} {lv : List (Nat × Value)} {st : List Value} {σ : MT} (C : CX X G cc nL own fr lo) {i : Nat} {n : Int} {x v : Int32} (lv' : List (Nat × Value)) (d : decode cc pc = .ok (.iinc i n, 3)) (j : Nat) (hk : lv[j]? = some (i, .int x)) (hv : x + Int32.ofInt n = v) (hn : i < nL) (h : (i, .int v) :: lv.filter (fun q => !(q.1 == i) && !(q.1 + 1 == i && q.2.category == 2)) = lv') (k : JW X G Q nL (pc + 3) lv' st σ) : JW X G Q nL pc lv st σ := by
  obtain ⟨p, l, e, R, s, m, args, below, meth, c⟩ := X
  obtain ⟨hx, hb, hml, hown, hts, hK, hI, hN, hZ, hfr, hlo, hlk⟩ := C
  intro H locs ls hP hS hl
  exact lv_iinc hx hb d hl hk hv hn h (fun ls hl => k H locs ls hP hS hl)
theorem j_goto {X : XT} {G : GT} {Q : State → Prop} {cc : ByteArray} {nL : Nat} {own : String} {fr lo pc : Nat} {lv : List (Nat × Value)} {st : List Value} {σ : MT} (C : CX X G cc nL own fr lo) {off : Int} (tgt : Nat) (d : decode cc pc = .ok (.goto off, 3)) (ht : (pc : Int) + off = (tgt : Int)) (k : JW X G Q nL tgt lv st σ) : JW X G Q nL pc lv st σ := by
  obtain ⟨p, l, e, R, s, m, args, below, meth, c⟩ := X
  obtain ⟨hx, hb, hml, hown, hts, hK, hI, hN, hZ, hfr, hlo, hlk⟩ := C
  intro H locs ls hP hS hl
  exact lv_goto hx hb d ht (k H locs ls hP hS hl)
theorem j_sub {X : XT} {G : GT} {Q : State → Prop} {cc : ByteArray} {nL : Nat} {own : String} {fr lo pc : Nat} {lv : List (Nat × Value)} {st : List Value} {σ : MT} (C : CX X G cc nL own fr lo) (lv' : List (Nat × Value)) (ks : List Nat) (h : lv_pick lv ks = lv') (k : JW X G Q nL pc lv' st σ) : JW X G Q nL pc lv st σ := by
  obtain ⟨p, l, e, R, s, m, args, below, meth, c⟩ := X
  obtain ⟨hx, hb, hml, hown, hts, hK, hI, hN, hZ, hfr, hlo, hlk⟩ := C
  intro H locs ls hP hS hl
  exact k H locs ls hP hS (lv_sub hl ks h)
theorem j_if_eq {X : XT} {G : GT} {Q : State → Prop} {cc : ByteArray} {nL : Nat} {own : String} {fr lo pc : Nat} {lv : List (Nat × Value)} {st : List Value} {σ : MT} {α : Type} {a b z : α} (C : CX X G cc nL own fr lo) {x : Int32} {off : Int} (tgt : Nat) (d : decode cc pc = .ok (.ifCond .eq off, 3)) (ht : (pc : Int) + off = (tgt : Int)) (hF : (if x = 0 then a else b) = z) (kt : x = 0 → a = z → JW X G Q nL tgt lv st σ) (kf : ¬ x = 0 → b = z → JW X G Q nL (pc + 3) lv st σ) : JW X G Q nL pc lv (.int x :: st) σ := by
  obtain ⟨p, l, e, R, s, m, args, below, meth, c⟩ := X
  obtain ⟨hx, hb, hml, hown, hts, hK, hI, hN, hZ, hfr, hlo, hlk⟩ := C
  intro H locs ls hP hS hl
  exact lv_if_eq hx hb d ht (fun q => kt q (by rw [if_pos q] at hF; exact hF) H locs ls hP hS hl) (fun q => kf q (by rw [if_neg q] at hF; exact hF) H locs ls hP hS hl)
theorem j_icmp_eq {X : XT} {G : GT} {Q : State → Prop} {cc : ByteArray} {nL : Nat} {own : String} {fr lo pc : Nat} {lv : List (Nat × Value)} {st : List Value} {σ : MT} {α : Type} {a b z : α} (C : CX X G cc nL own fr lo) {x y : Int32} {off : Int} (tgt : Nat) (d : decode cc pc = .ok (.if_icmp .eq off, 3)) (ht : (pc : Int) + off = (tgt : Int)) (hF : (if x = y then a else b) = z) (kt : x = y → a = z → JW X G Q nL tgt lv st σ) (kf : ¬ x = y → b = z → JW X G Q nL (pc + 3) lv st σ) : JW X G Q nL pc lv (.int y :: .int x :: st) σ := by
  obtain ⟨p, l, e, R, s, m, args, below, meth, c⟩ := X
  obtain ⟨hx, hb, hml, hown, hts, hK, hI, hN, hZ, hfr, hlo, hlk⟩ := C
  intro H locs ls hP hS hl
  exact lv_icmp_eq hx hb d ht (fun q => kt q (by rw [if_pos q] at hF; exact hF) H locs ls hP hS hl) (fun q => kf q (by rw [if_neg q] at hF; exact hF) H locs ls hP hS hl)
theorem j_if_ne {X : XT} {G : GT} {Q : State → Prop} {cc : ByteArray} {nL : Nat} {own : String} {fr lo pc : Nat} {lv : List (Nat × Value)} {st : List Value} {σ : MT} {α : Type} {a b z : α} (C : CX X G cc nL own fr lo) {x : Int32} {off : Int} (tgt : Nat) (d : decode cc pc = .ok (.ifCond .ne off, 3)) (ht : (pc : Int) + off = (tgt : Int)) (hF : (if x = 0 then a else b) = z) (kt : ¬ x = 0 → b = z → JW X G Q nL tgt lv st σ) (kf : x = 0 → a = z → JW X G Q nL (pc + 3) lv st σ) : JW X G Q nL pc lv (.int x :: st) σ := by
  obtain ⟨p, l, e, R, s, m, args, below, meth, c⟩ := X
  obtain ⟨hx, hb, hml, hown, hts, hK, hI, hN, hZ, hfr, hlo, hlk⟩ := C
  intro H locs ls hP hS hl
  exact lv_if_ne hx hb d ht (fun q => kt q (by rw [if_neg q] at hF; exact hF) H locs ls hP hS hl) (fun q => kf q (by rw [if_pos q] at hF; exact hF) H locs ls hP hS hl)
theorem j_icmp_ne {X : XT} {G : GT} {Q : State → Prop} {cc : ByteArray} {nL : Nat} {own : String} {fr lo pc : Nat} {lv : List (Nat × Value)} {st : List Value} {σ : MT} {α : Type} {a b z : α} (C : CX X G cc nL own fr lo) {x y : Int32} {off : Int} (tgt : Nat) (d : decode cc pc = .ok (.if_icmp .ne off, 3)) (ht : (pc : Int) + off = (tgt : Int)) (hF : (if x = y then a else b) = z) (kt : ¬ x = y → b = z → JW X G Q nL tgt lv st σ) (kf : x = y → a = z → JW X G Q nL (pc + 3) lv st σ) : JW X G Q nL pc lv (.int y :: .int x :: st) σ := by
  obtain ⟨p, l, e, R, s, m, args, below, meth, c⟩ := X
  obtain ⟨hx, hb, hml, hown, hts, hK, hI, hN, hZ, hfr, hlo, hlk⟩ := C
  intro H locs ls hP hS hl
  exact lv_icmp_ne hx hb d ht (fun q => kt q (by rw [if_neg q] at hF; exact hF) H locs ls hP hS hl) (fun q => kf q (by rw [if_pos q] at hF; exact hF) H locs ls hP hS hl)
theorem j_if_lt {X : XT} {G : GT} {Q : State → Prop} {cc : ByteArray} {nL : Nat} {own : String} {fr lo pc : Nat} {lv : List (Nat × Value)} {st : List Value} {σ : MT} {α : Type} {a b z : α} (C : CX X G cc nL own fr lo) {x : Int32} {off : Int} (tgt : Nat) (d : decode cc pc = .ok (.ifCond .lt off, 3)) (ht : (pc : Int) + off = (tgt : Int)) (hF : (if x < 0 then a else b) = z) (kt : x < 0 → a = z → JW X G Q nL tgt lv st σ) (kf : ¬ x < 0 → b = z → JW X G Q nL (pc + 3) lv st σ) : JW X G Q nL pc lv (.int x :: st) σ := by
  obtain ⟨p, l, e, R, s, m, args, below, meth, c⟩ := X
  obtain ⟨hx, hb, hml, hown, hts, hK, hI, hN, hZ, hfr, hlo, hlk⟩ := C
  intro H locs ls hP hS hl
  exact lv_if_lt hx hb d ht (fun q => kt q (by rw [if_pos q] at hF; exact hF) H locs ls hP hS hl) (fun q => kf q (by rw [if_neg q] at hF; exact hF) H locs ls hP hS hl)
theorem j_icmp_lt {X : XT} {G : GT} {Q : State → Prop} {cc : ByteArray} {nL : Nat} {own : String} {fr lo pc : Nat} {lv : List (Nat × Value)} {st : List Value} {σ : MT} {α : Type} {a b z : α} (C : CX X G cc nL own fr lo) {x y : Int32} {off : Int} (tgt : Nat) (d : decode cc pc = .ok (.if_icmp .lt off, 3)) (ht : (pc : Int) + off = (tgt : Int)) (hF : (if x < y then a else b) = z) (kt : x < y → a = z → JW X G Q nL tgt lv st σ) (kf : ¬ x < y → b = z → JW X G Q nL (pc + 3) lv st σ) : JW X G Q nL pc lv (.int y :: .int x :: st) σ := by
  obtain ⟨p, l, e, R, s, m, args, below, meth, c⟩ := X
  obtain ⟨hx, hb, hml, hown, hts, hK, hI, hN, hZ, hfr, hlo, hlk⟩ := C
  intro H locs ls hP hS hl
  exact lv_icmp_lt hx hb d ht (fun q => kt q (by rw [if_pos q] at hF; exact hF) H locs ls hP hS hl) (fun q => kf q (by rw [if_neg q] at hF; exact hF) H locs ls hP hS hl)
theorem j_if_ge {X : XT} {G : GT} {Q : State → Prop} {cc : ByteArray} {nL : Nat} {own : String} {fr lo pc : Nat} {lv : List (Nat × Value)} {st : List Value} {σ : MT} {α : Type} {a b z : α} (C : CX X G cc nL own fr lo) {x : Int32} {off : Int} (tgt : Nat) (d : decode cc pc = .ok (.ifCond .ge off, 3)) (ht : (pc : Int) + off = (tgt : Int)) (hF : (if 0 ≤ x then a else b) = z) (kt : 0 ≤ x → a = z → JW X G Q nL tgt lv st σ) (kf : ¬ 0 ≤ x → b = z → JW X G Q nL (pc + 3) lv st σ) : JW X G Q nL pc lv (.int x :: st) σ := by
  obtain ⟨p, l, e, R, s, m, args, below, meth, c⟩ := X
  obtain ⟨hx, hb, hml, hown, hts, hK, hI, hN, hZ, hfr, hlo, hlk⟩ := C
  intro H locs ls hP hS hl
  exact lv_if_ge hx hb d ht (fun q => kt q (by rw [if_pos q] at hF; exact hF) H locs ls hP hS hl) (fun q => kf q (by rw [if_neg q] at hF; exact hF) H locs ls hP hS hl)
theorem j_icmp_ge {X : XT} {G : GT} {Q : State → Prop} {cc : ByteArray} {nL : Nat} {own : String} {fr lo pc : Nat} {lv : List (Nat × Value)} {st : List Value} {σ : MT} {α : Type} {a b z : α} (C : CX X G cc nL own fr lo) {x y : Int32} {off : Int} (tgt : Nat) (d : decode cc pc = .ok (.if_icmp .ge off, 3)) (ht : (pc : Int) + off = (tgt : Int)) (hF : (if y ≤ x then a else b) = z) (kt : y ≤ x → a = z → JW X G Q nL tgt lv st σ) (kf : ¬ y ≤ x → b = z → JW X G Q nL (pc + 3) lv st σ) : JW X G Q nL pc lv (.int y :: .int x :: st) σ := by
  obtain ⟨p, l, e, R, s, m, args, below, meth, c⟩ := X
  obtain ⟨hx, hb, hml, hown, hts, hK, hI, hN, hZ, hfr, hlo, hlk⟩ := C
  intro H locs ls hP hS hl
  exact lv_icmp_ge hx hb d ht (fun q => kt q (by rw [if_pos q] at hF; exact hF) H locs ls hP hS hl) (fun q => kf q (by rw [if_neg q] at hF; exact hF) H locs ls hP hS hl)
theorem j_if_gt {X : XT} {G : GT} {Q : State → Prop} {cc : ByteArray} {nL : Nat} {own : String} {fr lo pc : Nat} {lv : List (Nat × Value)} {st : List Value} {σ : MT} {α : Type} {a b z : α} (C : CX X G cc nL own fr lo) {x : Int32} {off : Int} (tgt : Nat) (d : decode cc pc = .ok (.ifCond .gt off, 3)) (ht : (pc : Int) + off = (tgt : Int)) (hF : (if 0 < x then a else b) = z) (kt : 0 < x → a = z → JW X G Q nL tgt lv st σ) (kf : ¬ 0 < x → b = z → JW X G Q nL (pc + 3) lv st σ) : JW X G Q nL pc lv (.int x :: st) σ := by
  obtain ⟨p, l, e, R, s, m, args, below, meth, c⟩ := X
  obtain ⟨hx, hb, hml, hown, hts, hK, hI, hN, hZ, hfr, hlo, hlk⟩ := C
  intro H locs ls hP hS hl
  exact lv_if_gt hx hb d ht (fun q => kt q (by rw [if_pos q] at hF; exact hF) H locs ls hP hS hl) (fun q => kf q (by rw [if_neg q] at hF; exact hF) H locs ls hP hS hl)
theorem j_icmp_gt {X : XT} {G : GT} {Q : State → Prop} {cc : ByteArray} {nL : Nat} {own : String} {fr lo pc : Nat} {lv : List (Nat × Value)} {st : List Value} {σ : MT} {α : Type} {a b z : α} (C : CX X G cc nL own fr lo) {x y : Int32} {off : Int} (tgt : Nat) (d : decode cc pc = .ok (.if_icmp .gt off, 3)) (ht : (pc : Int) + off = (tgt : Int)) (hF : (if y < x then a else b) = z) (kt : y < x → a = z → JW X G Q nL tgt lv st σ) (kf : ¬ y < x → b = z → JW X G Q nL (pc + 3) lv st σ) : JW X G Q nL pc lv (.int y :: .int x :: st) σ := by
  obtain ⟨p, l, e, R, s, m, args, below, meth, c⟩ := X
  obtain ⟨hx, hb, hml, hown, hts, hK, hI, hN, hZ, hfr, hlo, hlk⟩ := C
  intro H locs ls hP hS hl
  exact lv_icmp_gt hx hb d ht (fun q => kt q (by rw [if_pos q] at hF; exact hF) H locs ls hP hS hl) (fun q => kf q (by rw [if_neg q] at hF; exact hF) H locs ls hP hS hl)
theorem j_if_le {X : XT} {G : GT} {Q : State → Prop} {cc : ByteArray} {nL : Nat} {own : String} {fr lo pc : Nat} {lv : List (Nat × Value)} {st : List Value} {σ : MT} {α : Type} {a b z : α} (C : CX X G cc nL own fr lo) {x : Int32} {off : Int} (tgt : Nat) (d : decode cc pc = .ok (.ifCond .le off, 3)) (ht : (pc : Int) + off = (tgt : Int)) (hF : (if x ≤ 0 then a else b) = z) (kt : x ≤ 0 → a = z → JW X G Q nL tgt lv st σ) (kf : ¬ x ≤ 0 → b = z → JW X G Q nL (pc + 3) lv st σ) : JW X G Q nL pc lv (.int x :: st) σ := by
  obtain ⟨p, l, e, R, s, m, args, below, meth, c⟩ := X
  obtain ⟨hx, hb, hml, hown, hts, hK, hI, hN, hZ, hfr, hlo, hlk⟩ := C
  intro H locs ls hP hS hl
  exact lv_if_le hx hb d ht (fun q => kt q (by rw [if_pos q] at hF; exact hF) H locs ls hP hS hl) (fun q => kf q (by rw [if_neg q] at hF; exact hF) H locs ls hP hS hl)
theorem j_icmp_le {X : XT} {G : GT} {Q : State → Prop} {cc : ByteArray} {nL : Nat} {own : String} {fr lo pc : Nat} {lv : List (Nat × Value)} {st : List Value} {σ : MT} {α : Type} {a b z : α} (C : CX X G cc nL own fr lo) {x y : Int32} {off : Int} (tgt : Nat) (d : decode cc pc = .ok (.if_icmp .le off, 3)) (ht : (pc : Int) + off = (tgt : Int)) (hF : (if x ≤ y then a else b) = z) (kt : x ≤ y → a = z → JW X G Q nL tgt lv st σ) (kf : ¬ x ≤ y → b = z → JW X G Q nL (pc + 3) lv st σ) : JW X G Q nL pc lv (.int y :: .int x :: st) σ := by
  obtain ⟨p, l, e, R, s, m, args, below, meth, c⟩ := X
  obtain ⟨hx, hb, hml, hown, hts, hK, hI, hN, hZ, hfr, hlo, hlk⟩ := C
  intro H locs ls hP hS hl
  exact lv_icmp_le hx hb d ht (fun q => kt q (by rw [if_pos q] at hF; exact hF) H locs ls hP hS hl) (fun q => kf q (by rw [if_neg q] at hF; exact hF) H locs ls hP hS hl)
theorem j_tabIn {X : XT} {G : GT} {Q : State → Prop} {cc : ByteArray} {nL : Nat} {own : String} {fr lo pc : Nat} {lv : List (Nat × Value)} {st : List Value} {σ : MT} (C : CX X G cc nL own fr lo) {dflt lw hi : Int} {offs : Array Int} {len : Nat} {x y : Int32} {off : Int} (tgt : Nat) (hxy : x = y) (d : decode cc pc = .ok (.tableswitch dflt lw hi offs, len)) (h1 : ¬ y.toInt < lw) (h2 : ¬ hi < y.toInt) (ho : offs[(y.toInt - lw).toNat]? = some off) (ht : (pc : Int) + off = (tgt : Int)) (k : JW X G Q nL tgt lv st σ) : JW X G Q nL pc lv (.int x :: st) σ := by
  obtain ⟨p, l, e, R, s, m, args, below, meth, c⟩ := X
  obtain ⟨hx, hb, hml, hown, hts, hK, hI, hN, hZ, hfr, hlo, hlk⟩ := C
  intro H locs ls hP hS hl
  subst hxy
  exact lv_tableIn hx hb d h1 h2 ho ht (k H locs ls hP hS hl)
theorem j_tabOut {X : XT} {G : GT} {Q : State → Prop} {cc : ByteArray} {nL : Nat} {own : String} {fr lo pc : Nat} {lv : List (Nat × Value)} {st : List Value} {σ : MT} (C : CX X G cc nL own fr lo) {dflt lw hi : Int} {offs : Array Int} {len : Nat} {x : Int32} (tgt : Nat) (d : decode cc pc = .ok (.tableswitch dflt lw hi offs, len)) (h : x.toInt < lw ∨ hi < x.toInt) (ht : (pc : Int) + dflt = (tgt : Int)) (k : JW X G Q nL tgt lv st σ) : JW X G Q nL pc lv (.int x :: st) σ := by
  obtain ⟨p, l, e, R, s, m, args, below, meth, c⟩ := X
  obtain ⟨hx, hb, hml, hown, hts, hK, hI, hN, hZ, hfr, hlo, hlk⟩ := C
  intro H locs ls hP hS hl
  exact lv_tableOut hx hb d h ht (k H locs ls hP hS hl)
theorem j_lookup {X : XT} {G : GT} {Q : State → Prop} {cc : ByteArray} {nL : Nat} {own : String} {fr lo pc : Nat} {lv : List (Nat × Value)} {st : List Value} {σ : MT} (C : CX X G cc nL own fr lo) {dflt : Int} {ps : Array (Int × Int)} {len : Nat} {x : Int32} {off : Int} (tgt : Nat) (d : decode cc pc = .ok (.lookupswitch dflt ps, len)) (hp : (ps.toList.zip (ps.toList.drop 1)).all (fun (a, next) => a.1 < next.1) = true) (ho : Op.lookupswitch.offset ps.toList dflt x.toInt = off) (ht : (pc : Int) + off = (tgt : Int)) (k : JW X G Q nL tgt lv st σ) : JW X G Q nL pc lv (.int x :: st) σ := by
  obtain ⟨p, l, e, R, s, m, args, below, meth, c⟩ := X
  obtain ⟨hx, hb, hml, hown, hts, hK, hI, hN, hZ, hfr, hlo, hlk⟩ := C
  intro H locs ls hP hS hl
  exact lv_lookup hx hb d hp ho ht (k H locs ls hP hS hl)
theorem j_iret {X : XT} {G : GT} {cc : ByteArray} {nL : Nat} {own : String} {fr lo pc : Nat} {lv : List (Nat × Value)} {st : List Value} {σ : MT} {v r0 : Int32} {σ0 : MT} (C : CX X G cc nL own fr lo) (hr : XR X (some .int)) (d : decode cc pc = .ok (.ireturn, 1)) (h1 : v = r0) (h2 : σ = σ0) : JW X G (QX X (PI G r0 σ0) G) nL pc lv [.int v] σ := by
  subst h1; subst h2
  obtain ⟨p, l, e, R, s, m, args, below, meth, c⟩ := X
  obtain ⟨hx, hb, hml, hown, hts, hK, hI, hN, hZ, hfr, hlo, hlk⟩ := C
  intro H locs ls hP hS hl
  exact W.iret (v := v) hx hb hr (fun t ht hW => ⟨⟨v, σ, rfl, ⟨rfl, rfl⟩, by rw [ht]; exact hP, va_K.moved hW.alike hK, hI, NW.warm hW hN, (hZ.kept (fun a h1 h2 => by rw [ht]; exact hS.2.1 a h1 h2)).moved hW.alike⟩, hS.F ht⟩) hS.2.2 d
theorem j_zret {X : XT} {G : GT} {cc : ByteArray} {nL : Nat} {own : String} {fr lo pc : Nat} {lv : List (Nat × Value)} {st : List Value} {σ : MT} {v r0 : Int32} {σ0 : MT} (C : CX X G cc nL own fr lo) (hr : XR X (some .boolean)) (hn : narrow .boolean (.int v) = .int v) (d : decode cc pc = .ok (.ireturn, 1)) (h1 : v = r0) (h2 : σ = σ0) : JW X G (QX X (PI G r0 σ0) G) nL pc lv [.int v] σ := by
  subst h1; subst h2
  obtain ⟨p, l, e, R, s, m, args, below, meth, c⟩ := X
  obtain ⟨hx, hb, hml, hown, hts, hK, hI, hN, hZ, hfr, hlo, hlk⟩ := C
  intro H locs ls hP hS hl
  exact W.zret (v := v) hx hb hr hn (fun t ht hW => ⟨⟨v, σ, rfl, ⟨rfl, rfl⟩, by rw [ht]; exact hP, va_K.moved hW.alike hK, hI, NW.warm hW hN, (hZ.kept (fun a h1 h2 => by rw [ht]; exact hS.2.1 a h1 h2)).moved hW.alike⟩, hS.F ht⟩) hS.2.2 d
theorem j_lret {X : XT} {G : GT} {cc : ByteArray} {nL : Nat} {own : String} {fr lo pc : Nat} {lv : List (Nat × Value)} {st : List Value} {σ : MT} {v r0 : Int64} {σ0 : MT} (C : CX X G cc nL own fr lo) (hr : XR X (some .long)) (d : decode cc pc = .ok (.lreturn, 1)) (h1 : v = r0) (h2 : σ = σ0) : JW X G (QX X (PL G r0 σ0) G) nL pc lv [.long v] σ := by
  subst h1; subst h2
  obtain ⟨p, l, e, R, s, m, args, below, meth, c⟩ := X
  obtain ⟨hx, hb, hml, hown, hts, hK, hI, hN, hZ, hfr, hlo, hlk⟩ := C
  intro H locs ls hP hS hl
  exact W.lret (v := v) hx hb hr (fun t ht hW => ⟨⟨v, σ, rfl, ⟨rfl, rfl⟩, by rw [ht]; exact hP, va_K.moved hW.alike hK, hI, NW.warm hW hN, (hZ.kept (fun a h1 h2 => by rw [ht]; exact hS.2.1 a h1 h2)).moved hW.alike⟩, hS.F ht⟩) hS.2.2 d
theorem j_vret {X : XT} {G : GT} {cc : ByteArray} {nL : Nat} {own : String} {fr lo pc : Nat} {lv : List (Nat × Value)} {σ : MT} {σ0 : MT} (C : CX X G cc nL own fr lo) (hr : XR X none) (d : decode cc pc = .ok (.return_, 1)) (h2 : σ = σ0) : JW X G (QX X (PV G σ0) G) nL pc lv [] σ := by
  subst h2
  obtain ⟨p, l, e, R, s, m, args, below, meth, c⟩ := X
  obtain ⟨hx, hb, hml, hown, hts, hK, hI, hN, hZ, hfr, hlo, hlk⟩ := C
  intro H locs ls hP hS hl
  exact W.vret hx hb hr (fun t ht hW => ⟨⟨σ, rfl, rfl, by rw [ht]; exact hP, va_K.moved hW.alike hK, hI, NW.warm hW hN, (hZ.kept (fun a h1 h2 => by rw [ht]; exact hS.2.1 a h1 h2)).moved hW.alike⟩, hS.F ht⟩) hS.2.2 d
end
section
theorem wld_is {G : GT} {σ : MT} {k kd : Nat} {e : va_E} (hk : kdf k = kd) (h99 : kd ≠ 99) (he : cont G kd k (σ.1 k) (σ.2 k) = e) : (wld G σ)[k]? = some (G.2.2 k, e) := by
  rw [wld_get (kdf_lt (by rw [hk]; exact h99))]
  unfold cellOf
  rw [hk, he]
theorem wld_to {G : GT} {σ : MT} {k kd : Nat} (g : Nat → Int32) {e : va_E} (hk : kdf k = kd) (he : cont G kd k g (σ.2 k) = e) : (wld G σ).set k (G.2.2 k, e) = wld G (sA σ k g) := by
  rw [← wld_set, hk, he]
theorem wld_toL {G : GT} {σ : MT} {k kd : Nat} (v : Int64) {e : va_E} (hk : kdf k = kd) (he : cont G kd k (σ.1 k) v = e) : (wld G σ).set k (G.2.2 k, e) = wld G (sL σ k v) := by
  rw [← wld_setL, hk, he]
def zb (v : Int32) : Prop := v = 0 ∨ v = 1
theorem zb_n {v : Int32} (h : zb v) : narrow .boolean (.int v) = .int v := by rcases h with rfl | rfl <;> rfl
theorem zb_f {v : Int32} (h : zb v) : fits .boolean (.int v) = true := by rcases h with rfl | rfl <;> decide

theorem j_get {X : XT} {G : GT} {Q : State → Prop} {cc : ByteArray} {nL : Nat} {own : String} {fr lo pc : Nat} {lv : List (Nat × Value)} {st : List Value} {σ : MT} (C : CX X G cc nL own fr lo) {index k kd ci N : Nat} {R : String} {T : u_T} {fs : List Value} {v : Value} (hk : kdf k = kd) (h99 : kd ≠ 99) (he : cont G kd k (σ.1 k) (σ.2 k) = .inr (ci, fs)) (hin : ∀ w ∈ u_ws R T N, w ∈ GW) (hc : classes[ci]? = some (R, T, N)) (j : Nat) (hj : j < N) (hv : fs[j]? = some v) (w : Cond.fieldLink own index (T j).1 (T j).2.1 (T j).2.2.1 ∈ GW) (d : decode cc pc = .ok (.getfield index, 3)) (kk : JW X G Q nL (pc + 3) lv (v :: st) σ) : JW X G Q nL pc lv (rf G k :: st) σ := by
  obtain ⟨p, l, e, R, s, m, args, below, meth, c⟩ := X
  obtain ⟨hx, hb, hml, hown, hts, hK, hI, hN, hZ, hfr, hlo, hlk⟩ := C
  intro H locs ls hP hS hl
  exact va_get (D := G.1) hx hb hts hin hown hK hP k (wld_is hk h99 he) hc j hj (hts _ w) (fun _ h9 => h9) hv d (kk H locs ls hP hS hl)
theorem j_put {X : XT} {G : GT} {Q : State → Prop} {cc : ByteArray} {nL : Nat} {own : String} {fr lo pc : Nat} {lv : List (Nat × Value)} {st : List Value} {σ : MT} (C : CX X G cc nL own fr lo) {index k kd ci N : Nat} {R : String} {T : u_T} {fs : List Value} {v : Value} {ty : FieldType} {σ1 : MT} (hk : kdf k = kd) (h99 : kd ≠ 99) (he : cont G kd k (σ.1 k) (σ.2 k) = .inr (ci, fs)) (hin : ∀ w ∈ u_ws R T N, w ∈ GW) (ty0 : Nat → FieldType) (hty : ∀ k, k < N → parseFieldDescriptor (T k).2.2.1 = some (ty0 k)) (hnm : ∀ a, a < N → ∀ b, b < N → a ≠ b → (T a).2.1 ≠ (T b).2.1) (hc : classes[ci]? = some (R, T, N)) (j : Nat) (hj : j < N) (hjl : j < fs.length) (hfin : (T j).2.2.2 = false) (hd : parseFieldDescriptor (T j).2.2.1 = some ty) (hn : narrow ty v = v) (hf : fits ty v = true) (hσ : (wld G σ).set k (G.2.2 k, .inr (ci, fs.set j v)) = wld G σ1) (w : Cond.fieldLink own index (T j).1 (T j).2.1 (T j).2.2.1 ∈ GW) (d : decode cc pc = .ok (.putfield index, 3)) (kk : JW X G Q nL (pc + 3) lv st σ1) : JW X G Q nL pc lv (v :: rf G k :: st) σ := by
  obtain ⟨p, l, e, R, s, m, args, below, meth, c⟩ := X
  obtain ⟨hx, hb, hml, hown, hts, hK, hI, hN, hZ, hfr, hlo, hlk⟩ := C
  intro H locs ls hP hS hl
  refine va_put (D := G.1) hx hb hts hin ty0 hty hnm hown hK hP (wld_D hI) hS k (wld_is hk h99 he) hc j hj (hts _ w) (fun _ h9 => h9) hfin hd hn hf hjl d (fun H1 locs1 hP1 _ hS1 => ?_)
  rw [hσ] at hP1
  exact kk H1 locs1 ls hP1 hS1 hl
theorem g_TF_text {X : XT} {G : GT} {Q : State → Prop} {cc : ByteArray} {nL : Nat} {own : String} {fr lo pc : Nat} {lv : List (Nat × Value)} {st : List Value} {σ : MT} (C : CX X G cc nL own fr lo) {index k : Nat} (hk : kdf k = 0) (w : Cond.fieldLink own index "TimeFlood" "text" "[C" ∈ GW) (d : decode cc pc = .ok (.getfield index, 3)) (kk : JW X G Q nL (pc + 3) lv (rf G 1 :: st) σ) : JW X G Q nL pc lv (rf G k :: st) σ := j_get C hk (by decide) rfl i_TF rfl 0 (by decide) rfl w d kk
theorem g_TF_textLength {X : XT} {G : GT} {Q : State → Prop} {cc : ByteArray} {nL : Nat} {own : String} {fr lo pc : Nat} {lv : List (Nat × Value)} {st : List Value} {σ : MT} (C : CX X G cc nL own fr lo) {index k : Nat} (hk : kdf k = 0) (w : Cond.fieldLink own index "TimeFlood" "textLength" "I" ∈ GW) (d : decode cc pc = .ok (.getfield index, 3)) (kk : JW X G Q nL (pc + 3) lv (.int (σ.1 k 1) :: st) σ) : JW X G Q nL pc lv (rf G k :: st) σ := j_get C hk (by decide) rfl i_TF rfl 1 (by decide) rfl w d kk
theorem p_TF_textLength {X : XT} {G : GT} {Q : State → Prop} {cc : ByteArray} {nL : Nat} {own : String} {fr lo pc : Nat} {lv : List (Nat × Value)} {st : List Value} {σ : MT} (C : CX X G cc nL own fr lo) {index k : Nat} {x : Int32} (hk : kdf k = 0) (w : Cond.fieldLink own index "TimeFlood" "textLength" "I" ∈ GW) (d : decode cc pc = .ok (.putfield index, 3)) (kk : JW X G Q nL (pc + 3) lv st (sI σ k 1 x)) : JW X G Q nL pc lv (.int x :: rf G k :: st) σ := j_put C hk (by decide) rfl i_TF t_TF t_TF_ok n_TF rfl 1 (by decide) (Nat.le_of_ble_eq_true rfl) rfl (t_TF_ok 1 (by decide)) rfl rfl (wld_to _ hk rfl) w d kk
theorem g_TF_reader {X : XT} {G : GT} {Q : State → Prop} {cc : ByteArray} {nL : Nat} {own : String} {fr lo pc : Nat} {lv : List (Nat × Value)} {st : List Value} {σ : MT} (C : CX X G cc nL own fr lo) {index k : Nat} (hk : kdf k = 0) (w : Cond.fieldLink own index "TimeFlood" "reader" "LTimeFlood$Reader;" ∈ GW) (d : decode cc pc = .ok (.getfield index, 3)) (kk : JW X G Q nL (pc + 3) lv (rf G 2 :: st) σ) : JW X G Q nL pc lv (rf G k :: st) σ := j_get C hk (by decide) rfl i_TF rfl 2 (by decide) rfl w d kk
theorem g_TF_flood {X : XT} {G : GT} {Q : State → Prop} {cc : ByteArray} {nL : Nat} {own : String} {fr lo pc : Nat} {lv : List (Nat × Value)} {st : List Value} {σ : MT} (C : CX X G cc nL own fr lo) {index k : Nat} (hk : kdf k = 0) (w : Cond.fieldLink own index "TimeFlood" "flood" "LTimeFlood$Flood;" ∈ GW) (d : decode cc pc = .ok (.getfield index, 3)) (kk : JW X G Q nL (pc + 3) lv (rf G 14 :: st) σ) : JW X G Q nL pc lv (rf G k :: st) σ := j_get C hk (by decide) rfl i_TF rfl 3 (by decide) rfl w d kk
theorem g_TF_plan {X : XT} {G : GT} {Q : State → Prop} {cc : ByteArray} {nL : Nat} {own : String} {fr lo pc : Nat} {lv : List (Nat × Value)} {st : List Value} {σ : MT} (C : CX X G cc nL own fr lo) {index k : Nat} (hk : kdf k = 0) (w : Cond.fieldLink own index "TimeFlood" "plan" "LTimeFlood$Plan;" ∈ GW) (d : decode cc pc = .ok (.getfield index, 3)) (kk : JW X G Q nL (pc + 3) lv (rf G 15 :: st) σ) : JW X G Q nL pc lv (rf G k :: st) σ := j_get C hk (by decide) rfl i_TF rfl 4 (by decide) rfl w d kk
theorem g_TF_now {X : XT} {G : GT} {Q : State → Prop} {cc : ByteArray} {nL : Nat} {own : String} {fr lo pc : Nat} {lv : List (Nat × Value)} {st : List Value} {σ : MT} (C : CX X G cc nL own fr lo) {index k : Nat} (hk : kdf k = 0) (w : Cond.fieldLink own index "TimeFlood" "now" "LTimeFlood$State;" ∈ GW) (d : decode cc pc = .ok (.getfield index, 3)) (kk : JW X G Q nL (pc + 3) lv (rf G 61 :: st) σ) : JW X G Q nL pc lv (rf G k :: st) σ := j_get C hk (by decide) rfl i_TF rfl 5 (by decide) rfl w d kk
theorem g_TF_trial {X : XT} {G : GT} {Q : State → Prop} {cc : ByteArray} {nL : Nat} {own : String} {fr lo pc : Nat} {lv : List (Nat × Value)} {st : List Value} {σ : MT} (C : CX X G cc nL own fr lo) {index k : Nat} (hk : kdf k = 0) (w : Cond.fieldLink own index "TimeFlood" "trial" "LTimeFlood$State;" ∈ GW) (d : decode cc pc = .ok (.getfield index, 3)) (kk : JW X G Q nL (pc + 3) lv (rf G 83 :: st) σ) : JW X G Q nL pc lv (rf G k :: st) σ := j_get C hk (by decide) rfl i_TF rfl 6 (by decide) rfl w d kk
theorem g_TF_journal {X : XT} {G : GT} {Q : State → Prop} {cc : ByteArray} {nL : Nat} {own : String} {fr lo pc : Nat} {lv : List (Nat × Value)} {st : List Value} {σ : MT} (C : CX X G cc nL own fr lo) {index k : Nat} (hk : kdf k = 0) (w : Cond.fieldLink own index "TimeFlood" "journal" "LTimeFlood$Journal;" ∈ GW) (d : decode cc pc = .ok (.getfield index, 3)) (kk : JW X G Q nL (pc + 3) lv (rf G 30 :: st) σ) : JW X G Q nL pc lv (rf G k :: st) σ := j_get C hk (by decide) rfl i_TF rfl 7 (by decide) rfl w d kk
theorem g_TF_slots {X : XT} {G : GT} {Q : State → Prop} {cc : ByteArray} {nL : Nat} {own : String} {fr lo pc : Nat} {lv : List (Nat × Value)} {st : List Value} {σ : MT} (C : CX X G cc nL own fr lo) {index k : Nat} (hk : kdf k = 0) (w : Cond.fieldLink own index "TimeFlood" "slots" "[LTimeFlood$State;" ∈ GW) (d : decode cc pc = .ok (.getfield index, 3)) (kk : JW X G Q nL (pc + 3) lv (rf G 32 :: st) σ) : JW X G Q nL pc lv (rf G k :: st) σ := j_get C hk (by decide) rfl i_TF rfl 8 (by decide) rfl w d kk
theorem g_TF_slotFilled {X : XT} {G : GT} {Q : State → Prop} {cc : ByteArray} {nL : Nat} {own : String} {fr lo pc : Nat} {lv : List (Nat × Value)} {st : List Value} {σ : MT} (C : CX X G cc nL own fr lo) {index k : Nat} (hk : kdf k = 0) (w : Cond.fieldLink own index "TimeFlood" "slotFilled" "[Z" ∈ GW) (d : decode cc pc = .ok (.getfield index, 3)) (kk : JW X G Q nL (pc + 3) lv (rf G 33 :: st) σ) : JW X G Q nL pc lv (rf G k :: st) σ := j_get C hk (by decide) rfl i_TF rfl 9 (by decide) rfl w d kk
theorem g_TF_sightings {X : XT} {G : GT} {Q : State → Prop} {cc : ByteArray} {nL : Nat} {own : String} {fr lo pc : Nat} {lv : List (Nat × Value)} {st : List Value} {σ : MT} (C : CX X G cc nL own fr lo) {index k : Nat} (hk : kdf k = 0) (w : Cond.fieldLink own index "TimeFlood" "sightings" "LTimeFlood$Sightings;" ∈ GW) (d : decode cc pc = .ok (.getfield index, 3)) (kk : JW X G Q nL (pc + 3) lv (rf G 34 :: st) σ) : JW X G Q nL pc lv (rf G k :: st) σ := j_get C hk (by decide) rfl i_TF rfl 10 (by decide) rfl w d kk
theorem g_TF_seedNow {X : XT} {G : GT} {Q : State → Prop} {cc : ByteArray} {nL : Nat} {own : String} {fr lo pc : Nat} {lv : List (Nat × Value)} {st : List Value} {σ : MT} (C : CX X G cc nL own fr lo) {index k : Nat} (hk : kdf k = 0) (w : Cond.fieldLink own index "TimeFlood" "seedNow" "J" ∈ GW) (d : decode cc pc = .ok (.getfield index, 3)) (kk : JW X G Q nL (pc + 3) lv (.long (σ.2 k) :: st) σ) : JW X G Q nL pc lv (rf G k :: st) σ := j_get C hk (by decide) rfl i_TF rfl 11 (by decide) rfl w d kk
theorem p_TF_seedNow {X : XT} {G : GT} {Q : State → Prop} {cc : ByteArray} {nL : Nat} {own : String} {fr lo pc : Nat} {lv : List (Nat × Value)} {st : List Value} {σ : MT} (C : CX X G cc nL own fr lo) {index k : Nat} {x : Int64} (hk : kdf k = 0) (w : Cond.fieldLink own index "TimeFlood" "seedNow" "J" ∈ GW) (d : decode cc pc = .ok (.putfield index, 3)) (kk : JW X G Q nL (pc + 3) lv st (sL σ k x)) : JW X G Q nL pc lv (.long x :: rf G k :: st) σ := j_put C hk (by decide) rfl i_TF t_TF t_TF_ok n_TF rfl 11 (by decide) (Nat.le_of_ble_eq_true rfl) rfl (t_TF_ok 11 (by decide)) rfl rfl (wld_toL x hk rfl) w d kk
theorem g_Rd_draft {X : XT} {G : GT} {Q : State → Prop} {cc : ByteArray} {nL : Nat} {own : String} {fr lo pc : Nat} {lv : List (Nat × Value)} {st : List Value} {σ : MT} (C : CX X G cc nL own fr lo) {index k : Nat} (hk : kdf k = 1) (w : Cond.fieldLink own index "TimeFlood$Reader" "draft" "LTimeFlood$Plan;" ∈ GW) (d : decode cc pc = .ok (.getfield index, 3)) (kk : JW X G Q nL (pc + 3) lv (rf G 3 :: st) σ) : JW X G Q nL pc lv (rf G k :: st) σ := j_get C hk (by decide) rfl i_Rd rfl 0 (by decide) rfl w d kk
theorem g_Rd_place {X : XT} {G : GT} {Q : State → Prop} {cc : ByteArray} {nL : Nat} {own : String} {fr lo pc : Nat} {lv : List (Nat × Value)} {st : List Value} {σ : MT} (C : CX X G cc nL own fr lo) {index k : Nat} (hk : kdf k = 1) (w : Cond.fieldLink own index "TimeFlood$Reader" "place" "I" ∈ GW) (d : decode cc pc = .ok (.getfield index, 3)) (kk : JW X G Q nL (pc + 3) lv (.int (σ.1 k 1) :: st) σ) : JW X G Q nL pc lv (rf G k :: st) σ := j_get C hk (by decide) rfl i_Rd rfl 1 (by decide) rfl w d kk
theorem p_Rd_place {X : XT} {G : GT} {Q : State → Prop} {cc : ByteArray} {nL : Nat} {own : String} {fr lo pc : Nat} {lv : List (Nat × Value)} {st : List Value} {σ : MT} (C : CX X G cc nL own fr lo) {index k : Nat} {x : Int32} (hk : kdf k = 1) (w : Cond.fieldLink own index "TimeFlood$Reader" "place" "I" ∈ GW) (d : decode cc pc = .ok (.putfield index, 3)) (kk : JW X G Q nL (pc + 3) lv st (sI σ k 1 x)) : JW X G Q nL pc lv (.int x :: rf G k :: st) σ := j_put C hk (by decide) rfl i_Rd t_Rd t_Rd_ok n_Rd rfl 1 (by decide) (Nat.le_of_ble_eq_true rfl) rfl (t_Rd_ok 1 (by decide)) rfl rfl (wld_to _ hk rfl) w d kk
theorem g_Rd_held {X : XT} {G : GT} {Q : State → Prop} {cc : ByteArray} {nL : Nat} {own : String} {fr lo pc : Nat} {lv : List (Nat × Value)} {st : List Value} {σ : MT} (C : CX X G cc nL own fr lo) {index k : Nat} (hk : kdf k = 1) (w : Cond.fieldLink own index "TimeFlood$Reader" "held" "I" ∈ GW) (d : decode cc pc = .ok (.getfield index, 3)) (kk : JW X G Q nL (pc + 3) lv (.int (σ.1 k 2) :: st) σ) : JW X G Q nL pc lv (rf G k :: st) σ := j_get C hk (by decide) rfl i_Rd rfl 2 (by decide) rfl w d kk
theorem p_Rd_held {X : XT} {G : GT} {Q : State → Prop} {cc : ByteArray} {nL : Nat} {own : String} {fr lo pc : Nat} {lv : List (Nat × Value)} {st : List Value} {σ : MT} (C : CX X G cc nL own fr lo) {index k : Nat} {x : Int32} (hk : kdf k = 1) (w : Cond.fieldLink own index "TimeFlood$Reader" "held" "I" ∈ GW) (d : decode cc pc = .ok (.putfield index, 3)) (kk : JW X G Q nL (pc + 3) lv st (sI σ k 2 x)) : JW X G Q nL pc lv (.int x :: rf G k :: st) σ := j_put C hk (by decide) rfl i_Rd t_Rd t_Rd_ok n_Rd rfl 2 (by decide) (Nat.le_of_ble_eq_true rfl) rfl (t_Rd_ok 2 (by decide)) rfl rfl (wld_to _ hk rfl) w d kk
theorem g_Rd_heldDrift {X : XT} {G : GT} {Q : State → Prop} {cc : ByteArray} {nL : Nat} {own : String} {fr lo pc : Nat} {lv : List (Nat × Value)} {st : List Value} {σ : MT} (C : CX X G cc nL own fr lo) {index k : Nat} (hk : kdf k = 1) (w : Cond.fieldLink own index "TimeFlood$Reader" "heldDrift" "I" ∈ GW) (d : decode cc pc = .ok (.getfield index, 3)) (kk : JW X G Q nL (pc + 3) lv (.int (σ.1 k 3) :: st) σ) : JW X G Q nL pc lv (rf G k :: st) σ := j_get C hk (by decide) rfl i_Rd rfl 3 (by decide) rfl w d kk
theorem p_Rd_heldDrift {X : XT} {G : GT} {Q : State → Prop} {cc : ByteArray} {nL : Nat} {own : String} {fr lo pc : Nat} {lv : List (Nat × Value)} {st : List Value} {σ : MT} (C : CX X G cc nL own fr lo) {index k : Nat} {x : Int32} (hk : kdf k = 1) (w : Cond.fieldLink own index "TimeFlood$Reader" "heldDrift" "I" ∈ GW) (d : decode cc pc = .ok (.putfield index, 3)) (kk : JW X G Q nL (pc + 3) lv st (sI σ k 3 x)) : JW X G Q nL pc lv (.int x :: rf G k :: st) σ := j_put C hk (by decide) rfl i_Rd t_Rd t_Rd_ok n_Rd rfl 3 (by decide) (Nat.le_of_ble_eq_true rfl) rfl (t_Rd_ok 3 (by decide)) rfl rfl (wld_to _ hk rfl) w d kk
theorem g_Pl_unit {X : XT} {G : GT} {Q : State → Prop} {cc : ByteArray} {nL : Nat} {own : String} {fr lo pc : Nat} {lv : List (Nat × Value)} {st : List Value} {σ : MT} (C : CX X G cc nL own fr lo) {index k : Nat} (hk : kdf k = 2) (w : Cond.fieldLink own index "TimeFlood$Plan" "unit" "I" ∈ GW) (d : decode cc pc = .ok (.getfield index, 3)) (kk : JW X G Q nL (pc + 3) lv (.int (σ.1 k 0) :: st) σ) : JW X G Q nL pc lv (rf G k :: st) σ := j_get C hk (by decide) rfl i_Pl rfl 0 (by decide) rfl w d kk
theorem p_Pl_unit {X : XT} {G : GT} {Q : State → Prop} {cc : ByteArray} {nL : Nat} {own : String} {fr lo pc : Nat} {lv : List (Nat × Value)} {st : List Value} {σ : MT} (C : CX X G cc nL own fr lo) {index k : Nat} {x : Int32} (hk : kdf k = 2) (w : Cond.fieldLink own index "TimeFlood$Plan" "unit" "I" ∈ GW) (d : decode cc pc = .ok (.putfield index, 3)) (kk : JW X G Q nL (pc + 3) lv st (sI σ k 0 x)) : JW X G Q nL pc lv (.int x :: rf G k :: st) σ := j_put C hk (by decide) rfl i_Pl t_Pl t_Pl_ok n_Pl rfl 0 (by decide) (Nat.le_of_ble_eq_true rfl) rfl (t_Pl_ok 0 (by decide)) rfl rfl (wld_to _ hk rfl) w d kk
theorem g_Pl_patience {X : XT} {G : GT} {Q : State → Prop} {cc : ByteArray} {nL : Nat} {own : String} {fr lo pc : Nat} {lv : List (Nat × Value)} {st : List Value} {σ : MT} (C : CX X G cc nL own fr lo) {index k : Nat} (hk : kdf k = 2) (w : Cond.fieldLink own index "TimeFlood$Plan" "patience" "I" ∈ GW) (d : decode cc pc = .ok (.getfield index, 3)) (kk : JW X G Q nL (pc + 3) lv (.int (σ.1 k 1) :: st) σ) : JW X G Q nL pc lv (rf G k :: st) σ := j_get C hk (by decide) rfl i_Pl rfl 1 (by decide) rfl w d kk
theorem p_Pl_patience {X : XT} {G : GT} {Q : State → Prop} {cc : ByteArray} {nL : Nat} {own : String} {fr lo pc : Nat} {lv : List (Nat × Value)} {st : List Value} {σ : MT} (C : CX X G cc nL own fr lo) {index k : Nat} {x : Int32} (hk : kdf k = 2) (w : Cond.fieldLink own index "TimeFlood$Plan" "patience" "I" ∈ GW) (d : decode cc pc = .ok (.putfield index, 3)) (kk : JW X G Q nL (pc + 3) lv st (sI σ k 1 x)) : JW X G Q nL pc lv (.int x :: rf G k :: st) σ := j_put C hk (by decide) rfl i_Pl t_Pl t_Pl_ok n_Pl rfl 1 (by decide) (Nat.le_of_ble_eq_true rfl) rfl (t_Pl_ok 1 (by decide)) rfl rfl (wld_to _ hk rfl) w d kk
theorem g_Pl_shyness {X : XT} {G : GT} {Q : State → Prop} {cc : ByteArray} {nL : Nat} {own : String} {fr lo pc : Nat} {lv : List (Nat × Value)} {st : List Value} {σ : MT} (C : CX X G cc nL own fr lo) {index k : Nat} (hk : kdf k = 2) (w : Cond.fieldLink own index "TimeFlood$Plan" "shyness" "I" ∈ GW) (d : decode cc pc = .ok (.getfield index, 3)) (kk : JW X G Q nL (pc + 3) lv (.int (σ.1 k 2) :: st) σ) : JW X G Q nL pc lv (rf G k :: st) σ := j_get C hk (by decide) rfl i_Pl rfl 2 (by decide) rfl w d kk
theorem p_Pl_shyness {X : XT} {G : GT} {Q : State → Prop} {cc : ByteArray} {nL : Nat} {own : String} {fr lo pc : Nat} {lv : List (Nat × Value)} {st : List Value} {σ : MT} (C : CX X G cc nL own fr lo) {index k : Nat} {x : Int32} (hk : kdf k = 2) (w : Cond.fieldLink own index "TimeFlood$Plan" "shyness" "I" ∈ GW) (d : decode cc pc = .ok (.putfield index, 3)) (kk : JW X G Q nL (pc + 3) lv st (sI σ k 2 x)) : JW X G Q nL pc lv (.int x :: rf G k :: st) σ := j_put C hk (by decide) rfl i_Pl t_Pl t_Pl_ok n_Pl rfl 2 (by decide) (Nat.le_of_ble_eq_true rfl) rfl (t_Pl_ok 2 (by decide)) rfl rfl (wld_to _ hk rfl) w d kk
theorem g_Pl_nodeCount {X : XT} {G : GT} {Q : State → Prop} {cc : ByteArray} {nL : Nat} {own : String} {fr lo pc : Nat} {lv : List (Nat × Value)} {st : List Value} {σ : MT} (C : CX X G cc nL own fr lo) {index k : Nat} (hk : kdf k = 2) (w : Cond.fieldLink own index "TimeFlood$Plan" "nodeCount" "I" ∈ GW) (d : decode cc pc = .ok (.getfield index, 3)) (kk : JW X G Q nL (pc + 3) lv (.int (σ.1 k 3) :: st) σ) : JW X G Q nL pc lv (rf G k :: st) σ := j_get C hk (by decide) rfl i_Pl rfl 3 (by decide) rfl w d kk
theorem p_Pl_nodeCount {X : XT} {G : GT} {Q : State → Prop} {cc : ByteArray} {nL : Nat} {own : String} {fr lo pc : Nat} {lv : List (Nat × Value)} {st : List Value} {σ : MT} (C : CX X G cc nL own fr lo) {index k : Nat} {x : Int32} (hk : kdf k = 2) (w : Cond.fieldLink own index "TimeFlood$Plan" "nodeCount" "I" ∈ GW) (d : decode cc pc = .ok (.putfield index, 3)) (kk : JW X G Q nL (pc + 3) lv st (sI σ k 3 x)) : JW X G Q nL pc lv (.int x :: rf G k :: st) σ := j_put C hk (by decide) rfl i_Pl t_Pl t_Pl_ok n_Pl rfl 3 (by decide) (Nat.le_of_ble_eq_true rfl) rfl (t_Pl_ok 3 (by decide)) rfl rfl (wld_to _ hk rfl) w d kk
theorem g_Pl_linkCount {X : XT} {G : GT} {Q : State → Prop} {cc : ByteArray} {nL : Nat} {own : String} {fr lo pc : Nat} {lv : List (Nat × Value)} {st : List Value} {σ : MT} (C : CX X G cc nL own fr lo) {index k : Nat} (hk : kdf k = 2) (w : Cond.fieldLink own index "TimeFlood$Plan" "linkCount" "I" ∈ GW) (d : decode cc pc = .ok (.getfield index, 3)) (kk : JW X G Q nL (pc + 3) lv (.int (σ.1 k 4) :: st) σ) : JW X G Q nL pc lv (rf G k :: st) σ := j_get C hk (by decide) rfl i_Pl rfl 4 (by decide) rfl w d kk
theorem p_Pl_linkCount {X : XT} {G : GT} {Q : State → Prop} {cc : ByteArray} {nL : Nat} {own : String} {fr lo pc : Nat} {lv : List (Nat × Value)} {st : List Value} {σ : MT} (C : CX X G cc nL own fr lo) {index k : Nat} {x : Int32} (hk : kdf k = 2) (w : Cond.fieldLink own index "TimeFlood$Plan" "linkCount" "I" ∈ GW) (d : decode cc pc = .ok (.putfield index, 3)) (kk : JW X G Q nL (pc + 3) lv st (sI σ k 4 x)) : JW X G Q nL pc lv (.int x :: rf G k :: st) σ := j_put C hk (by decide) rfl i_Pl t_Pl t_Pl_ok n_Pl rfl 4 (by decide) (Nat.le_of_ble_eq_true rfl) rfl (t_Pl_ok 4 (by decide)) rfl rfl (wld_to _ hk rfl) w d kk
theorem g_Pl_drifts {X : XT} {G : GT} {Q : State → Prop} {cc : ByteArray} {nL : Nat} {own : String} {fr lo pc : Nat} {lv : List (Nat × Value)} {st : List Value} {σ : MT} (C : CX X G cc nL own fr lo) {index k : Nat} (hk : kdf k = 2) (w : Cond.fieldLink own index "TimeFlood$Plan" "drifts" "[I" ∈ GW) (d : decode cc pc = .ok (.getfield index, 3)) (kk : JW X G Q nL (pc + 3) lv (rf G (k + 1) :: st) σ) : JW X G Q nL pc lv (rf G k :: st) σ := j_get C hk (by decide) rfl i_Pl rfl 5 (by decide) rfl w d kk
theorem g_Pl_starts {X : XT} {G : GT} {Q : State → Prop} {cc : ByteArray} {nL : Nat} {own : String} {fr lo pc : Nat} {lv : List (Nat × Value)} {st : List Value} {σ : MT} (C : CX X G cc nL own fr lo) {index k : Nat} (hk : kdf k = 2) (w : Cond.fieldLink own index "TimeFlood$Plan" "starts" "[I" ∈ GW) (d : decode cc pc = .ok (.getfield index, 3)) (kk : JW X G Q nL (pc + 3) lv (rf G (k + 2) :: st) σ) : JW X G Q nL pc lv (rf G k :: st) σ := j_get C hk (by decide) rfl i_Pl rfl 6 (by decide) rfl w d kk
theorem g_Pl_lows {X : XT} {G : GT} {Q : State → Prop} {cc : ByteArray} {nL : Nat} {own : String} {fr lo pc : Nat} {lv : List (Nat × Value)} {st : List Value} {σ : MT} (C : CX X G cc nL own fr lo) {index k : Nat} (hk : kdf k = 2) (w : Cond.fieldLink own index "TimeFlood$Plan" "lows" "[I" ∈ GW) (d : decode cc pc = .ok (.getfield index, 3)) (kk : JW X G Q nL (pc + 3) lv (rf G (k + 3) :: st) σ) : JW X G Q nL pc lv (rf G k :: st) σ := j_get C hk (by decide) rfl i_Pl rfl 7 (by decide) rfl w d kk
theorem g_Pl_highs {X : XT} {G : GT} {Q : State → Prop} {cc : ByteArray} {nL : Nat} {own : String} {fr lo pc : Nat} {lv : List (Nat × Value)} {st : List Value} {σ : MT} (C : CX X G cc nL own fr lo) {index k : Nat} (hk : kdf k = 2) (w : Cond.fieldLink own index "TimeFlood$Plan" "highs" "[I" ∈ GW) (d : decode cc pc = .ok (.getfield index, 3)) (kk : JW X G Q nL (pc + 3) lv (rf G (k + 4) :: st) σ) : JW X G Q nL pc lv (rf G k :: st) σ := j_get C hk (by decide) rfl i_Pl rfl 8 (by decide) rfl w d kk
theorem g_Pl_links {X : XT} {G : GT} {Q : State → Prop} {cc : ByteArray} {nL : Nat} {own : String} {fr lo pc : Nat} {lv : List (Nat × Value)} {st : List Value} {σ : MT} (C : CX X G cc nL own fr lo) {index k : Nat} (hk : kdf k = 2) (w : Cond.fieldLink own index "TimeFlood$Plan" "links" "[[I" ∈ GW) (d : decode cc pc = .ok (.getfield index, 3)) (kk : JW X G Q nL (pc + 3) lv (rf G (k + 5) :: st) σ) : JW X G Q nL pc lv (rf G k :: st) σ := j_get C hk (by decide) rfl i_Pl rfl 9 (by decide) rfl w d kk
theorem g_Fl_plan {X : XT} {G : GT} {Q : State → Prop} {cc : ByteArray} {nL : Nat} {own : String} {fr lo pc : Nat} {lv : List (Nat × Value)} {st : List Value} {σ : MT} (C : CX X G cc nL own fr lo) {index k : Nat} (hk : kdf k = 3) (w : Cond.fieldLink own index "TimeFlood$Flood" "plan" "LTimeFlood$Plan;" ∈ GW) (d : decode cc pc = .ok (.getfield index, 3)) (kk : JW X G Q nL (pc + 3) lv (rf G 15 :: st) σ) : JW X G Q nL pc lv (rf G k :: st) σ := j_get C hk (by decide) rfl i_Fl rfl 0 (by decide) rfl w d kk
theorem g_Fl_sent {X : XT} {G : GT} {Q : State → Prop} {cc : ByteArray} {nL : Nat} {own : String} {fr lo pc : Nat} {lv : List (Nat × Value)} {st : List Value} {σ : MT} (C : CX X G cc nL own fr lo) {index k : Nat} (hk : kdf k = 3) (w : Cond.fieldLink own index "TimeFlood$Flood" "sent" "[Z" ∈ GW) (d : decode cc pc = .ok (.getfield index, 3)) (kk : JW X G Q nL (pc + 3) lv (rf G 26 :: st) σ) : JW X G Q nL pc lv (rf G k :: st) σ := j_get C hk (by decide) rfl i_Fl rfl 1 (by decide) rfl w d kk
theorem g_Fl_sentRoots {X : XT} {G : GT} {Q : State → Prop} {cc : ByteArray} {nL : Nat} {own : String} {fr lo pc : Nat} {lv : List (Nat × Value)} {st : List Value} {σ : MT} (C : CX X G cc nL own fr lo) {index k : Nat} (hk : kdf k = 3) (w : Cond.fieldLink own index "TimeFlood$Flood" "sentRoots" "[I" ∈ GW) (d : decode cc pc = .ok (.getfield index, 3)) (kk : JW X G Q nL (pc + 3) lv (rf G 27 :: st) σ) : JW X G Q nL pc lv (rf G k :: st) σ := j_get C hk (by decide) rfl i_Fl rfl 2 (by decide) rfl w d kk
theorem g_Fl_sentNumbers {X : XT} {G : GT} {Q : State → Prop} {cc : ByteArray} {nL : Nat} {own : String} {fr lo pc : Nat} {lv : List (Nat × Value)} {st : List Value} {σ : MT} (C : CX X G cc nL own fr lo) {index k : Nat} (hk : kdf k = 3) (w : Cond.fieldLink own index "TimeFlood$Flood" "sentNumbers" "[I" ∈ GW) (d : decode cc pc = .ok (.getfield index, 3)) (kk : JW X G Q nL (pc + 3) lv (rf G 28 :: st) σ) : JW X G Q nL pc lv (rf G k :: st) σ := j_get C hk (by decide) rfl i_Fl rfl 3 (by decide) rfl w d kk
theorem g_Fl_sentEstimates {X : XT} {G : GT} {Q : State → Prop} {cc : ByteArray} {nL : Nat} {own : String} {fr lo pc : Nat} {lv : List (Nat × Value)} {st : List Value} {σ : MT} (C : CX X G cc nL own fr lo) {index k : Nat} (hk : kdf k = 3) (w : Cond.fieldLink own index "TimeFlood$Flood" "sentEstimates" "[I" ∈ GW) (d : decode cc pc = .ok (.getfield index, 3)) (kk : JW X G Q nL (pc + 3) lv (rf G 29 :: st) σ) : JW X G Q nL pc lv (rf G k :: st) σ := j_get C hk (by decide) rfl i_Fl rfl 4 (by decide) rfl w d kk
theorem g_St_time {X : XT} {G : GT} {Q : State → Prop} {cc : ByteArray} {nL : Nat} {own : String} {fr lo pc : Nat} {lv : List (Nat × Value)} {st : List Value} {σ : MT} (C : CX X G cc nL own fr lo) {index k : Nat} (hk : kdf k = 4) (w : Cond.fieldLink own index "TimeFlood$State" "time" "I" ∈ GW) (d : decode cc pc = .ok (.getfield index, 3)) (kk : JW X G Q nL (pc + 3) lv (.int (σ.1 k 0) :: st) σ) : JW X G Q nL pc lv (rf G k :: st) σ := j_get C hk (by decide) rfl i_St rfl 0 (by decide) rfl w d kk
theorem p_St_time {X : XT} {G : GT} {Q : State → Prop} {cc : ByteArray} {nL : Nat} {own : String} {fr lo pc : Nat} {lv : List (Nat × Value)} {st : List Value} {σ : MT} (C : CX X G cc nL own fr lo) {index k : Nat} {x : Int32} (hk : kdf k = 4) (w : Cond.fieldLink own index "TimeFlood$State" "time" "I" ∈ GW) (d : decode cc pc = .ok (.putfield index, 3)) (kk : JW X G Q nL (pc + 3) lv st (sI σ k 0 x)) : JW X G Q nL pc lv (.int x :: rf G k :: st) σ := j_put C hk (by decide) rfl i_St t_St t_St_ok n_St rfl 0 (by decide) (Nat.le_of_ble_eq_true rfl) rfl (t_St_ok 0 (by decide)) rfl rfl (wld_to _ hk rfl) w d kk
theorem g_St_downSet {X : XT} {G : GT} {Q : State → Prop} {cc : ByteArray} {nL : Nat} {own : String} {fr lo pc : Nat} {lv : List (Nat × Value)} {st : List Value} {σ : MT} (C : CX X G cc nL own fr lo) {index k : Nat} (hk : kdf k = 4) (w : Cond.fieldLink own index "TimeFlood$State" "downSet" "I" ∈ GW) (d : decode cc pc = .ok (.getfield index, 3)) (kk : JW X G Q nL (pc + 3) lv (.int (σ.1 k 1) :: st) σ) : JW X G Q nL pc lv (rf G k :: st) σ := j_get C hk (by decide) rfl i_St rfl 1 (by decide) rfl w d kk
theorem p_St_downSet {X : XT} {G : GT} {Q : State → Prop} {cc : ByteArray} {nL : Nat} {own : String} {fr lo pc : Nat} {lv : List (Nat × Value)} {st : List Value} {σ : MT} (C : CX X G cc nL own fr lo) {index k : Nat} {x : Int32} (hk : kdf k = 4) (w : Cond.fieldLink own index "TimeFlood$State" "downSet" "I" ∈ GW) (d : decode cc pc = .ok (.putfield index, 3)) (kk : JW X G Q nL (pc + 3) lv st (sI σ k 1 x)) : JW X G Q nL pc lv (.int x :: rf G k :: st) σ := j_put C hk (by decide) rfl i_St t_St t_St_ok n_St rfl 1 (by decide) (Nat.le_of_ble_eq_true rfl) rfl (t_St_ok 1 (by decide)) rfl rfl (wld_to _ hk rfl) w d kk
theorem g_St_nodes {X : XT} {G : GT} {Q : State → Prop} {cc : ByteArray} {nL : Nat} {own : String} {fr lo pc : Nat} {lv : List (Nat × Value)} {st : List Value} {σ : MT} (C : CX X G cc nL own fr lo) {index k : Nat} (hk : kdf k = 4) (w : Cond.fieldLink own index "TimeFlood$State" "nodes" "[LTimeFlood$Node;" ∈ GW) (d : decode cc pc = .ok (.getfield index, 3)) (kk : JW X G Q nL (pc + 3) lv (rf G (k + 1) :: st) σ) : JW X G Q nL pc lv (rf G k :: st) σ := j_get C hk (by decide) rfl i_St rfl 2 (by decide) rfl w d kk
theorem g_Nd_on {X : XT} {G : GT} {Q : State → Prop} {cc : ByteArray} {nL : Nat} {own : String} {fr lo pc : Nat} {lv : List (Nat × Value)} {st : List Value} {σ : MT} (C : CX X G cc nL own fr lo) {index k : Nat} (hk : kdf k = 5) (w : Cond.fieldLink own index "TimeFlood$Node" "on" "Z" ∈ GW) (d : decode cc pc = .ok (.getfield index, 3)) (kk : JW X G Q nL (pc + 3) lv (.int (σ.1 k 0) :: st) σ) : JW X G Q nL pc lv (rf G k :: st) σ := j_get C hk (by decide) rfl i_Nd rfl 0 (by decide) rfl w d kk
theorem p_Nd_on {X : XT} {G : GT} {Q : State → Prop} {cc : ByteArray} {nL : Nat} {own : String} {fr lo pc : Nat} {lv : List (Nat × Value)} {st : List Value} {σ : MT} (C : CX X G cc nL own fr lo) {index k : Nat} {x : Int32} (hk : kdf k = 5) (hz : zb x) (w : Cond.fieldLink own index "TimeFlood$Node" "on" "Z" ∈ GW) (d : decode cc pc = .ok (.putfield index, 3)) (kk : JW X G Q nL (pc + 3) lv st (sI σ k 0 x)) : JW X G Q nL pc lv (.int x :: rf G k :: st) σ := j_put C hk (by decide) rfl i_Nd t_Nd t_Nd_ok n_Nd rfl 0 (by decide) (Nat.le_of_ble_eq_true rfl) rfl (t_Nd_ok 0 (by decide)) (zb_n hz) (zb_f hz) (wld_to _ hk rfl) w d kk
theorem g_Nd_drift {X : XT} {G : GT} {Q : State → Prop} {cc : ByteArray} {nL : Nat} {own : String} {fr lo pc : Nat} {lv : List (Nat × Value)} {st : List Value} {σ : MT} (C : CX X G cc nL own fr lo) {index k : Nat} (hk : kdf k = 5) (w : Cond.fieldLink own index "TimeFlood$Node" "drift" "I" ∈ GW) (d : decode cc pc = .ok (.getfield index, 3)) (kk : JW X G Q nL (pc + 3) lv (.int (σ.1 k 1) :: st) σ) : JW X G Q nL pc lv (rf G k :: st) σ := j_get C hk (by decide) rfl i_Nd rfl 1 (by decide) rfl w d kk
theorem p_Nd_drift {X : XT} {G : GT} {Q : State → Prop} {cc : ByteArray} {nL : Nat} {own : String} {fr lo pc : Nat} {lv : List (Nat × Value)} {st : List Value} {σ : MT} (C : CX X G cc nL own fr lo) {index k : Nat} {x : Int32} (hk : kdf k = 5) (w : Cond.fieldLink own index "TimeFlood$Node" "drift" "I" ∈ GW) (d : decode cc pc = .ok (.putfield index, 3)) (kk : JW X G Q nL (pc + 3) lv st (sI σ k 1 x)) : JW X G Q nL pc lv (.int x :: rf G k :: st) σ := j_put C hk (by decide) rfl i_Nd t_Nd t_Nd_ok n_Nd rfl 1 (by decide) (Nat.le_of_ble_eq_true rfl) rfl (t_Nd_ok 1 (by decide)) rfl rfl (wld_to _ hk rfl) w d kk
theorem g_Nd_root {X : XT} {G : GT} {Q : State → Prop} {cc : ByteArray} {nL : Nat} {own : String} {fr lo pc : Nat} {lv : List (Nat × Value)} {st : List Value} {σ : MT} (C : CX X G cc nL own fr lo) {index k : Nat} (hk : kdf k = 5) (w : Cond.fieldLink own index "TimeFlood$Node" "root" "I" ∈ GW) (d : decode cc pc = .ok (.getfield index, 3)) (kk : JW X G Q nL (pc + 3) lv (.int (σ.1 k 2) :: st) σ) : JW X G Q nL pc lv (rf G k :: st) σ := j_get C hk (by decide) rfl i_Nd rfl 2 (by decide) rfl w d kk
theorem p_Nd_root {X : XT} {G : GT} {Q : State → Prop} {cc : ByteArray} {nL : Nat} {own : String} {fr lo pc : Nat} {lv : List (Nat × Value)} {st : List Value} {σ : MT} (C : CX X G cc nL own fr lo) {index k : Nat} {x : Int32} (hk : kdf k = 5) (w : Cond.fieldLink own index "TimeFlood$Node" "root" "I" ∈ GW) (d : decode cc pc = .ok (.putfield index, 3)) (kk : JW X G Q nL (pc + 3) lv st (sI σ k 2 x)) : JW X G Q nL pc lv (.int x :: rf G k :: st) σ := j_put C hk (by decide) rfl i_Nd t_Nd t_Nd_ok n_Nd rfl 2 (by decide) (Nat.le_of_ble_eq_true rfl) rfl (t_Nd_ok 2 (by decide)) rfl rfl (wld_to _ hk rfl) w d kk
theorem g_Nd_number {X : XT} {G : GT} {Q : State → Prop} {cc : ByteArray} {nL : Nat} {own : String} {fr lo pc : Nat} {lv : List (Nat × Value)} {st : List Value} {σ : MT} (C : CX X G cc nL own fr lo) {index k : Nat} (hk : kdf k = 5) (w : Cond.fieldLink own index "TimeFlood$Node" "number" "I" ∈ GW) (d : decode cc pc = .ok (.getfield index, 3)) (kk : JW X G Q nL (pc + 3) lv (.int (σ.1 k 3) :: st) σ) : JW X G Q nL pc lv (rf G k :: st) σ := j_get C hk (by decide) rfl i_Nd rfl 3 (by decide) rfl w d kk
theorem p_Nd_number {X : XT} {G : GT} {Q : State → Prop} {cc : ByteArray} {nL : Nat} {own : String} {fr lo pc : Nat} {lv : List (Nat × Value)} {st : List Value} {σ : MT} (C : CX X G cc nL own fr lo) {index k : Nat} {x : Int32} (hk : kdf k = 5) (w : Cond.fieldLink own index "TimeFlood$Node" "number" "I" ∈ GW) (d : decode cc pc = .ok (.putfield index, 3)) (kk : JW X G Q nL (pc + 3) lv st (sI σ k 3 x)) : JW X G Q nL pc lv (.int x :: rf G k :: st) σ := j_put C hk (by decide) rfl i_Nd t_Nd t_Nd_ok n_Nd rfl 3 (by decide) (Nat.le_of_ble_eq_true rfl) rfl (t_Nd_ok 3 (by decide)) rfl rfl (wld_to _ hk rfl) w d kk
theorem g_Nd_heart {X : XT} {G : GT} {Q : State → Prop} {cc : ByteArray} {nL : Nat} {own : String} {fr lo pc : Nat} {lv : List (Nat × Value)} {st : List Value} {σ : MT} (C : CX X G cc nL own fr lo) {index k : Nat} (hk : kdf k = 5) (w : Cond.fieldLink own index "TimeFlood$Node" "heart" "I" ∈ GW) (d : decode cc pc = .ok (.getfield index, 3)) (kk : JW X G Q nL (pc + 3) lv (.int (σ.1 k 4) :: st) σ) : JW X G Q nL pc lv (rf G k :: st) σ := j_get C hk (by decide) rfl i_Nd rfl 4 (by decide) rfl w d kk
theorem p_Nd_heart {X : XT} {G : GT} {Q : State → Prop} {cc : ByteArray} {nL : Nat} {own : String} {fr lo pc : Nat} {lv : List (Nat × Value)} {st : List Value} {σ : MT} (C : CX X G cc nL own fr lo) {index k : Nat} {x : Int32} (hk : kdf k = 5) (w : Cond.fieldLink own index "TimeFlood$Node" "heart" "I" ∈ GW) (d : decode cc pc = .ok (.putfield index, 3)) (kk : JW X G Q nL (pc + 3) lv st (sI σ k 4 x)) : JW X G Q nL pc lv (.int x :: rf G k :: st) σ := j_put C hk (by decide) rfl i_Nd t_Nd t_Nd_ok n_Nd rfl 4 (by decide) (Nat.le_of_ble_eq_true rfl) rfl (t_Nd_ok 4 (by decide)) rfl rfl (wld_to _ hk rfl) w d kk
theorem g_Nd_guard {X : XT} {G : GT} {Q : State → Prop} {cc : ByteArray} {nL : Nat} {own : String} {fr lo pc : Nat} {lv : List (Nat × Value)} {st : List Value} {σ : MT} (C : CX X G cc nL own fr lo) {index k : Nat} (hk : kdf k = 5) (w : Cond.fieldLink own index "TimeFlood$Node" "guard" "I" ∈ GW) (d : decode cc pc = .ok (.getfield index, 3)) (kk : JW X G Q nL (pc + 3) lv (.int (σ.1 k 5) :: st) σ) : JW X G Q nL pc lv (rf G k :: st) σ := j_get C hk (by decide) rfl i_Nd rfl 5 (by decide) rfl w d kk
theorem p_Nd_guard {X : XT} {G : GT} {Q : State → Prop} {cc : ByteArray} {nL : Nat} {own : String} {fr lo pc : Nat} {lv : List (Nat × Value)} {st : List Value} {σ : MT} (C : CX X G cc nL own fr lo) {index k : Nat} {x : Int32} (hk : kdf k = 5) (w : Cond.fieldLink own index "TimeFlood$Node" "guard" "I" ∈ GW) (d : decode cc pc = .ok (.putfield index, 3)) (kk : JW X G Q nL (pc + 3) lv st (sI σ k 5 x)) : JW X G Q nL pc lv (.int x :: rf G k :: st) σ := j_put C hk (by decide) rfl i_Nd t_Nd t_Nd_ok n_Nd rfl 5 (by decide) (Nat.le_of_ble_eq_true rfl) rfl (t_Nd_ok 5 (by decide)) rfl rfl (wld_to _ hk rfl) w d kk
theorem g_Nd_stampCount {X : XT} {G : GT} {Q : State → Prop} {cc : ByteArray} {nL : Nat} {own : String} {fr lo pc : Nat} {lv : List (Nat × Value)} {st : List Value} {σ : MT} (C : CX X G cc nL own fr lo) {index k : Nat} (hk : kdf k = 5) (w : Cond.fieldLink own index "TimeFlood$Node" "stampCount" "I" ∈ GW) (d : decode cc pc = .ok (.getfield index, 3)) (kk : JW X G Q nL (pc + 3) lv (.int (σ.1 k 6) :: st) σ) : JW X G Q nL pc lv (rf G k :: st) σ := j_get C hk (by decide) rfl i_Nd rfl 6 (by decide) rfl w d kk
theorem p_Nd_stampCount {X : XT} {G : GT} {Q : State → Prop} {cc : ByteArray} {nL : Nat} {own : String} {fr lo pc : Nat} {lv : List (Nat × Value)} {st : List Value} {σ : MT} (C : CX X G cc nL own fr lo) {index k : Nat} {x : Int32} (hk : kdf k = 5) (w : Cond.fieldLink own index "TimeFlood$Node" "stampCount" "I" ∈ GW) (d : decode cc pc = .ok (.putfield index, 3)) (kk : JW X G Q nL (pc + 3) lv st (sI σ k 6 x)) : JW X G Q nL pc lv (.int x :: rf G k :: st) σ := j_put C hk (by decide) rfl i_Nd t_Nd t_Nd_ok n_Nd rfl 6 (by decide) (Nat.le_of_ble_eq_true rfl) rfl (t_Nd_ok 6 (by decide)) rfl rfl (wld_to _ hk rfl) w d kk
theorem g_Nd_clocks {X : XT} {G : GT} {Q : State → Prop} {cc : ByteArray} {nL : Nat} {own : String} {fr lo pc : Nat} {lv : List (Nat × Value)} {st : List Value} {σ : MT} (C : CX X G cc nL own fr lo) {index k : Nat} (hk : kdf k = 5) (w : Cond.fieldLink own index "TimeFlood$Node" "clocks" "[I" ∈ GW) (d : decode cc pc = .ok (.getfield index, 3)) (kk : JW X G Q nL (pc + 3) lv (rf G (k + 1) :: st) σ) : JW X G Q nL pc lv (rf G k :: st) σ := j_get C hk (by decide) rfl i_Nd rfl 7 (by decide) rfl w d kk
theorem g_Nd_marks {X : XT} {G : GT} {Q : State → Prop} {cc : ByteArray} {nL : Nat} {own : String} {fr lo pc : Nat} {lv : List (Nat × Value)} {st : List Value} {σ : MT} (C : CX X G cc nL own fr lo) {index k : Nat} (hk : kdf k = 5) (w : Cond.fieldLink own index "TimeFlood$Node" "marks" "[I" ∈ GW) (d : decode cc pc = .ok (.getfield index, 3)) (kk : JW X G Q nL (pc + 3) lv (rf G (k + 2) :: st) σ) : JW X G Q nL pc lv (rf G k :: st) σ := j_get C hk (by decide) rfl i_Nd rfl 8 (by decide) rfl w d kk
theorem g_Nd_ages {X : XT} {G : GT} {Q : State → Prop} {cc : ByteArray} {nL : Nat} {own : String} {fr lo pc : Nat} {lv : List (Nat × Value)} {st : List Value} {σ : MT} (C : CX X G cc nL own fr lo) {index k : Nat} (hk : kdf k = 5) (w : Cond.fieldLink own index "TimeFlood$Node" "ages" "[I" ∈ GW) (d : decode cc pc = .ok (.getfield index, 3)) (kk : JW X G Q nL (pc + 3) lv (rf G (k + 3) :: st) σ) : JW X G Q nL pc lv (rf G k :: st) σ := j_get C hk (by decide) rfl i_Nd rfl 9 (by decide) rfl w d kk
theorem g_Jr_states {X : XT} {G : GT} {Q : State → Prop} {cc : ByteArray} {nL : Nat} {own : String} {fr lo pc : Nat} {lv : List (Nat × Value)} {st : List Value} {σ : MT} (C : CX X G cc nL own fr lo) {index k : Nat} (hk : kdf k = 6) (w : Cond.fieldLink own index "TimeFlood$Journal" "states" "[LTimeFlood$State;" ∈ GW) (d : decode cc pc = .ok (.getfield index, 3)) (kk : JW X G Q nL (pc + 3) lv (rf G 31 :: st) σ) : JW X G Q nL pc lv (rf G k :: st) σ := j_get C hk (by decide) rfl i_Jr rfl 0 (by decide) rfl w d kk
theorem g_Jr_next {X : XT} {G : GT} {Q : State → Prop} {cc : ByteArray} {nL : Nat} {own : String} {fr lo pc : Nat} {lv : List (Nat × Value)} {st : List Value} {σ : MT} (C : CX X G cc nL own fr lo) {index k : Nat} (hk : kdf k = 6) (w : Cond.fieldLink own index "TimeFlood$Journal" "next" "I" ∈ GW) (d : decode cc pc = .ok (.getfield index, 3)) (kk : JW X G Q nL (pc + 3) lv (.int (σ.1 k 1) :: st) σ) : JW X G Q nL pc lv (rf G k :: st) σ := j_get C hk (by decide) rfl i_Jr rfl 1 (by decide) rfl w d kk
theorem p_Jr_next {X : XT} {G : GT} {Q : State → Prop} {cc : ByteArray} {nL : Nat} {own : String} {fr lo pc : Nat} {lv : List (Nat × Value)} {st : List Value} {σ : MT} (C : CX X G cc nL own fr lo) {index k : Nat} {x : Int32} (hk : kdf k = 6) (w : Cond.fieldLink own index "TimeFlood$Journal" "next" "I" ∈ GW) (d : decode cc pc = .ok (.putfield index, 3)) (kk : JW X G Q nL (pc + 3) lv st (sI σ k 1 x)) : JW X G Q nL pc lv (.int x :: rf G k :: st) σ := j_put C hk (by decide) rfl i_Jr t_Jr t_Jr_ok n_Jr rfl 1 (by decide) (Nat.le_of_ble_eq_true rfl) rfl (t_Jr_ok 1 (by decide)) rfl rfl (wld_to _ hk rfl) w d kk
theorem g_Jr_count {X : XT} {G : GT} {Q : State → Prop} {cc : ByteArray} {nL : Nat} {own : String} {fr lo pc : Nat} {lv : List (Nat × Value)} {st : List Value} {σ : MT} (C : CX X G cc nL own fr lo) {index k : Nat} (hk : kdf k = 6) (w : Cond.fieldLink own index "TimeFlood$Journal" "count" "I" ∈ GW) (d : decode cc pc = .ok (.getfield index, 3)) (kk : JW X G Q nL (pc + 3) lv (.int (σ.1 k 2) :: st) σ) : JW X G Q nL pc lv (rf G k :: st) σ := j_get C hk (by decide) rfl i_Jr rfl 2 (by decide) rfl w d kk
theorem p_Jr_count {X : XT} {G : GT} {Q : State → Prop} {cc : ByteArray} {nL : Nat} {own : String} {fr lo pc : Nat} {lv : List (Nat × Value)} {st : List Value} {σ : MT} (C : CX X G cc nL own fr lo) {index k : Nat} {x : Int32} (hk : kdf k = 6) (w : Cond.fieldLink own index "TimeFlood$Journal" "count" "I" ∈ GW) (d : decode cc pc = .ok (.putfield index, 3)) (kk : JW X G Q nL (pc + 3) lv st (sI σ k 2 x)) : JW X G Q nL pc lv (.int x :: rf G k :: st) σ := j_put C hk (by decide) rfl i_Jr t_Jr t_Jr_ok n_Jr rfl 2 (by decide) (Nat.le_of_ble_eq_true rfl) rfl (t_Jr_ok 2 (by decide)) rfl rfl (wld_to _ hk rfl) w d kk
theorem g_Sg_nodes {X : XT} {G : GT} {Q : State → Prop} {cc : ByteArray} {nL : Nat} {own : String} {fr lo pc : Nat} {lv : List (Nat × Value)} {st : List Value} {σ : MT} (C : CX X G cc nL own fr lo) {index k : Nat} (hk : kdf k = 7) (w : Cond.fieldLink own index "TimeFlood$Sightings" "nodes" "[I" ∈ GW) (d : decode cc pc = .ok (.getfield index, 3)) (kk : JW X G Q nL (pc + 3) lv (rf G 35 :: st) σ) : JW X G Q nL pc lv (rf G k :: st) σ := j_get C hk (by decide) rfl i_Sg rfl 0 (by decide) rfl w d kk
theorem g_Sg_periods {X : XT} {G : GT} {Q : State → Prop} {cc : ByteArray} {nL : Nat} {own : String} {fr lo pc : Nat} {lv : List (Nat × Value)} {st : List Value} {σ : MT} (C : CX X G cc nL own fr lo) {index k : Nat} (hk : kdf k = 7) (w : Cond.fieldLink own index "TimeFlood$Sightings" "periods" "[I" ∈ GW) (d : decode cc pc = .ok (.getfield index, 3)) (kk : JW X G Q nL (pc + 3) lv (rf G 36 :: st) σ) : JW X G Q nL pc lv (rf G k :: st) σ := j_get C hk (by decide) rfl i_Sg rfl 1 (by decide) rfl w d kk
theorem g_Sg_roots {X : XT} {G : GT} {Q : State → Prop} {cc : ByteArray} {nL : Nat} {own : String} {fr lo pc : Nat} {lv : List (Nat × Value)} {st : List Value} {σ : MT} (C : CX X G cc nL own fr lo) {index k : Nat} (hk : kdf k = 7) (w : Cond.fieldLink own index "TimeFlood$Sightings" "roots" "[I" ∈ GW) (d : decode cc pc = .ok (.getfield index, 3)) (kk : JW X G Q nL (pc + 3) lv (rf G 37 :: st) σ) : JW X G Q nL pc lv (rf G k :: st) σ := j_get C hk (by decide) rfl i_Sg rfl 2 (by decide) rfl w d kk
theorem g_Sg_count {X : XT} {G : GT} {Q : State → Prop} {cc : ByteArray} {nL : Nat} {own : String} {fr lo pc : Nat} {lv : List (Nat × Value)} {st : List Value} {σ : MT} (C : CX X G cc nL own fr lo) {index k : Nat} (hk : kdf k = 7) (w : Cond.fieldLink own index "TimeFlood$Sightings" "count" "I" ∈ GW) (d : decode cc pc = .ok (.getfield index, 3)) (kk : JW X G Q nL (pc + 3) lv (.int (σ.1 k 3) :: st) σ) : JW X G Q nL pc lv (rf G k :: st) σ := j_get C hk (by decide) rfl i_Sg rfl 3 (by decide) rfl w d kk
theorem p_Sg_count {X : XT} {G : GT} {Q : State → Prop} {cc : ByteArray} {nL : Nat} {own : String} {fr lo pc : Nat} {lv : List (Nat × Value)} {st : List Value} {σ : MT} (C : CX X G cc nL own fr lo) {index k : Nat} {x : Int32} (hk : kdf k = 7) (w : Cond.fieldLink own index "TimeFlood$Sightings" "count" "I" ∈ GW) (d : decode cc pc = .ok (.putfield index, 3)) (kk : JW X G Q nL (pc + 3) lv st (sI σ k 3 x)) : JW X G Q nL pc lv (.int x :: rf G k :: st) σ := j_put C hk (by decide) rfl i_Sg t_Sg t_Sg_ok n_Sg rfl 3 (by decide) (Nat.le_of_ble_eq_true rfl) rfl (t_Sg_ok 3 (by decide)) rfl rfl (wld_to _ hk rfl) w d kk
theorem g_M_text {X : XT} {G : GT} {Q : State → Prop} {cc : ByteArray} {nL : Nat} {own : String} {fr lo pc : Nat} {lv : List (Nat × Value)} {st : List Value} {σ : MT} (C : CX X G cc nL own fr lo) {index k : Nat} (hk : kdf k = 8) (w : Cond.fieldLink own index "TimeFloodModel" "text" "[I" ∈ GW) (d : decode cc pc = .ok (.getfield index, 3)) (kk : JW X G Q nL (pc + 3) lv (rf G 39 :: st) σ) : JW X G Q nL pc lv (rf G k :: st) σ := j_get C hk (by decide) rfl i_M rfl 0 (by decide) rfl w d kk
theorem g_M_length {X : XT} {G : GT} {Q : State → Prop} {cc : ByteArray} {nL : Nat} {own : String} {fr lo pc : Nat} {lv : List (Nat × Value)} {st : List Value} {σ : MT} (C : CX X G cc nL own fr lo) {index k : Nat} (hk : kdf k = 8) (w : Cond.fieldLink own index "TimeFloodModel" "length" "I" ∈ GW) (d : decode cc pc = .ok (.getfield index, 3)) (kk : JW X G Q nL (pc + 3) lv (.int (σ.1 k 1) :: st) σ) : JW X G Q nL pc lv (rf G k :: st) σ := j_get C hk (by decide) rfl i_M rfl 1 (by decide) rfl w d kk
theorem p_M_length {X : XT} {G : GT} {Q : State → Prop} {cc : ByteArray} {nL : Nat} {own : String} {fr lo pc : Nat} {lv : List (Nat × Value)} {st : List Value} {σ : MT} (C : CX X G cc nL own fr lo) {index k : Nat} {x : Int32} (hk : kdf k = 8) (w : Cond.fieldLink own index "TimeFloodModel" "length" "I" ∈ GW) (d : decode cc pc = .ok (.putfield index, 3)) (kk : JW X G Q nL (pc + 3) lv st (sI σ k 1 x)) : JW X G Q nL pc lv (.int x :: rf G k :: st) σ := j_put C hk (by decide) rfl i_M t_M t_M_ok n_M rfl 1 (by decide) (Nat.le_of_ble_eq_true rfl) rfl (t_M_ok 1 (by decide)) rfl rfl (wld_to _ hk rfl) w d kk
theorem g_M_wide {X : XT} {G : GT} {Q : State → Prop} {cc : ByteArray} {nL : Nat} {own : String} {fr lo pc : Nat} {lv : List (Nat × Value)} {st : List Value} {σ : MT} (C : CX X G cc nL own fr lo) {index k : Nat} (hk : kdf k = 8) (w : Cond.fieldLink own index "TimeFloodModel" "wide" "I" ∈ GW) (d : decode cc pc = .ok (.getfield index, 3)) (kk : JW X G Q nL (pc + 3) lv (.int (σ.1 k 2) :: st) σ) : JW X G Q nL pc lv (rf G k :: st) σ := j_get C hk (by decide) rfl i_M rfl 2 (by decide) rfl w d kk
theorem p_M_wide {X : XT} {G : GT} {Q : State → Prop} {cc : ByteArray} {nL : Nat} {own : String} {fr lo pc : Nat} {lv : List (Nat × Value)} {st : List Value} {σ : MT} (C : CX X G cc nL own fr lo) {index k : Nat} {x : Int32} (hk : kdf k = 8) (w : Cond.fieldLink own index "TimeFloodModel" "wide" "I" ∈ GW) (d : decode cc pc = .ok (.putfield index, 3)) (kk : JW X G Q nL (pc + 3) lv st (sI σ k 2 x)) : JW X G Q nL pc lv (.int x :: rf G k :: st) σ := j_put C hk (by decide) rfl i_M t_M t_M_ok n_M rfl 2 (by decide) (Nat.le_of_ble_eq_true rfl) rfl (t_M_ok 2 (by decide)) rfl rfl (wld_to _ hk rfl) w d kk
theorem g_M_patience {X : XT} {G : GT} {Q : State → Prop} {cc : ByteArray} {nL : Nat} {own : String} {fr lo pc : Nat} {lv : List (Nat × Value)} {st : List Value} {σ : MT} (C : CX X G cc nL own fr lo) {index k : Nat} (hk : kdf k = 8) (w : Cond.fieldLink own index "TimeFloodModel" "patience" "I" ∈ GW) (d : decode cc pc = .ok (.getfield index, 3)) (kk : JW X G Q nL (pc + 3) lv (.int (σ.1 k 3) :: st) σ) : JW X G Q nL pc lv (rf G k :: st) σ := j_get C hk (by decide) rfl i_M rfl 3 (by decide) rfl w d kk
theorem p_M_patience {X : XT} {G : GT} {Q : State → Prop} {cc : ByteArray} {nL : Nat} {own : String} {fr lo pc : Nat} {lv : List (Nat × Value)} {st : List Value} {σ : MT} (C : CX X G cc nL own fr lo) {index k : Nat} {x : Int32} (hk : kdf k = 8) (w : Cond.fieldLink own index "TimeFloodModel" "patience" "I" ∈ GW) (d : decode cc pc = .ok (.putfield index, 3)) (kk : JW X G Q nL (pc + 3) lv st (sI σ k 3 x)) : JW X G Q nL pc lv (.int x :: rf G k :: st) σ := j_put C hk (by decide) rfl i_M t_M t_M_ok n_M rfl 3 (by decide) (Nat.le_of_ble_eq_true rfl) rfl (t_M_ok 3 (by decide)) rfl rfl (wld_to _ hk rfl) w d kk
theorem g_M_shy {X : XT} {G : GT} {Q : State → Prop} {cc : ByteArray} {nL : Nat} {own : String} {fr lo pc : Nat} {lv : List (Nat × Value)} {st : List Value} {σ : MT} (C : CX X G cc nL own fr lo) {index k : Nat} (hk : kdf k = 8) (w : Cond.fieldLink own index "TimeFloodModel" "shy" "I" ∈ GW) (d : decode cc pc = .ok (.getfield index, 3)) (kk : JW X G Q nL (pc + 3) lv (.int (σ.1 k 4) :: st) σ) : JW X G Q nL pc lv (rf G k :: st) σ := j_get C hk (by decide) rfl i_M rfl 4 (by decide) rfl w d kk
theorem p_M_shy {X : XT} {G : GT} {Q : State → Prop} {cc : ByteArray} {nL : Nat} {own : String} {fr lo pc : Nat} {lv : List (Nat × Value)} {st : List Value} {σ : MT} (C : CX X G cc nL own fr lo) {index k : Nat} {x : Int32} (hk : kdf k = 8) (w : Cond.fieldLink own index "TimeFloodModel" "shy" "I" ∈ GW) (d : decode cc pc = .ok (.putfield index, 3)) (kk : JW X G Q nL (pc + 3) lv st (sI σ k 4 x)) : JW X G Q nL pc lv (.int x :: rf G k :: st) σ := j_put C hk (by decide) rfl i_M t_M t_M_ok n_M rfl 4 (by decide) (Nat.le_of_ble_eq_true rfl) rfl (t_M_ok 4 (by decide)) rfl rfl (wld_to _ hk rfl) w d kk
theorem g_M_nodes {X : XT} {G : GT} {Q : State → Prop} {cc : ByteArray} {nL : Nat} {own : String} {fr lo pc : Nat} {lv : List (Nat × Value)} {st : List Value} {σ : MT} (C : CX X G cc nL own fr lo) {index k : Nat} (hk : kdf k = 8) (w : Cond.fieldLink own index "TimeFloodModel" "nodes" "I" ∈ GW) (d : decode cc pc = .ok (.getfield index, 3)) (kk : JW X G Q nL (pc + 3) lv (.int (σ.1 k 5) :: st) σ) : JW X G Q nL pc lv (rf G k :: st) σ := j_get C hk (by decide) rfl i_M rfl 5 (by decide) rfl w d kk
theorem p_M_nodes {X : XT} {G : GT} {Q : State → Prop} {cc : ByteArray} {nL : Nat} {own : String} {fr lo pc : Nat} {lv : List (Nat × Value)} {st : List Value} {σ : MT} (C : CX X G cc nL own fr lo) {index k : Nat} {x : Int32} (hk : kdf k = 8) (w : Cond.fieldLink own index "TimeFloodModel" "nodes" "I" ∈ GW) (d : decode cc pc = .ok (.putfield index, 3)) (kk : JW X G Q nL (pc + 3) lv st (sI σ k 5 x)) : JW X G Q nL pc lv (.int x :: rf G k :: st) σ := j_put C hk (by decide) rfl i_M t_M t_M_ok n_M rfl 5 (by decide) (Nat.le_of_ble_eq_true rfl) rfl (t_M_ok 5 (by decide)) rfl rfl (wld_to _ hk rfl) w d kk
theorem g_M_start {X : XT} {G : GT} {Q : State → Prop} {cc : ByteArray} {nL : Nat} {own : String} {fr lo pc : Nat} {lv : List (Nat × Value)} {st : List Value} {σ : MT} (C : CX X G cc nL own fr lo) {index k : Nat} (hk : kdf k = 8) (w : Cond.fieldLink own index "TimeFloodModel" "start" "[I" ∈ GW) (d : decode cc pc = .ok (.getfield index, 3)) (kk : JW X G Q nL (pc + 3) lv (rf G 40 :: st) σ) : JW X G Q nL pc lv (rf G k :: st) σ := j_get C hk (by decide) rfl i_M rfl 6 (by decide) rfl w d kk
theorem g_M_links {X : XT} {G : GT} {Q : State → Prop} {cc : ByteArray} {nL : Nat} {own : String} {fr lo pc : Nat} {lv : List (Nat × Value)} {st : List Value} {σ : MT} (C : CX X G cc nL own fr lo) {index k : Nat} (hk : kdf k = 8) (w : Cond.fieldLink own index "TimeFloodModel" "links" "I" ∈ GW) (d : decode cc pc = .ok (.getfield index, 3)) (kk : JW X G Q nL (pc + 3) lv (.int (σ.1 k 7) :: st) σ) : JW X G Q nL pc lv (rf G k :: st) σ := j_get C hk (by decide) rfl i_M rfl 7 (by decide) rfl w d kk
theorem p_M_links {X : XT} {G : GT} {Q : State → Prop} {cc : ByteArray} {nL : Nat} {own : String} {fr lo pc : Nat} {lv : List (Nat × Value)} {st : List Value} {σ : MT} (C : CX X G cc nL own fr lo) {index k : Nat} {x : Int32} (hk : kdf k = 8) (w : Cond.fieldLink own index "TimeFloodModel" "links" "I" ∈ GW) (d : decode cc pc = .ok (.putfield index, 3)) (kk : JW X G Q nL (pc + 3) lv st (sI σ k 7 x)) : JW X G Q nL pc lv (.int x :: rf G k :: st) σ := j_put C hk (by decide) rfl i_M t_M t_M_ok n_M rfl 7 (by decide) (Nat.le_of_ble_eq_true rfl) rfl (t_M_ok 7 (by decide)) rfl rfl (wld_to _ hk rfl) w d kk
theorem g_M_one {X : XT} {G : GT} {Q : State → Prop} {cc : ByteArray} {nL : Nat} {own : String} {fr lo pc : Nat} {lv : List (Nat × Value)} {st : List Value} {σ : MT} (C : CX X G cc nL own fr lo) {index k : Nat} (hk : kdf k = 8) (w : Cond.fieldLink own index "TimeFloodModel" "one" "[I" ∈ GW) (d : decode cc pc = .ok (.getfield index, 3)) (kk : JW X G Q nL (pc + 3) lv (rf G 41 :: st) σ) : JW X G Q nL pc lv (rf G k :: st) σ := j_get C hk (by decide) rfl i_M rfl 8 (by decide) rfl w d kk
theorem g_M_other {X : XT} {G : GT} {Q : State → Prop} {cc : ByteArray} {nL : Nat} {own : String} {fr lo pc : Nat} {lv : List (Nat × Value)} {st : List Value} {σ : MT} (C : CX X G cc nL own fr lo) {index k : Nat} (hk : kdf k = 8) (w : Cond.fieldLink own index "TimeFloodModel" "other" "[I" ∈ GW) (d : decode cc pc = .ok (.getfield index, 3)) (kk : JW X G Q nL (pc + 3) lv (rf G 42 :: st) σ) : JW X G Q nL pc lv (rf G k :: st) σ := j_get C hk (by decide) rfl i_M rfl 9 (by decide) rfl w d kk
theorem g_M_now {X : XT} {G : GT} {Q : State → Prop} {cc : ByteArray} {nL : Nat} {own : String} {fr lo pc : Nat} {lv : List (Nat × Value)} {st : List Value} {σ : MT} (C : CX X G cc nL own fr lo) {index k : Nat} (hk : kdf k = 8) (w : Cond.fieldLink own index "TimeFloodModel" "now" "[I" ∈ GW) (d : decode cc pc = .ok (.getfield index, 3)) (kk : JW X G Q nL (pc + 3) lv (rf G 43 :: st) σ) : JW X G Q nL pc lv (rf G k :: st) σ := j_get C hk (by decide) rfl i_M rfl 10 (by decide) rfl w d kk
theorem g_M_trial {X : XT} {G : GT} {Q : State → Prop} {cc : ByteArray} {nL : Nat} {own : String} {fr lo pc : Nat} {lv : List (Nat × Value)} {st : List Value} {σ : MT} (C : CX X G cc nL own fr lo) {index k : Nat} (hk : kdf k = 8) (w : Cond.fieldLink own index "TimeFloodModel" "trial" "[I" ∈ GW) (d : decode cc pc = .ok (.getfield index, 3)) (kk : JW X G Q nL (pc + 3) lv (rf G 44 :: st) σ) : JW X G Q nL pc lv (rf G k :: st) σ := j_get C hk (by decide) rfl i_M rfl 11 (by decide) rfl w d kk
theorem g_M_diary {X : XT} {G : GT} {Q : State → Prop} {cc : ByteArray} {nL : Nat} {own : String} {fr lo pc : Nat} {lv : List (Nat × Value)} {st : List Value} {σ : MT} (C : CX X G cc nL own fr lo) {index k : Nat} (hk : kdf k = 8) (w : Cond.fieldLink own index "TimeFloodModel" "diary" "[I" ∈ GW) (d : decode cc pc = .ok (.getfield index, 3)) (kk : JW X G Q nL (pc + 3) lv (rf G 45 :: st) σ) : JW X G Q nL pc lv (rf G k :: st) σ := j_get C hk (by decide) rfl i_M rfl 12 (by decide) rfl w d kk
theorem g_M_acts {X : XT} {G : GT} {Q : State → Prop} {cc : ByteArray} {nL : Nat} {own : String} {fr lo pc : Nat} {lv : List (Nat × Value)} {st : List Value} {σ : MT} (C : CX X G cc nL own fr lo) {index k : Nat} (hk : kdf k = 8) (w : Cond.fieldLink own index "TimeFloodModel" "acts" "I" ∈ GW) (d : decode cc pc = .ok (.getfield index, 3)) (kk : JW X G Q nL (pc + 3) lv (.int (σ.1 k 13) :: st) σ) : JW X G Q nL pc lv (rf G k :: st) σ := j_get C hk (by decide) rfl i_M rfl 13 (by decide) rfl w d kk
theorem p_M_acts {X : XT} {G : GT} {Q : State → Prop} {cc : ByteArray} {nL : Nat} {own : String} {fr lo pc : Nat} {lv : List (Nat × Value)} {st : List Value} {σ : MT} (C : CX X G cc nL own fr lo) {index k : Nat} {x : Int32} (hk : kdf k = 8) (w : Cond.fieldLink own index "TimeFloodModel" "acts" "I" ∈ GW) (d : decode cc pc = .ok (.putfield index, 3)) (kk : JW X G Q nL (pc + 3) lv st (sI σ k 13 x)) : JW X G Q nL pc lv (.int x :: rf G k :: st) σ := j_put C hk (by decide) rfl i_M t_M t_M_ok n_M rfl 13 (by decide) (Nat.le_of_ble_eq_true rfl) rfl (t_M_ok 13 (by decide)) rfl rfl (wld_to _ hk rfl) w d kk
theorem g_M_next {X : XT} {G : GT} {Q : State → Prop} {cc : ByteArray} {nL : Nat} {own : String} {fr lo pc : Nat} {lv : List (Nat × Value)} {st : List Value} {σ : MT} (C : CX X G cc nL own fr lo) {index k : Nat} (hk : kdf k = 8) (w : Cond.fieldLink own index "TimeFloodModel" "next" "I" ∈ GW) (d : decode cc pc = .ok (.getfield index, 3)) (kk : JW X G Q nL (pc + 3) lv (.int (σ.1 k 14) :: st) σ) : JW X G Q nL pc lv (rf G k :: st) σ := j_get C hk (by decide) rfl i_M rfl 14 (by decide) rfl w d kk
theorem p_M_next {X : XT} {G : GT} {Q : State → Prop} {cc : ByteArray} {nL : Nat} {own : String} {fr lo pc : Nat} {lv : List (Nat × Value)} {st : List Value} {σ : MT} (C : CX X G cc nL own fr lo) {index k : Nat} {x : Int32} (hk : kdf k = 8) (w : Cond.fieldLink own index "TimeFloodModel" "next" "I" ∈ GW) (d : decode cc pc = .ok (.putfield index, 3)) (kk : JW X G Q nL (pc + 3) lv st (sI σ k 14 x)) : JW X G Q nL pc lv (.int x :: rf G k :: st) σ := j_put C hk (by decide) rfl i_M t_M t_M_ok n_M rfl 14 (by decide) (Nat.le_of_ble_eq_true rfl) rfl (t_M_ok 14 (by decide)) rfl rfl (wld_to _ hk rfl) w d kk
theorem g_M_kept {X : XT} {G : GT} {Q : State → Prop} {cc : ByteArray} {nL : Nat} {own : String} {fr lo pc : Nat} {lv : List (Nat × Value)} {st : List Value} {σ : MT} (C : CX X G cc nL own fr lo) {index k : Nat} (hk : kdf k = 8) (w : Cond.fieldLink own index "TimeFloodModel" "kept" "[I" ∈ GW) (d : decode cc pc = .ok (.getfield index, 3)) (kk : JW X G Q nL (pc + 3) lv (rf G 46 :: st) σ) : JW X G Q nL pc lv (rf G k :: st) σ := j_get C hk (by decide) rfl i_M rfl 15 (by decide) rfl w d kk
theorem g_M_isKept {X : XT} {G : GT} {Q : State → Prop} {cc : ByteArray} {nL : Nat} {own : String} {fr lo pc : Nat} {lv : List (Nat × Value)} {st : List Value} {σ : MT} (C : CX X G cc nL own fr lo) {index k : Nat} (hk : kdf k = 8) (w : Cond.fieldLink own index "TimeFloodModel" "isKept" "[Z" ∈ GW) (d : decode cc pc = .ok (.getfield index, 3)) (kk : JW X G Q nL (pc + 3) lv (rf G 47 :: st) σ) : JW X G Q nL pc lv (rf G k :: st) σ := j_get C hk (by decide) rfl i_M rfl 16 (by decide) rfl w d kk
theorem g_M_seenNode {X : XT} {G : GT} {Q : State → Prop} {cc : ByteArray} {nL : Nat} {own : String} {fr lo pc : Nat} {lv : List (Nat × Value)} {st : List Value} {σ : MT} (C : CX X G cc nL own fr lo) {index k : Nat} (hk : kdf k = 8) (w : Cond.fieldLink own index "TimeFloodModel" "seenNode" "[I" ∈ GW) (d : decode cc pc = .ok (.getfield index, 3)) (kk : JW X G Q nL (pc + 3) lv (rf G 48 :: st) σ) : JW X G Q nL pc lv (rf G k :: st) σ := j_get C hk (by decide) rfl i_M rfl 17 (by decide) rfl w d kk
theorem g_M_seenBehind {X : XT} {G : GT} {Q : State → Prop} {cc : ByteArray} {nL : Nat} {own : String} {fr lo pc : Nat} {lv : List (Nat × Value)} {st : List Value} {σ : MT} (C : CX X G cc nL own fr lo) {index k : Nat} (hk : kdf k = 8) (w : Cond.fieldLink own index "TimeFloodModel" "seenBehind" "[I" ∈ GW) (d : decode cc pc = .ok (.getfield index, 3)) (kk : JW X G Q nL (pc + 3) lv (rf G 49 :: st) σ) : JW X G Q nL pc lv (rf G k :: st) σ := j_get C hk (by decide) rfl i_M rfl 18 (by decide) rfl w d kk
theorem g_M_seenRoot {X : XT} {G : GT} {Q : State → Prop} {cc : ByteArray} {nL : Nat} {own : String} {fr lo pc : Nat} {lv : List (Nat × Value)} {st : List Value} {σ : MT} (C : CX X G cc nL own fr lo) {index k : Nat} (hk : kdf k = 8) (w : Cond.fieldLink own index "TimeFloodModel" "seenRoot" "[I" ∈ GW) (d : decode cc pc = .ok (.getfield index, 3)) (kk : JW X G Q nL (pc + 3) lv (rf G 50 :: st) σ) : JW X G Q nL pc lv (rf G k :: st) σ := j_get C hk (by decide) rfl i_M rfl 19 (by decide) rfl w d kk
theorem g_M_seen {X : XT} {G : GT} {Q : State → Prop} {cc : ByteArray} {nL : Nat} {own : String} {fr lo pc : Nat} {lv : List (Nat × Value)} {st : List Value} {σ : MT} (C : CX X G cc nL own fr lo) {index k : Nat} (hk : kdf k = 8) (w : Cond.fieldLink own index "TimeFloodModel" "seen" "I" ∈ GW) (d : decode cc pc = .ok (.getfield index, 3)) (kk : JW X G Q nL (pc + 3) lv (.int (σ.1 k 20) :: st) σ) : JW X G Q nL pc lv (rf G k :: st) σ := j_get C hk (by decide) rfl i_M rfl 20 (by decide) rfl w d kk
theorem p_M_seen {X : XT} {G : GT} {Q : State → Prop} {cc : ByteArray} {nL : Nat} {own : String} {fr lo pc : Nat} {lv : List (Nat × Value)} {st : List Value} {σ : MT} (C : CX X G cc nL own fr lo) {index k : Nat} {x : Int32} (hk : kdf k = 8) (w : Cond.fieldLink own index "TimeFloodModel" "seen" "I" ∈ GW) (d : decode cc pc = .ok (.putfield index, 3)) (kk : JW X G Q nL (pc + 3) lv st (sI σ k 20 x)) : JW X G Q nL pc lv (.int x :: rf G k :: st) σ := j_put C hk (by decide) rfl i_M t_M t_M_ok n_M rfl 20 (by decide) (Nat.le_of_ble_eq_true rfl) rfl (t_M_ok 20 (by decide)) rfl rfl (wld_to _ hk rfl) w d kk
theorem g_M_seed {X : XT} {G : GT} {Q : State → Prop} {cc : ByteArray} {nL : Nat} {own : String} {fr lo pc : Nat} {lv : List (Nat × Value)} {st : List Value} {σ : MT} (C : CX X G cc nL own fr lo) {index k : Nat} (hk : kdf k = 8) (w : Cond.fieldLink own index "TimeFloodModel" "seed" "J" ∈ GW) (d : decode cc pc = .ok (.getfield index, 3)) (kk : JW X G Q nL (pc + 3) lv (.long (σ.2 k) :: st) σ) : JW X G Q nL pc lv (rf G k :: st) σ := j_get C hk (by decide) rfl i_M rfl 21 (by decide) rfl w d kk
theorem p_M_seed {X : XT} {G : GT} {Q : State → Prop} {cc : ByteArray} {nL : Nat} {own : String} {fr lo pc : Nat} {lv : List (Nat × Value)} {st : List Value} {σ : MT} (C : CX X G cc nL own fr lo) {index k : Nat} {x : Int64} (hk : kdf k = 8) (w : Cond.fieldLink own index "TimeFloodModel" "seed" "J" ∈ GW) (d : decode cc pc = .ok (.putfield index, 3)) (kk : JW X G Q nL (pc + 3) lv st (sL σ k x)) : JW X G Q nL pc lv (.long x :: rf G k :: st) σ := j_put C hk (by decide) rfl i_M t_M t_M_ok n_M rfl 21 (by decide) (Nat.le_of_ble_eq_true rfl) rfl (t_M_ok 21 (by decide)) rfl rfl (wld_toL x hk rfl) w d kk
theorem g_M_sends {X : XT} {G : GT} {Q : State → Prop} {cc : ByteArray} {nL : Nat} {own : String} {fr lo pc : Nat} {lv : List (Nat × Value)} {st : List Value} {σ : MT} (C : CX X G cc nL own fr lo) {index k : Nat} (hk : kdf k = 8) (w : Cond.fieldLink own index "TimeFloodModel" "sends" "[Z" ∈ GW) (d : decode cc pc = .ok (.getfield index, 3)) (kk : JW X G Q nL (pc + 3) lv (rf G 51 :: st) σ) : JW X G Q nL pc lv (rf G k :: st) σ := j_get C hk (by decide) rfl i_M rfl 22 (by decide) rfl w d kk
theorem g_M_sentRoot {X : XT} {G : GT} {Q : State → Prop} {cc : ByteArray} {nL : Nat} {own : String} {fr lo pc : Nat} {lv : List (Nat × Value)} {st : List Value} {σ : MT} (C : CX X G cc nL own fr lo) {index k : Nat} (hk : kdf k = 8) (w : Cond.fieldLink own index "TimeFloodModel" "sentRoot" "[I" ∈ GW) (d : decode cc pc = .ok (.getfield index, 3)) (kk : JW X G Q nL (pc + 3) lv (rf G 52 :: st) σ) : JW X G Q nL pc lv (rf G k :: st) σ := j_get C hk (by decide) rfl i_M rfl 23 (by decide) rfl w d kk
theorem g_M_sentNumber {X : XT} {G : GT} {Q : State → Prop} {cc : ByteArray} {nL : Nat} {own : String} {fr lo pc : Nat} {lv : List (Nat × Value)} {st : List Value} {σ : MT} (C : CX X G cc nL own fr lo) {index k : Nat} (hk : kdf k = 8) (w : Cond.fieldLink own index "TimeFloodModel" "sentNumber" "[I" ∈ GW) (d : decode cc pc = .ok (.getfield index, 3)) (kk : JW X G Q nL (pc + 3) lv (rf G 53 :: st) σ) : JW X G Q nL pc lv (rf G k :: st) σ := j_get C hk (by decide) rfl i_M rfl 24 (by decide) rfl w d kk
theorem g_M_sentTime {X : XT} {G : GT} {Q : State → Prop} {cc : ByteArray} {nL : Nat} {own : String} {fr lo pc : Nat} {lv : List (Nat × Value)} {st : List Value} {σ : MT} (C : CX X G cc nL own fr lo) {index k : Nat} (hk : kdf k = 8) (w : Cond.fieldLink own index "TimeFloodModel" "sentTime" "[I" ∈ GW) (d : decode cc pc = .ok (.getfield index, 3)) (kk : JW X G Q nL (pc + 3) lv (rf G 54 :: st) σ) : JW X G Q nL pc lv (rf G k :: st) σ := j_get C hk (by decide) rfl i_M rfl 25 (by decide) rfl w d kk
theorem g_M_wasRoot {X : XT} {G : GT} {Q : State → Prop} {cc : ByteArray} {nL : Nat} {own : String} {fr lo pc : Nat} {lv : List (Nat × Value)} {st : List Value} {σ : MT} (C : CX X G cc nL own fr lo) {index k : Nat} (hk : kdf k = 8) (w : Cond.fieldLink own index "TimeFloodModel" "wasRoot" "[Z" ∈ GW) (d : decode cc pc = .ok (.getfield index, 3)) (kk : JW X G Q nL (pc + 3) lv (rf G 55 :: st) σ) : JW X G Q nL pc lv (rf G k :: st) σ := j_get C hk (by decide) rfl i_M rfl 26 (by decide) rfl w d kk
theorem g_M_worth {X : XT} {G : GT} {Q : State → Prop} {cc : ByteArray} {nL : Nat} {own : String} {fr lo pc : Nat} {lv : List (Nat × Value)} {st : List Value} {σ : MT} (C : CX X G cc nL own fr lo) {index k : Nat} (hk : kdf k = 8) (w : Cond.fieldLink own index "TimeFloodModel" "worth" "[I" ∈ GW) (d : decode cc pc = .ok (.getfield index, 3)) (kk : JW X G Q nL (pc + 3) lv (rf G 56 :: st) σ) : JW X G Q nL pc lv (rf G k :: st) σ := j_get C hk (by decide) rfl i_M rfl 27 (by decide) rfl w d kk
theorem g_M_readWide {X : XT} {G : GT} {Q : State → Prop} {cc : ByteArray} {nL : Nat} {own : String} {fr lo pc : Nat} {lv : List (Nat × Value)} {st : List Value} {σ : MT} (C : CX X G cc nL own fr lo) {index k : Nat} (hk : kdf k = 8) (w : Cond.fieldLink own index "TimeFloodModel" "readWide" "I" ∈ GW) (d : decode cc pc = .ok (.getfield index, 3)) (kk : JW X G Q nL (pc + 3) lv (.int (σ.1 k 28) :: st) σ) : JW X G Q nL pc lv (rf G k :: st) σ := j_get C hk (by decide) rfl i_M rfl 28 (by decide) rfl w d kk
theorem p_M_readWide {X : XT} {G : GT} {Q : State → Prop} {cc : ByteArray} {nL : Nat} {own : String} {fr lo pc : Nat} {lv : List (Nat × Value)} {st : List Value} {σ : MT} (C : CX X G cc nL own fr lo) {index k : Nat} {x : Int32} (hk : kdf k = 8) (w : Cond.fieldLink own index "TimeFloodModel" "readWide" "I" ∈ GW) (d : decode cc pc = .ok (.putfield index, 3)) (kk : JW X G Q nL (pc + 3) lv st (sI σ k 28 x)) : JW X G Q nL pc lv (.int x :: rf G k :: st) σ := j_put C hk (by decide) rfl i_M t_M t_M_ok n_M rfl 28 (by decide) (Nat.le_of_ble_eq_true rfl) rfl (t_M_ok 28 (by decide)) rfl rfl (wld_to _ hk rfl) w d kk
theorem g_M_readPatience {X : XT} {G : GT} {Q : State → Prop} {cc : ByteArray} {nL : Nat} {own : String} {fr lo pc : Nat} {lv : List (Nat × Value)} {st : List Value} {σ : MT} (C : CX X G cc nL own fr lo) {index k : Nat} (hk : kdf k = 8) (w : Cond.fieldLink own index "TimeFloodModel" "readPatience" "I" ∈ GW) (d : decode cc pc = .ok (.getfield index, 3)) (kk : JW X G Q nL (pc + 3) lv (.int (σ.1 k 29) :: st) σ) : JW X G Q nL pc lv (rf G k :: st) σ := j_get C hk (by decide) rfl i_M rfl 29 (by decide) rfl w d kk
theorem p_M_readPatience {X : XT} {G : GT} {Q : State → Prop} {cc : ByteArray} {nL : Nat} {own : String} {fr lo pc : Nat} {lv : List (Nat × Value)} {st : List Value} {σ : MT} (C : CX X G cc nL own fr lo) {index k : Nat} {x : Int32} (hk : kdf k = 8) (w : Cond.fieldLink own index "TimeFloodModel" "readPatience" "I" ∈ GW) (d : decode cc pc = .ok (.putfield index, 3)) (kk : JW X G Q nL (pc + 3) lv st (sI σ k 29 x)) : JW X G Q nL pc lv (.int x :: rf G k :: st) σ := j_put C hk (by decide) rfl i_M t_M t_M_ok n_M rfl 29 (by decide) (Nat.le_of_ble_eq_true rfl) rfl (t_M_ok 29 (by decide)) rfl rfl (wld_to _ hk rfl) w d kk
theorem g_M_readShy {X : XT} {G : GT} {Q : State → Prop} {cc : ByteArray} {nL : Nat} {own : String} {fr lo pc : Nat} {lv : List (Nat × Value)} {st : List Value} {σ : MT} (C : CX X G cc nL own fr lo) {index k : Nat} (hk : kdf k = 8) (w : Cond.fieldLink own index "TimeFloodModel" "readShy" "I" ∈ GW) (d : decode cc pc = .ok (.getfield index, 3)) (kk : JW X G Q nL (pc + 3) lv (.int (σ.1 k 30) :: st) σ) : JW X G Q nL pc lv (rf G k :: st) σ := j_get C hk (by decide) rfl i_M rfl 30 (by decide) rfl w d kk
theorem p_M_readShy {X : XT} {G : GT} {Q : State → Prop} {cc : ByteArray} {nL : Nat} {own : String} {fr lo pc : Nat} {lv : List (Nat × Value)} {st : List Value} {σ : MT} (C : CX X G cc nL own fr lo) {index k : Nat} {x : Int32} (hk : kdf k = 8) (w : Cond.fieldLink own index "TimeFloodModel" "readShy" "I" ∈ GW) (d : decode cc pc = .ok (.putfield index, 3)) (kk : JW X G Q nL (pc + 3) lv st (sI σ k 30 x)) : JW X G Q nL pc lv (.int x :: rf G k :: st) σ := j_put C hk (by decide) rfl i_M t_M t_M_ok n_M rfl 30 (by decide) (Nat.le_of_ble_eq_true rfl) rfl (t_M_ok 30 (by decide)) rfl rfl (wld_to _ hk rfl) w d kk
theorem g_M_readNodes {X : XT} {G : GT} {Q : State → Prop} {cc : ByteArray} {nL : Nat} {own : String} {fr lo pc : Nat} {lv : List (Nat × Value)} {st : List Value} {σ : MT} (C : CX X G cc nL own fr lo) {index k : Nat} (hk : kdf k = 8) (w : Cond.fieldLink own index "TimeFloodModel" "readNodes" "I" ∈ GW) (d : decode cc pc = .ok (.getfield index, 3)) (kk : JW X G Q nL (pc + 3) lv (.int (σ.1 k 31) :: st) σ) : JW X G Q nL pc lv (rf G k :: st) σ := j_get C hk (by decide) rfl i_M rfl 31 (by decide) rfl w d kk
theorem p_M_readNodes {X : XT} {G : GT} {Q : State → Prop} {cc : ByteArray} {nL : Nat} {own : String} {fr lo pc : Nat} {lv : List (Nat × Value)} {st : List Value} {σ : MT} (C : CX X G cc nL own fr lo) {index k : Nat} {x : Int32} (hk : kdf k = 8) (w : Cond.fieldLink own index "TimeFloodModel" "readNodes" "I" ∈ GW) (d : decode cc pc = .ok (.putfield index, 3)) (kk : JW X G Q nL (pc + 3) lv st (sI σ k 31 x)) : JW X G Q nL pc lv (.int x :: rf G k :: st) σ := j_put C hk (by decide) rfl i_M t_M t_M_ok n_M rfl 31 (by decide) (Nat.le_of_ble_eq_true rfl) rfl (t_M_ok 31 (by decide)) rfl rfl (wld_to _ hk rfl) w d kk
theorem g_M_readDrift {X : XT} {G : GT} {Q : State → Prop} {cc : ByteArray} {nL : Nat} {own : String} {fr lo pc : Nat} {lv : List (Nat × Value)} {st : List Value} {σ : MT} (C : CX X G cc nL own fr lo) {index k : Nat} (hk : kdf k = 8) (w : Cond.fieldLink own index "TimeFloodModel" "readDrift" "[I" ∈ GW) (d : decode cc pc = .ok (.getfield index, 3)) (kk : JW X G Q nL (pc + 3) lv (rf G 57 :: st) σ) : JW X G Q nL pc lv (rf G k :: st) σ := j_get C hk (by decide) rfl i_M rfl 32 (by decide) rfl w d kk
theorem g_M_readStart {X : XT} {G : GT} {Q : State → Prop} {cc : ByteArray} {nL : Nat} {own : String} {fr lo pc : Nat} {lv : List (Nat × Value)} {st : List Value} {σ : MT} (C : CX X G cc nL own fr lo) {index k : Nat} (hk : kdf k = 8) (w : Cond.fieldLink own index "TimeFloodModel" "readStart" "[I" ∈ GW) (d : decode cc pc = .ok (.getfield index, 3)) (kk : JW X G Q nL (pc + 3) lv (rf G 58 :: st) σ) : JW X G Q nL pc lv (rf G k :: st) σ := j_get C hk (by decide) rfl i_M rfl 33 (by decide) rfl w d kk
theorem g_M_readLinks {X : XT} {G : GT} {Q : State → Prop} {cc : ByteArray} {nL : Nat} {own : String} {fr lo pc : Nat} {lv : List (Nat × Value)} {st : List Value} {σ : MT} (C : CX X G cc nL own fr lo) {index k : Nat} (hk : kdf k = 8) (w : Cond.fieldLink own index "TimeFloodModel" "readLinks" "I" ∈ GW) (d : decode cc pc = .ok (.getfield index, 3)) (kk : JW X G Q nL (pc + 3) lv (.int (σ.1 k 34) :: st) σ) : JW X G Q nL pc lv (rf G k :: st) σ := j_get C hk (by decide) rfl i_M rfl 34 (by decide) rfl w d kk
theorem p_M_readLinks {X : XT} {G : GT} {Q : State → Prop} {cc : ByteArray} {nL : Nat} {own : String} {fr lo pc : Nat} {lv : List (Nat × Value)} {st : List Value} {σ : MT} (C : CX X G cc nL own fr lo) {index k : Nat} {x : Int32} (hk : kdf k = 8) (w : Cond.fieldLink own index "TimeFloodModel" "readLinks" "I" ∈ GW) (d : decode cc pc = .ok (.putfield index, 3)) (kk : JW X G Q nL (pc + 3) lv st (sI σ k 34 x)) : JW X G Q nL pc lv (.int x :: rf G k :: st) σ := j_put C hk (by decide) rfl i_M t_M t_M_ok n_M rfl 34 (by decide) (Nat.le_of_ble_eq_true rfl) rfl (t_M_ok 34 (by decide)) rfl rfl (wld_to _ hk rfl) w d kk
theorem g_M_readOne {X : XT} {G : GT} {Q : State → Prop} {cc : ByteArray} {nL : Nat} {own : String} {fr lo pc : Nat} {lv : List (Nat × Value)} {st : List Value} {σ : MT} (C : CX X G cc nL own fr lo) {index k : Nat} (hk : kdf k = 8) (w : Cond.fieldLink own index "TimeFloodModel" "readOne" "[I" ∈ GW) (d : decode cc pc = .ok (.getfield index, 3)) (kk : JW X G Q nL (pc + 3) lv (rf G 59 :: st) σ) : JW X G Q nL pc lv (rf G k :: st) σ := j_get C hk (by decide) rfl i_M rfl 35 (by decide) rfl w d kk
theorem g_M_readOther {X : XT} {G : GT} {Q : State → Prop} {cc : ByteArray} {nL : Nat} {own : String} {fr lo pc : Nat} {lv : List (Nat × Value)} {st : List Value} {σ : MT} (C : CX X G cc nL own fr lo) {index k : Nat} (hk : kdf k = 8) (w : Cond.fieldLink own index "TimeFloodModel" "readOther" "[I" ∈ GW) (d : decode cc pc = .ok (.getfield index, 3)) (kk : JW X G Q nL (pc + 3) lv (rf G 60 :: st) σ) : JW X G Q nL pc lv (rf G k :: st) σ := j_get C hk (by decide) rfl i_M rfl 36 (by decide) rfl w d kk
theorem g_M_part {X : XT} {G : GT} {Q : State → Prop} {cc : ByteArray} {nL : Nat} {own : String} {fr lo pc : Nat} {lv : List (Nat × Value)} {st : List Value} {σ : MT} (C : CX X G cc nL own fr lo) {index k : Nat} (hk : kdf k = 8) (w : Cond.fieldLink own index "TimeFloodModel" "part" "I" ∈ GW) (d : decode cc pc = .ok (.getfield index, 3)) (kk : JW X G Q nL (pc + 3) lv (.int (σ.1 k 37) :: st) σ) : JW X G Q nL pc lv (rf G k :: st) σ := j_get C hk (by decide) rfl i_M rfl 37 (by decide) rfl w d kk
theorem p_M_part {X : XT} {G : GT} {Q : State → Prop} {cc : ByteArray} {nL : Nat} {own : String} {fr lo pc : Nat} {lv : List (Nat × Value)} {st : List Value} {σ : MT} (C : CX X G cc nL own fr lo) {index k : Nat} {x : Int32} (hk : kdf k = 8) (w : Cond.fieldLink own index "TimeFloodModel" "part" "I" ∈ GW) (d : decode cc pc = .ok (.putfield index, 3)) (kk : JW X G Q nL (pc + 3) lv st (sI σ k 37 x)) : JW X G Q nL pc lv (.int x :: rf G k :: st) σ := j_put C hk (by decide) rfl i_M t_M t_M_ok n_M rfl 37 (by decide) (Nat.le_of_ble_eq_true rfl) rfl (t_M_ok 37 (by decide)) rfl rfl (wld_to _ hk rfl) w d kk
theorem g_M_place {X : XT} {G : GT} {Q : State → Prop} {cc : ByteArray} {nL : Nat} {own : String} {fr lo pc : Nat} {lv : List (Nat × Value)} {st : List Value} {σ : MT} (C : CX X G cc nL own fr lo) {index k : Nat} (hk : kdf k = 8) (w : Cond.fieldLink own index "TimeFloodModel" "place" "I" ∈ GW) (d : decode cc pc = .ok (.getfield index, 3)) (kk : JW X G Q nL (pc + 3) lv (.int (σ.1 k 38) :: st) σ) : JW X G Q nL pc lv (rf G k :: st) σ := j_get C hk (by decide) rfl i_M rfl 38 (by decide) rfl w d kk
theorem p_M_place {X : XT} {G : GT} {Q : State → Prop} {cc : ByteArray} {nL : Nat} {own : String} {fr lo pc : Nat} {lv : List (Nat × Value)} {st : List Value} {σ : MT} (C : CX X G cc nL own fr lo) {index k : Nat} {x : Int32} (hk : kdf k = 8) (w : Cond.fieldLink own index "TimeFloodModel" "place" "I" ∈ GW) (d : decode cc pc = .ok (.putfield index, 3)) (kk : JW X G Q nL (pc + 3) lv st (sI σ k 38 x)) : JW X G Q nL pc lv (.int x :: rf G k :: st) σ := j_put C hk (by decide) rfl i_M t_M t_M_ok n_M rfl 38 (by decide) (Nat.le_of_ble_eq_true rfl) rfl (t_M_ok 38 (by decide)) rfl rfl (wld_to _ hk rfl) w d kk
theorem j_iald {X : XT} {G : GT} {Q : State → Prop} {cc : ByteArray} {nL : Nat} {own : String} {fr lo pc : Nat} {lv : List (Nat × Value)} {st : List Value} {σ : MT} (C : CX X G cc nL own fr lo) {k kd n : Nat} {i : Int32} (hk : kdf k = kd) (h99 : kd ≠ 99) (he : cont G kd k (σ.1 k) (σ.2 k) = .inl (G.2.1 0, n, .inl (σ.1 k))) (hin : vp_in i n) (d : decode cc pc = .ok (.iaload, 1)) (kk : JW X G Q nL (pc + 1) lv (.int (σ.1 k i.toNatClampNeg) :: st) σ) : JW X G Q nL pc lv (.int i :: rf G k :: st) σ := by
  obtain ⟨p, l, e, R, s, m, args, below, meth, c⟩ := X
  obtain ⟨hx, hb, hml, hown, hts, hK, hI, hN, hZ, hfr, hlo, hlk⟩ := C
  intro H locs ls hP hS hl
  exact va_iald (D := G.1) hx hb hK hP k 0 (wld_is hk h99 he) rfl hin d (kk H locs ls hP hS hl)
theorem j_iast {X : XT} {G : GT} {Q : State → Prop} {cc : ByteArray} {nL : Nat} {own : String} {fr lo pc : Nat} {lv : List (Nat × Value)} {st : List Value} {σ : MT} (C : CX X G cc nL own fr lo) {k kd n : Nat} {i x : Int32} (hk : kdf k = kd) (h99 : kd ≠ 99) (he : ∀ g, cont G kd k g (σ.2 k) = .inl (G.2.1 0, n, .inl g)) (hin : vp_in i n) (d : decode cc pc = .ok (.iastore, 1)) (kk : JW X G Q nL (pc + 1) lv st (sI σ k i.toNatClampNeg x)) : JW X G Q nL pc lv (.int x :: .int i :: rf G k :: st) σ := by
  obtain ⟨p, l, e, R, s, m, args, below, meth, c⟩ := X
  obtain ⟨hx, hb, hml, hown, hts, hK, hI, hN, hZ, hfr, hlo, hlk⟩ := C
  intro H locs ls hP hS hl
  refine va_iast (D := G.1) hx hb hK hP (wld_D hI) hS k 0 (wld_is hk h99 (he _)) rfl hin d (fun H1 locs1 hP1 _ hS1 => ?_)
  rw [wld_to _ hk (he _)] at hP1
  exact kk H1 locs1 ls hP1 hS1 hl
theorem j_zald {X : XT} {G : GT} {Q : State → Prop} {cc : ByteArray} {nL : Nat} {own : String} {fr lo pc : Nat} {lv : List (Nat × Value)} {st : List Value} {σ : MT} (C : CX X G cc nL own fr lo) {k kd n : Nat} {i : Int32} (hk : kdf k = kd) (h99 : kd ≠ 99) (he : cont G kd k (σ.1 k) (σ.2 k) = .inl (G.2.1 2, n, .inl (σ.1 k))) (hin : vp_in i n) (d : decode cc pc = .ok (.baload, 1)) (kk : JW X G Q nL (pc + 1) lv (.int (σ.1 k i.toNatClampNeg) :: st) σ) : JW X G Q nL pc lv (.int i :: rf G k :: st) σ := by
  obtain ⟨p, l, e, R, s, m, args, below, meth, c⟩ := X
  obtain ⟨hx, hb, hml, hown, hts, hK, hI, hN, hZ, hfr, hlo, hlk⟩ := C
  intro H locs ls hP hS hl
  exact va_zald (D := G.1) hx hb hK hP k 2 (wld_is hk h99 he) rfl hin d (kk H locs ls hP hS hl)
theorem j_zast {X : XT} {G : GT} {Q : State → Prop} {cc : ByteArray} {nL : Nat} {own : String} {fr lo pc : Nat} {lv : List (Nat × Value)} {st : List Value} {σ : MT} (C : CX X G cc nL own fr lo) {k kd n : Nat} {i x : Int32} (hk : kdf k = kd) (h99 : kd ≠ 99) (he : ∀ g, cont G kd k g (σ.2 k) = .inl (G.2.1 2, n, .inl g)) (hin : vp_in i n) (d : decode cc pc = .ok (.bastore, 1)) (kk : JW X G Q nL (pc + 1) lv st (sI σ k i.toNatClampNeg (vp_nar .boolean x))) : JW X G Q nL pc lv (.int x :: .int i :: rf G k :: st) σ := by
  obtain ⟨p, l, e, R, s, m, args, below, meth, c⟩ := X
  obtain ⟨hx, hb, hml, hown, hts, hK, hI, hN, hZ, hfr, hlo, hlk⟩ := C
  intro H locs ls hP hS hl
  refine va_zast (D := G.1) hx hb hK hP (wld_D hI) hS k 2 (wld_is hk h99 (he _)) rfl hin d (fun H1 locs1 hP1 _ hS1 => ?_)
  rw [wld_to _ hk (he _)] at hP1
  exact kk H1 locs1 ls hP1 hS1 hl
theorem j_cald {X : XT} {G : GT} {Q : State → Prop} {cc : ByteArray} {nL : Nat} {own : String} {fr lo pc : Nat} {lv : List (Nat × Value)} {st : List Value} {σ : MT} (C : CX X G cc nL own fr lo) {k kd n : Nat} {i : Int32} (hk : kdf k = kd) (h99 : kd ≠ 99) (he : cont G kd k (σ.1 k) (σ.2 k) = .inl (G.2.1 1, n, .inl (σ.1 k))) (hin : vp_in i n) (d : decode cc pc = .ok (.caload, 1)) (kk : JW X G Q nL (pc + 1) lv (.int (σ.1 k i.toNatClampNeg) :: st) σ) : JW X G Q nL pc lv (.int i :: rf G k :: st) σ := by
  obtain ⟨p, l, e, R, s, m, args, below, meth, c⟩ := X
  obtain ⟨hx, hb, hml, hown, hts, hK, hI, hN, hZ, hfr, hlo, hlk⟩ := C
  intro H locs ls hP hS hl
  exact va_cald (D := G.1) hx hb hK hP k 1 (wld_is hk h99 he) rfl hin d (kk H locs ls hP hS hl)
theorem j_cast {X : XT} {G : GT} {Q : State → Prop} {cc : ByteArray} {nL : Nat} {own : String} {fr lo pc : Nat} {lv : List (Nat × Value)} {st : List Value} {σ : MT} (C : CX X G cc nL own fr lo) {k kd n : Nat} {i x : Int32} (hk : kdf k = kd) (h99 : kd ≠ 99) (he : ∀ g, cont G kd k g (σ.2 k) = .inl (G.2.1 1, n, .inl g)) (hin : vp_in i n) (d : decode cc pc = .ok (.castore, 1)) (kk : JW X G Q nL (pc + 1) lv st (sI σ k i.toNatClampNeg (vp_nar .char x))) : JW X G Q nL pc lv (.int x :: .int i :: rf G k :: st) σ := by
  obtain ⟨p, l, e, R, s, m, args, below, meth, c⟩ := X
  obtain ⟨hx, hb, hml, hown, hts, hK, hI, hN, hZ, hfr, hlo, hlk⟩ := C
  intro H locs ls hP hS hl
  refine va_cast (D := G.1) hx hb hK hP (wld_D hI) hS k 1 (wld_is hk h99 (he _)) rfl hin d (fun H1 locs1 hP1 _ hS1 => ?_)
  rw [wld_to _ hk (he _)] at hP1
  exact kk H1 locs1 ls hP1 hS1 hl
theorem j_alen {X : XT} {G : GT} {Q : State → Prop} {cc : ByteArray} {nL : Nat} {own : String} {fr lo pc : Nat} {lv : List (Nat × Value)} {st : List Value} {σ : MT} (C : CX X G cc nL own fr lo) {k kd E n t : Nat} {x : vp_A} {ty : FieldType} {v : Int32} (hk : kdf k = kd) (h99 : kd ≠ 99) (he : cont G kd k (σ.1 k) (σ.2 k) = .inl (G.2.1 E, x)) (ht : (tysW G.2.1)[t]? = some (G.2.1 E, ty)) (hv : Int32.ofNat x.1 = v) (d : decode cc pc = .ok (.arraylength, 1)) (kk : JW X G Q nL (pc + 1) lv (.int v :: st) σ) : JW X G Q nL pc lv (rf G k :: st) σ := by
  obtain ⟨p, l, e, R, s, m, args, below, meth, c⟩ := X
  obtain ⟨hx, hb, hml, hown, hts, hK, hI, hN, hZ, hfr, hlo, hlk⟩ := C
  intro H locs ls hP hS hl
  exact va_alen (D := G.1) hx hb hK hP k t (wld_is hk h99 he) ht hv d (kk H locs ls hP hS hl)
theorem j_aald {X : XT} {G : GT} {Q : State → Prop} {cc : ByteArray} {nL : Nat} {own : String} {fr lo pc : Nat} {lv : List (Nat × Value)} {st : List Value} {σ : MT} (C : CX X G cc nL own fr lo) {k kd E n b : Nat} {i : Int32} {f : Nat → Option Nat} {ty : FieldType} (hk : kdf k = kd) (h99 : kd ≠ 99) (he : cont G kd k (σ.1 k) (σ.2 k) = .inl (G.2.1 E, n, .inr (.inr (.inr (.inr f))))) (ht : (tysW G.2.1)[E]? = some (G.2.1 E, ty)) (hr : ty.isReference = true) (hin : vp_in i n) (hf : f i.toNatClampNeg = some (G.2.2 b)) (d : decode cc pc = .ok (.aaload, 1)) (kk : JW X G Q nL (pc + 1) lv (rf G b :: st) σ) : JW X G Q nL pc lv (.int i :: rf G k :: st) σ := by
  obtain ⟨p, l, e, R, s, m, args, below, meth, c⟩ := X
  obtain ⟨hx, hb, hml, hown, hts, hK, hI, hN, hZ, hfr, hlo, hlk⟩ := C
  intro H locs ls hP hS hl
  have hlt : i.toNatClampNeg < n := Nat.not_le.mp fun q => hin (Or.inr q)
  have ha := wld_is (σ := σ) hk h99 he
  exact W.aald (v := rf G b) (ty := ty) hx hb (hP k _ ha) ((hK.2 E _ ht).1 n (fun j => va_rf (f j))) hr (fun q => by cases q) (by show ¬ (i < 0 ∨ (arrV _ _ _).slots.size ≤ _); rw [arrV_size]; exact hin) (by show (arrV _ _ _).slots[_]? = _; rw [arrV_read _ _ hlt, hf]; rfl) rfl rfl d (kk H locs ls hP hS hl)
theorem e_slots {X : XT} {G : GT} {Q : State → Prop} {cc : ByteArray} {nL : Nat} {own : String} {fr lo pc : Nat} {lv : List (Nat × Value)} {st : List Value} {σ : MT} (C : CX X G cc nL own fr lo) {k : Nat} {i : Int32} (hk : kdf k = 30) (hin : vp_in i 2) (d : decode cc pc = .ok (.aaload, 1)) (kk : JW X G Q nL (pc + 1) lv (rf G (105 + 22 * i.toNatClampNeg) :: st) σ) : JW X G Q nL pc lv (.int i :: rf G k :: st) σ := j_aald (E := 3) C hk (by decide) rfl rfl rfl hin rfl d kk
theorem e_states {X : XT} {G : GT} {Q : State → Prop} {cc : ByteArray} {nL : Nat} {own : String} {fr lo pc : Nat} {lv : List (Nat × Value)} {st : List Value} {σ : MT} (C : CX X G cc nL own fr lo) {k : Nat} {i : Int32} (hk : kdf k = 31) (hin : vp_in i 14) (d : decode cc pc = .ok (.aaload, 1)) (kk : JW X G Q nL (pc + 1) lv (rf G (149 + 22 * i.toNatClampNeg) :: st) σ) : JW X G Q nL pc lv (.int i :: rf G k :: st) σ := j_aald (E := 3) C hk (by decide) rfl rfl rfl hin rfl d kk
theorem e_nodes {X : XT} {G : GT} {Q : State → Prop} {cc : ByteArray} {nL : Nat} {own : String} {fr lo pc : Nat} {lv : List (Nat × Value)} {st : List Value} {σ : MT} (C : CX X G cc nL own fr lo) {k : Nat} {i : Int32} (hk : kdf k = 32) (hin : vp_in i 5) (d : decode cc pc = .ok (.aaload, 1)) (kk : JW X G Q nL (pc + 1) lv (rf G (k + 1 + 4 * i.toNatClampNeg) :: st) σ) : JW X G Q nL pc lv (.int i :: rf G k :: st) σ := j_aald (E := 4) C hk (by decide) rfl rfl rfl hin rfl d kk
theorem e_links {X : XT} {G : GT} {Q : State → Prop} {cc : ByteArray} {nL : Nat} {own : String} {fr lo pc : Nat} {lv : List (Nat × Value)} {st : List Value} {σ : MT} (C : CX X G cc nL own fr lo) {k : Nat} {i : Int32} (hk : kdf k = 33) (hin : vp_in i 5) (d : decode cc pc = .ok (.aaload, 1)) (kk : JW X G Q nL (pc + 1) lv (rf G (k + 1 + i.toNatClampNeg) :: st) σ) : JW X G Q nL pc lv (.int i :: rf G k :: st) σ := j_aald (E := 5) C hk (by decide) rfl rfl rfl hin rfl d kk
theorem j_th {X : XT} {G : GT} {Q : State → Prop} {cc : ByteArray} {nL : Nat} {fr lo pc : Nat} {lv : List (Nat × Value)} {st : List Value} {σ : MT} (C : CX X G cc nL "TimeFlood" fr lo) {index : Nat} (w : Cond.fieldLink "TimeFlood" index "TimeFlood" "THOUSANDS" "[J" ∈ GW) (d : decode cc pc = .ok (.getstatic index, 3)) (kk : ∀ t : Nat, (∀ (pc2 : Nat) (lv2 : List (Nat × Value)) (st2 : List Value) (σ2 : MT) (i : Int32), vp_in i 5 → decode cc pc2 = .ok (.laload, 1) → JW X G Q nL (pc2 + 1) lv2 (.long (thV i.toNatClampNeg) :: st2) σ2 → JW X G Q nL pc2 lv2 (.int i :: .ref t :: st2) σ2) → JW X G Q nL (pc + 3) lv (.ref t :: st) σ) : JW X G Q nL pc lv st σ := by
  obtain ⟨p, l, e, R, s, m, args, below, meth, c⟩ := X
  obtain ⟨hx, hb, hml, hown, hts, hK, hI, hN, ⟨t1, t2, z1, z2, z3, z4⟩, hfr, hlo, hlk⟩ := C
  intro H locs ls hP hS hl
  refine va_gets hx hb z1 hS hown (hts _ w) (fun _ h => h) d (kk t1 ?_ H locs ls hP hS hl)
  intro pc2 lv2 st2 σ2 i hin d2 k2 H2 locs2 ls2 hP2 hS2 hl2
  exact va_tl hx hb z2 hS2 hin rfl d2 (k2 H2 locs2 ls2 hP2 hS2 hl2)
theorem j_fa {X : XT} {G : GT} {Q : State → Prop} {cc : ByteArray} {nL : Nat} {fr lo pc : Nat} {lv : List (Nat × Value)} {st : List Value} {σ : MT} (C : CX X G cc nL "TimeFlood" fr lo) {index : Nat} (w : Cond.fieldLink "TimeFlood" index "TimeFlood" "FACTORIALS" "[I" ∈ GW) (d : decode cc pc = .ok (.getstatic index, 3)) (kk : ∀ t : Nat, (∀ (pc2 : Nat) (lv2 : List (Nat × Value)) (st2 : List Value) (σ2 : MT) (i : Int32), vp_in i 6 → decode cc pc2 = .ok (.iaload, 1) → JW X G Q nL (pc2 + 1) lv2 (.int (faV i.toNatClampNeg) :: st2) σ2 → JW X G Q nL pc2 lv2 (.int i :: .ref t :: st2) σ2) → JW X G Q nL (pc + 3) lv (.ref t :: st) σ) : JW X G Q nL pc lv st σ := by
  obtain ⟨p, l, e, R, s, m, args, below, meth, c⟩ := X
  obtain ⟨hx, hb, hml, hown, hts, hK, hI, hN, ⟨t1, t2, z1, z2, z3, z4⟩, hfr, hlo, hlk⟩ := C
  intro H locs ls hP hS hl
  refine va_gets hx hb z3 hS hown (hts _ w) (fun _ h => h) d (kk t2 ?_ H locs ls hP hS hl)
  intro pc2 lv2 st2 σ2 i hin d2 k2 H2 locs2 ls2 hP2 hS2 hl2
  exact va_ti hx hb z4 hS2 hin rfl d2 (k2 H2 locs2 ls2 hP2 hS2 hl2)
theorem j_copy {X : XT} {G : GT} {Q : State → Prop} {cc : ByteArray} {nL : Nat} {own : String} {fr lo pc : Nat} {lv : List (Nat × Value)} {st : List Value} {σ : MT} (C : CX X G cc nL own fr lo) {index a b ka kb na nb : Nat} {sp dp n : Int32} (ha : kdf a = ka) (hb9 : kdf b = kb) (h99 : ka ≠ 99) (h98 : kb ≠ 99) (hea : cont G ka a (σ.1 a) (σ.2 a) = .inl (G.2.1 0, na, .inl (σ.1 a))) (heb : ∀ g, cont G kb b g (σ.2 b) = .inl (G.2.1 0, nb, .inl g)) (h1 : ¬ sp < 0) (h2 : ¬ dp < 0) (h3 : ¬ n < 0) (h4 : sp.toNatClampNeg + n.toNatClampNeg ≤ na) (h5 : dp.toNatClampNeg + n.toNatClampNeg ≤ nb) (hfr1 : 1 ≤ fr) (hlo1 : (st.map fun v => v.category).sum + (nativeFrameWords "java/lang/System" "arraycopy" 5 + 11) ≤ lo) (w1 : Cond.methodLink own index arraycopyName ∈ GW) (w2 : Cond.native arraycopyName ∈ GW) (w3 : Cond.static arraycopyName ∈ GW) (w4 : Cond.initialized "java/lang/System" ∈ GW) (d : decode cc pc = .ok (.invokestatic index, 3)) (kk : JW X G Q nL (pc + 3) lv st (sA σ b (va_cpy (σ.1 a) (σ.1 b) sp.toNatClampNeg dp.toNatClampNeg n.toNatClampNeg))) : JW X G Q nL pc lv (.int n :: .int dp :: rf G b :: .int sp :: rf G a :: st) σ := by
  obtain ⟨p, l, e, R, s, m, args, below, meth, c⟩ := X
  obtain ⟨hx, hb, hml, hown, hts, hK, hI, hN, hZ, hfr, hlo, hlk⟩ := C
  intro H locs ls hP hS hl
  refine va_copyi (D := G.1) (ty := .int) hx hb (hml.trans hl.1.symm) hown (hts _ w1) (hts _ w2) (hts _ w3) (hts _ w4) hK hP (wld_D hI) hS a b 0 0 (wld_is ha h99 hea) (wld_is hb9 h98 (heb _)) rfl rfl rfl h1 h2 h3 h4 h5 (fun _ _ => rfl) (Nat.le_trans hfr1 hfr) (Nat.le_trans hlo1 hlo) d (fun H1 locs1 hP1 _ hS1 => ?_)
  rw [wld_to _ hb9 (heb _)] at hP1
  exact kk H1 locs1 ls hP1 hS1 hl
def MWV (y : MethodName) (bytes : ByteArray) (maxL : Nat) (ret : Option FieldType) (n : Nat) : Prop := Cond.instanceMethod y ∈ GW ∧ Cond.selects y.cls y y ∈ GW ∧ Cond.initialized y.cls ∈ GW ∧ Cond.code y bytes maxL ret ∈ GW ∧ y.cls ≠ "java/lang/invoke/MethodHandle" ∧ y.cls ≠ "java/lang/invoke/VarHandle" ∧ (parseMethodDescriptor y.desc).map (fun d => d.parameters.length) = some n
def MWS (y : MethodName) (bytes : ByteArray) (maxL : Nat) (ret : Option FieldType) (n : Nat) : Prop := Cond.static y ∈ GW ∧ Cond.initialized y.cls ∈ GW ∧ Cond.code y bytes maxL ret ∈ GW ∧ y.cls ≠ "java/lang/invoke/MethodHandle" ∧ y.cls ≠ "java/lang/invoke/VarHandle" ∧ (parseMethodDescriptor y.desc).map (fun d => d.parameters.length) = some n
theorem gi_GW {c : Cond} (h : c ∈ GW) : GoodIn GW (c :: GW) := fun w hw => by
  rcases List.mem_cons.mp hw with rfl | hw
  · exact ⟨h, GW_good h⟩
  · exact ⟨hw, GW_good hw⟩
theorem cV {R : Room} {s : State} {args : Array Value} {own : String} {index : Nat} {y : MethodName} {bytes : ByteArray} {maxL n fr lo : Nat} {ret : Option FieldType} (hts : ∀ w ∈ GW, w.before args s = true) (hm : MWV y bytes maxL ret n) (hl : Cond.methodLink own index y ∈ GW) (hR : fr + 1 ≤ R.frames ∧ 8 + (maxL + 11) + lo ≤ R.locals) : CallW R s args own y.cls index y bytes maxL ret (WS y bytes maxL ret) (RM fr lo) 0 0 n :=
  ⟨callB_of n hts (gi_GW hm.2.2.2.1) rfl rfl rfl (hts _ hm.2.2.1) (hts _ hl) hm.2.2.2.2 hR, hts _ hm.1, hts _ hm.2.1⟩
theorem cS {R : Room} {s : State} {args : Array Value} {own : String} {index : Nat} {y : MethodName} {bytes : ByteArray} {maxL n fr lo : Nat} {ret : Option FieldType} (hts : ∀ w ∈ GW, w.before args s = true) (hm : MWS y bytes maxL ret n) (hl : Cond.methodLink own index y ∈ GW) (hR : fr + 1 ≤ R.frames ∧ 8 + (maxL + 11) + lo ≤ R.locals) : CallB R s args own index y bytes maxL ret (WS y bytes maxL ret) (RM fr lo) 0 0 n ∧ (Cond.static y).before args s = true :=
  ⟨callB_of n hts (gi_GW hm.2.2.1) rfl rfl rfl (hts _ hm.2.1) (hts _ hl) hm.2.2.2 hR, hts _ hm.1⟩
theorem cN {R : Room} {s : State} {args : Array Value} {own : String} {index : Nat} {y : MethodName} {bytes : ByteArray} {maxL n fr lo : Nat} {ret : Option FieldType} {host : String} (hts : ∀ w ∈ GW, w.before args s = true) (hm : MWS y bytes maxL ret n) (hl : va_Nw (.methodLinkNest own index y host) s) (hR : fr + 1 ≤ R.frames ∧ 8 + (maxL + 11) + lo ≤ R.locals) : va_CN R s args own index y host bytes maxL ret (WS y bytes maxL ret) (RM fr lo) 0 0 n ∧ (Cond.static y).before args s = true ∧ True :=
  ⟨va_cnB n hts (gi_GW hm.2.2.1) rfl rfl rfl hl (hts _ hm.2.1) hm.2.2.2 hR, hts _ hm.1, trivial⟩
theorem blind {G : GT} {σ : MT} {av : List Value} : FrameBlind (va_Pc av (Wd G σ)) := fun a U g mk q => ⟨q.1, q.2.call g mk a⟩
theorem preW {G : GT} {σ : MT} {s U : State} {H : Heap} {locs : List Loc} (hP : va_P G.1 classes (wld G σ) H) (hK : va_K G.1 classes (tysW G.2.1) s) (hI : INJ G) (hN : NW s) (hZ : ST G s s.heap) (hS : va_S (AW G) s.heap H locs) (hU : U.heap = H) (hW : s.WarmedH U.vm) : Wd G σ U :=
  ⟨by rw [hU]; exact hP, va_K.moved hW.alike hK, hI, NW.warm hW hN, (hZ.kept (fun a h1 h2 => by rw [hU]; exact hS.2.1 a h1 h2)).moved hW.alike⟩

theorem j_vi {X : XT} {G : GT} {Q : State → Prop} {cc : ByteArray} {nL : Nat} {own : String} {fr lo pc : Nat} {lv : List (Nat × Value)} {st : List Value} {σ : MT} (C : CX X G cc nL own fr lo) {index k kd ci N fr1 lo1 maxL n : Nat} {T : u_T} {y : MethodName} {bytes : ByteArray} {ret : Option FieldType} {fs As stk : List Value} {r0 : Int32} {σ0 : MT} (hM : CTI (XL X) G y bytes maxL ret fr1 lo1 (rf G k :: As) σ r0 σ0) (hk : kdf k = kd) (h99 : kd ≠ 99) (he : cont G kd k (σ.1 k) (σ.2 k) = .inr (ci, fs)) (hc : classes[ci]? = some (y.cls, T, N)) (hm : MWV y bytes maxL ret n) (hl0 : Cond.methodLink own index y ∈ GW) (hn : As.length = n) (hst : stk = As.reverse ++ rf G k :: st) (hcat : (st.map fun v => v.category).sum ≤ 8) (hR : fr1 + 1 ≤ fr ∧ 8 + (maxL + 11) + lo1 ≤ lo) (d : decode cc pc = .ok (.invokevirtual index, 3)) (kk : JW X G Q nL (pc + 3) lv (.int r0 :: st) σ0) : JW X G Q nL pc lv stk σ := by
  obtain ⟨p, l, e, R, s, m, args, below, meth, c⟩ := X
  obtain ⟨hx, hb, hml, hown, hts, hK, hI, hN, hZ, hfr, hlo, hlk⟩ := C
  intro H locs ls hP hS hl
  exact va_calli (va_runV (As := As) (rest := st) ⟨hx, hb, hml, hown, hts⟩ hM (cV hts hm hl0 ⟨Nat.le_trans hR.1 hfr, Nat.le_trans hR.2 hlo⟩) ⟨blind, va_recv hK hP hc (wld_is hk h99 he), fun U hU hW => ⟨rfl, preW hP hK hI hN hZ hS hU hW⟩⟩ rfl hn hl.1 hst (lv_room hcat) d ⟨Nat.zero_le _, Nat.zero_le _⟩) hS (fun q _ h => h) (fun q h => h) (by
  refine (fun r u t H1 locs1 ht hvm hw hB hz1 hk1 hS1 => ?_)
  obtain ⟨rfl, rfl⟩ := hw
  have hP1 := hB.1
  rw [ht] at hP1
  exact kk H1 locs1 ls hP1 hS1 hl)
theorem j_si {X : XT} {G : GT} {Q : State → Prop} {cc : ByteArray} {nL : Nat} {own : String} {fr lo pc : Nat} {lv : List (Nat × Value)} {st : List Value} {σ : MT} (C : CX X G cc nL own fr lo) {index fr1 lo1 maxL n : Nat} {y : MethodName} {bytes : ByteArray} {ret : Option FieldType} {As stk : List Value} {r0 : Int32} {σ0 : MT} (hM : CTI (XL X) G y bytes maxL ret fr1 lo1 As σ r0 σ0) (hm : MWS y bytes maxL ret n) (hl0 : Cond.methodLink own index y ∈ GW) (hn : As.length = n) (hst : stk = As.reverse ++ st) (hcat : (st.map fun v => v.category).sum ≤ 8) (hR : fr1 + 1 ≤ fr ∧ 8 + (maxL + 11) + lo1 ≤ lo) (d : decode cc pc = .ok (.invokestatic index, 3)) (kk : JW X G Q nL (pc + 3) lv (.int r0 :: st) σ0) : JW X G Q nL pc lv stk σ := by
  obtain ⟨p, l, e, R, s, m, args, below, meth, c⟩ := X
  obtain ⟨hx, hb, hml, hown, hts, hK, hI, hN, hZ, hfr, hlo, hlk⟩ := C
  intro H locs ls hP hS hl
  exact va_calli (va_runS (As := As) (rest := st) ⟨hx, hb, hml, hown, hts⟩ hM (cS hts hm hl0 ⟨Nat.le_trans hR.1 hfr, Nat.le_trans hR.2 hlo⟩) ⟨blind, fun U hU hW => ⟨rfl, preW hP hK hI hN hZ hS hU hW⟩⟩ rfl hn hl.1 hst (lv_room hcat) d ⟨Nat.zero_le _, Nat.zero_le _⟩) hS (fun q _ h => h) (fun q h => h) (by
  refine (fun r u t H1 locs1 ht hvm hw hB hz1 hk1 hS1 => ?_)
  obtain ⟨rfl, rfl⟩ := hw
  have hP1 := hB.1
  rw [ht] at hP1
  exact kk H1 locs1 ls hP1 hS1 hl)
theorem j_ni {X : XT} {G : GT} {Q : State → Prop} {cc : ByteArray} {nL : Nat} {own : String} {fr lo pc : Nat} {lv : List (Nat × Value)} {st : List Value} {σ : MT} (C : CX X G cc nL own fr lo) {index fr1 lo1 maxL n : Nat} {y : MethodName} {bytes : ByteArray} {ret : Option FieldType} {As stk : List Value} {r0 : Int32} {σ0 : MT} (hM : CTI (XL X) G y bytes maxL ret fr1 lo1 As σ r0 σ0) (hm : MWS y bytes maxL ret n) {host : String} (hl0 : ∀ U, NW U → va_Nw (.methodLinkNest own index y host) U) (hn : As.length = n) (hst : stk = As.reverse ++ st) (hcat : (st.map fun v => v.category).sum ≤ 8) (hR : fr1 + 1 ≤ fr ∧ 8 + (maxL + 11) + lo1 ≤ lo) (d : decode cc pc = .ok (.invokestatic index, 3)) (kk : JW X G Q nL (pc + 3) lv (.int r0 :: st) σ0) : JW X G Q nL pc lv stk σ := by
  obtain ⟨p, l, e, R, s, m, args, below, meth, c⟩ := X
  obtain ⟨hx, hb, hml, hown, hts, hK, hI, hN, hZ, hfr, hlo, hlk⟩ := C
  intro H locs ls hP hS hl
  exact va_calli (va_runSN (As := As) (rest := st) ⟨hx, hb, hml, hown, hts⟩ hM (cN hts hm (hl0 _ hN) ⟨Nat.le_trans hR.1 hfr, Nat.le_trans hR.2 hlo⟩) ⟨blind, fun U hU hW => ⟨rfl, preW hP hK hI hN hZ hS hU hW⟩⟩ rfl hn hl.1 hst (lv_room hcat) d ⟨Nat.zero_le _, Nat.zero_le _⟩) hS (fun q _ h => h) (fun q h => h) (by
  refine (fun r u t H1 locs1 ht hvm hw hB hz1 hk1 hS1 => ?_)
  obtain ⟨rfl, rfl⟩ := hw
  have hP1 := hB.1
  rw [ht] at hP1
  exact kk H1 locs1 ls hP1 hS1 hl)
theorem j_vl {X : XT} {G : GT} {Q : State → Prop} {cc : ByteArray} {nL : Nat} {own : String} {fr lo pc : Nat} {lv : List (Nat × Value)} {st : List Value} {σ : MT} (C : CX X G cc nL own fr lo) {index k kd ci N fr1 lo1 maxL n : Nat} {T : u_T} {y : MethodName} {bytes : ByteArray} {ret : Option FieldType} {fs As stk : List Value} {r0 : Int64} {σ0 : MT} (hM : CTL (XL X) G y bytes maxL ret fr1 lo1 (rf G k :: As) σ r0 σ0) (hk : kdf k = kd) (h99 : kd ≠ 99) (he : cont G kd k (σ.1 k) (σ.2 k) = .inr (ci, fs)) (hc : classes[ci]? = some (y.cls, T, N)) (hm : MWV y bytes maxL ret n) (hl0 : Cond.methodLink own index y ∈ GW) (hn : As.length = n) (hst : stk = As.reverse ++ rf G k :: st) (hcat : (st.map fun v => v.category).sum ≤ 8) (hR : fr1 + 1 ≤ fr ∧ 8 + (maxL + 11) + lo1 ≤ lo) (d : decode cc pc = .ok (.invokevirtual index, 3)) (kk : JW X G Q nL (pc + 3) lv (.long r0 :: st) σ0) : JW X G Q nL pc lv stk σ := by
  obtain ⟨p, l, e, R, s, m, args, below, meth, c⟩ := X
  obtain ⟨hx, hb, hml, hown, hts, hK, hI, hN, hZ, hfr, hlo, hlk⟩ := C
  intro H locs ls hP hS hl
  exact va_calll (va_runV (As := As) (rest := st) ⟨hx, hb, hml, hown, hts⟩ hM (cV hts hm hl0 ⟨Nat.le_trans hR.1 hfr, Nat.le_trans hR.2 hlo⟩) ⟨blind, va_recv hK hP hc (wld_is hk h99 he), fun U hU hW => ⟨rfl, preW hP hK hI hN hZ hS hU hW⟩⟩ rfl hn hl.1 hst (lv_room hcat) d ⟨Nat.zero_le _, Nat.zero_le _⟩) hS (fun q _ h => h) (fun q h => h) (by
  refine (fun r u t H1 locs1 ht hvm hw hB hz1 hk1 hS1 => ?_)
  obtain ⟨rfl, rfl⟩ := hw
  have hP1 := hB.1
  rw [ht] at hP1
  exact kk H1 locs1 ls hP1 hS1 hl)
theorem j_sl {X : XT} {G : GT} {Q : State → Prop} {cc : ByteArray} {nL : Nat} {own : String} {fr lo pc : Nat} {lv : List (Nat × Value)} {st : List Value} {σ : MT} (C : CX X G cc nL own fr lo) {index fr1 lo1 maxL n : Nat} {y : MethodName} {bytes : ByteArray} {ret : Option FieldType} {As stk : List Value} {r0 : Int64} {σ0 : MT} (hM : CTL (XL X) G y bytes maxL ret fr1 lo1 As σ r0 σ0) (hm : MWS y bytes maxL ret n) (hl0 : Cond.methodLink own index y ∈ GW) (hn : As.length = n) (hst : stk = As.reverse ++ st) (hcat : (st.map fun v => v.category).sum ≤ 8) (hR : fr1 + 1 ≤ fr ∧ 8 + (maxL + 11) + lo1 ≤ lo) (d : decode cc pc = .ok (.invokestatic index, 3)) (kk : JW X G Q nL (pc + 3) lv (.long r0 :: st) σ0) : JW X G Q nL pc lv stk σ := by
  obtain ⟨p, l, e, R, s, m, args, below, meth, c⟩ := X
  obtain ⟨hx, hb, hml, hown, hts, hK, hI, hN, hZ, hfr, hlo, hlk⟩ := C
  intro H locs ls hP hS hl
  exact va_calll (va_runS (As := As) (rest := st) ⟨hx, hb, hml, hown, hts⟩ hM (cS hts hm hl0 ⟨Nat.le_trans hR.1 hfr, Nat.le_trans hR.2 hlo⟩) ⟨blind, fun U hU hW => ⟨rfl, preW hP hK hI hN hZ hS hU hW⟩⟩ rfl hn hl.1 hst (lv_room hcat) d ⟨Nat.zero_le _, Nat.zero_le _⟩) hS (fun q _ h => h) (fun q h => h) (by
  refine (fun r u t H1 locs1 ht hvm hw hB hz1 hk1 hS1 => ?_)
  obtain ⟨rfl, rfl⟩ := hw
  have hP1 := hB.1
  rw [ht] at hP1
  exact kk H1 locs1 ls hP1 hS1 hl)
theorem j_nl {X : XT} {G : GT} {Q : State → Prop} {cc : ByteArray} {nL : Nat} {own : String} {fr lo pc : Nat} {lv : List (Nat × Value)} {st : List Value} {σ : MT} (C : CX X G cc nL own fr lo) {index fr1 lo1 maxL n : Nat} {y : MethodName} {bytes : ByteArray} {ret : Option FieldType} {As stk : List Value} {r0 : Int64} {σ0 : MT} (hM : CTL (XL X) G y bytes maxL ret fr1 lo1 As σ r0 σ0) (hm : MWS y bytes maxL ret n) {host : String} (hl0 : ∀ U, NW U → va_Nw (.methodLinkNest own index y host) U) (hn : As.length = n) (hst : stk = As.reverse ++ st) (hcat : (st.map fun v => v.category).sum ≤ 8) (hR : fr1 + 1 ≤ fr ∧ 8 + (maxL + 11) + lo1 ≤ lo) (d : decode cc pc = .ok (.invokestatic index, 3)) (kk : JW X G Q nL (pc + 3) lv (.long r0 :: st) σ0) : JW X G Q nL pc lv stk σ := by
  obtain ⟨p, l, e, R, s, m, args, below, meth, c⟩ := X
  obtain ⟨hx, hb, hml, hown, hts, hK, hI, hN, hZ, hfr, hlo, hlk⟩ := C
  intro H locs ls hP hS hl
  exact va_calll (va_runSN (As := As) (rest := st) ⟨hx, hb, hml, hown, hts⟩ hM (cN hts hm (hl0 _ hN) ⟨Nat.le_trans hR.1 hfr, Nat.le_trans hR.2 hlo⟩) ⟨blind, fun U hU hW => ⟨rfl, preW hP hK hI hN hZ hS hU hW⟩⟩ rfl hn hl.1 hst (lv_room hcat) d ⟨Nat.zero_le _, Nat.zero_le _⟩) hS (fun q _ h => h) (fun q h => h) (by
  refine (fun r u t H1 locs1 ht hvm hw hB hz1 hk1 hS1 => ?_)
  obtain ⟨rfl, rfl⟩ := hw
  have hP1 := hB.1
  rw [ht] at hP1
  exact kk H1 locs1 ls hP1 hS1 hl)
theorem j_vv {X : XT} {G : GT} {Q : State → Prop} {cc : ByteArray} {nL : Nat} {own : String} {fr lo pc : Nat} {lv : List (Nat × Value)} {st : List Value} {σ : MT} (C : CX X G cc nL own fr lo) {index k kd ci N fr1 lo1 maxL n : Nat} {T : u_T} {y : MethodName} {bytes : ByteArray} {ret : Option FieldType} {fs As stk : List Value} {σ0 : MT} (hM : CTV (XL X) G y bytes maxL ret fr1 lo1 (rf G k :: As) σ σ0) (hk : kdf k = kd) (h99 : kd ≠ 99) (he : cont G kd k (σ.1 k) (σ.2 k) = .inr (ci, fs)) (hc : classes[ci]? = some (y.cls, T, N)) (hm : MWV y bytes maxL ret n) (hl0 : Cond.methodLink own index y ∈ GW) (hn : As.length = n) (hst : stk = As.reverse ++ rf G k :: st) (hcat : (st.map fun v => v.category).sum ≤ 8) (hR : fr1 + 1 ≤ fr ∧ 8 + (maxL + 11) + lo1 ≤ lo) (d : decode cc pc = .ok (.invokevirtual index, 3)) (kk : JW X G Q nL (pc + 3) lv (st) σ0) : JW X G Q nL pc lv stk σ := by
  obtain ⟨p, l, e, R, s, m, args, below, meth, c⟩ := X
  obtain ⟨hx, hb, hml, hown, hts, hK, hI, hN, hZ, hfr, hlo, hlk⟩ := C
  intro H locs ls hP hS hl
  exact va_callv (va_runV (As := As) (rest := st) ⟨hx, hb, hml, hown, hts⟩ hM (cV hts hm hl0 ⟨Nat.le_trans hR.1 hfr, Nat.le_trans hR.2 hlo⟩) ⟨blind, va_recv hK hP hc (wld_is hk h99 he), fun U hU hW => ⟨rfl, preW hP hK hI hN hZ hS hU hW⟩⟩ rfl hn hl.1 hst (lv_room hcat) d ⟨Nat.zero_le _, Nat.zero_le _⟩) hS (fun q _ h => h) (fun q h => h) (by
  refine (fun u t H1 locs1 ht hvm hw hB hz1 hk1 hS1 => ?_)
  subst hw
  have hP1 := hB.1
  rw [ht] at hP1
  exact kk H1 locs1 ls hP1 hS1 hl)
theorem j_sv {X : XT} {G : GT} {Q : State → Prop} {cc : ByteArray} {nL : Nat} {own : String} {fr lo pc : Nat} {lv : List (Nat × Value)} {st : List Value} {σ : MT} (C : CX X G cc nL own fr lo) {index fr1 lo1 maxL n : Nat} {y : MethodName} {bytes : ByteArray} {ret : Option FieldType} {As stk : List Value} {σ0 : MT} (hM : CTV (XL X) G y bytes maxL ret fr1 lo1 As σ σ0) (hm : MWS y bytes maxL ret n) (hl0 : Cond.methodLink own index y ∈ GW) (hn : As.length = n) (hst : stk = As.reverse ++ st) (hcat : (st.map fun v => v.category).sum ≤ 8) (hR : fr1 + 1 ≤ fr ∧ 8 + (maxL + 11) + lo1 ≤ lo) (d : decode cc pc = .ok (.invokestatic index, 3)) (kk : JW X G Q nL (pc + 3) lv (st) σ0) : JW X G Q nL pc lv stk σ := by
  obtain ⟨p, l, e, R, s, m, args, below, meth, c⟩ := X
  obtain ⟨hx, hb, hml, hown, hts, hK, hI, hN, hZ, hfr, hlo, hlk⟩ := C
  intro H locs ls hP hS hl
  exact va_callv (va_runS (As := As) (rest := st) ⟨hx, hb, hml, hown, hts⟩ hM (cS hts hm hl0 ⟨Nat.le_trans hR.1 hfr, Nat.le_trans hR.2 hlo⟩) ⟨blind, fun U hU hW => ⟨rfl, preW hP hK hI hN hZ hS hU hW⟩⟩ rfl hn hl.1 hst (lv_room hcat) d ⟨Nat.zero_le _, Nat.zero_le _⟩) hS (fun q _ h => h) (fun q h => h) (by
  refine (fun u t H1 locs1 ht hvm hw hB hz1 hk1 hS1 => ?_)
  subst hw
  have hP1 := hB.1
  rw [ht] at hP1
  exact kk H1 locs1 ls hP1 hS1 hl)
theorem j_nv {X : XT} {G : GT} {Q : State → Prop} {cc : ByteArray} {nL : Nat} {own : String} {fr lo pc : Nat} {lv : List (Nat × Value)} {st : List Value} {σ : MT} (C : CX X G cc nL own fr lo) {index fr1 lo1 maxL n : Nat} {y : MethodName} {bytes : ByteArray} {ret : Option FieldType} {As stk : List Value} {σ0 : MT} (hM : CTV (XL X) G y bytes maxL ret fr1 lo1 As σ σ0) (hm : MWS y bytes maxL ret n) {host : String} (hl0 : ∀ U, NW U → va_Nw (.methodLinkNest own index y host) U) (hn : As.length = n) (hst : stk = As.reverse ++ st) (hcat : (st.map fun v => v.category).sum ≤ 8) (hR : fr1 + 1 ≤ fr ∧ 8 + (maxL + 11) + lo1 ≤ lo) (d : decode cc pc = .ok (.invokestatic index, 3)) (kk : JW X G Q nL (pc + 3) lv (st) σ0) : JW X G Q nL pc lv stk σ := by
  obtain ⟨p, l, e, R, s, m, args, below, meth, c⟩ := X
  obtain ⟨hx, hb, hml, hown, hts, hK, hI, hN, hZ, hfr, hlo, hlk⟩ := C
  intro H locs ls hP hS hl
  exact va_callv (va_runSN (As := As) (rest := st) ⟨hx, hb, hml, hown, hts⟩ hM (cN hts hm (hl0 _ hN) ⟨Nat.le_trans hR.1 hfr, Nat.le_trans hR.2 hlo⟩) ⟨blind, fun U hU hW => ⟨rfl, preW hP hK hI hN hZ hS hU hW⟩⟩ rfl hn hl.1 hst (lv_room hcat) d ⟨Nat.zero_le _, Nat.zero_le _⟩) hS (fun q _ h => h) (fun q h => h) (by
  refine (fun u t H1 locs1 ht hvm hw hB hz1 hk1 hS1 => ?_)
  subst hw
  have hP1 := hB.1
  rw [ht] at hP1
  exact kk H1 locs1 ls hP1 hS1 hl)
end
